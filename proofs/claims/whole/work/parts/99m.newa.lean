/-! constructors of rows alone (printed by wip/whole/new.py) -/
theorem aw_int : Cond.arrayClass .int ∈ tq_tbl := tq_m1 108 rfl rfl
theorem aw_byte : Cond.arrayClass .byte ∈ tq_tbl := tq_m1 170 rfl rfl
theorem aw_boolean : Cond.arrayClass .boolean ∈ tq_tbl := tq_m7 36 rfl rfl
theorem aw_long : Cond.arrayClass .long ∈ tq_tbl := tq_m1 171 rfl rfl
theorem ow_i : Cond.instanceMethod objectInit ∈ tq_tbl := tq_m1 27 rfl rfl
theorem ow_c : Cond.code objectInit ⟨#[0xb1]⟩ 1 none ∈ tq_tbl := tq_m1 28 rfl rfl
theorem mo_RX0_3 : Cond.methodLink RX0 3 objectInit ∈ tq_tbl := tq_m1 192 rfl rfl
theorem pg_0_1 : tq_pg RX0 0 1 true (.array .int) := ⟨_, rfl, by decide +kernel, by decide +kernel, rfl⟩
theorem mo_RX1_3 : Cond.methodLink RX1 3 objectInit ∈ tq_tbl := tq_m2 39 rfl rfl
theorem pg_1_4 : tq_pg RX1 1 4 true (.array .int) := ⟨_, rfl, by decide +kernel, by decide +kernel, rfl⟩
theorem pg_1_5 : tq_pg RX1 1 5 true (.array .int) := ⟨_, rfl, by decide +kernel, by decide +kernel, rfl⟩
theorem pg_1_6 : tq_pg RX1 1 6 true (.array .int) := ⟨_, rfl, by decide +kernel, by decide +kernel, rfl⟩
theorem mo_RX2_3 : Cond.methodLink RX2 3 objectInit ∈ tq_tbl := tq_m1 207 rfl rfl
theorem pg_2_0 : tq_pg RX2 2 0 false .int := ⟨_, rfl, by decide +kernel, by decide +kernel, rfl⟩
theorem pg_2_1 : tq_pg RX2 2 1 true (.array .int) := ⟨_, rfl, by decide +kernel, by decide +kernel, rfl⟩
theorem pg_2_2 : tq_pg RX2 2 2 true (.array .int) := ⟨_, rfl, by decide +kernel, by decide +kernel, rfl⟩
theorem pg_2_3 : tq_pg RX2 2 3 true (.array .int) := ⟨_, rfl, by decide +kernel, by decide +kernel, rfl⟩
theorem pg_2_4 : tq_pg RX2 2 4 true (.array .int) := ⟨_, rfl, by decide +kernel, by decide +kernel, rfl⟩
theorem pg_2_5 : tq_pg RX2 2 5 true (.array .int) := ⟨_, rfl, by decide +kernel, by decide +kernel, rfl⟩
theorem pg_2_6 : tq_pg RX2 2 6 true (.array .int) := ⟨_, rfl, by decide +kernel, by decide +kernel, rfl⟩
theorem pg_2_7 : tq_pg RX2 2 7 true (.array .int) := ⟨_, rfl, by decide +kernel, by decide +kernel, rfl⟩
theorem pg_2_8 : tq_pg RX2 2 8 true (.array .int) := ⟨_, rfl, by decide +kernel, by decide +kernel, rfl⟩
theorem pg_2_9 : tq_pg RX2 2 9 true (.array .int) := ⟨_, rfl, by decide +kernel, by decide +kernel, rfl⟩
theorem mo_RX3_3 : Cond.methodLink RX3 3 objectInit ∈ tq_tbl := tq_m2 92 rfl rfl
theorem pg_3_3 : tq_pg RX3 3 3 true (.array .int) := ⟨_, rfl, by decide +kernel, by decide +kernel, rfl⟩
theorem pg_3_4 : tq_pg RX3 3 4 true (.array .int) := ⟨_, rfl, by decide +kernel, by decide +kernel, rfl⟩
theorem pg_3_5 : tq_pg RX3 3 5 true (.array .int) := ⟨_, rfl, by decide +kernel, by decide +kernel, rfl⟩
theorem pg_3_6 : tq_pg RX3 3 6 true (.array .int) := ⟨_, rfl, by decide +kernel, by decide +kernel, rfl⟩
theorem mo_RX4_3 : Cond.methodLink RX4 3 objectInit ∈ tq_tbl := tq_m2 123 rfl rfl
theorem pg_4_2 : tq_pg RX4 4 2 true (.array .long) := ⟨_, rfl, by decide +kernel, by decide +kernel, rfl⟩
theorem pg_4_3 : tq_pg RX4 4 3 true (.array .long) := ⟨_, rfl, by decide +kernel, by decide +kernel, rfl⟩
theorem mo_RX6_3 : Cond.methodLink RX6 3 objectInit ∈ tq_tbl := tq_m2 18 rfl rfl
theorem pg_6_2 : tq_pg RX6 6 2 true (.array .int) := ⟨_, rfl, by decide +kernel, by decide +kernel, rfl⟩
theorem pg_6_3 : tq_pg RX6 6 3 true (.array .int) := ⟨_, rfl, by decide +kernel, by decide +kernel, rfl⟩
theorem mo_RX7_3 : Cond.methodLink RX7 3 objectInit ∈ tq_tbl := tq_m1 179 rfl rfl
theorem pg_7_0 : tq_pg RX7 7 0 true (.array .int) := ⟨_, rfl, by decide +kernel, by decide +kernel, rfl⟩
theorem pg_7_1 : tq_pg RX7 7 1 true (.array .int) := ⟨_, rfl, by decide +kernel, by decide +kernel, rfl⟩
theorem mo_RX8_3 : Cond.methodLink RX8 3 objectInit ∈ tq_tbl := tq_m1 40 rfl rfl
theorem pg_8_5 : tq_pg RX8 8 5 true (.array .int) := ⟨_, rfl, by decide +kernel, by decide +kernel, rfl⟩
theorem pg_8_6 : tq_pg RX8 8 6 true (.array .int) := ⟨_, rfl, by decide +kernel, by decide +kernel, rfl⟩
theorem fl_RX8_18 : tq_fl RX8 18 8 7 := ⟨_, rfl, by decide +kernel, by decide +kernel, tq_m1 71 rfl rfl⟩
theorem pg_8_7 : tq_pg RX8 8 7 true (.array .int) := ⟨_, rfl, by decide +kernel, by decide +kernel, rfl⟩
theorem fl_RX8_21 : tq_fl RX8 21 8 8 := ⟨_, rfl, by decide +kernel, by decide +kernel, tq_m1 74 rfl rfl⟩
theorem pg_8_8 : tq_pg RX8 8 8 true (.array .int) := ⟨_, rfl, by decide +kernel, by decide +kernel, rfl⟩
theorem pg_8_9 : tq_pg RX8 8 9 true (.array .int) := ⟨_, rfl, by decide +kernel, by decide +kernel, rfl⟩
theorem pg_8_10 : tq_pg RX8 8 10 true (.array .int) := ⟨_, rfl, by decide +kernel, by decide +kernel, rfl⟩
theorem pg_8_11 : tq_pg RX8 8 11 true (.array .int) := ⟨_, rfl, by decide +kernel, by decide +kernel, rfl⟩
theorem mo_RX9_3 : Cond.methodLink RX9 3 objectInit ∈ tq_tbl := tq_m2 70 rfl rfl
theorem pg_9_3 : tq_pg RX9 9 3 true (.array .int) := ⟨_, rfl, by decide +kernel, by decide +kernel, rfl⟩
theorem dX0_init_0 : decode cX0_init 0 = .ok (.aload_n 0, 1) := by decide +kernel
theorem dX0_init_1 : decode cX0_init 1 = .ok (.invokespecial 3, 3) := by decide +kernel
theorem dX0_init_4 : decode cX0_init 4 = .ok (.aload_n 0, 1) := by decide +kernel
theorem dX0_init_5 : decode cX0_init 5 = .ok (.sipush 480, 3) := by decide +kernel
theorem dX0_init_8 : decode cX0_init 8 = .ok (.newarray .int, 2) := by decide +kernel
theorem dX0_init_10 : decode cX0_init 10 = .ok (.putfield 9, 3) := by decide +kernel
theorem dX0_init_13 : decode cX0_init 13 = .ok (.return_, 1) := by decide +kernel
abbrev nX0 : mi_T := (yX0_init, cX0_init, 1, none)
def sX0 : sh_T := [.inr (0, [none, some 1]), .inl (0, 480)]
def iX0 : st_I := fun _ _ => 0
def bX0 (h0 : Nat) (cy : Nat → ClassId) (W : va_W) : Prop := ∃ f : Nat → Nat, f 0 = h0 ∧ W = w_D cy f sX0 iX0 (fun _ _ => 0)
abbrev rX0 : Room := { frames := 1, cells := 1, slots := 480, locals := 48 }
set_option maxRecDepth 100000 in
theorem mkN_0 : NEv nX0 rX0 0 [.int 0, .null] (fun _ _ => True) bX0 := by
  refine NEv_of (by decide +kernel) rfl rfl (by decide) ?_
  intro p l e s m args below meth c D cy A ls h0 C hG hl
  refine NW_ld C hl dX0_init_0 ?_
  refine NW_obj C hl mo_RX0_3 ow_i ow_c dX0_init_1 (Nat.le_of_ble_eq_true rfl) (Nat.le_of_ble_eq_true rfl) ?_
  refine NW_ld C hl dX0_init_4 ?_
  refine NW_sipush (v := 480) C dX0_init_5 rfl ?_
  refine NW_arrI 480 C aw_int (by decide) rfl (Nat.le_of_ble_eq_true rfl) (Nat.le_of_ble_eq_true rfl) (Nat.le_of_ble_eq_true rfl) dX0_init_8 (fun q1 => ?_)
  refine NW_put C fl_RX0_9 pg_0_1 rfl rfl (Nat.le_of_ble_eq_true rfl) dX0_init_10 ?_
  exact NW_ret C dX0_init_13 ⟨fun k => [h0, q1].getD k 0, rfl, rfl⟩
theorem dX1_init_0 : decode cX1_init 0 = .ok (.aload_n 0, 1) := by decide +kernel
theorem dX1_init_1 : decode cX1_init 1 = .ok (.invokespecial 3, 3) := by decide +kernel
theorem dX1_init_4 : decode cX1_init 4 = .ok (.aload_n 0, 1) := by decide +kernel
theorem dX1_init_5 : decode cX1_init 5 = .ok (.bipush 8, 2) := by decide +kernel
theorem dX1_init_7 : decode cX1_init 7 = .ok (.newarray .int, 2) := by decide +kernel
theorem dX1_init_9 : decode cX1_init 9 = .ok (.putfield 9, 3) := by decide +kernel
theorem dX1_init_12 : decode cX1_init 12 = .ok (.aload_n 0, 1) := by decide +kernel
theorem dX1_init_13 : decode cX1_init 13 = .ok (.bipush 8, 2) := by decide +kernel
theorem dX1_init_15 : decode cX1_init 15 = .ok (.newarray .int, 2) := by decide +kernel
theorem dX1_init_17 : decode cX1_init 17 = .ok (.putfield 15, 3) := by decide +kernel
theorem dX1_init_20 : decode cX1_init 20 = .ok (.aload_n 0, 1) := by decide +kernel
theorem dX1_init_21 : decode cX1_init 21 = .ok (.bipush 8, 2) := by decide +kernel
theorem dX1_init_23 : decode cX1_init 23 = .ok (.newarray .int, 2) := by decide +kernel
theorem dX1_init_25 : decode cX1_init 25 = .ok (.putfield 18, 3) := by decide +kernel
theorem dX1_init_28 : decode cX1_init 28 = .ok (.return_, 1) := by decide +kernel
abbrev nX1 : mi_T := (yX1_init, cX1_init, 1, none)
def sX1 : sh_T := [.inr (1, [none, none, none, none, some 1, some 2, some 3]), .inl (0, 8), .inl (0, 8), .inl (0, 8)]
def iX1 : st_I := fun _ _ => 0
def bX1 (h0 : Nat) (cy : Nat → ClassId) (W : va_W) : Prop := ∃ f : Nat → Nat, f 0 = h0 ∧ W = w_D cy f sX1 iX1 (fun _ _ => 0)
abbrev rX1 : Room := { frames := 1, cells := 3, slots := 24, locals := 48 }
set_option maxRecDepth 100000 in
theorem mkN_1 : NEv nX1 rX1 1 [.int 0, .int 0, .int 0, .int 0, .null, .null, .null] (fun _ _ => True) bX1 := by
  refine NEv_of (by decide +kernel) rfl rfl (by decide) ?_
  intro p l e s m args below meth c D cy A ls h0 C hG hl
  refine NW_ld C hl dX1_init_0 ?_
  refine NW_obj C hl mo_RX1_3 ow_i ow_c dX1_init_1 (Nat.le_of_ble_eq_true rfl) (Nat.le_of_ble_eq_true rfl) ?_
  refine NW_ld C hl dX1_init_4 ?_
  refine NW_bipush (v := 8) C dX1_init_5 rfl ?_
  refine NW_arrI 8 C aw_int (by decide) rfl (Nat.le_of_ble_eq_true rfl) (Nat.le_of_ble_eq_true rfl) (Nat.le_of_ble_eq_true rfl) dX1_init_7 (fun q1 => ?_)
  refine NW_put C fl_RX1_9 pg_1_4 rfl rfl (Nat.le_of_ble_eq_true rfl) dX1_init_9 ?_
  refine NW_ld C hl dX1_init_12 ?_
  refine NW_bipush (v := 8) C dX1_init_13 rfl ?_
  refine NW_arrI 8 C aw_int (by decide) rfl (Nat.le_of_ble_eq_true rfl) (Nat.le_of_ble_eq_true rfl) (Nat.le_of_ble_eq_true rfl) dX1_init_15 (fun q2 => ?_)
  refine NW_put C fl_RX1_15 pg_1_5 rfl rfl (Nat.le_of_ble_eq_true rfl) dX1_init_17 ?_
  refine NW_ld C hl dX1_init_20 ?_
  refine NW_bipush (v := 8) C dX1_init_21 rfl ?_
  refine NW_arrI 8 C aw_int (by decide) rfl (Nat.le_of_ble_eq_true rfl) (Nat.le_of_ble_eq_true rfl) (Nat.le_of_ble_eq_true rfl) dX1_init_23 (fun q3 => ?_)
  refine NW_put C fl_RX1_18 pg_1_6 rfl rfl (Nat.le_of_ble_eq_true rfl) dX1_init_25 ?_
  exact NW_ret C dX1_init_28 ⟨fun k => [h0, q1, q2, q3].getD k 0, rfl, rfl⟩
theorem dX2_init_0 : decode cX2_init 0 = .ok (.aload_n 0, 1) := by decide +kernel
theorem dX2_init_1 : decode cX2_init 1 = .ok (.invokespecial 3, 3) := by decide +kernel
theorem dX2_init_4 : decode cX2_init 4 = .ok (.aload_n 0, 1) := by decide +kernel
theorem dX2_init_5 : decode cX2_init 5 = .ok (.iconst (-1), 1) := by decide +kernel
theorem dX2_init_6 : decode cX2_init 6 = .ok (.putfield 9, 3) := by decide +kernel
theorem dX2_init_9 : decode cX2_init 9 = .ok (.aload_n 0, 1) := by decide +kernel
theorem dX2_init_10 : decode cX2_init 10 = .ok (.bipush 80, 2) := by decide +kernel
theorem dX2_init_12 : decode cX2_init 12 = .ok (.newarray .int, 2) := by decide +kernel
theorem dX2_init_14 : decode cX2_init 14 = .ok (.putfield 15, 3) := by decide +kernel
theorem dX2_init_17 : decode cX2_init 17 = .ok (.aload_n 0, 1) := by decide +kernel
theorem dX2_init_18 : decode cX2_init 18 = .ok (.bipush 80, 2) := by decide +kernel
theorem dX2_init_20 : decode cX2_init 20 = .ok (.newarray .int, 2) := by decide +kernel
theorem dX2_init_22 : decode cX2_init 22 = .ok (.putfield 19, 3) := by decide +kernel
theorem dX2_init_25 : decode cX2_init 25 = .ok (.aload_n 0, 1) := by decide +kernel
theorem dX2_init_26 : decode cX2_init 26 = .ok (.bipush 80, 2) := by decide +kernel
theorem dX2_init_28 : decode cX2_init 28 = .ok (.newarray .int, 2) := by decide +kernel
theorem dX2_init_30 : decode cX2_init 30 = .ok (.putfield 22, 3) := by decide +kernel
theorem dX2_init_33 : decode cX2_init 33 = .ok (.aload_n 0, 1) := by decide +kernel
theorem dX2_init_34 : decode cX2_init 34 = .ok (.bipush 80, 2) := by decide +kernel
theorem dX2_init_36 : decode cX2_init 36 = .ok (.newarray .int, 2) := by decide +kernel
theorem dX2_init_38 : decode cX2_init 38 = .ok (.putfield 25, 3) := by decide +kernel
theorem dX2_init_41 : decode cX2_init 41 = .ok (.aload_n 0, 1) := by decide +kernel
theorem dX2_init_42 : decode cX2_init 42 = .ok (.bipush 16, 2) := by decide +kernel
theorem dX2_init_44 : decode cX2_init 44 = .ok (.newarray .int, 2) := by decide +kernel
theorem dX2_init_46 : decode cX2_init 46 = .ok (.putfield 28, 3) := by decide +kernel
theorem dX2_init_49 : decode cX2_init 49 = .ok (.aload_n 0, 1) := by decide +kernel
theorem dX2_init_50 : decode cX2_init 50 = .ok (.bipush 16, 2) := by decide +kernel
theorem dX2_init_52 : decode cX2_init 52 = .ok (.newarray .int, 2) := by decide +kernel
theorem dX2_init_54 : decode cX2_init 54 = .ok (.putfield 31, 3) := by decide +kernel
theorem dX2_init_57 : decode cX2_init 57 = .ok (.aload_n 0, 1) := by decide +kernel
theorem dX2_init_58 : decode cX2_init 58 = .ok (.bipush 10, 2) := by decide +kernel
theorem dX2_init_60 : decode cX2_init 60 = .ok (.newarray .int, 2) := by decide +kernel
theorem dX2_init_62 : decode cX2_init 62 = .ok (.putfield 34, 3) := by decide +kernel
theorem dX2_init_65 : decode cX2_init 65 = .ok (.aload_n 0, 1) := by decide +kernel
theorem dX2_init_66 : decode cX2_init 66 = .ok (.bipush 10, 2) := by decide +kernel
theorem dX2_init_68 : decode cX2_init 68 = .ok (.newarray .int, 2) := by decide +kernel
theorem dX2_init_70 : decode cX2_init 70 = .ok (.putfield 37, 3) := by decide +kernel
theorem dX2_init_73 : decode cX2_init 73 = .ok (.aload_n 0, 1) := by decide +kernel
theorem dX2_init_74 : decode cX2_init 74 = .ok (.iconst 5, 1) := by decide +kernel
theorem dX2_init_75 : decode cX2_init 75 = .ok (.newarray .int, 2) := by decide +kernel
theorem dX2_init_77 : decode cX2_init 77 = .ok (.putfield 40, 3) := by decide +kernel
theorem dX2_init_80 : decode cX2_init 80 = .ok (.return_, 1) := by decide +kernel
abbrev nX2 : mi_T := (yX2_init, cX2_init, 1, none)
def sX2 : sh_T := [.inr (2, [none, some 1, some 2, some 3, some 4, some 5, some 6, some 7, some 8, some 9]), .inl (0, 80), .inl (0, 80), .inl (0, 80), .inl (0, 80), .inl (0, 16), .inl (0, 16), .inl (0, 10), .inl (0, 10), .inl (0, 5)]
def iX2 : st_I := fun p j => if p = 0 ∧ j = 0 then -1 else 0
def bX2 (h0 : Nat) (cy : Nat → ClassId) (W : va_W) : Prop := ∃ f : Nat → Nat, f 0 = h0 ∧ W = w_D cy f sX2 iX2 (fun _ _ => 0)
abbrev rX2 : Room := { frames := 1, cells := 9, slots := 377, locals := 48 }
set_option maxRecDepth 100000 in
theorem mkN_2 : NEv nX2 rX2 2 [.int 0, .null, .null, .null, .null, .null, .null, .null, .null, .null] (fun _ _ => True) bX2 := by
  refine NEv_of (by decide +kernel) rfl rfl (by decide) ?_
  intro p l e s m args below meth c D cy A ls h0 C hG hl
  refine NW_ld C hl dX2_init_0 ?_
  refine NW_obj C hl mo_RX2_3 ow_i ow_c dX2_init_1 (Nat.le_of_ble_eq_true rfl) (Nat.le_of_ble_eq_true rfl) ?_
  refine NW_ld C hl dX2_init_4 ?_
  refine NW_iconst (v := -1) C dX2_init_5 rfl ?_
  refine NW_put C fl_RX2_9 pg_2_0 rfl rfl (Nat.le_of_ble_eq_true rfl) dX2_init_6 ?_
  refine NW_ld C hl dX2_init_9 ?_
  refine NW_bipush (v := 80) C dX2_init_10 rfl ?_
  refine NW_arrI 80 C aw_int (by decide) rfl (Nat.le_of_ble_eq_true rfl) (Nat.le_of_ble_eq_true rfl) (Nat.le_of_ble_eq_true rfl) dX2_init_12 (fun q1 => ?_)
  refine NW_put C fl_RX2_15 pg_2_1 rfl rfl (Nat.le_of_ble_eq_true rfl) dX2_init_14 ?_
  refine NW_ld C hl dX2_init_17 ?_
  refine NW_bipush (v := 80) C dX2_init_18 rfl ?_
  refine NW_arrI 80 C aw_int (by decide) rfl (Nat.le_of_ble_eq_true rfl) (Nat.le_of_ble_eq_true rfl) (Nat.le_of_ble_eq_true rfl) dX2_init_20 (fun q2 => ?_)
  refine NW_put C fl_RX2_19 pg_2_2 rfl rfl (Nat.le_of_ble_eq_true rfl) dX2_init_22 ?_
  refine NW_ld C hl dX2_init_25 ?_
  refine NW_bipush (v := 80) C dX2_init_26 rfl ?_
  refine NW_arrI 80 C aw_int (by decide) rfl (Nat.le_of_ble_eq_true rfl) (Nat.le_of_ble_eq_true rfl) (Nat.le_of_ble_eq_true rfl) dX2_init_28 (fun q3 => ?_)
  refine NW_put C fl_RX2_22 pg_2_3 rfl rfl (Nat.le_of_ble_eq_true rfl) dX2_init_30 ?_
  refine NW_ld C hl dX2_init_33 ?_
  refine NW_bipush (v := 80) C dX2_init_34 rfl ?_
  refine NW_arrI 80 C aw_int (by decide) rfl (Nat.le_of_ble_eq_true rfl) (Nat.le_of_ble_eq_true rfl) (Nat.le_of_ble_eq_true rfl) dX2_init_36 (fun q4 => ?_)
  refine NW_put C fl_RX2_25 pg_2_4 rfl rfl (Nat.le_of_ble_eq_true rfl) dX2_init_38 ?_
  refine NW_ld C hl dX2_init_41 ?_
  refine NW_bipush (v := 16) C dX2_init_42 rfl ?_
  refine NW_arrI 16 C aw_int (by decide) rfl (Nat.le_of_ble_eq_true rfl) (Nat.le_of_ble_eq_true rfl) (Nat.le_of_ble_eq_true rfl) dX2_init_44 (fun q5 => ?_)
  refine NW_put C fl_RX2_28 pg_2_5 rfl rfl (Nat.le_of_ble_eq_true rfl) dX2_init_46 ?_
  refine NW_ld C hl dX2_init_49 ?_
  refine NW_bipush (v := 16) C dX2_init_50 rfl ?_
  refine NW_arrI 16 C aw_int (by decide) rfl (Nat.le_of_ble_eq_true rfl) (Nat.le_of_ble_eq_true rfl) (Nat.le_of_ble_eq_true rfl) dX2_init_52 (fun q6 => ?_)
  refine NW_put C fl_RX2_31 pg_2_6 rfl rfl (Nat.le_of_ble_eq_true rfl) dX2_init_54 ?_
  refine NW_ld C hl dX2_init_57 ?_
  refine NW_bipush (v := 10) C dX2_init_58 rfl ?_
  refine NW_arrI 10 C aw_int (by decide) rfl (Nat.le_of_ble_eq_true rfl) (Nat.le_of_ble_eq_true rfl) (Nat.le_of_ble_eq_true rfl) dX2_init_60 (fun q7 => ?_)
  refine NW_put C fl_RX2_34 pg_2_7 rfl rfl (Nat.le_of_ble_eq_true rfl) dX2_init_62 ?_
  refine NW_ld C hl dX2_init_65 ?_
  refine NW_bipush (v := 10) C dX2_init_66 rfl ?_
  refine NW_arrI 10 C aw_int (by decide) rfl (Nat.le_of_ble_eq_true rfl) (Nat.le_of_ble_eq_true rfl) (Nat.le_of_ble_eq_true rfl) dX2_init_68 (fun q8 => ?_)
  refine NW_put C fl_RX2_37 pg_2_8 rfl rfl (Nat.le_of_ble_eq_true rfl) dX2_init_70 ?_
  refine NW_ld C hl dX2_init_73 ?_
  refine NW_iconst (v := 5) C dX2_init_74 rfl ?_
  refine NW_arrI 5 C aw_int (by decide) rfl (Nat.le_of_ble_eq_true rfl) (Nat.le_of_ble_eq_true rfl) (Nat.le_of_ble_eq_true rfl) dX2_init_75 (fun q9 => ?_)
  refine NW_put C fl_RX2_40 pg_2_9 rfl rfl (Nat.le_of_ble_eq_true rfl) dX2_init_77 ?_
  exact NW_ret C dX2_init_80 ⟨fun k => [h0, q1, q2, q3, q4, q5, q6, q7, q8, q9].getD k 0, rfl, rfl⟩
theorem dX3_init_0 : decode cX3_init 0 = .ok (.aload_n 0, 1) := by decide +kernel
theorem dX3_init_1 : decode cX3_init 1 = .ok (.invokespecial 3, 3) := by decide +kernel
theorem dX3_init_4 : decode cX3_init 4 = .ok (.aload_n 0, 1) := by decide +kernel
theorem dX3_init_5 : decode cX3_init 5 = .ok (.bipush 6, 2) := by decide +kernel
theorem dX3_init_7 : decode cX3_init 7 = .ok (.newarray .int, 2) := by decide +kernel
theorem dX3_init_9 : decode cX3_init 9 = .ok (.putfield 11, 3) := by decide +kernel
theorem dX3_init_12 : decode cX3_init 12 = .ok (.aload_n 0, 1) := by decide +kernel
theorem dX3_init_13 : decode cX3_init 13 = .ok (.bipush 36, 2) := by decide +kernel
theorem dX3_init_15 : decode cX3_init 15 = .ok (.newarray .int, 2) := by decide +kernel
theorem dX3_init_17 : decode cX3_init 17 = .ok (.putfield 15, 3) := by decide +kernel
theorem dX3_init_20 : decode cX3_init 20 = .ok (.aload_n 0, 1) := by decide +kernel
theorem dX3_init_21 : decode cX3_init 21 = .ok (.bipush 36, 2) := by decide +kernel
theorem dX3_init_23 : decode cX3_init 23 = .ok (.newarray .int, 2) := by decide +kernel
theorem dX3_init_25 : decode cX3_init 25 = .ok (.putfield 18, 3) := by decide +kernel
theorem dX3_init_28 : decode cX3_init 28 = .ok (.aload_n 0, 1) := by decide +kernel
theorem dX3_init_29 : decode cX3_init 29 = .ok (.bipush 6, 2) := by decide +kernel
theorem dX3_init_31 : decode cX3_init 31 = .ok (.newarray .int, 2) := by decide +kernel
theorem dX3_init_33 : decode cX3_init 33 = .ok (.putfield 21, 3) := by decide +kernel
theorem dX3_init_36 : decode cX3_init 36 = .ok (.return_, 1) := by decide +kernel
abbrev nX3 : mi_T := (yX3_init, cX3_init, 1, none)
def sX3 : sh_T := [.inr (3, [none, none, none, some 1, some 2, some 3, some 4]), .inl (0, 6), .inl (0, 36), .inl (0, 36), .inl (0, 6)]
def iX3 : st_I := fun _ _ => 0
def bX3 (h0 : Nat) (cy : Nat → ClassId) (W : va_W) : Prop := ∃ f : Nat → Nat, f 0 = h0 ∧ W = w_D cy f sX3 iX3 (fun _ _ => 0)
abbrev rX3 : Room := { frames := 1, cells := 4, slots := 84, locals := 48 }
set_option maxRecDepth 100000 in
theorem mkN_3 : NEv nX3 rX3 3 [.int 0, .int 0, .int 0, .null, .null, .null, .null] (fun _ _ => True) bX3 := by
  refine NEv_of (by decide +kernel) rfl rfl (by decide) ?_
  intro p l e s m args below meth c D cy A ls h0 C hG hl
  refine NW_ld C hl dX3_init_0 ?_
  refine NW_obj C hl mo_RX3_3 ow_i ow_c dX3_init_1 (Nat.le_of_ble_eq_true rfl) (Nat.le_of_ble_eq_true rfl) ?_
  refine NW_ld C hl dX3_init_4 ?_
  refine NW_bipush (v := 6) C dX3_init_5 rfl ?_
  refine NW_arrI 6 C aw_int (by decide) rfl (Nat.le_of_ble_eq_true rfl) (Nat.le_of_ble_eq_true rfl) (Nat.le_of_ble_eq_true rfl) dX3_init_7 (fun q1 => ?_)
  refine NW_put C fl_RX3_11 pg_3_3 rfl rfl (Nat.le_of_ble_eq_true rfl) dX3_init_9 ?_
  refine NW_ld C hl dX3_init_12 ?_
  refine NW_bipush (v := 36) C dX3_init_13 rfl ?_
  refine NW_arrI 36 C aw_int (by decide) rfl (Nat.le_of_ble_eq_true rfl) (Nat.le_of_ble_eq_true rfl) (Nat.le_of_ble_eq_true rfl) dX3_init_15 (fun q2 => ?_)
  refine NW_put C fl_RX3_15 pg_3_4 rfl rfl (Nat.le_of_ble_eq_true rfl) dX3_init_17 ?_
  refine NW_ld C hl dX3_init_20 ?_
  refine NW_bipush (v := 36) C dX3_init_21 rfl ?_
  refine NW_arrI 36 C aw_int (by decide) rfl (Nat.le_of_ble_eq_true rfl) (Nat.le_of_ble_eq_true rfl) (Nat.le_of_ble_eq_true rfl) dX3_init_23 (fun q3 => ?_)
  refine NW_put C fl_RX3_18 pg_3_5 rfl rfl (Nat.le_of_ble_eq_true rfl) dX3_init_25 ?_
  refine NW_ld C hl dX3_init_28 ?_
  refine NW_bipush (v := 6) C dX3_init_29 rfl ?_
  refine NW_arrI 6 C aw_int (by decide) rfl (Nat.le_of_ble_eq_true rfl) (Nat.le_of_ble_eq_true rfl) (Nat.le_of_ble_eq_true rfl) dX3_init_31 (fun q4 => ?_)
  refine NW_put C fl_RX3_21 pg_3_6 rfl rfl (Nat.le_of_ble_eq_true rfl) dX3_init_33 ?_
  exact NW_ret C dX3_init_36 ⟨fun k => [h0, q1, q2, q3, q4].getD k 0, rfl, rfl⟩
theorem dX4_init_0 : decode cX4_init 0 = .ok (.aload_n 0, 1) := by decide +kernel
theorem dX4_init_1 : decode cX4_init 1 = .ok (.invokespecial 3, 3) := by decide +kernel
theorem dX4_init_4 : decode cX4_init 4 = .ok (.aload_n 0, 1) := by decide +kernel
theorem dX4_init_5 : decode cX4_init 5 = .ok (.bipush 31, 2) := by decide +kernel
theorem dX4_init_7 : decode cX4_init 7 = .ok (.newarray .long, 2) := by decide +kernel
theorem dX4_init_9 : decode cX4_init 9 = .ok (.putfield 11, 3) := by decide +kernel
theorem dX4_init_12 : decode cX4_init 12 = .ok (.aload_n 0, 1) := by decide +kernel
theorem dX4_init_13 : decode cX4_init 13 = .ok (.bipush 31, 2) := by decide +kernel
theorem dX4_init_15 : decode cX4_init 15 = .ok (.newarray .long, 2) := by decide +kernel
theorem dX4_init_17 : decode cX4_init 17 = .ok (.putfield 15, 3) := by decide +kernel
theorem dX4_init_20 : decode cX4_init 20 = .ok (.return_, 1) := by decide +kernel
abbrev nX4 : mi_T := (yX4_init, cX4_init, 1, none)
def sX4 : sh_T := [.inr (4, [none, none, some 1, some 2]), .inl (3, 31), .inl (3, 31)]
def iX4 : st_I := fun _ _ => 0
def bX4 (h0 : Nat) (cy : Nat → ClassId) (W : va_W) : Prop := ∃ f : Nat → Nat, f 0 = h0 ∧ W = w_D cy f sX4 iX4 (fun _ _ => 0)
abbrev rX4 : Room := { frames := 1, cells := 2, slots := 62, locals := 48 }
set_option maxRecDepth 100000 in
theorem mkN_4 : NEv nX4 rX4 4 [.int 0, .int 0, .null, .null] (fun _ _ => True) bX4 := by
  refine NEv_of (by decide +kernel) rfl rfl (by decide) ?_
  intro p l e s m args below meth c D cy A ls h0 C hG hl
  refine NW_ld C hl dX4_init_0 ?_
  refine NW_obj C hl mo_RX4_3 ow_i ow_c dX4_init_1 (Nat.le_of_ble_eq_true rfl) (Nat.le_of_ble_eq_true rfl) ?_
  refine NW_ld C hl dX4_init_4 ?_
  refine NW_bipush (v := 31) C dX4_init_5 rfl ?_
  refine NW_arrJ 31 C aw_long (by decide) rfl (Nat.le_of_ble_eq_true rfl) (Nat.le_of_ble_eq_true rfl) (Nat.le_of_ble_eq_true rfl) dX4_init_7 (fun q1 => ?_)
  refine NW_put C fl_RX4_11 pg_4_2 rfl rfl (Nat.le_of_ble_eq_true rfl) dX4_init_9 ?_
  refine NW_ld C hl dX4_init_12 ?_
  refine NW_bipush (v := 31) C dX4_init_13 rfl ?_
  refine NW_arrJ 31 C aw_long (by decide) rfl (Nat.le_of_ble_eq_true rfl) (Nat.le_of_ble_eq_true rfl) (Nat.le_of_ble_eq_true rfl) dX4_init_15 (fun q2 => ?_)
  refine NW_put C fl_RX4_15 pg_4_3 rfl rfl (Nat.le_of_ble_eq_true rfl) dX4_init_17 ?_
  exact NW_ret C dX4_init_20 ⟨fun k => [h0, q1, q2].getD k 0, rfl, rfl⟩
theorem dX6_init_0 : decode cX6_init 0 = .ok (.aload_n 0, 1) := by decide +kernel
theorem dX6_init_1 : decode cX6_init 1 = .ok (.invokespecial 3, 3) := by decide +kernel
theorem dX6_init_4 : decode cX6_init 4 = .ok (.aload_n 0, 1) := by decide +kernel
theorem dX6_init_5 : decode cX6_init 5 = .ok (.bipush 7, 2) := by decide +kernel
theorem dX6_init_7 : decode cX6_init 7 = .ok (.newarray .int, 2) := by decide +kernel
theorem dX6_init_9 : decode cX6_init 9 = .ok (.putfield 11, 3) := by decide +kernel
theorem dX6_init_12 : decode cX6_init 12 = .ok (.aload_n 0, 1) := by decide +kernel
theorem dX6_init_13 : decode cX6_init 13 = .ok (.bipush 7, 2) := by decide +kernel
theorem dX6_init_15 : decode cX6_init 15 = .ok (.newarray .int, 2) := by decide +kernel
theorem dX6_init_17 : decode cX6_init 17 = .ok (.putfield 15, 3) := by decide +kernel
theorem dX6_init_20 : decode cX6_init 20 = .ok (.return_, 1) := by decide +kernel
abbrev nX6 : mi_T := (yX6_init, cX6_init, 1, none)
def sX6 : sh_T := [.inr (6, [none, none, some 1, some 2]), .inl (0, 7), .inl (0, 7)]
def iX6 : st_I := fun _ _ => 0
def bX6 (h0 : Nat) (cy : Nat → ClassId) (W : va_W) : Prop := ∃ f : Nat → Nat, f 0 = h0 ∧ W = w_D cy f sX6 iX6 (fun _ _ => 0)
abbrev rX6 : Room := { frames := 1, cells := 2, slots := 14, locals := 48 }
set_option maxRecDepth 100000 in
theorem mkN_6 : NEv nX6 rX6 6 [.int 0, .int 0, .null, .null] (fun _ _ => True) bX6 := by
  refine NEv_of (by decide +kernel) rfl rfl (by decide) ?_
  intro p l e s m args below meth c D cy A ls h0 C hG hl
  refine NW_ld C hl dX6_init_0 ?_
  refine NW_obj C hl mo_RX6_3 ow_i ow_c dX6_init_1 (Nat.le_of_ble_eq_true rfl) (Nat.le_of_ble_eq_true rfl) ?_
  refine NW_ld C hl dX6_init_4 ?_
  refine NW_bipush (v := 7) C dX6_init_5 rfl ?_
  refine NW_arrI 7 C aw_int (by decide) rfl (Nat.le_of_ble_eq_true rfl) (Nat.le_of_ble_eq_true rfl) (Nat.le_of_ble_eq_true rfl) dX6_init_7 (fun q1 => ?_)
  refine NW_put C fl_RX6_11 pg_6_2 rfl rfl (Nat.le_of_ble_eq_true rfl) dX6_init_9 ?_
  refine NW_ld C hl dX6_init_12 ?_
  refine NW_bipush (v := 7) C dX6_init_13 rfl ?_
  refine NW_arrI 7 C aw_int (by decide) rfl (Nat.le_of_ble_eq_true rfl) (Nat.le_of_ble_eq_true rfl) (Nat.le_of_ble_eq_true rfl) dX6_init_15 (fun q2 => ?_)
  refine NW_put C fl_RX6_15 pg_6_3 rfl rfl (Nat.le_of_ble_eq_true rfl) dX6_init_17 ?_
  exact NW_ret C dX6_init_20 ⟨fun k => [h0, q1, q2].getD k 0, rfl, rfl⟩
theorem dX7_init_0 : decode cX7_init 0 = .ok (.aload_n 0, 1) := by decide +kernel
theorem dX7_init_1 : decode cX7_init 1 = .ok (.invokespecial 3, 3) := by decide +kernel
theorem dX7_init_4 : decode cX7_init 4 = .ok (.aload_n 0, 1) := by decide +kernel
theorem dX7_init_5 : decode cX7_init 5 = .ok (.bipush 12, 2) := by decide +kernel
theorem dX7_init_7 : decode cX7_init 7 = .ok (.newarray .int, 2) := by decide +kernel
theorem dX7_init_9 : decode cX7_init 9 = .ok (.putfield 9, 3) := by decide +kernel
theorem dX7_init_12 : decode cX7_init 12 = .ok (.aload_n 0, 1) := by decide +kernel
theorem dX7_init_13 : decode cX7_init 13 = .ok (.bipush 24, 2) := by decide +kernel
theorem dX7_init_15 : decode cX7_init 15 = .ok (.newarray .int, 2) := by decide +kernel
theorem dX7_init_17 : decode cX7_init 17 = .ok (.putfield 15, 3) := by decide +kernel
theorem dX7_init_20 : decode cX7_init 20 = .ok (.return_, 1) := by decide +kernel
abbrev nX7 : mi_T := (yX7_init, cX7_init, 1, none)
def sX7 : sh_T := [.inr (7, [some 1, some 2]), .inl (0, 12), .inl (0, 24)]
def iX7 : st_I := fun _ _ => 0
def bX7 (h0 : Nat) (cy : Nat → ClassId) (W : va_W) : Prop := ∃ f : Nat → Nat, f 0 = h0 ∧ W = w_D cy f sX7 iX7 (fun _ _ => 0)
abbrev rX7 : Room := { frames := 1, cells := 2, slots := 36, locals := 48 }
set_option maxRecDepth 100000 in
theorem mkN_7 : NEv nX7 rX7 7 [.null, .null] (fun _ _ => True) bX7 := by
  refine NEv_of (by decide +kernel) rfl rfl (by decide) ?_
  intro p l e s m args below meth c D cy A ls h0 C hG hl
  refine NW_ld C hl dX7_init_0 ?_
  refine NW_obj C hl mo_RX7_3 ow_i ow_c dX7_init_1 (Nat.le_of_ble_eq_true rfl) (Nat.le_of_ble_eq_true rfl) ?_
  refine NW_ld C hl dX7_init_4 ?_
  refine NW_bipush (v := 12) C dX7_init_5 rfl ?_
  refine NW_arrI 12 C aw_int (by decide) rfl (Nat.le_of_ble_eq_true rfl) (Nat.le_of_ble_eq_true rfl) (Nat.le_of_ble_eq_true rfl) dX7_init_7 (fun q1 => ?_)
  refine NW_put C fl_RX7_9 pg_7_0 rfl rfl (Nat.le_of_ble_eq_true rfl) dX7_init_9 ?_
  refine NW_ld C hl dX7_init_12 ?_
  refine NW_bipush (v := 24) C dX7_init_13 rfl ?_
  refine NW_arrI 24 C aw_int (by decide) rfl (Nat.le_of_ble_eq_true rfl) (Nat.le_of_ble_eq_true rfl) (Nat.le_of_ble_eq_true rfl) dX7_init_15 (fun q2 => ?_)
  refine NW_put C fl_RX7_15 pg_7_1 rfl rfl (Nat.le_of_ble_eq_true rfl) dX7_init_17 ?_
  exact NW_ret C dX7_init_20 ⟨fun k => [h0, q1, q2].getD k 0, rfl, rfl⟩
theorem dX8_init_0 : decode cX8_init 0 = .ok (.aload_n 0, 1) := by decide +kernel
theorem dX8_init_1 : decode cX8_init 1 = .ok (.invokespecial 3, 3) := by decide +kernel
theorem dX8_init_4 : decode cX8_init 4 = .ok (.aload_n 0, 1) := by decide +kernel
theorem dX8_init_5 : decode cX8_init 5 = .ok (.bipush 40, 2) := by decide +kernel
theorem dX8_init_7 : decode cX8_init 7 = .ok (.newarray .int, 2) := by decide +kernel
theorem dX8_init_9 : decode cX8_init 9 = .ok (.putfield 9, 3) := by decide +kernel
theorem dX8_init_12 : decode cX8_init 12 = .ok (.aload_n 0, 1) := by decide +kernel
theorem dX8_init_13 : decode cX8_init 13 = .ok (.bipush 50, 2) := by decide +kernel
theorem dX8_init_15 : decode cX8_init 15 = .ok (.newarray .int, 2) := by decide +kernel
theorem dX8_init_17 : decode cX8_init 17 = .ok (.putfield 15, 3) := by decide +kernel
theorem dX8_init_20 : decode cX8_init 20 = .ok (.aload_n 0, 1) := by decide +kernel
theorem dX8_init_21 : decode cX8_init 21 = .ok (.bipush 12, 2) := by decide +kernel
theorem dX8_init_23 : decode cX8_init 23 = .ok (.newarray .int, 2) := by decide +kernel
theorem dX8_init_25 : decode cX8_init 25 = .ok (.putfield 18, 3) := by decide +kernel
theorem dX8_init_28 : decode cX8_init 28 = .ok (.aload_n 0, 1) := by decide +kernel
theorem dX8_init_29 : decode cX8_init 29 = .ok (.sipush 400, 3) := by decide +kernel
theorem dX8_init_32 : decode cX8_init 32 = .ok (.newarray .int, 2) := by decide +kernel
theorem dX8_init_34 : decode cX8_init 34 = .ok (.putfield 21, 3) := by decide +kernel
theorem dX8_init_37 : decode cX8_init 37 = .ok (.aload_n 0, 1) := by decide +kernel
theorem dX8_init_38 : decode cX8_init 38 = .ok (.bipush 6, 2) := by decide +kernel
theorem dX8_init_40 : decode cX8_init 40 = .ok (.newarray .int, 2) := by decide +kernel
theorem dX8_init_42 : decode cX8_init 42 = .ok (.putfield 24, 3) := by decide +kernel
theorem dX8_init_45 : decode cX8_init 45 = .ok (.aload_n 0, 1) := by decide +kernel
theorem dX8_init_46 : decode cX8_init 46 = .ok (.iconst 4, 1) := by decide +kernel
theorem dX8_init_47 : decode cX8_init 47 = .ok (.newarray .int, 2) := by decide +kernel
theorem dX8_init_49 : decode cX8_init 49 = .ok (.putfield 27, 3) := by decide +kernel
theorem dX8_init_52 : decode cX8_init 52 = .ok (.aload_n 0, 1) := by decide +kernel
theorem dX8_init_53 : decode cX8_init 53 = .ok (.sipush 480, 3) := by decide +kernel
theorem dX8_init_56 : decode cX8_init 56 = .ok (.newarray .int, 2) := by decide +kernel
theorem dX8_init_58 : decode cX8_init 58 = .ok (.putfield 30, 3) := by decide +kernel
theorem dX8_init_61 : decode cX8_init 61 = .ok (.return_, 1) := by decide +kernel
abbrev nX8 : mi_T := (yX8_init, cX8_init, 1, none)
def sX8 : sh_T := [.inr (8, [none, none, none, none, none, some 1, some 2, some 3, some 4, some 5, some 6, some 7]), .inl (0, 40), .inl (0, 50), .inl (0, 12), .inl (0, 400), .inl (0, 6), .inl (0, 4), .inl (0, 480)]
def iX8 : st_I := fun _ _ => 0
def bX8 (h0 : Nat) (cy : Nat → ClassId) (W : va_W) : Prop := ∃ f : Nat → Nat, f 0 = h0 ∧ W = w_D cy f sX8 iX8 (fun _ _ => 0)
abbrev rX8 : Room := { frames := 1, cells := 7, slots := 992, locals := 48 }
set_option maxRecDepth 100000 in
theorem mkN_8 : NEv nX8 rX8 8 [.int 0, .int 0, .int 0, .int 0, .int 0, .null, .null, .null, .null, .null, .null, .null] (fun _ _ => True) bX8 := by
  refine NEv_of (by decide +kernel) rfl rfl (by decide) ?_
  intro p l e s m args below meth c D cy A ls h0 C hG hl
  refine NW_ld C hl dX8_init_0 ?_
  refine NW_obj C hl mo_RX8_3 ow_i ow_c dX8_init_1 (Nat.le_of_ble_eq_true rfl) (Nat.le_of_ble_eq_true rfl) ?_
  refine NW_ld C hl dX8_init_4 ?_
  refine NW_bipush (v := 40) C dX8_init_5 rfl ?_
  refine NW_arrI 40 C aw_int (by decide) rfl (Nat.le_of_ble_eq_true rfl) (Nat.le_of_ble_eq_true rfl) (Nat.le_of_ble_eq_true rfl) dX8_init_7 (fun q1 => ?_)
  refine NW_put C fl_RX8_9 pg_8_5 rfl rfl (Nat.le_of_ble_eq_true rfl) dX8_init_9 ?_
  refine NW_ld C hl dX8_init_12 ?_
  refine NW_bipush (v := 50) C dX8_init_13 rfl ?_
  refine NW_arrI 50 C aw_int (by decide) rfl (Nat.le_of_ble_eq_true rfl) (Nat.le_of_ble_eq_true rfl) (Nat.le_of_ble_eq_true rfl) dX8_init_15 (fun q2 => ?_)
  refine NW_put C fl_RX8_15 pg_8_6 rfl rfl (Nat.le_of_ble_eq_true rfl) dX8_init_17 ?_
  refine NW_ld C hl dX8_init_20 ?_
  refine NW_bipush (v := 12) C dX8_init_21 rfl ?_
  refine NW_arrI 12 C aw_int (by decide) rfl (Nat.le_of_ble_eq_true rfl) (Nat.le_of_ble_eq_true rfl) (Nat.le_of_ble_eq_true rfl) dX8_init_23 (fun q3 => ?_)
  refine NW_put C fl_RX8_18 pg_8_7 rfl rfl (Nat.le_of_ble_eq_true rfl) dX8_init_25 ?_
  refine NW_ld C hl dX8_init_28 ?_
  refine NW_sipush (v := 400) C dX8_init_29 rfl ?_
  refine NW_arrI 400 C aw_int (by decide) rfl (Nat.le_of_ble_eq_true rfl) (Nat.le_of_ble_eq_true rfl) (Nat.le_of_ble_eq_true rfl) dX8_init_32 (fun q4 => ?_)
  refine NW_put C fl_RX8_21 pg_8_8 rfl rfl (Nat.le_of_ble_eq_true rfl) dX8_init_34 ?_
  refine NW_ld C hl dX8_init_37 ?_
  refine NW_bipush (v := 6) C dX8_init_38 rfl ?_
  refine NW_arrI 6 C aw_int (by decide) rfl (Nat.le_of_ble_eq_true rfl) (Nat.le_of_ble_eq_true rfl) (Nat.le_of_ble_eq_true rfl) dX8_init_40 (fun q5 => ?_)
  refine NW_put C fl_RX8_24 pg_8_9 rfl rfl (Nat.le_of_ble_eq_true rfl) dX8_init_42 ?_
  refine NW_ld C hl dX8_init_45 ?_
  refine NW_iconst (v := 4) C dX8_init_46 rfl ?_
  refine NW_arrI 4 C aw_int (by decide) rfl (Nat.le_of_ble_eq_true rfl) (Nat.le_of_ble_eq_true rfl) (Nat.le_of_ble_eq_true rfl) dX8_init_47 (fun q6 => ?_)
  refine NW_put C fl_RX8_27 pg_8_10 rfl rfl (Nat.le_of_ble_eq_true rfl) dX8_init_49 ?_
  refine NW_ld C hl dX8_init_52 ?_
  refine NW_sipush (v := 480) C dX8_init_53 rfl ?_
  refine NW_arrI 480 C aw_int (by decide) rfl (Nat.le_of_ble_eq_true rfl) (Nat.le_of_ble_eq_true rfl) (Nat.le_of_ble_eq_true rfl) dX8_init_56 (fun q7 => ?_)
  refine NW_put C fl_RX8_30 pg_8_11 rfl rfl (Nat.le_of_ble_eq_true rfl) dX8_init_58 ?_
  exact NW_ret C dX8_init_61 ⟨fun k => [h0, q1, q2, q3, q4, q5, q6, q7].getD k 0, rfl, rfl⟩
theorem dX9_init_0 : decode cX9_init 0 = .ok (.aload_n 0, 1) := by decide +kernel
theorem dX9_init_1 : decode cX9_init 1 = .ok (.invokespecial 3, 3) := by decide +kernel
theorem dX9_init_4 : decode cX9_init 4 = .ok (.aload_n 0, 1) := by decide +kernel
theorem dX9_init_5 : decode cX9_init 5 = .ok (.bipush 12, 2) := by decide +kernel
theorem dX9_init_7 : decode cX9_init 7 = .ok (.newarray .int, 2) := by decide +kernel
theorem dX9_init_9 : decode cX9_init 9 = .ok (.putfield 11, 3) := by decide +kernel
theorem dX9_init_12 : decode cX9_init 12 = .ok (.return_, 1) := by decide +kernel
abbrev nX9 : mi_T := (yX9_init, cX9_init, 1, none)
def sX9 : sh_T := [.inr (9, [none, none, none, some 1]), .inl (0, 12)]
def iX9 : st_I := fun _ _ => 0
def bX9 (h0 : Nat) (cy : Nat → ClassId) (W : va_W) : Prop := ∃ f : Nat → Nat, f 0 = h0 ∧ W = w_D cy f sX9 iX9 (fun _ _ => 0)
abbrev rX9 : Room := { frames := 1, cells := 1, slots := 12, locals := 48 }
set_option maxRecDepth 100000 in
theorem mkN_9 : NEv nX9 rX9 9 [.int 0, .int 0, .int 0, .null] (fun _ _ => True) bX9 := by
  refine NEv_of (by decide +kernel) rfl rfl (by decide) ?_
  intro p l e s m args below meth c D cy A ls h0 C hG hl
  refine NW_ld C hl dX9_init_0 ?_
  refine NW_obj C hl mo_RX9_3 ow_i ow_c dX9_init_1 (Nat.le_of_ble_eq_true rfl) (Nat.le_of_ble_eq_true rfl) ?_
  refine NW_ld C hl dX9_init_4 ?_
  refine NW_bipush (v := 12) C dX9_init_5 rfl ?_
  refine NW_arrI 12 C aw_int (by decide) rfl (Nat.le_of_ble_eq_true rfl) (Nat.le_of_ble_eq_true rfl) (Nat.le_of_ble_eq_true rfl) dX9_init_7 (fun q1 => ?_)
  refine NW_put C fl_RX9_11 pg_9_3 rfl rfl (Nat.le_of_ble_eq_true rfl) dX9_init_9 ?_
  exact NW_ret C dX9_init_12 ⟨fun k => [h0, q1].getD k 0, rfl, rfl⟩
