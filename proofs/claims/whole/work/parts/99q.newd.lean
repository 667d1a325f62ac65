/-! a constructor (printed by wip/whole/new2.py) -/
theorem mo_RX5_3 : Cond.methodLink RX5 3 objectInit ∈ tq_tbl := tq_m1 34 rfl rfl
theorem pg_5_1 : tq_pg RX5 5 1 false .int := ⟨_, rfl, by decide +kernel, by decide +kernel, rfl⟩
theorem cl_RX5_15 : Cond.classLink RX5 15 RX8 ∈ tq_tbl := tq_m1 35 rfl rfl
theorem ia_RX8 : Cond.instantiable RX8 12 ∈ tq_tbl := tq_m1 36 rfl rfl
theorem iz_RX8 : Cond.initialized RX8 ∈ tq_tbl := tq_m1 3 rfl rfl
theorem dfX8 : ∀ j, j < 12 → defaultValue (tyX8 j) = vp_V [.int 0, .int 0, .int 0, .int 0, .int 0, .null, .null, .null, .null, .null, .null, .null] j := fun j hj => match j, hj with
  | 0, _ => rfl
  | 1, _ => rfl
  | 2, _ => rfl
  | 3, _ => rfl
  | 4, _ => rfl
  | 5, _ => rfl
  | 6, _ => rfl
  | 7, _ => rfl
  | 8, _ => rfl
  | 9, _ => rfl
  | 10, _ => rfl
  | 11, _ => rfl
  | k + 12, h => absurd h (Nat.not_lt.mpr (Nat.le_add_left 12 k))
theorem mkN8 : tq_mB nX8 0 := ⟨tq_m1 3 rfl rfl, tq_m1 39 rfl rfl, ⟨by decide +kernel, by decide +kernel, by decide +kernel⟩, by decide⟩
theorem inN8 : Cond.instanceMethod nX8.1 ∈ tq_tbl := tq_m1 38 rfl rfl
theorem pg_5_2 : tq_pg RX5 5 2 false (.object "BlindFiddles$Told") := ⟨_, rfl, by decide +kernel, by decide +kernel, rfl⟩
theorem pg_5_3 : tq_pg RX5 5 3 true (.array .byte) := ⟨_, rfl, by decide +kernel, by decide +kernel, rfl⟩
theorem pg_5_4 : tq_pg RX5 5 4 true (.array .int) := ⟨_, rfl, by decide +kernel, by decide +kernel, rfl⟩
theorem pg_5_5 : tq_pg RX5 5 5 true (.array .int) := ⟨_, rfl, by decide +kernel, by decide +kernel, rfl⟩
theorem pg_5_10 : tq_pg RX5 5 10 true (.array .long) := ⟨_, rfl, by decide +kernel, by decide +kernel, rfl⟩
theorem pg_5_11 : tq_pg RX5 5 11 true (.array .int) := ⟨_, rfl, by decide +kernel, by decide +kernel, rfl⟩
theorem pg_5_12 : tq_pg RX5 5 12 true (.array .int) := ⟨_, rfl, by decide +kernel, by decide +kernel, rfl⟩
theorem pg_5_14 : tq_pg RX5 5 14 true (.array .int) := ⟨_, rfl, by decide +kernel, by decide +kernel, rfl⟩
theorem dX5_init_0 : decode cX5_init 0 = .ok (.aload_n 0, 1) := by decide +kernel
theorem dX5_init_1 : decode cX5_init 1 = .ok (.invokespecial 3, 3) := by decide +kernel
theorem dX5_init_4 : decode cX5_init 4 = .ok (.aload_n 0, 1) := by decide +kernel
theorem dX5_init_5 : decode cX5_init 5 = .ok (.iconst (-1), 1) := by decide +kernel
theorem dX5_init_6 : decode cX5_init 6 = .ok (.putfield 9, 3) := by decide +kernel
theorem dX5_init_9 : decode cX5_init 9 = .ok (.aload_n 0, 1) := by decide +kernel
theorem dX5_init_10 : decode cX5_init 10 = .ok (.new 15, 3) := by decide +kernel
theorem dX5_init_13 : decode cX5_init 13 = .ok (.dup, 1) := by decide +kernel
theorem dX5_init_14 : decode cX5_init 14 = .ok (.invokespecial 17, 3) := by decide +kernel
theorem dX5_init_17 : decode cX5_init 17 = .ok (.putfield 18, 3) := by decide +kernel
theorem dX5_init_20 : decode cX5_init 20 = .ok (.aload_n 0, 1) := by decide +kernel
theorem dX5_init_21 : decode cX5_init 21 = .ok (.sipush 2000, 3) := by decide +kernel
theorem dX5_init_24 : decode cX5_init 24 = .ok (.newarray .byte, 2) := by decide +kernel
theorem dX5_init_26 : decode cX5_init 26 = .ok (.putfield 22, 3) := by decide +kernel
theorem dX5_init_29 : decode cX5_init 29 = .ok (.aload_n 0, 1) := by decide +kernel
theorem dX5_init_30 : decode cX5_init 30 = .ok (.sipush 401, 3) := by decide +kernel
theorem dX5_init_33 : decode cX5_init 33 = .ok (.newarray .int, 2) := by decide +kernel
theorem dX5_init_35 : decode cX5_init 35 = .ok (.putfield 26, 3) := by decide +kernel
theorem dX5_init_38 : decode cX5_init 38 = .ok (.aload_n 0, 1) := by decide +kernel
theorem dX5_init_39 : decode cX5_init 39 = .ok (.sipush 401, 3) := by decide +kernel
theorem dX5_init_42 : decode cX5_init 42 = .ok (.newarray .int, 2) := by decide +kernel
theorem dX5_init_44 : decode cX5_init 44 = .ok (.putfield 30, 3) := by decide +kernel
theorem dX5_init_47 : decode cX5_init 47 = .ok (.aload_n 0, 1) := by decide +kernel
theorem dX5_init_48 : decode cX5_init 48 = .ok (.bipush 32, 2) := by decide +kernel
theorem dX5_init_50 : decode cX5_init 50 = .ok (.newarray .long, 2) := by decide +kernel
theorem dX5_init_52 : decode cX5_init 52 = .ok (.putfield 33, 3) := by decide +kernel
theorem dX5_init_55 : decode cX5_init 55 = .ok (.aload_n 0, 1) := by decide +kernel
theorem dX5_init_56 : decode cX5_init 56 = .ok (.bipush 32, 2) := by decide +kernel
theorem dX5_init_58 : decode cX5_init 58 = .ok (.newarray .int, 2) := by decide +kernel
theorem dX5_init_60 : decode cX5_init 60 = .ok (.putfield 37, 3) := by decide +kernel
theorem dX5_init_63 : decode cX5_init 63 = .ok (.aload_n 0, 1) := by decide +kernel
theorem dX5_init_64 : decode cX5_init 64 = .ok (.bipush 32, 2) := by decide +kernel
theorem dX5_init_66 : decode cX5_init 66 = .ok (.newarray .int, 2) := by decide +kernel
theorem dX5_init_68 : decode cX5_init 68 = .ok (.putfield 40, 3) := by decide +kernel
theorem dX5_init_71 : decode cX5_init 71 = .ok (.aload_n 0, 1) := by decide +kernel
theorem dX5_init_72 : decode cX5_init 72 = .ok (.bipush 24, 2) := by decide +kernel
theorem dX5_init_74 : decode cX5_init 74 = .ok (.newarray .int, 2) := by decide +kernel
theorem dX5_init_76 : decode cX5_init 76 = .ok (.putfield 43, 3) := by decide +kernel
theorem dX5_init_79 : decode cX5_init 79 = .ok (.return_, 1) := by decide +kernel
abbrev nX5 : mi_T := (yX5_init, cX5_init, 1, none)
def sX5 : sh_T := [.inr (5, [none, none, some 1, some 9, some 10, some 11, none, none, none, none, some 12, some 13, some 14, none, some 15, none, none, none, none]), .inr (8, [none, none, none, none, none, some 2, some 3, some 4, some 5, some 6, some 7, some 8]), .inl (0, 40), .inl (0, 50), .inl (0, 12), .inl (0, 400), .inl (0, 6), .inl (0, 4), .inl (0, 480), .inl (1, 2000), .inl (0, 401), .inl (0, 401), .inl (3, 32), .inl (0, 32), .inl (0, 32), .inl (0, 24)]
def iX5 : st_I := fun p j => if p = 0 ∧ j = 1 then -1 else 0
def lX5 : st_L := fun _ _ => 0
def bX5 (h0 : Nat) (cy : Nat → ClassId) (W : va_W) : Prop := ∃ f : Nat → Nat, f 0 = h0 ∧ W = w_D cy f sX5 iX5 lX5
abbrev rX5 : Room := { frames := 2, cells := 15, slots := 3926, locals := 240 }
set_option maxRecDepth 100000 in
set_option maxHeartbeats 4000000 in
theorem mkN_5 : NEv nX5 rX5 5 [.int 0, .int 0, .null, .null, .null, .null, .int 0, .int 0, .int 0, .int 0, .null, .null, .null, .int 0, .null, .int 0, .int 0, .int 0, .int 0] (fun _ U => va_Nw (.methodLinkNest RX5 17 nX8.1 "BlindFiddles") U) bX5 := by
  refine NEv_of (by decide +kernel) rfl rfl (by decide) ?_
  intro p l e s m args below meth c D cy A ls h0 C hG hl
  refine NW_ld C hl dX5_init_0 ?_
  refine NW_obj C hl mo_RX5_3 ow_i ow_c dX5_init_1 (Nat.le_of_ble_eq_true rfl) (Nat.le_of_ble_eq_true rfl) ?_
  refine NW_ld C hl dX5_init_4 ?_
  refine NW_iconst (v := -1) C dX5_init_5 rfl ?_
  refine NW_put C fl_RX5_9 pg_5_1 rfl rfl (Nat.le_of_ble_eq_true rfl) dX5_init_6 ?_
  refine NW_ld C hl dX5_init_9 ?_
  refine NW_new (ci2 := 8) (fs2 := [.int 0, .int 0, .int 0, .int 0, .int 0, .null, .null, .null, .null, .null, .null, .null]) tyX8 C rfl tyX8_ok cl_RX5_15 ia_RX8 iz_RX8 dfX8 (Nat.le_of_ble_eq_true rfl) (Nat.le_of_ble_eq_true rfl) dX5_init_10 (fun n1 => ?_)
  refine NW_dup C dX5_init_13 rfl ?_
  refine NW_initN (Y := nX8) (host := "BlindFiddles") (fs2 := [.int 0, .int 0, .int 0, .int 0, .int 0, .null, .null, .null, .null, .null, .null, .null]) (rm2 := rX8) C hl mkN_8 rfl rfl mkN8 inN8 hG (fun _ _ _ _ _ h => h) (fun _ _ _ => trivial) ⟨Nat.le_of_ble_eq_true rfl, Nat.le_of_ble_eq_true rfl⟩ (Nat.le_of_ble_eq_true rfl) (Nat.le_of_ble_eq_true rfl) (Nat.le_of_ble_eq_true rfl) dX5_init_14 ?_
  rintro W1 ⟨f1, rfl, rfl⟩
  refine NW_put C fl_RX5_18 pg_5_2 rfl rfl (Nat.le_of_ble_eq_true rfl) dX5_init_17 ?_
  refine NW_ld C hl dX5_init_20 ?_
  refine NW_sipush (v := 2000) C dX5_init_21 rfl ?_
  refine NW_arrB 2000 C aw_byte (by decide) rfl (Nat.le_of_ble_eq_true rfl) (Nat.le_of_ble_eq_true rfl) (Nat.le_of_ble_eq_true rfl) dX5_init_24 (fun q9 => ?_)
  refine NW_put C fl_RX5_22 pg_5_3 rfl rfl (Nat.le_of_ble_eq_true rfl) dX5_init_26 ?_
  refine NW_ld C hl dX5_init_29 ?_
  refine NW_sipush (v := 401) C dX5_init_30 rfl ?_
  refine NW_arrI 401 C aw_int (by decide) rfl (Nat.le_of_ble_eq_true rfl) (Nat.le_of_ble_eq_true rfl) (Nat.le_of_ble_eq_true rfl) dX5_init_33 (fun q10 => ?_)
  refine NW_put C fl_RX5_26 pg_5_4 rfl rfl (Nat.le_of_ble_eq_true rfl) dX5_init_35 ?_
  refine NW_ld C hl dX5_init_38 ?_
  refine NW_sipush (v := 401) C dX5_init_39 rfl ?_
  refine NW_arrI 401 C aw_int (by decide) rfl (Nat.le_of_ble_eq_true rfl) (Nat.le_of_ble_eq_true rfl) (Nat.le_of_ble_eq_true rfl) dX5_init_42 (fun q11 => ?_)
  refine NW_put C fl_RX5_30 pg_5_5 rfl rfl (Nat.le_of_ble_eq_true rfl) dX5_init_44 ?_
  refine NW_ld C hl dX5_init_47 ?_
  refine NW_bipush (v := 32) C dX5_init_48 rfl ?_
  refine NW_arrJ 32 C aw_long (by decide) rfl (Nat.le_of_ble_eq_true rfl) (Nat.le_of_ble_eq_true rfl) (Nat.le_of_ble_eq_true rfl) dX5_init_50 (fun q12 => ?_)
  refine NW_put C fl_RX5_33 pg_5_10 rfl rfl (Nat.le_of_ble_eq_true rfl) dX5_init_52 ?_
  refine NW_ld C hl dX5_init_55 ?_
  refine NW_bipush (v := 32) C dX5_init_56 rfl ?_
  refine NW_arrI 32 C aw_int (by decide) rfl (Nat.le_of_ble_eq_true rfl) (Nat.le_of_ble_eq_true rfl) (Nat.le_of_ble_eq_true rfl) dX5_init_58 (fun q13 => ?_)
  refine NW_put C fl_RX5_37 pg_5_11 rfl rfl (Nat.le_of_ble_eq_true rfl) dX5_init_60 ?_
  refine NW_ld C hl dX5_init_63 ?_
  refine NW_bipush (v := 32) C dX5_init_64 rfl ?_
  refine NW_arrI 32 C aw_int (by decide) rfl (Nat.le_of_ble_eq_true rfl) (Nat.le_of_ble_eq_true rfl) (Nat.le_of_ble_eq_true rfl) dX5_init_66 (fun q14 => ?_)
  refine NW_put C fl_RX5_40 pg_5_12 rfl rfl (Nat.le_of_ble_eq_true rfl) dX5_init_68 ?_
  refine NW_ld C hl dX5_init_71 ?_
  refine NW_bipush (v := 24) C dX5_init_72 rfl ?_
  refine NW_arrI 24 C aw_int (by decide) rfl (Nat.le_of_ble_eq_true rfl) (Nat.le_of_ble_eq_true rfl) (Nat.le_of_ble_eq_true rfl) dX5_init_74 (fun q15 => ?_)
  refine NW_put C fl_RX5_43 pg_5_14 rfl rfl (Nat.le_of_ble_eq_true rfl) dX5_init_76 ?_
  exact NW_ret C dX5_init_79 ⟨fun k => [h0, f1 0, f1 1, f1 2, f1 3, f1 4, f1 5, f1 6, f1 7, q9, q10, q11, q12, q13, q14, q15].getD k 0, rfl, rfl⟩
