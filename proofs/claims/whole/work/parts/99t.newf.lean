/-! a constructor (printed by wip/whole/new2.py) -/
theorem mo_RX11_3 : Cond.methodLink RX11 3 objectInit ∈ tq_tbl := tq_m1 26 rfl rfl
theorem cl_RX11_9 : Cond.classLink RX11 9 RX5 ∈ tq_tbl := tq_m1 29 rfl rfl
theorem ia_RX5 : Cond.instantiable RX5 19 ∈ tq_tbl := tq_m1 30 rfl rfl
theorem iz_RX5 : Cond.initialized RX5 ∈ tq_tbl := tq_m1 2 rfl rfl
theorem dfX5 : ∀ j, j < 19 → defaultValue (tyX5 j) = vp_V [.int 0, .int 0, .null, .null, .null, .null, .int 0, .int 0, .int 0, .int 0, .null, .null, .null, .int 0, .null, .int 0, .int 0, .int 0, .int 0] j := fun j hj => match j, hj with
  | 0, _ => rfl
  | 1, _ => rfl
  | 2, _ => rfl
  | 3, _ => rfl
  | 4, _ => rfl
  | 5, _ => rfl
  | 6, _ => rfl
  | 7, _ => rfl
  | 8, _ => rfl
  | 9, _ => rfl
  | 10, _ => rfl
  | 11, _ => rfl
  | 12, _ => rfl
  | 13, _ => rfl
  | 14, _ => rfl
  | 15, _ => rfl
  | 16, _ => rfl
  | 17, _ => rfl
  | 18, _ => rfl
  | k + 19, h => absurd h (Nat.not_lt.mpr (Nat.le_add_left 19 k))
theorem mkN5 : tq_mB nX5 0 := ⟨tq_m1 2 rfl rfl, tq_m1 33 rfl rfl, ⟨by decide +kernel, by decide +kernel, by decide +kernel⟩, by decide⟩
theorem inN5 : Cond.instanceMethod nX5.1 ∈ tq_tbl := tq_m1 32 rfl rfl
theorem pg_11_0 : tq_pg RX11 11 0 true (.object "BlindFiddles$Reader") := ⟨_, rfl, by decide +kernel, by decide +kernel, rfl⟩
theorem cl_RX11_16 : Cond.classLink RX11 16 RX8 ∈ tq_tbl := tq_m1 172 rfl rfl
theorem pg_11_1 : tq_pg RX11 11 1 false (.object "BlindFiddles$Told") := ⟨_, rfl, by decide +kernel, by decide +kernel, rfl⟩
theorem cl_RX11_23 : Cond.classLink RX11 23 RX7 ∈ tq_tbl := tq_m1 174 rfl rfl
theorem ia_RX7 : Cond.instantiable RX7 2 ∈ tq_tbl := tq_m1 175 rfl rfl
theorem iz_RX7 : Cond.initialized RX7 ∈ tq_tbl := tq_m1 4 rfl rfl
theorem dfX7 : ∀ j, j < 2 → defaultValue (tyX7 j) = vp_V [.null, .null] j := fun j hj => match j, hj with
  | 0, _ => rfl
  | 1, _ => rfl
  | k + 2, h => absurd h (Nat.not_lt.mpr (Nat.le_add_left 2 k))
theorem mkN7 : tq_mB nX7 0 := ⟨tq_m1 4 rfl rfl, tq_m1 178 rfl rfl, ⟨by decide +kernel, by decide +kernel, by decide +kernel⟩, by decide⟩
theorem inN7 : Cond.instanceMethod nX7.1 ∈ tq_tbl := tq_m1 177 rfl rfl
theorem pg_11_2 : tq_pg RX11 11 2 true (.object "BlindFiddles$Taste") := ⟨_, rfl, by decide +kernel, by decide +kernel, rfl⟩
theorem cl_RX11_30 : Cond.classLink RX11 30 RX0 ∈ tq_tbl := tq_m1 187 rfl rfl
theorem ia_RX0 : Cond.instantiable RX0 2 ∈ tq_tbl := tq_m1 188 rfl rfl
theorem iz_RX0 : Cond.initialized RX0 ∈ tq_tbl := tq_m1 5 rfl rfl
theorem dfX0 : ∀ j, j < 2 → defaultValue (tyX0 j) = vp_V [.int 0, .null] j := fun j hj => match j, hj with
  | 0, _ => rfl
  | 1, _ => rfl
  | k + 2, h => absurd h (Nat.not_lt.mpr (Nat.le_add_left 2 k))
theorem mkN0 : tq_mB nX0 0 := ⟨tq_m1 5 rfl rfl, tq_m1 191 rfl rfl, ⟨by decide +kernel, by decide +kernel, by decide +kernel⟩, by decide⟩
theorem inN0 : Cond.instanceMethod nX0.1 ∈ tq_tbl := tq_m1 190 rfl rfl
theorem pg_11_3 : tq_pg RX11 11 3 true (.object "BlindFiddles$Facts") := ⟨_, rfl, by decide +kernel, by decide +kernel, rfl⟩
theorem cl_RX11_37 : Cond.classLink RX11 37 RX2 ∈ tq_tbl := tq_m1 202 rfl rfl
theorem ia_RX2 : Cond.instantiable RX2 10 ∈ tq_tbl := tq_m1 203 rfl rfl
theorem iz_RX2 : Cond.initialized RX2 ∈ tq_tbl := tq_m1 6 rfl rfl
theorem dfX2 : ∀ j, j < 10 → defaultValue (tyX2 j) = vp_V [.int 0, .null, .null, .null, .null, .null, .null, .null, .null, .null] j := fun j hj => match j, hj with
  | 0, _ => rfl
  | 1, _ => rfl
  | 2, _ => rfl
  | 3, _ => rfl
  | 4, _ => rfl
  | 5, _ => rfl
  | 6, _ => rfl
  | 7, _ => rfl
  | 8, _ => rfl
  | 9, _ => rfl
  | k + 10, h => absurd h (Nat.not_lt.mpr (Nat.le_add_left 10 k))
theorem mkN2 : tq_mB nX2 0 := ⟨tq_m1 6 rfl rfl, tq_m1 206 rfl rfl, ⟨by decide +kernel, by decide +kernel, by decide +kernel⟩, by decide⟩
theorem inN2 : Cond.instanceMethod nX2.1 ∈ tq_tbl := tq_m1 205 rfl rfl
theorem pg_11_4 : tq_pg RX11 11 4 true (.object "BlindFiddles$Known") := ⟨_, rfl, by decide +kernel, by decide +kernel, rfl⟩
theorem cl_RX11_44 : Cond.classLink RX11 44 RX6 ∈ tq_tbl := tq_m2 13 rfl rfl
theorem ia_RX6 : Cond.instantiable RX6 4 ∈ tq_tbl := tq_m2 14 rfl rfl
theorem iz_RX6 : Cond.initialized RX6 ∈ tq_tbl := tq_m1 7 rfl rfl
theorem dfX6 : ∀ j, j < 4 → defaultValue (tyX6 j) = vp_V [.int 0, .int 0, .null, .null] j := fun j hj => match j, hj with
  | 0, _ => rfl
  | 1, _ => rfl
  | 2, _ => rfl
  | 3, _ => rfl
  | k + 4, h => absurd h (Nat.not_lt.mpr (Nat.le_add_left 4 k))
theorem mkN6 : tq_mB nX6 0 := ⟨tq_m1 7 rfl rfl, tq_m2 17 rfl rfl, ⟨by decide +kernel, by decide +kernel, by decide +kernel⟩, by decide⟩
theorem inN6 : Cond.instanceMethod nX6.1 ∈ tq_tbl := tq_m2 16 rfl rfl
theorem pg_11_5 : tq_pg RX11 11 5 true (.object "BlindFiddles$Steady") := ⟨_, rfl, by decide +kernel, by decide +kernel, rfl⟩
theorem cl_RX11_51 : Cond.classLink RX11 51 RX1 ∈ tq_tbl := tq_m2 34 rfl rfl
theorem ia_RX1 : Cond.instantiable RX1 7 ∈ tq_tbl := tq_m2 35 rfl rfl
theorem iz_RX1 : Cond.initialized RX1 ∈ tq_tbl := tq_m1 8 rfl rfl
theorem dfX1 : ∀ j, j < 7 → defaultValue (tyX1 j) = vp_V [.int 0, .int 0, .int 0, .int 0, .null, .null, .null] j := fun j hj => match j, hj with
  | 0, _ => rfl
  | 1, _ => rfl
  | 2, _ => rfl
  | 3, _ => rfl
  | 4, _ => rfl
  | 5, _ => rfl
  | 6, _ => rfl
  | k + 7, h => absurd h (Nat.not_lt.mpr (Nat.le_add_left 7 k))
theorem mkN1 : tq_mB nX1 0 := ⟨tq_m1 8 rfl rfl, tq_m2 38 rfl rfl, ⟨by decide +kernel, by decide +kernel, by decide +kernel⟩, by decide⟩
theorem inN1 : Cond.instanceMethod nX1.1 ∈ tq_tbl := tq_m2 37 rfl rfl
theorem pg_11_6 : tq_pg RX11 11 6 true (.object "BlindFiddles$Kinds") := ⟨_, rfl, by decide +kernel, by decide +kernel, rfl⟩
theorem cl_RX11_58 : Cond.classLink RX11 58 RX9 ∈ tq_tbl := tq_m2 65 rfl rfl
theorem ia_RX9 : Cond.instantiable RX9 4 ∈ tq_tbl := tq_m2 66 rfl rfl
theorem iz_RX9 : Cond.initialized RX9 ∈ tq_tbl := tq_m1 9 rfl rfl
theorem dfX9 : ∀ j, j < 4 → defaultValue (tyX9 j) = vp_V [.int 0, .int 0, .int 0, .null] j := fun j hj => match j, hj with
  | 0, _ => rfl
  | 1, _ => rfl
  | 2, _ => rfl
  | 3, _ => rfl
  | k + 4, h => absurd h (Nat.not_lt.mpr (Nat.le_add_left 4 k))
theorem mkN9 : tq_mB nX9 0 := ⟨tq_m1 9 rfl rfl, tq_m2 69 rfl rfl, ⟨by decide +kernel, by decide +kernel, by decide +kernel⟩, by decide⟩
theorem inN9 : Cond.instanceMethod nX9.1 ∈ tq_tbl := tq_m2 68 rfl rfl
theorem pg_11_7 : tq_pg RX11 11 7 true (.object "BlindFiddles$Turns") := ⟨_, rfl, by decide +kernel, by decide +kernel, rfl⟩
theorem cl_RX11_65 : Cond.classLink RX11 65 RX3 ∈ tq_tbl := tq_m2 87 rfl rfl
theorem ia_RX3 : Cond.instantiable RX3 7 ∈ tq_tbl := tq_m2 88 rfl rfl
theorem iz_RX3 : Cond.initialized RX3 ∈ tq_tbl := tq_m1 10 rfl rfl
theorem dfX3 : ∀ j, j < 7 → defaultValue (tyX3 j) = vp_V [.int 0, .int 0, .int 0, .null, .null, .null, .null] j := fun j hj => match j, hj with
  | 0, _ => rfl
  | 1, _ => rfl
  | 2, _ => rfl
  | 3, _ => rfl
  | 4, _ => rfl
  | 5, _ => rfl
  | 6, _ => rfl
  | k + 7, h => absurd h (Nat.not_lt.mpr (Nat.le_add_left 7 k))
theorem mkN3 : tq_mB nX3 0 := ⟨tq_m1 10 rfl rfl, tq_m2 91 rfl rfl, ⟨by decide +kernel, by decide +kernel, by decide +kernel⟩, by decide⟩
theorem inN3 : Cond.instanceMethod nX3.1 ∈ tq_tbl := tq_m2 90 rfl rfl
theorem pg_11_8 : tq_pg RX11 11 8 true (.object "BlindFiddles$NearFar") := ⟨_, rfl, by decide +kernel, by decide +kernel, rfl⟩
theorem cl_RX11_72 : Cond.classLink RX11 72 RX4 ∈ tq_tbl := tq_m2 118 rfl rfl
theorem ia_RX4 : Cond.instantiable RX4 4 ∈ tq_tbl := tq_m2 119 rfl rfl
theorem iz_RX4 : Cond.initialized RX4 ∈ tq_tbl := tq_m1 11 rfl rfl
theorem dfX4 : ∀ j, j < 4 → defaultValue (tyX4 j) = vp_V [.int 0, .int 0, .null, .null] j := fun j hj => match j, hj with
  | 0, _ => rfl
  | 1, _ => rfl
  | 2, _ => rfl
  | 3, _ => rfl
  | k + 4, h => absurd h (Nat.not_lt.mpr (Nat.le_add_left 4 k))
theorem mkN4 : tq_mB nX4 0 := ⟨tq_m1 11 rfl rfl, tq_m2 122 rfl rfl, ⟨by decide +kernel, by decide +kernel, by decide +kernel⟩, by decide⟩
theorem inN4 : Cond.instanceMethod nX4.1 ∈ tq_tbl := tq_m2 121 rfl rfl
theorem pg_11_9 : tq_pg RX11 11 9 true (.object "BlindFiddles$Need") := ⟨_, rfl, by decide +kernel, by decide +kernel, rfl⟩
theorem pg_11_10 : tq_pg RX11 11 10 true (.array .int) := ⟨_, rfl, by decide +kernel, by decide +kernel, rfl⟩
theorem dX11_init_0 : decode cX11_init 0 = .ok (.aload_n 0, 1) := by decide +kernel
theorem dX11_init_1 : decode cX11_init 1 = .ok (.invokespecial 3, 3) := by decide +kernel
theorem dX11_init_4 : decode cX11_init 4 = .ok (.aload_n 0, 1) := by decide +kernel
theorem dX11_init_5 : decode cX11_init 5 = .ok (.new 9, 3) := by decide +kernel
theorem dX11_init_8 : decode cX11_init 8 = .ok (.dup, 1) := by decide +kernel
theorem dX11_init_9 : decode cX11_init 9 = .ok (.invokespecial 11, 3) := by decide +kernel
theorem dX11_init_12 : decode cX11_init 12 = .ok (.putfield 12, 3) := by decide +kernel
theorem dX11_init_15 : decode cX11_init 15 = .ok (.aload_n 0, 1) := by decide +kernel
theorem dX11_init_16 : decode cX11_init 16 = .ok (.new 16, 3) := by decide +kernel
theorem dX11_init_19 : decode cX11_init 19 = .ok (.dup, 1) := by decide +kernel
theorem dX11_init_20 : decode cX11_init 20 = .ok (.invokespecial 18, 3) := by decide +kernel
theorem dX11_init_23 : decode cX11_init 23 = .ok (.putfield 19, 3) := by decide +kernel
theorem dX11_init_26 : decode cX11_init 26 = .ok (.aload_n 0, 1) := by decide +kernel
theorem dX11_init_27 : decode cX11_init 27 = .ok (.new 23, 3) := by decide +kernel
theorem dX11_init_30 : decode cX11_init 30 = .ok (.dup, 1) := by decide +kernel
theorem dX11_init_31 : decode cX11_init 31 = .ok (.invokespecial 25, 3) := by decide +kernel
theorem dX11_init_34 : decode cX11_init 34 = .ok (.putfield 26, 3) := by decide +kernel
theorem dX11_init_37 : decode cX11_init 37 = .ok (.aload_n 0, 1) := by decide +kernel
theorem dX11_init_38 : decode cX11_init 38 = .ok (.new 30, 3) := by decide +kernel
theorem dX11_init_41 : decode cX11_init 41 = .ok (.dup, 1) := by decide +kernel
theorem dX11_init_42 : decode cX11_init 42 = .ok (.invokespecial 32, 3) := by decide +kernel
theorem dX11_init_45 : decode cX11_init 45 = .ok (.putfield 33, 3) := by decide +kernel
theorem dX11_init_48 : decode cX11_init 48 = .ok (.aload_n 0, 1) := by decide +kernel
theorem dX11_init_49 : decode cX11_init 49 = .ok (.new 37, 3) := by decide +kernel
theorem dX11_init_52 : decode cX11_init 52 = .ok (.dup, 1) := by decide +kernel
theorem dX11_init_53 : decode cX11_init 53 = .ok (.invokespecial 39, 3) := by decide +kernel
theorem dX11_init_56 : decode cX11_init 56 = .ok (.putfield 40, 3) := by decide +kernel
theorem dX11_init_59 : decode cX11_init 59 = .ok (.aload_n 0, 1) := by decide +kernel
theorem dX11_init_60 : decode cX11_init 60 = .ok (.new 44, 3) := by decide +kernel
theorem dX11_init_63 : decode cX11_init 63 = .ok (.dup, 1) := by decide +kernel
theorem dX11_init_64 : decode cX11_init 64 = .ok (.invokespecial 46, 3) := by decide +kernel
theorem dX11_init_67 : decode cX11_init 67 = .ok (.putfield 47, 3) := by decide +kernel
theorem dX11_init_70 : decode cX11_init 70 = .ok (.aload_n 0, 1) := by decide +kernel
theorem dX11_init_71 : decode cX11_init 71 = .ok (.new 51, 3) := by decide +kernel
theorem dX11_init_74 : decode cX11_init 74 = .ok (.dup, 1) := by decide +kernel
theorem dX11_init_75 : decode cX11_init 75 = .ok (.invokespecial 53, 3) := by decide +kernel
theorem dX11_init_78 : decode cX11_init 78 = .ok (.putfield 54, 3) := by decide +kernel
theorem dX11_init_81 : decode cX11_init 81 = .ok (.aload_n 0, 1) := by decide +kernel
theorem dX11_init_82 : decode cX11_init 82 = .ok (.new 58, 3) := by decide +kernel
theorem dX11_init_85 : decode cX11_init 85 = .ok (.dup, 1) := by decide +kernel
theorem dX11_init_86 : decode cX11_init 86 = .ok (.invokespecial 60, 3) := by decide +kernel
theorem dX11_init_89 : decode cX11_init 89 = .ok (.putfield 61, 3) := by decide +kernel
theorem dX11_init_92 : decode cX11_init 92 = .ok (.aload_n 0, 1) := by decide +kernel
theorem dX11_init_93 : decode cX11_init 93 = .ok (.new 65, 3) := by decide +kernel
theorem dX11_init_96 : decode cX11_init 96 = .ok (.dup, 1) := by decide +kernel
theorem dX11_init_97 : decode cX11_init 97 = .ok (.invokespecial 67, 3) := by decide +kernel
theorem dX11_init_100 : decode cX11_init 100 = .ok (.putfield 68, 3) := by decide +kernel
theorem dX11_init_103 : decode cX11_init 103 = .ok (.aload_n 0, 1) := by decide +kernel
theorem dX11_init_104 : decode cX11_init 104 = .ok (.new 72, 3) := by decide +kernel
theorem dX11_init_107 : decode cX11_init 107 = .ok (.dup, 1) := by decide +kernel
theorem dX11_init_108 : decode cX11_init 108 = .ok (.invokespecial 74, 3) := by decide +kernel
theorem dX11_init_111 : decode cX11_init 111 = .ok (.putfield 75, 3) := by decide +kernel
theorem dX11_init_114 : decode cX11_init 114 = .ok (.aload_n 0, 1) := by decide +kernel
theorem dX11_init_115 : decode cX11_init 115 = .ok (.bipush 81, 2) := by decide +kernel
theorem dX11_init_117 : decode cX11_init 117 = .ok (.newarray .int, 2) := by decide +kernel
theorem dX11_init_119 : decode cX11_init 119 = .ok (.putfield 79, 3) := by decide +kernel
theorem dX11_init_122 : decode cX11_init 122 = .ok (.aload_n 0, 1) := by decide +kernel
theorem dX11_init_123 : decode cX11_init 123 = .ok (.getfield 79, 3) := by decide +kernel
theorem dX11_init_126 : decode cX11_init 126 = .ok (.iconst (-1), 1) := by decide +kernel
theorem dX11_init_127 : decode cX11_init 127 = .ok (.invokestatic 83, 3) := by decide +kernel
theorem dX11_init_130 : decode cX11_init 130 = .ok (.return_, 1) := by decide +kernel
abbrev nX11 : mi_T := (yX11_init, cX11_init, 1, none)
def sX11 : sh_T := [.inr (11, [some 1, some 17, some 25, some 28, some 30, some 40, some 43, some 47, some 49, some 54, some 57]), .inr (5, [none, none, some 2, some 10, some 11, some 12, none, none, none, none, some 13, some 14, some 15, none, some 16, none, none, none, none]), .inr (8, [none, none, none, none, none, some 3, some 4, some 5, some 6, some 7, some 8, some 9]), .inl (0, 40), .inl (0, 50), .inl (0, 12), .inl (0, 400), .inl (0, 6), .inl (0, 4), .inl (0, 480), .inl (1, 2000), .inl (0, 401), .inl (0, 401), .inl (3, 32), .inl (0, 32), .inl (0, 32), .inl (0, 24), .inr (8, [none, none, none, none, none, some 18, some 19, some 20, some 21, some 22, some 23, some 24]), .inl (0, 40), .inl (0, 50), .inl (0, 12), .inl (0, 400), .inl (0, 6), .inl (0, 4), .inl (0, 480), .inr (7, [some 26, some 27]), .inl (0, 12), .inl (0, 24), .inr (0, [none, some 29]), .inl (0, 480), .inr (2, [none, some 31, some 32, some 33, some 34, some 35, some 36, some 37, some 38, some 39]), .inl (0, 80), .inl (0, 80), .inl (0, 80), .inl (0, 80), .inl (0, 16), .inl (0, 16), .inl (0, 10), .inl (0, 10), .inl (0, 5), .inr (6, [none, none, some 41, some 42]), .inl (0, 7), .inl (0, 7), .inr (1, [none, none, none, none, some 44, some 45, some 46]), .inl (0, 8), .inl (0, 8), .inl (0, 8), .inr (9, [none, none, none, some 48]), .inl (0, 12), .inr (3, [none, none, none, some 50, some 51, some 52, some 53]), .inl (0, 6), .inl (0, 36), .inl (0, 36), .inl (0, 6), .inr (4, [none, none, some 55, some 56]), .inl (3, 31), .inl (3, 31), .inl (0, 81)]
def iX11 : st_I := fun p j => if p = 1 ∧ j = 1 then -1 else if p = 30 ∧ j = 0 then -1 else if p = 57 then (if j < 81 then -1 else 0) else 0
def lX11 : st_L := fun _ _ => 0
def bX11 (h0 : Nat) (cy : Nat → ClassId) (W : va_W) : Prop := ∃ f : Nat → Nat, f 0 = h0 ∧ W = w_D cy f sX11 iX11 lX11
abbrev rX11 : Room := { frames := 3, cells := 57, slots := 6159, locals := 480 }
def gX11 (A : Nat → Prop) (U : State) : Prop := (∃ ad, tq_str ad A U) ∧ va_Nw (.methodLinkNest RX5 17 nX8.1 "BlindFiddles") U ∧ va_Nw (.methodLinkNest RX11 11 nX5.1 "BlindFiddles") U ∧ va_Nw (.methodLinkNest RX11 18 nX8.1 "BlindFiddles") U ∧ va_Nw (.methodLinkNest RX11 25 nX7.1 "BlindFiddles") U ∧ va_Nw (.methodLinkNest RX11 32 nX0.1 "BlindFiddles") U ∧ va_Nw (.methodLinkNest RX11 39 nX2.1 "BlindFiddles") U ∧ va_Nw (.methodLinkNest RX11 46 nX6.1 "BlindFiddles") U ∧ va_Nw (.methodLinkNest RX11 53 nX1.1 "BlindFiddles") U ∧ va_Nw (.methodLinkNest RX11 60 nX9.1 "BlindFiddles") U ∧ va_Nw (.methodLinkNest RX11 67 nX3.1 "BlindFiddles") U ∧ va_Nw (.methodLinkNest RX11 74 nX4.1 "BlindFiddles") U
set_option maxRecDepth 100000 in
set_option maxHeartbeats 4000000 in
theorem mkN_11 : NEv nX11 rX11 11 [.null, .null, .null, .null, .null, .null, .null, .null, .null, .null, .null] gX11 bX11 := by
  refine NEv_of (by decide +kernel) rfl rfl (by decide) ?_
  intro p l e s m args below meth c D cy A ls h0 C hG hl
  obtain ⟨⟨ad, hE⟩, hR5, hN1, hN2, hN3, hN4, hN5, hN6, hN7, hN8, hN9, hN10⟩ := hG
  refine NW_ld C hl dX11_init_0 ?_
  refine NW_obj C hl mo_RX11_3 ow_i ow_c dX11_init_1 (Nat.le_of_ble_eq_true rfl) (Nat.le_of_ble_eq_true rfl) ?_
  refine NW_ld C hl dX11_init_4 ?_
  refine NW_new (ci2 := 5) (fs2 := [.int 0, .int 0, .null, .null, .null, .null, .int 0, .int 0, .int 0, .int 0, .null, .null, .null, .int 0, .null, .int 0, .int 0, .int 0, .int 0]) tyX5 C rfl tyX5_ok cl_RX11_9 ia_RX5 iz_RX5 dfX5 (Nat.le_of_ble_eq_true rfl) (Nat.le_of_ble_eq_true rfl) dX11_init_5 (fun n1 => ?_)
  refine NW_dup C dX11_init_8 rfl ?_
  refine NW_initN (Y := nX5) (host := "BlindFiddles") (fs2 := [.int 0, .int 0, .null, .null, .null, .null, .int 0, .int 0, .int 0, .int 0, .null, .null, .null, .int 0, .null, .int 0, .int 0, .int 0, .int 0]) (rm2 := rX5) C hl mkN_5 rfl rfl mkN5 inN5 hN1 (fun _ U g mk a h => va_Nw.same rfl (u := U) (U := U.calling g mk a) rfl h) (fun _ U hW => va_Nw.warmM hW hR5) ⟨Nat.le_of_ble_eq_true rfl, Nat.le_of_ble_eq_true rfl⟩ (Nat.le_of_ble_eq_true rfl) (Nat.le_of_ble_eq_true rfl) (Nat.le_of_ble_eq_true rfl) dX11_init_9 ?_
  rintro W1 ⟨f1, rfl, rfl⟩
  refine NW_put C fl_RX11_12 pg_11_0 rfl rfl (Nat.le_of_ble_eq_true rfl) dX11_init_12 ?_
  refine NW_ld C hl dX11_init_15 ?_
  refine NW_new (ci2 := 8) (fs2 := [.int 0, .int 0, .int 0, .int 0, .int 0, .null, .null, .null, .null, .null, .null, .null]) tyX8 C rfl tyX8_ok cl_RX11_16 ia_RX8 iz_RX8 dfX8 (Nat.le_of_ble_eq_true rfl) (Nat.le_of_ble_eq_true rfl) dX11_init_16 (fun n2 => ?_)
  refine NW_dup C dX11_init_19 rfl ?_
  refine NW_initN (Y := nX8) (host := "BlindFiddles") (fs2 := [.int 0, .int 0, .int 0, .int 0, .int 0, .null, .null, .null, .null, .null, .null, .null]) (rm2 := rX8) C hl mkN_8 rfl rfl mkN8 inN8 hN2 (fun _ _ _ _ _ h => h) (fun _ _ _ => trivial) ⟨Nat.le_of_ble_eq_true rfl, Nat.le_of_ble_eq_true rfl⟩ (Nat.le_of_ble_eq_true rfl) (Nat.le_of_ble_eq_true rfl) (Nat.le_of_ble_eq_true rfl) dX11_init_20 ?_
  rintro W2 ⟨f2, rfl, rfl⟩
  refine NW_put C fl_RX11_19 pg_11_1 rfl rfl (Nat.le_of_ble_eq_true rfl) dX11_init_23 ?_
  refine NW_ld C hl dX11_init_26 ?_
  refine NW_new (ci2 := 7) (fs2 := [.null, .null]) tyX7 C rfl tyX7_ok cl_RX11_23 ia_RX7 iz_RX7 dfX7 (Nat.le_of_ble_eq_true rfl) (Nat.le_of_ble_eq_true rfl) dX11_init_27 (fun n3 => ?_)
  refine NW_dup C dX11_init_30 rfl ?_
  refine NW_initN (Y := nX7) (host := "BlindFiddles") (fs2 := [.null, .null]) (rm2 := rX7) C hl mkN_7 rfl rfl mkN7 inN7 hN3 (fun _ _ _ _ _ h => h) (fun _ _ _ => trivial) ⟨Nat.le_of_ble_eq_true rfl, Nat.le_of_ble_eq_true rfl⟩ (Nat.le_of_ble_eq_true rfl) (Nat.le_of_ble_eq_true rfl) (Nat.le_of_ble_eq_true rfl) dX11_init_31 ?_
  rintro W3 ⟨f3, rfl, rfl⟩
  refine NW_put C fl_RX11_26 pg_11_2 rfl rfl (Nat.le_of_ble_eq_true rfl) dX11_init_34 ?_
  refine NW_ld C hl dX11_init_37 ?_
  refine NW_new (ci2 := 0) (fs2 := [.int 0, .null]) tyX0 C rfl tyX0_ok cl_RX11_30 ia_RX0 iz_RX0 dfX0 (Nat.le_of_ble_eq_true rfl) (Nat.le_of_ble_eq_true rfl) dX11_init_38 (fun n4 => ?_)
  refine NW_dup C dX11_init_41 rfl ?_
  refine NW_initN (Y := nX0) (host := "BlindFiddles") (fs2 := [.int 0, .null]) (rm2 := rX0) C hl mkN_0 rfl rfl mkN0 inN0 hN4 (fun _ _ _ _ _ h => h) (fun _ _ _ => trivial) ⟨Nat.le_of_ble_eq_true rfl, Nat.le_of_ble_eq_true rfl⟩ (Nat.le_of_ble_eq_true rfl) (Nat.le_of_ble_eq_true rfl) (Nat.le_of_ble_eq_true rfl) dX11_init_42 ?_
  rintro W4 ⟨f4, rfl, rfl⟩
  refine NW_put C fl_RX11_33 pg_11_3 rfl rfl (Nat.le_of_ble_eq_true rfl) dX11_init_45 ?_
  refine NW_ld C hl dX11_init_48 ?_
  refine NW_new (ci2 := 2) (fs2 := [.int 0, .null, .null, .null, .null, .null, .null, .null, .null, .null]) tyX2 C rfl tyX2_ok cl_RX11_37 ia_RX2 iz_RX2 dfX2 (Nat.le_of_ble_eq_true rfl) (Nat.le_of_ble_eq_true rfl) dX11_init_49 (fun n5 => ?_)
  refine NW_dup C dX11_init_52 rfl ?_
  refine NW_initN (Y := nX2) (host := "BlindFiddles") (fs2 := [.int 0, .null, .null, .null, .null, .null, .null, .null, .null, .null]) (rm2 := rX2) C hl mkN_2 rfl rfl mkN2 inN2 hN5 (fun _ _ _ _ _ h => h) (fun _ _ _ => trivial) ⟨Nat.le_of_ble_eq_true rfl, Nat.le_of_ble_eq_true rfl⟩ (Nat.le_of_ble_eq_true rfl) (Nat.le_of_ble_eq_true rfl) (Nat.le_of_ble_eq_true rfl) dX11_init_53 ?_
  rintro W5 ⟨f5, rfl, rfl⟩
  refine NW_put C fl_RX11_40 pg_11_4 rfl rfl (Nat.le_of_ble_eq_true rfl) dX11_init_56 ?_
  refine NW_ld C hl dX11_init_59 ?_
  refine NW_new (ci2 := 6) (fs2 := [.int 0, .int 0, .null, .null]) tyX6 C rfl tyX6_ok cl_RX11_44 ia_RX6 iz_RX6 dfX6 (Nat.le_of_ble_eq_true rfl) (Nat.le_of_ble_eq_true rfl) dX11_init_60 (fun n6 => ?_)
  refine NW_dup C dX11_init_63 rfl ?_
  refine NW_initN (Y := nX6) (host := "BlindFiddles") (fs2 := [.int 0, .int 0, .null, .null]) (rm2 := rX6) C hl mkN_6 rfl rfl mkN6 inN6 hN6 (fun _ _ _ _ _ h => h) (fun _ _ _ => trivial) ⟨Nat.le_of_ble_eq_true rfl, Nat.le_of_ble_eq_true rfl⟩ (Nat.le_of_ble_eq_true rfl) (Nat.le_of_ble_eq_true rfl) (Nat.le_of_ble_eq_true rfl) dX11_init_64 ?_
  rintro W6 ⟨f6, rfl, rfl⟩
  refine NW_put C fl_RX11_47 pg_11_5 rfl rfl (Nat.le_of_ble_eq_true rfl) dX11_init_67 ?_
  refine NW_ld C hl dX11_init_70 ?_
  refine NW_new (ci2 := 1) (fs2 := [.int 0, .int 0, .int 0, .int 0, .null, .null, .null]) tyX1 C rfl tyX1_ok cl_RX11_51 ia_RX1 iz_RX1 dfX1 (Nat.le_of_ble_eq_true rfl) (Nat.le_of_ble_eq_true rfl) dX11_init_71 (fun n7 => ?_)
  refine NW_dup C dX11_init_74 rfl ?_
  refine NW_initN (Y := nX1) (host := "BlindFiddles") (fs2 := [.int 0, .int 0, .int 0, .int 0, .null, .null, .null]) (rm2 := rX1) C hl mkN_1 rfl rfl mkN1 inN1 hN7 (fun _ _ _ _ _ h => h) (fun _ _ _ => trivial) ⟨Nat.le_of_ble_eq_true rfl, Nat.le_of_ble_eq_true rfl⟩ (Nat.le_of_ble_eq_true rfl) (Nat.le_of_ble_eq_true rfl) (Nat.le_of_ble_eq_true rfl) dX11_init_75 ?_
  rintro W7 ⟨f7, rfl, rfl⟩
  refine NW_put C fl_RX11_54 pg_11_6 rfl rfl (Nat.le_of_ble_eq_true rfl) dX11_init_78 ?_
  refine NW_ld C hl dX11_init_81 ?_
  refine NW_new (ci2 := 9) (fs2 := [.int 0, .int 0, .int 0, .null]) tyX9 C rfl tyX9_ok cl_RX11_58 ia_RX9 iz_RX9 dfX9 (Nat.le_of_ble_eq_true rfl) (Nat.le_of_ble_eq_true rfl) dX11_init_82 (fun n8 => ?_)
  refine NW_dup C dX11_init_85 rfl ?_
  refine NW_initN (Y := nX9) (host := "BlindFiddles") (fs2 := [.int 0, .int 0, .int 0, .null]) (rm2 := rX9) C hl mkN_9 rfl rfl mkN9 inN9 hN8 (fun _ _ _ _ _ h => h) (fun _ _ _ => trivial) ⟨Nat.le_of_ble_eq_true rfl, Nat.le_of_ble_eq_true rfl⟩ (Nat.le_of_ble_eq_true rfl) (Nat.le_of_ble_eq_true rfl) (Nat.le_of_ble_eq_true rfl) dX11_init_86 ?_
  rintro W8 ⟨f8, rfl, rfl⟩
  refine NW_put C fl_RX11_61 pg_11_7 rfl rfl (Nat.le_of_ble_eq_true rfl) dX11_init_89 ?_
  refine NW_ld C hl dX11_init_92 ?_
  refine NW_new (ci2 := 3) (fs2 := [.int 0, .int 0, .int 0, .null, .null, .null, .null]) tyX3 C rfl tyX3_ok cl_RX11_65 ia_RX3 iz_RX3 dfX3 (Nat.le_of_ble_eq_true rfl) (Nat.le_of_ble_eq_true rfl) dX11_init_93 (fun n9 => ?_)
  refine NW_dup C dX11_init_96 rfl ?_
  refine NW_initN (Y := nX3) (host := "BlindFiddles") (fs2 := [.int 0, .int 0, .int 0, .null, .null, .null, .null]) (rm2 := rX3) C hl mkN_3 rfl rfl mkN3 inN3 hN9 (fun _ _ _ _ _ h => h) (fun _ _ _ => trivial) ⟨Nat.le_of_ble_eq_true rfl, Nat.le_of_ble_eq_true rfl⟩ (Nat.le_of_ble_eq_true rfl) (Nat.le_of_ble_eq_true rfl) (Nat.le_of_ble_eq_true rfl) dX11_init_97 ?_
  rintro W9 ⟨f9, rfl, rfl⟩
  refine NW_put C fl_RX11_68 pg_11_8 rfl rfl (Nat.le_of_ble_eq_true rfl) dX11_init_100 ?_
  refine NW_ld C hl dX11_init_103 ?_
  refine NW_new (ci2 := 4) (fs2 := [.int 0, .int 0, .null, .null]) tyX4 C rfl tyX4_ok cl_RX11_72 ia_RX4 iz_RX4 dfX4 (Nat.le_of_ble_eq_true rfl) (Nat.le_of_ble_eq_true rfl) dX11_init_104 (fun n10 => ?_)
  refine NW_dup C dX11_init_107 rfl ?_
  refine NW_initN (Y := nX4) (host := "BlindFiddles") (fs2 := [.int 0, .int 0, .null, .null]) (rm2 := rX4) C hl mkN_4 rfl rfl mkN4 inN4 hN10 (fun _ _ _ _ _ h => h) (fun _ _ _ => trivial) ⟨Nat.le_of_ble_eq_true rfl, Nat.le_of_ble_eq_true rfl⟩ (Nat.le_of_ble_eq_true rfl) (Nat.le_of_ble_eq_true rfl) (Nat.le_of_ble_eq_true rfl) dX11_init_108 ?_
  rintro W10 ⟨f10, rfl, rfl⟩
  refine NW_put C fl_RX11_75 pg_11_9 rfl rfl (Nat.le_of_ble_eq_true rfl) dX11_init_111 ?_
  refine NW_ld C hl dX11_init_114 ?_
  refine NW_bipush (v := 81) C dX11_init_115 rfl ?_
  refine NW_arrI 81 C aw_int (by decide) rfl (Nat.le_of_ble_eq_true rfl) (Nat.le_of_ble_eq_true rfl) (Nat.le_of_ble_eq_true rfl) dX11_init_117 (fun q57 => ?_)
  refine NW_put C fl_RX11_79 pg_11_10 rfl rfl (Nat.le_of_ble_eq_true rfl) dX11_init_119 ?_
  refine NW_ld C hl dX11_init_122 ?_
  refine NW_get C fl_RX11_79 rfl dX11_init_123 ?_
  refine NW_iconst (v := -1) C dX11_init_126 rfl ?_
  refine NW_fill (n := 81) (v := -1) C hl hE ml_RX11_83 (by decide) ⟨Nat.le_of_ble_eq_true rfl, Nat.le_of_ble_eq_true rfl⟩ (Nat.le_of_ble_eq_true rfl) (Nat.le_of_ble_eq_true rfl) (Nat.le_of_ble_eq_true rfl) dX11_init_127 ?_
  exact NW_ret C dX11_init_130 ⟨fun k => [h0, f1 0, f1 1, f1 2, f1 3, f1 4, f1 5, f1 6, f1 7, f1 8, f1 9, f1 10, f1 11, f1 12, f1 13, f1 14, f1 15, f2 0, f2 1, f2 2, f2 3, f2 4, f2 5, f2 6, f2 7, f3 0, f3 1, f3 2, f4 0, f4 1, f5 0, f5 1, f5 2, f5 3, f5 4, f5 5, f5 6, f5 7, f5 8, f5 9, f6 0, f6 1, f6 2, f7 0, f7 1, f7 2, f7 3, f8 0, f8 1, f9 0, f9 1, f9 2, f9 3, f9 4, f10 0, f10 1, f10 2, q57].getD k 0, rfl, rfl⟩
