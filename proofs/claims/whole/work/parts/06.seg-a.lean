theorem dX0_has_0 : decode cX0_has 0 = .ok (.iload_n 1, 1) := by decide +kernel
theorem dX0_has_1 : decode cX0_has 1 = .ok (.ifCond .lt 15, 3) := by decide +kernel
theorem dX0_has_4 : decode cX0_has 4 = .ok (.iload_n 1, 1) := by decide +kernel
theorem dX0_has_5 : decode cX0_has 5 = .ok (.aload_n 0, 1) := by decide +kernel
theorem dX0_has_6 : decode cX0_has 6 = .ok (.getfield 15, 3) := by decide +kernel
theorem dX0_has_9 : decode cX0_has 9 = .ok (.if_icmp .ge 7, 3) := by decide +kernel
theorem dX0_has_12 : decode cX0_has 12 = .ok (.iconst 1, 1) := by decide +kernel
theorem dX0_has_13 : decode cX0_has 13 = .ok (.goto 4, 3) := by decide +kernel
theorem dX0_has_16 : decode cX0_has 16 = .ok (.iconst 0, 1) := by decide +kernel
theorem dX0_has_17 : decode cX0_has 17 = .ok (.ireturn, 1) := by decide +kernel
set_option maxRecDepth 100000 in
theorem sgX0_has_0 {d : Nat} {I : st_I} {L : st_L} {F : Int32 → st_I → st_L → Prop} {a1 : Int32} (h : F (if a1 < 0 then (0 : Int32) else (if (I 28 0) ≤ a1 then (0 : Int32) else 1)) I L) : EI d mX0_has [.ref 28, .int a1] I L F := by
  refine Ev_of (ls0 := 0) (by decide +kernel) rfl rfl rfl ?_
  refine T_iload_n dX0_has_0 rfl ?_
  refine T_if_lt (tgt := 16) dX0_has_1 (by decide) (tq_itv (fun v => T shp d mX0_has 17 [.ref 28, .int a1] (.int v :: []) I L (kI F)) 0 (if (I 28 0) ≤ a1 then (0 : Int32) else 1) (fun hJ => ?_) (fun hJ => ?_) ?_)
  ·
      refine T_iconst (v := 0) dX0_has_16 (by decide +kernel) ?_
      exact hJ
  ·
      refine T_iload_n dX0_has_4 rfl ?_
      refine T_aload_n dX0_has_5 rfl ?_
      refine T_getv (v := (I 28 0)) dX0_has_6 fl_RX0_15 shp_28 rfl rfl ?_
      refine T_icmp_ge (tgt := 16) dX0_has_9 (by decide) (tq_itv (fun v => T shp d mX0_has 17 [.ref 28, .int a1] (.int v :: []) I L (kI F)) 0 1 (fun hJ => ?_) (fun hJ => ?_) hJ)
      ·
        refine T_iconst (v := 0) dX0_has_16 (by decide +kernel) ?_
        exact hJ
      ·
        refine T_iconst (v := 1) dX0_has_12 (by decide +kernel) ?_
        refine T_goto (tgt := 17) dX0_has_13 (by decide) ?_
        exact hJ
  exact S_zret rfl dX0_has_17 (by (repeat' split) <;> first | exact Or.inl rfl | exact Or.inr rfl) h

theorem dX0_of_0 : decode cX0_of 0 = .ok (.aload_n 0, 1) := by decide +kernel
theorem dX0_of_1 : decode cX0_of 1 = .ok (.iload_n 1, 1) := by decide +kernel
theorem dX0_of_2 : decode cX0_of 2 = .ok (.invokevirtual 19, 3) := by decide +kernel
theorem dX0_of_5 : decode cX0_of 5 = .ok (.ifCond .eq 13, 3) := by decide +kernel
theorem dX0_of_8 : decode cX0_of 8 = .ok (.iload_n 2, 1) := by decide +kernel
theorem dX0_of_9 : decode cX0_of 9 = .ok (.ifCond .lt 9, 3) := by decide +kernel
theorem dX0_of_12 : decode cX0_of 12 = .ok (.iload_n 2, 1) := by decide +kernel
theorem dX0_of_13 : decode cX0_of 13 = .ok (.bipush 6, 2) := by decide +kernel
theorem dX0_of_15 : decode cX0_of 15 = .ok (.if_icmp .lt 5, 3) := by decide +kernel
theorem dX0_of_18 : decode cX0_of 18 = .ok (.iconst (-1), 1) := by decide +kernel
theorem dX0_of_19 : decode cX0_of 19 = .ok (.ireturn, 1) := by decide +kernel
theorem dX0_of_20 : decode cX0_of 20 = .ok (.aload_n 0, 1) := by decide +kernel
theorem dX0_of_21 : decode cX0_of 21 = .ok (.getfield 9, 3) := by decide +kernel
theorem dX0_of_24 : decode cX0_of 24 = .ok (.iload_n 1, 1) := by decide +kernel
theorem dX0_of_25 : decode cX0_of 25 = .ok (.bipush 6, 2) := by decide +kernel
theorem dX0_of_27 : decode cX0_of 27 = .ok (.imul, 1) := by decide +kernel
theorem dX0_of_28 : decode cX0_of 28 = .ok (.iload_n 2, 1) := by decide +kernel
theorem dX0_of_29 : decode cX0_of 29 = .ok (.iadd, 1) := by decide +kernel
theorem dX0_of_30 : decode cX0_of 30 = .ok (.iaload, 1) := by decide +kernel
theorem dX0_of_31 : decode cX0_of 31 = .ok (.ireturn, 1) := by decide +kernel
set_option maxRecDepth 100000 in
theorem sgX0_of_0 {d : Nat} {I : st_I} {L : st_L} {F : Int32 → st_I → st_L → Prop} {a1 : Int32} {a2 : Int32} (h : EI d mX0_has [.ref 28, .int a1] I L (fun r1 I1 L1 => (if r1 = 0 then F (-1) I1 L1 else (if a2 < 0 then F (-1) I1 L1 else (if a2 < 6 then vp_in ((a1 * 6) + a2) 480 ∧ F (I1 29 (((a1 * 6) + a2).toNatClampNeg)) I1 L1 else F (-1) I1 L1))))) : EI (d + 1) mX0_of [.ref 28, .int a1, .int a2] I L F := by
  refine Ev_of (ls0 := 0) (by decide +kernel) rfl rfl rfl ?_
  refine T_aload_n dX0_of_0 rfl ?_
  refine T_iload_n dX0_of_1 rfl ?_
  refine S_callVI (M' := mX0_has) [.int a1] [] dX0_of_2 ml_RX0_19 mkX0_has rfl shp_28 rfl rfl rfl (Nat.le_of_ble_eq_true rfl) h (fun r1 I1 L1 h => ?_)
  refine T_if_eq (tgt := 18) dX0_of_5 (by decide) (tq_ite h (fun h => ?_) (fun h => ?_))
  ·
    refine T_iconst (v := (-1)) dX0_of_18 (by decide +kernel) ?_
    exact S_iret rfl dX0_of_19 h
  ·
    refine T_iload_n dX0_of_8 rfl ?_
    refine T_if_lt (tgt := 18) dX0_of_9 (by decide) (tq_ite h (fun h => ?_) (fun h => ?_))
    ·
      refine T_iconst (v := (-1)) dX0_of_18 (by decide +kernel) ?_
      exact S_iret rfl dX0_of_19 h
    ·
      refine T_iload_n dX0_of_12 rfl ?_
      refine T_bipush (v := 6) dX0_of_13 (by decide +kernel) ?_
      refine T_icmp_lt (tgt := 20) dX0_of_15 (by decide) (tq_ite h (fun h => ?_) (fun h => ?_))
      ·
        refine T_aload_n dX0_of_20 rfl ?_
        refine T_getr dX0_of_21 fl_RX0_9 shp_28 rfl ?_
        refine T_iload_n dX0_of_24 rfl ?_
        refine T_bipush (v := 6) dX0_of_25 (by decide +kernel) ?_
        refine T_imul dX0_of_27 ?_
        refine T_iload_n dX0_of_28 rfl ?_
        refine T_iadd dX0_of_29 ?_
        refine T_ialdv (v := (I1 29 (((a1 * 6) + a2).toNatClampNeg))) (j := ((a1 * 6) + a2).toNatClampNeg) dX0_of_30 shp_29 h.1 rfl rfl ?_
        replace h := h.2
        exact S_iret rfl dX0_of_31 h
      ·
        refine T_iconst (v := (-1)) dX0_of_18 (by decide +kernel) ?_
        exact S_iret rfl dX0_of_19 h

theorem dX0_add_0 : decode cX0_add 0 = .ok (.aload_n 0, 1) := by decide +kernel
theorem dX0_add_1 : decode cX0_add 1 = .ok (.getfield 15, 3) := by decide +kernel
theorem dX0_add_4 : decode cX0_add 4 = .ok (.bipush 80, 2) := by decide +kernel
theorem dX0_add_6 : decode cX0_add 6 = .ok (.if_icmp .lt 5, 3) := by decide +kernel
theorem dX0_add_9 : decode cX0_add 9 = .ok (.iconst (-1), 1) := by decide +kernel
theorem dX0_add_10 : decode cX0_add 10 = .ok (.ireturn, 1) := by decide +kernel
theorem dX0_add_11 : decode cX0_add 11 = .ok (.aload_n 0, 1) := by decide +kernel
theorem dX0_add_12 : decode cX0_add 12 = .ok (.getfield 15, 3) := by decide +kernel
theorem dX0_add_15 : decode cX0_add 15 = .ok (.bipush 6, 2) := by decide +kernel
theorem dX0_add_17 : decode cX0_add 17 = .ok (.imul, 1) := by decide +kernel
theorem dX0_add_18 : decode cX0_add 18 = .ok (.istore 7, 2) := by decide +kernel
theorem dX0_add_20 : decode cX0_add 20 = .ok (.aload_n 0, 1) := by decide +kernel
theorem dX0_add_21 : decode cX0_add 21 = .ok (.getfield 9, 3) := by decide +kernel
theorem dX0_add_24 : decode cX0_add 24 = .ok (.iload 7, 2) := by decide +kernel
theorem dX0_add_26 : decode cX0_add 26 = .ok (.iload_n 1, 1) := by decide +kernel
theorem dX0_add_27 : decode cX0_add 27 = .ok (.iastore, 1) := by decide +kernel
theorem dX0_add_28 : decode cX0_add 28 = .ok (.aload_n 0, 1) := by decide +kernel
theorem dX0_add_29 : decode cX0_add 29 = .ok (.getfield 9, 3) := by decide +kernel
theorem dX0_add_32 : decode cX0_add 32 = .ok (.iload 7, 2) := by decide +kernel
theorem dX0_add_34 : decode cX0_add 34 = .ok (.iconst 1, 1) := by decide +kernel
theorem dX0_add_35 : decode cX0_add 35 = .ok (.iadd, 1) := by decide +kernel
theorem dX0_add_36 : decode cX0_add 36 = .ok (.iload_n 2, 1) := by decide +kernel
theorem dX0_add_37 : decode cX0_add 37 = .ok (.iastore, 1) := by decide +kernel
theorem dX0_add_38 : decode cX0_add 38 = .ok (.aload_n 0, 1) := by decide +kernel
theorem dX0_add_39 : decode cX0_add 39 = .ok (.getfield 9, 3) := by decide +kernel
theorem dX0_add_42 : decode cX0_add 42 = .ok (.iload 7, 2) := by decide +kernel
theorem dX0_add_44 : decode cX0_add 44 = .ok (.iconst 2, 1) := by decide +kernel
theorem dX0_add_45 : decode cX0_add 45 = .ok (.iadd, 1) := by decide +kernel
theorem dX0_add_46 : decode cX0_add 46 = .ok (.iload_n 3, 1) := by decide +kernel
theorem dX0_add_47 : decode cX0_add 47 = .ok (.iastore, 1) := by decide +kernel
theorem dX0_add_48 : decode cX0_add 48 = .ok (.aload_n 0, 1) := by decide +kernel
theorem dX0_add_49 : decode cX0_add 49 = .ok (.getfield 9, 3) := by decide +kernel
theorem dX0_add_52 : decode cX0_add 52 = .ok (.iload 7, 2) := by decide +kernel
theorem dX0_add_54 : decode cX0_add 54 = .ok (.iconst 3, 1) := by decide +kernel
theorem dX0_add_55 : decode cX0_add 55 = .ok (.iadd, 1) := by decide +kernel
theorem dX0_add_56 : decode cX0_add 56 = .ok (.iload 4, 2) := by decide +kernel
theorem dX0_add_58 : decode cX0_add 58 = .ok (.iastore, 1) := by decide +kernel
theorem dX0_add_59 : decode cX0_add 59 = .ok (.aload_n 0, 1) := by decide +kernel
theorem dX0_add_60 : decode cX0_add 60 = .ok (.getfield 9, 3) := by decide +kernel
theorem dX0_add_63 : decode cX0_add 63 = .ok (.iload 7, 2) := by decide +kernel
theorem dX0_add_65 : decode cX0_add 65 = .ok (.iconst 4, 1) := by decide +kernel
theorem dX0_add_66 : decode cX0_add 66 = .ok (.iadd, 1) := by decide +kernel
theorem dX0_add_67 : decode cX0_add 67 = .ok (.iload 5, 2) := by decide +kernel
theorem dX0_add_69 : decode cX0_add 69 = .ok (.iastore, 1) := by decide +kernel
theorem dX0_add_70 : decode cX0_add 70 = .ok (.aload_n 0, 1) := by decide +kernel
theorem dX0_add_71 : decode cX0_add 71 = .ok (.getfield 9, 3) := by decide +kernel
theorem dX0_add_74 : decode cX0_add 74 = .ok (.iload 7, 2) := by decide +kernel
theorem dX0_add_76 : decode cX0_add 76 = .ok (.iconst 5, 1) := by decide +kernel
theorem dX0_add_77 : decode cX0_add 77 = .ok (.iadd, 1) := by decide +kernel
theorem dX0_add_78 : decode cX0_add 78 = .ok (.iload 6, 2) := by decide +kernel
theorem dX0_add_80 : decode cX0_add 80 = .ok (.iastore, 1) := by decide +kernel
theorem dX0_add_81 : decode cX0_add 81 = .ok (.aload_n 0, 1) := by decide +kernel
theorem dX0_add_82 : decode cX0_add 82 = .ok (.dup, 1) := by decide +kernel
theorem dX0_add_83 : decode cX0_add 83 = .ok (.getfield 15, 3) := by decide +kernel
theorem dX0_add_86 : decode cX0_add 86 = .ok (.iconst 1, 1) := by decide +kernel
theorem dX0_add_87 : decode cX0_add 87 = .ok (.iadd, 1) := by decide +kernel
theorem dX0_add_88 : decode cX0_add 88 = .ok (.putfield 15, 3) := by decide +kernel
theorem dX0_add_91 : decode cX0_add 91 = .ok (.aload_n 0, 1) := by decide +kernel
theorem dX0_add_92 : decode cX0_add 92 = .ok (.getfield 15, 3) := by decide +kernel
theorem dX0_add_95 : decode cX0_add 95 = .ok (.iconst 1, 1) := by decide +kernel
theorem dX0_add_96 : decode cX0_add 96 = .ok (.isub, 1) := by decide +kernel
theorem dX0_add_97 : decode cX0_add 97 = .ok (.ireturn, 1) := by decide +kernel
set_option maxRecDepth 100000 in
theorem sgX0_add_0 {d : Nat} {I : st_I} {L : st_L} {F : Int32 → st_I → st_L → Prop} {a1 : Int32} {a2 : Int32} {a3 : Int32} {a4 : Int32} {a5 : Int32} {a6 : Int32} (h : (if (I 28 0) < 80 then vp_in ((I 28 0) * 6) 480 ∧ vp_in (((I 28 0) * 6) + 1) 480 ∧ vp_in (((I 28 0) * 6) + 2) 480 ∧ vp_in (((I 28 0) * 6) + 3) 480 ∧ vp_in (((I 28 0) * 6) + 4) 480 ∧ vp_in (((I 28 0) * 6) + 5) 480 ∧ F (((I 28 0) + 1) - 1) (u_I (u_I (u_I (u_I (u_I (u_I (u_I I 29 (((I 28 0) * 6).toNatClampNeg) a1) 29 ((((I 28 0) * 6) + 1).toNatClampNeg) a2) 29 ((((I 28 0) * 6) + 2).toNatClampNeg) a3) 29 ((((I 28 0) * 6) + 3).toNatClampNeg) a4) 29 ((((I 28 0) * 6) + 4).toNatClampNeg) a5) 29 ((((I 28 0) * 6) + 5).toNatClampNeg) a6) 28 0 ((I 28 0) + 1)) L else F (-1) I L)) : EI d mX0_add [.ref 28, .int a1, .int a2, .int a3, .int a4, .int a5, .int a6] I L F := by
  refine Ev_of (ls0 := 1) (by decide +kernel) rfl rfl rfl ?_
  refine T_aload_n dX0_add_0 rfl ?_
  refine T_getv (v := (I 28 0)) dX0_add_1 fl_RX0_15 shp_28 rfl rfl ?_
  refine T_bipush (v := 80) dX0_add_4 (by decide +kernel) ?_
  refine T_icmp_lt (tgt := 11) dX0_add_6 (by decide) (tq_ite h (fun h => ?_) (fun h => ?_))
  ·
    refine T_aload_n dX0_add_11 rfl ?_
    refine T_getv (v := (I 28 0)) dX0_add_12 fl_RX0_15 shp_28 rfl rfl ?_
    refine T_bipush (v := 6) dX0_add_15 (by decide +kernel) ?_
    refine T_imul dX0_add_17 ?_
    refine T_istore (lv' := [.ref 28, .int a1, .int a2, .int a3, .int a4, .int a5, .int a6, .int ((I 28 0) * 6)]) dX0_add_18 (by decide) rfl ?_
    refine T_aload_n dX0_add_20 rfl ?_
    refine T_getr dX0_add_21 fl_RX0_9 shp_28 rfl ?_
    refine T_iload dX0_add_24 rfl ?_
    refine T_iload_n dX0_add_26 rfl ?_
    refine T_iastv (j := ((I 28 0) * 6).toNatClampNeg) dX0_add_27 shp_29 h.1 rfl ?_
    replace h := h.2
    refine T_aload_n dX0_add_28 rfl ?_
    refine T_getr dX0_add_29 fl_RX0_9 shp_28 rfl ?_
    refine T_iload dX0_add_32 rfl ?_
    refine T_iconst (v := 1) dX0_add_34 (by decide +kernel) ?_
    refine T_iadd dX0_add_35 ?_
    refine T_iload_n dX0_add_36 rfl ?_
    refine T_iastv (j := (((I 28 0) * 6) + 1).toNatClampNeg) dX0_add_37 shp_29 h.1 rfl ?_
    replace h := h.2
    refine T_aload_n dX0_add_38 rfl ?_
    refine T_getr dX0_add_39 fl_RX0_9 shp_28 rfl ?_
    refine T_iload dX0_add_42 rfl ?_
    refine T_iconst (v := 2) dX0_add_44 (by decide +kernel) ?_
    refine T_iadd dX0_add_45 ?_
    refine T_iload_n dX0_add_46 rfl ?_
    refine T_iastv (j := (((I 28 0) * 6) + 2).toNatClampNeg) dX0_add_47 shp_29 h.1 rfl ?_
    replace h := h.2
    refine T_aload_n dX0_add_48 rfl ?_
    refine T_getr dX0_add_49 fl_RX0_9 shp_28 rfl ?_
    refine T_iload dX0_add_52 rfl ?_
    refine T_iconst (v := 3) dX0_add_54 (by decide +kernel) ?_
    refine T_iadd dX0_add_55 ?_
    refine T_iload dX0_add_56 rfl ?_
    refine T_iastv (j := (((I 28 0) * 6) + 3).toNatClampNeg) dX0_add_58 shp_29 h.1 rfl ?_
    replace h := h.2
    refine T_aload_n dX0_add_59 rfl ?_
    refine T_getr dX0_add_60 fl_RX0_9 shp_28 rfl ?_
    refine T_iload dX0_add_63 rfl ?_
    refine T_iconst (v := 4) dX0_add_65 (by decide +kernel) ?_
    refine T_iadd dX0_add_66 ?_
    refine T_iload dX0_add_67 rfl ?_
    refine T_iastv (j := (((I 28 0) * 6) + 4).toNatClampNeg) dX0_add_69 shp_29 h.1 rfl ?_
    replace h := h.2
    refine T_aload_n dX0_add_70 rfl ?_
    refine T_getr dX0_add_71 fl_RX0_9 shp_28 rfl ?_
    refine T_iload dX0_add_74 rfl ?_
    refine T_iconst (v := 5) dX0_add_76 (by decide +kernel) ?_
    refine T_iadd dX0_add_77 ?_
    refine T_iload dX0_add_78 rfl ?_
    refine T_iastv (j := (((I 28 0) * 6) + 5).toNatClampNeg) dX0_add_80 shp_29 h.1 rfl ?_
    replace h := h.2
    refine T_aload_n dX0_add_81 rfl ?_
    refine T_dup dX0_add_82 rfl ?_
    refine T_getv (v := (I 28 0)) dX0_add_83 fl_RX0_15 shp_28 rfl rfl ?_
    refine T_iconst (v := 1) dX0_add_86 (by decide +kernel) ?_
    refine T_iadd dX0_add_87 ?_
    refine T_puti dX0_add_88 fl_RX0_15 pf_0_0 shp_28 rfl rfl rfl ?_
    refine T_aload_n dX0_add_91 rfl ?_
    refine T_getv (v := ((I 28 0) + 1)) dX0_add_92 fl_RX0_15 shp_28 rfl rfl ?_
    refine T_iconst (v := 1) dX0_add_95 (by decide +kernel) ?_
    refine T_isub dX0_add_96 ?_
    exact S_iret rfl dX0_add_97 h
  ·
    refine T_iconst (v := (-1)) dX0_add_9 (by decide +kernel) ?_
    exact S_iret rfl dX0_add_10 h

theorem dX8_clear_0 : decode cX8_clear 0 = .ok (.aload_n 0, 1) := by decide +kernel
theorem dX8_clear_1 : decode cX8_clear 1 = .ok (.iconst 0, 1) := by decide +kernel
theorem dX8_clear_2 : decode cX8_clear 2 = .ok (.putfield 33, 3) := by decide +kernel
theorem dX8_clear_5 : decode cX8_clear 5 = .ok (.aload_n 0, 1) := by decide +kernel
theorem dX8_clear_6 : decode cX8_clear 6 = .ok (.iconst 0, 1) := by decide +kernel
theorem dX8_clear_7 : decode cX8_clear 7 = .ok (.putfield 37, 3) := by decide +kernel
theorem dX8_clear_10 : decode cX8_clear 10 = .ok (.aload_n 0, 1) := by decide +kernel
theorem dX8_clear_11 : decode cX8_clear 11 = .ok (.iconst 0, 1) := by decide +kernel
theorem dX8_clear_12 : decode cX8_clear 12 = .ok (.putfield 40, 3) := by decide +kernel
theorem dX8_clear_15 : decode cX8_clear 15 = .ok (.aload_n 0, 1) := by decide +kernel
theorem dX8_clear_16 : decode cX8_clear 16 = .ok (.iconst 0, 1) := by decide +kernel
theorem dX8_clear_17 : decode cX8_clear 17 = .ok (.putfield 43, 3) := by decide +kernel
theorem dX8_clear_20 : decode cX8_clear 20 = .ok (.aload_n 0, 1) := by decide +kernel
theorem dX8_clear_21 : decode cX8_clear 21 = .ok (.iconst 0, 1) := by decide +kernel
theorem dX8_clear_22 : decode cX8_clear 22 = .ok (.putfield 46, 3) := by decide +kernel
theorem dX8_clear_25 : decode cX8_clear 25 = .ok (.return_, 1) := by decide +kernel
set_option maxRecDepth 100000 in
theorem sgX8_clear_9_0 {d : Nat} {I : st_I} {L : st_L} {F : st_I → st_L → Prop}  (h : F (u_I (u_I (u_I (u_I (u_I I 9 0 0) 9 1 0) 9 2 0) 9 3 0) 9 4 0) L) : EV d mX8_clear [.ref 9] I L F := by
  refine Ev_of (ls0 := 0) (by decide +kernel) rfl rfl rfl ?_
  refine T_aload_n dX8_clear_0 rfl ?_
  refine T_iconst (v := 0) dX8_clear_1 (by decide +kernel) ?_
  refine T_puti dX8_clear_2 fl_RX8_33 pf_8_0 shp_9 rfl rfl rfl ?_
  refine T_aload_n dX8_clear_5 rfl ?_
  refine T_iconst (v := 0) dX8_clear_6 (by decide +kernel) ?_
  refine T_puti dX8_clear_7 fl_RX8_37 pf_8_1 shp_9 rfl rfl rfl ?_
  refine T_aload_n dX8_clear_10 rfl ?_
  refine T_iconst (v := 0) dX8_clear_11 (by decide +kernel) ?_
  refine T_puti dX8_clear_12 fl_RX8_40 pf_8_2 shp_9 rfl rfl rfl ?_
  refine T_aload_n dX8_clear_15 rfl ?_
  refine T_iconst (v := 0) dX8_clear_16 (by decide +kernel) ?_
  refine T_puti dX8_clear_17 fl_RX8_43 pf_8_3 shp_9 rfl rfl rfl ?_
  refine T_aload_n dX8_clear_20 rfl ?_
  refine T_iconst (v := 0) dX8_clear_21 (by decide +kernel) ?_
  refine T_puti dX8_clear_22 fl_RX8_46 pf_8_4 shp_9 rfl rfl rfl ?_
  exact S_vret rfl dX8_clear_25 h

theorem dX8_hasFiddle_0 : decode cX8_hasFiddle 0 = .ok (.iload_n 1, 1) := by decide +kernel
theorem dX8_hasFiddle_1 : decode cX8_hasFiddle 1 = .ok (.ifCond .lt 15, 3) := by decide +kernel
theorem dX8_hasFiddle_4 : decode cX8_hasFiddle 4 = .ok (.iload_n 1, 1) := by decide +kernel
theorem dX8_hasFiddle_5 : decode cX8_hasFiddle 5 = .ok (.aload_n 0, 1) := by decide +kernel
theorem dX8_hasFiddle_6 : decode cX8_hasFiddle 6 = .ok (.getfield 33, 3) := by decide +kernel
theorem dX8_hasFiddle_9 : decode cX8_hasFiddle 9 = .ok (.if_icmp .ge 7, 3) := by decide +kernel
theorem dX8_hasFiddle_12 : decode cX8_hasFiddle 12 = .ok (.iconst 1, 1) := by decide +kernel
theorem dX8_hasFiddle_13 : decode cX8_hasFiddle 13 = .ok (.goto 4, 3) := by decide +kernel
theorem dX8_hasFiddle_16 : decode cX8_hasFiddle 16 = .ok (.iconst 0, 1) := by decide +kernel
theorem dX8_hasFiddle_17 : decode cX8_hasFiddle 17 = .ok (.ireturn, 1) := by decide +kernel
set_option maxRecDepth 100000 in
theorem sgX8_hasFiddle_0 {d : Nat} {I : st_I} {L : st_L} {F : Int32 → st_I → st_L → Prop} {a1 : Int32} (h : F (if a1 < 0 then (0 : Int32) else (if (I 1 0) ≤ a1 then (0 : Int32) else 1)) I L) : EI d mX8_hasFiddle [.ref 1, .int a1] I L F := by
  refine Ev_of (ls0 := 0) (by decide +kernel) rfl rfl rfl ?_
  refine T_iload_n dX8_hasFiddle_0 rfl ?_
  refine T_if_lt (tgt := 16) dX8_hasFiddle_1 (by decide) (tq_itv (fun v => T shp d mX8_hasFiddle 17 [.ref 1, .int a1] (.int v :: []) I L (kI F)) 0 (if (I 1 0) ≤ a1 then (0 : Int32) else 1) (fun hJ => ?_) (fun hJ => ?_) ?_)
  ·
      refine T_iconst (v := 0) dX8_hasFiddle_16 (by decide +kernel) ?_
      exact hJ
  ·
      refine T_iload_n dX8_hasFiddle_4 rfl ?_
      refine T_aload_n dX8_hasFiddle_5 rfl ?_
      refine T_getv (v := (I 1 0)) dX8_hasFiddle_6 fl_RX8_33 shp_1 rfl rfl ?_
      refine T_icmp_ge (tgt := 16) dX8_hasFiddle_9 (by decide) (tq_itv (fun v => T shp d mX8_hasFiddle 17 [.ref 1, .int a1] (.int v :: []) I L (kI F)) 0 1 (fun hJ => ?_) (fun hJ => ?_) hJ)
      ·
        refine T_iconst (v := 0) dX8_hasFiddle_16 (by decide +kernel) ?_
        exact hJ
      ·
        refine T_iconst (v := 1) dX8_hasFiddle_12 (by decide +kernel) ?_
        refine T_goto (tgt := 17) dX8_hasFiddle_13 (by decide) ?_
        exact hJ
  exact S_zret rfl dX8_hasFiddle_17 (by (repeat' split) <;> first | exact Or.inl rfl | exact Or.inr rfl) h

theorem dX8_hasPerson_0 : decode cX8_hasPerson 0 = .ok (.iload_n 1, 1) := by decide +kernel
theorem dX8_hasPerson_1 : decode cX8_hasPerson 1 = .ok (.ifCond .lt 15, 3) := by decide +kernel
theorem dX8_hasPerson_4 : decode cX8_hasPerson 4 = .ok (.iload_n 1, 1) := by decide +kernel
theorem dX8_hasPerson_5 : decode cX8_hasPerson 5 = .ok (.aload_n 0, 1) := by decide +kernel
theorem dX8_hasPerson_6 : decode cX8_hasPerson 6 = .ok (.getfield 37, 3) := by decide +kernel
theorem dX8_hasPerson_9 : decode cX8_hasPerson 9 = .ok (.if_icmp .ge 7, 3) := by decide +kernel
theorem dX8_hasPerson_12 : decode cX8_hasPerson 12 = .ok (.iconst 1, 1) := by decide +kernel
theorem dX8_hasPerson_13 : decode cX8_hasPerson 13 = .ok (.goto 4, 3) := by decide +kernel
theorem dX8_hasPerson_16 : decode cX8_hasPerson 16 = .ok (.iconst 0, 1) := by decide +kernel
theorem dX8_hasPerson_17 : decode cX8_hasPerson 17 = .ok (.ireturn, 1) := by decide +kernel
set_option maxRecDepth 100000 in
theorem sgX8_hasPerson_0 {d : Nat} {I : st_I} {L : st_L} {F : Int32 → st_I → st_L → Prop} {a1 : Int32} (h : F (if a1 < 0 then (0 : Int32) else (if (I 1 1) ≤ a1 then (0 : Int32) else 1)) I L) : EI d mX8_hasPerson [.ref 1, .int a1] I L F := by
  refine Ev_of (ls0 := 0) (by decide +kernel) rfl rfl rfl ?_
  refine T_iload_n dX8_hasPerson_0 rfl ?_
  refine T_if_lt (tgt := 16) dX8_hasPerson_1 (by decide) (tq_itv (fun v => T shp d mX8_hasPerson 17 [.ref 1, .int a1] (.int v :: []) I L (kI F)) 0 (if (I 1 1) ≤ a1 then (0 : Int32) else 1) (fun hJ => ?_) (fun hJ => ?_) ?_)
  ·
      refine T_iconst (v := 0) dX8_hasPerson_16 (by decide +kernel) ?_
      exact hJ
  ·
      refine T_iload_n dX8_hasPerson_4 rfl ?_
      refine T_aload_n dX8_hasPerson_5 rfl ?_
      refine T_getv (v := (I 1 1)) dX8_hasPerson_6 fl_RX8_37 shp_1 rfl rfl ?_
      refine T_icmp_ge (tgt := 16) dX8_hasPerson_9 (by decide) (tq_itv (fun v => T shp d mX8_hasPerson 17 [.ref 1, .int a1] (.int v :: []) I L (kI F)) 0 1 (fun hJ => ?_) (fun hJ => ?_) hJ)
      ·
        refine T_iconst (v := 0) dX8_hasPerson_16 (by decide +kernel) ?_
        exact hJ
      ·
        refine T_iconst (v := 1) dX8_hasPerson_12 (by decide +kernel) ?_
        refine T_goto (tgt := 17) dX8_hasPerson_13 (by decide) ?_
        exact hJ
  exact S_zret rfl dX8_hasPerson_17 (by (repeat' split) <;> first | exact Or.inl rfl | exact Or.inr rfl) h

theorem dX8_hasBow_0 : decode cX8_hasBow 0 = .ok (.iload_n 1, 1) := by decide +kernel
theorem dX8_hasBow_1 : decode cX8_hasBow 1 = .ok (.ifCond .lt 15, 3) := by decide +kernel
theorem dX8_hasBow_4 : decode cX8_hasBow 4 = .ok (.iload_n 1, 1) := by decide +kernel
theorem dX8_hasBow_5 : decode cX8_hasBow 5 = .ok (.aload_n 0, 1) := by decide +kernel
theorem dX8_hasBow_6 : decode cX8_hasBow 6 = .ok (.getfield 40, 3) := by decide +kernel
theorem dX8_hasBow_9 : decode cX8_hasBow 9 = .ok (.if_icmp .ge 7, 3) := by decide +kernel
theorem dX8_hasBow_12 : decode cX8_hasBow 12 = .ok (.iconst 1, 1) := by decide +kernel
theorem dX8_hasBow_13 : decode cX8_hasBow 13 = .ok (.goto 4, 3) := by decide +kernel
theorem dX8_hasBow_16 : decode cX8_hasBow 16 = .ok (.iconst 0, 1) := by decide +kernel
theorem dX8_hasBow_17 : decode cX8_hasBow 17 = .ok (.ireturn, 1) := by decide +kernel
set_option maxRecDepth 100000 in
theorem sgX8_hasBow_0 {d : Nat} {I : st_I} {L : st_L} {F : Int32 → st_I → st_L → Prop} {a1 : Int32} (h : F (if a1 < 0 then (0 : Int32) else (if (I 1 2) ≤ a1 then (0 : Int32) else 1)) I L) : EI d mX8_hasBow [.ref 1, .int a1] I L F := by
  refine Ev_of (ls0 := 0) (by decide +kernel) rfl rfl rfl ?_
  refine T_iload_n dX8_hasBow_0 rfl ?_
  refine T_if_lt (tgt := 16) dX8_hasBow_1 (by decide) (tq_itv (fun v => T shp d mX8_hasBow 17 [.ref 1, .int a1] (.int v :: []) I L (kI F)) 0 (if (I 1 2) ≤ a1 then (0 : Int32) else 1) (fun hJ => ?_) (fun hJ => ?_) ?_)
  ·
      refine T_iconst (v := 0) dX8_hasBow_16 (by decide +kernel) ?_
      exact hJ
  ·
      refine T_iload_n dX8_hasBow_4 rfl ?_
      refine T_aload_n dX8_hasBow_5 rfl ?_
      refine T_getv (v := (I 1 2)) dX8_hasBow_6 fl_RX8_40 shp_1 rfl rfl ?_
      refine T_icmp_ge (tgt := 16) dX8_hasBow_9 (by decide) (tq_itv (fun v => T shp d mX8_hasBow 17 [.ref 1, .int a1] (.int v :: []) I L (kI F)) 0 1 (fun hJ => ?_) (fun hJ => ?_) hJ)
      ·
        refine T_iconst (v := 0) dX8_hasBow_16 (by decide +kernel) ?_
        exact hJ
      ·
        refine T_iconst (v := 1) dX8_hasBow_12 (by decide +kernel) ?_
        refine T_goto (tgt := 17) dX8_hasBow_13 (by decide) ?_
        exact hJ
  exact S_zret rfl dX8_hasBow_17 (by (repeat' split) <;> first | exact Or.inl rfl | exact Or.inr rfl) h

theorem dX8_hasLaw_0 : decode cX8_hasLaw 0 = .ok (.iload_n 1, 1) := by decide +kernel
theorem dX8_hasLaw_1 : decode cX8_hasLaw 1 = .ok (.ifCond .lt 15, 3) := by decide +kernel
theorem dX8_hasLaw_4 : decode cX8_hasLaw 4 = .ok (.iload_n 1, 1) := by decide +kernel
theorem dX8_hasLaw_5 : decode cX8_hasLaw 5 = .ok (.aload_n 0, 1) := by decide +kernel
theorem dX8_hasLaw_6 : decode cX8_hasLaw 6 = .ok (.getfield 43, 3) := by decide +kernel
theorem dX8_hasLaw_9 : decode cX8_hasLaw 9 = .ok (.if_icmp .ge 7, 3) := by decide +kernel
theorem dX8_hasLaw_12 : decode cX8_hasLaw 12 = .ok (.iconst 1, 1) := by decide +kernel
theorem dX8_hasLaw_13 : decode cX8_hasLaw 13 = .ok (.goto 4, 3) := by decide +kernel
theorem dX8_hasLaw_16 : decode cX8_hasLaw 16 = .ok (.iconst 0, 1) := by decide +kernel
theorem dX8_hasLaw_17 : decode cX8_hasLaw 17 = .ok (.ireturn, 1) := by decide +kernel
set_option maxRecDepth 100000 in
theorem sgX8_hasLaw_0 {d : Nat} {I : st_I} {L : st_L} {F : Int32 → st_I → st_L → Prop} {a1 : Int32} (h : F (if a1 < 0 then (0 : Int32) else (if (I 1 3) ≤ a1 then (0 : Int32) else 1)) I L) : EI d mX8_hasLaw [.ref 1, .int a1] I L F := by
  refine Ev_of (ls0 := 0) (by decide +kernel) rfl rfl rfl ?_
  refine T_iload_n dX8_hasLaw_0 rfl ?_
  refine T_if_lt (tgt := 16) dX8_hasLaw_1 (by decide) (tq_itv (fun v => T shp d mX8_hasLaw 17 [.ref 1, .int a1] (.int v :: []) I L (kI F)) 0 (if (I 1 3) ≤ a1 then (0 : Int32) else 1) (fun hJ => ?_) (fun hJ => ?_) ?_)
  ·
      refine T_iconst (v := 0) dX8_hasLaw_16 (by decide +kernel) ?_
      exact hJ
  ·
      refine T_iload_n dX8_hasLaw_4 rfl ?_
      refine T_aload_n dX8_hasLaw_5 rfl ?_
      refine T_getv (v := (I 1 3)) dX8_hasLaw_6 fl_RX8_43 shp_1 rfl rfl ?_
      refine T_icmp_ge (tgt := 16) dX8_hasLaw_9 (by decide) (tq_itv (fun v => T shp d mX8_hasLaw 17 [.ref 1, .int a1] (.int v :: []) I L (kI F)) 0 1 (fun hJ => ?_) (fun hJ => ?_) hJ)
      ·
        refine T_iconst (v := 0) dX8_hasLaw_16 (by decide +kernel) ?_
        exact hJ
      ·
        refine T_iconst (v := 1) dX8_hasLaw_12 (by decide +kernel) ?_
        refine T_goto (tgt := 17) dX8_hasLaw_13 (by decide) ?_
        exact hJ
  exact S_zret rfl dX8_hasLaw_17 (by (repeat' split) <;> first | exact Or.inl rfl | exact Or.inr rfl) h

theorem dX8_hasPlan_0 : decode cX8_hasPlan 0 = .ok (.iload_n 1, 1) := by decide +kernel
theorem dX8_hasPlan_1 : decode cX8_hasPlan 1 = .ok (.ifCond .lt 15, 3) := by decide +kernel
theorem dX8_hasPlan_4 : decode cX8_hasPlan 4 = .ok (.iload_n 1, 1) := by decide +kernel
theorem dX8_hasPlan_5 : decode cX8_hasPlan 5 = .ok (.aload_n 0, 1) := by decide +kernel
theorem dX8_hasPlan_6 : decode cX8_hasPlan 6 = .ok (.getfield 46, 3) := by decide +kernel
theorem dX8_hasPlan_9 : decode cX8_hasPlan 9 = .ok (.if_icmp .ge 7, 3) := by decide +kernel
theorem dX8_hasPlan_12 : decode cX8_hasPlan 12 = .ok (.iconst 1, 1) := by decide +kernel
theorem dX8_hasPlan_13 : decode cX8_hasPlan 13 = .ok (.goto 4, 3) := by decide +kernel
theorem dX8_hasPlan_16 : decode cX8_hasPlan 16 = .ok (.iconst 0, 1) := by decide +kernel
theorem dX8_hasPlan_17 : decode cX8_hasPlan 17 = .ok (.ireturn, 1) := by decide +kernel
set_option maxRecDepth 100000 in
theorem sgX8_hasPlan_0 {d : Nat} {I : st_I} {L : st_L} {F : Int32 → st_I → st_L → Prop} {a1 : Int32} (h : F (if a1 < 0 then (0 : Int32) else (if (I 1 4) ≤ a1 then (0 : Int32) else 1)) I L) : EI d mX8_hasPlan [.ref 1, .int a1] I L F := by
  refine Ev_of (ls0 := 0) (by decide +kernel) rfl rfl rfl ?_
  refine T_iload_n dX8_hasPlan_0 rfl ?_
  refine T_if_lt (tgt := 16) dX8_hasPlan_1 (by decide) (tq_itv (fun v => T shp d mX8_hasPlan 17 [.ref 1, .int a1] (.int v :: []) I L (kI F)) 0 (if (I 1 4) ≤ a1 then (0 : Int32) else 1) (fun hJ => ?_) (fun hJ => ?_) ?_)
  ·
      refine T_iconst (v := 0) dX8_hasPlan_16 (by decide +kernel) ?_
      exact hJ
  ·
      refine T_iload_n dX8_hasPlan_4 rfl ?_
      refine T_aload_n dX8_hasPlan_5 rfl ?_
      refine T_getv (v := (I 1 4)) dX8_hasPlan_6 fl_RX8_46 shp_1 rfl rfl ?_
      refine T_icmp_ge (tgt := 16) dX8_hasPlan_9 (by decide) (tq_itv (fun v => T shp d mX8_hasPlan 17 [.ref 1, .int a1] (.int v :: []) I L (kI F)) 0 1 (fun hJ => ?_) (fun hJ => ?_) hJ)
      ·
        refine T_iconst (v := 0) dX8_hasPlan_16 (by decide +kernel) ?_
        exact hJ
      ·
        refine T_iconst (v := 1) dX8_hasPlan_12 (by decide +kernel) ?_
        refine T_goto (tgt := 17) dX8_hasPlan_13 (by decide) ?_
        exact hJ
  exact S_zret rfl dX8_hasPlan_17 (by (repeat' split) <;> first | exact Or.inl rfl | exact Or.inr rfl) h

theorem dX8_hasSitting_0 : decode cX8_hasSitting 0 = .ok (.iload_n 2, 1) := by decide +kernel
theorem dX8_hasSitting_1 : decode cX8_hasSitting 1 = .ok (.ifCond .lt 16, 3) := by decide +kernel
theorem dX8_hasSitting_4 : decode cX8_hasSitting 4 = .ok (.iload_n 2, 1) := by decide +kernel
theorem dX8_hasSitting_5 : decode cX8_hasSitting 5 = .ok (.aload_n 0, 1) := by decide +kernel
theorem dX8_hasSitting_6 : decode cX8_hasSitting 6 = .ok (.iload_n 1, 1) := by decide +kernel
theorem dX8_hasSitting_7 : decode cX8_hasSitting 7 = .ok (.invokevirtual 49, 3) := by decide +kernel
theorem dX8_hasSitting_10 : decode cX8_hasSitting 10 = .ok (.if_icmp .ge 7, 3) := by decide +kernel
theorem dX8_hasSitting_13 : decode cX8_hasSitting 13 = .ok (.iconst 1, 1) := by decide +kernel
theorem dX8_hasSitting_14 : decode cX8_hasSitting 14 = .ok (.goto 4, 3) := by decide +kernel
theorem dX8_hasSitting_17 : decode cX8_hasSitting 17 = .ok (.iconst 0, 1) := by decide +kernel
theorem dX8_hasSitting_18 : decode cX8_hasSitting 18 = .ok (.ireturn, 1) := by decide +kernel
set_option maxRecDepth 100000 in
theorem sgX8_hasSitting_0 {d : Nat} {I : st_I} {L : st_L} {F : Int32 → st_I → st_L → Prop} {a1 : Int32} {a2 : Int32} (h : (if a2 < 0 then F 0 I L else EI d mX8_sits [.ref 1, .int a1] I L (fun r1 I1 L1 => (if r1 ≤ a2 then F 0 I1 L1 else F 1 I1 L1)))) : EI (d + 1) mX8_hasSitting [.ref 1, .int a1, .int a2] I L F := by
  refine Ev_of (ls0 := 0) (by decide +kernel) rfl rfl rfl ?_
  refine T_iload_n dX8_hasSitting_0 rfl ?_
  refine T_if_lt (tgt := 17) dX8_hasSitting_1 (by decide) (tq_ite h (fun h => ?_) (fun h => ?_))
  ·
    refine T_iconst (v := 0) dX8_hasSitting_17 (by decide +kernel) ?_
    exact S_zret rfl dX8_hasSitting_18 (by decide) h
  ·
    refine T_iload_n dX8_hasSitting_4 rfl ?_
    refine T_aload_n dX8_hasSitting_5 rfl ?_
    refine T_iload_n dX8_hasSitting_6 rfl ?_
    refine S_callVI (M' := mX8_sits) [.int a1] [.int a2] dX8_hasSitting_7 ml_RX8_49 mkX8_sits rfl shp_1 rfl rfl rfl (Nat.le_of_ble_eq_true rfl) h (fun r1 I1 L1 h => ?_)
    refine T_icmp_ge (tgt := 17) dX8_hasSitting_10 (by decide) (tq_ite h (fun h => ?_) (fun h => ?_))
    ·
      refine T_iconst (v := 0) dX8_hasSitting_17 (by decide +kernel) ?_
      exact S_zret rfl dX8_hasSitting_18 (by decide) h
    ·
      refine T_iconst (v := 1) dX8_hasSitting_13 (by decide +kernel) ?_
      refine T_goto (tgt := 18) dX8_hasSitting_14 (by decide) ?_
      exact S_zret rfl dX8_hasSitting_18 (by decide) h

theorem dX8_hasMeeting_0 : decode cX8_hasMeeting 0 = .ok (.aload_n 0, 1) := by decide +kernel
theorem dX8_hasMeeting_1 : decode cX8_hasMeeting 1 = .ok (.iload_n 1, 1) := by decide +kernel
theorem dX8_hasMeeting_2 : decode cX8_hasMeeting 2 = .ok (.invokevirtual 53, 3) := by decide +kernel
theorem dX8_hasMeeting_5 : decode cX8_hasMeeting 5 = .ok (.ifCond .eq 23, 3) := by decide +kernel
theorem dX8_hasMeeting_8 : decode cX8_hasMeeting 8 = .ok (.aload_n 0, 1) := by decide +kernel
theorem dX8_hasMeeting_9 : decode cX8_hasMeeting 9 = .ok (.iload_n 2, 1) := by decide +kernel
theorem dX8_hasMeeting_10 : decode cX8_hasMeeting 10 = .ok (.invokevirtual 57, 3) := by decide +kernel
theorem dX8_hasMeeting_13 : decode cX8_hasMeeting 13 = .ok (.ifCond .eq 15, 3) := by decide +kernel
theorem dX8_hasMeeting_16 : decode cX8_hasMeeting 16 = .ok (.aload_n 0, 1) := by decide +kernel
theorem dX8_hasMeeting_17 : decode cX8_hasMeeting 17 = .ok (.iload_n 3, 1) := by decide +kernel
theorem dX8_hasMeeting_18 : decode cX8_hasMeeting 18 = .ok (.invokevirtual 60, 3) := by decide +kernel
theorem dX8_hasMeeting_21 : decode cX8_hasMeeting 21 = .ok (.ifCond .eq 7, 3) := by decide +kernel
theorem dX8_hasMeeting_24 : decode cX8_hasMeeting 24 = .ok (.iconst 1, 1) := by decide +kernel
theorem dX8_hasMeeting_25 : decode cX8_hasMeeting 25 = .ok (.goto 4, 3) := by decide +kernel
theorem dX8_hasMeeting_28 : decode cX8_hasMeeting 28 = .ok (.iconst 0, 1) := by decide +kernel
theorem dX8_hasMeeting_29 : decode cX8_hasMeeting 29 = .ok (.ireturn, 1) := by decide +kernel
set_option maxRecDepth 100000 in
theorem sgX8_hasMeeting_0 {d : Nat} {I : st_I} {L : st_L} {F : Int32 → st_I → st_L → Prop} {a1 : Int32} {a2 : Int32} {a3 : Int32} (h : EI d mX8_hasPerson [.ref 1, .int a1] I L (fun r1 I1 L1 => (if r1 = 0 then F 0 I1 L1 else EI d mX8_hasFiddle [.ref 1, .int a2] I1 L1 (fun r2 I2 L2 => (if r2 = 0 then F 0 I2 L2 else EI d mX8_hasBow [.ref 1, .int a3] I2 L2 (fun r3 I3 L3 => (if r3 = 0 then F 0 I3 L3 else F 1 I3 L3))))))) : EI (d + 1) mX8_hasMeeting [.ref 1, .int a1, .int a2, .int a3] I L F := by
  refine Ev_of (ls0 := 0) (by decide +kernel) rfl rfl rfl ?_
  refine T_aload_n dX8_hasMeeting_0 rfl ?_
  refine T_iload_n dX8_hasMeeting_1 rfl ?_
  refine S_callVI (M' := mX8_hasPerson) [.int a1] [] dX8_hasMeeting_2 ml_RX8_53 mkX8_hasPerson rfl shp_1 rfl rfl rfl (Nat.le_of_ble_eq_true rfl) h (fun r1 I1 L1 h => ?_)
  refine T_if_eq (tgt := 28) dX8_hasMeeting_5 (by decide) (tq_ite h (fun h => ?_) (fun h => ?_))
  ·
    refine T_iconst (v := 0) dX8_hasMeeting_28 (by decide +kernel) ?_
    exact S_zret rfl dX8_hasMeeting_29 (by decide) h
  ·
    refine T_aload_n dX8_hasMeeting_8 rfl ?_
    refine T_iload_n dX8_hasMeeting_9 rfl ?_
    refine S_callVI (M' := mX8_hasFiddle) [.int a2] [] dX8_hasMeeting_10 ml_RX8_57 mkX8_hasFiddle rfl shp_1 rfl rfl rfl (Nat.le_of_ble_eq_true rfl) h (fun r2 I2 L2 h => ?_)
    refine T_if_eq (tgt := 28) dX8_hasMeeting_13 (by decide) (tq_ite h (fun h => ?_) (fun h => ?_))
    ·
      refine T_iconst (v := 0) dX8_hasMeeting_28 (by decide +kernel) ?_
      exact S_zret rfl dX8_hasMeeting_29 (by decide) h
    ·
      refine T_aload_n dX8_hasMeeting_16 rfl ?_
      refine T_iload_n dX8_hasMeeting_17 rfl ?_
      refine S_callVI (M' := mX8_hasBow) [.int a3] [] dX8_hasMeeting_18 ml_RX8_60 mkX8_hasBow rfl shp_1 rfl rfl rfl (Nat.le_of_ble_eq_true rfl) h (fun r3 I3 L3 h => ?_)
      refine T_if_eq (tgt := 28) dX8_hasMeeting_21 (by decide) (tq_ite h (fun h => ?_) (fun h => ?_))
      ·
        refine T_iconst (v := 0) dX8_hasMeeting_28 (by decide +kernel) ?_
        exact S_zret rfl dX8_hasMeeting_29 (by decide) h
      ·
        refine T_iconst (v := 1) dX8_hasMeeting_24 (by decide +kernel) ?_
        refine T_goto (tgt := 29) dX8_hasMeeting_25 (by decide) ?_
        exact S_zret rfl dX8_hasMeeting_29 (by decide) h

theorem dX8_isOld_0 : decode cX8_isOld 0 = .ok (.aload_n 0, 1) := by decide +kernel
theorem dX8_isOld_1 : decode cX8_isOld 1 = .ok (.iload_n 1, 1) := by decide +kernel
theorem dX8_isOld_2 : decode cX8_isOld 2 = .ok (.invokevirtual 57, 3) := by decide +kernel
theorem dX8_isOld_5 : decode cX8_isOld 5 = .ok (.ifCond .eq 19, 3) := by decide +kernel
theorem dX8_isOld_8 : decode cX8_isOld 8 = .ok (.aload_n 0, 1) := by decide +kernel
theorem dX8_isOld_9 : decode cX8_isOld 9 = .ok (.getfield 9, 3) := by decide +kernel
theorem dX8_isOld_12 : decode cX8_isOld 12 = .ok (.iload_n 1, 1) := by decide +kernel
theorem dX8_isOld_13 : decode cX8_isOld 13 = .ok (.iconst 5, 1) := by decide +kernel
theorem dX8_isOld_14 : decode cX8_isOld 14 = .ok (.imul, 1) := by decide +kernel
theorem dX8_isOld_15 : decode cX8_isOld 15 = .ok (.iaload, 1) := by decide +kernel
theorem dX8_isOld_16 : decode cX8_isOld 16 = .ok (.iconst 1, 1) := by decide +kernel
theorem dX8_isOld_17 : decode cX8_isOld 17 = .ok (.if_icmp .ne 7, 3) := by decide +kernel
theorem dX8_isOld_20 : decode cX8_isOld 20 = .ok (.iconst 1, 1) := by decide +kernel
theorem dX8_isOld_21 : decode cX8_isOld 21 = .ok (.goto 4, 3) := by decide +kernel
theorem dX8_isOld_24 : decode cX8_isOld 24 = .ok (.iconst 0, 1) := by decide +kernel
theorem dX8_isOld_25 : decode cX8_isOld 25 = .ok (.ireturn, 1) := by decide +kernel
set_option maxRecDepth 100000 in
theorem sgX8_isOld_0 {d : Nat} {I : st_I} {L : st_L} {F : Int32 → st_I → st_L → Prop} {a1 : Int32} (h : EI d mX8_hasFiddle [.ref 1, .int a1] I L (fun r1 I1 L1 => (if r1 = 0 then F 0 I1 L1 else vp_in (a1 * 5) 40 ∧ (if (I1 2 ((a1 * 5).toNatClampNeg)) = 1 then F 1 I1 L1 else F 0 I1 L1)))) : EI (d + 1) mX8_isOld [.ref 1, .int a1] I L F := by
  refine Ev_of (ls0 := 0) (by decide +kernel) rfl rfl rfl ?_
  refine T_aload_n dX8_isOld_0 rfl ?_
  refine T_iload_n dX8_isOld_1 rfl ?_
  refine S_callVI (M' := mX8_hasFiddle) [.int a1] [] dX8_isOld_2 ml_RX8_57 mkX8_hasFiddle rfl shp_1 rfl rfl rfl (Nat.le_of_ble_eq_true rfl) h (fun r1 I1 L1 h => ?_)
  refine T_if_eq (tgt := 24) dX8_isOld_5 (by decide) (tq_ite h (fun h => ?_) (fun h => ?_))
  ·
    refine T_iconst (v := 0) dX8_isOld_24 (by decide +kernel) ?_
    exact S_zret rfl dX8_isOld_25 (by decide) h
  ·
    refine T_aload_n dX8_isOld_8 rfl ?_
    refine T_getr dX8_isOld_9 fl_RX8_9 shp_1 rfl ?_
    refine T_iload_n dX8_isOld_12 rfl ?_
    refine T_iconst (v := 5) dX8_isOld_13 (by decide +kernel) ?_
    refine T_imul dX8_isOld_14 ?_
    refine T_ialdv (v := (I1 2 ((a1 * 5).toNatClampNeg))) (j := (a1 * 5).toNatClampNeg) dX8_isOld_15 shp_2 h.1 rfl rfl ?_
    replace h := h.2
    refine T_iconst (v := 1) dX8_isOld_16 (by decide +kernel) ?_
    refine T_icmp_ne (tgt := 24) dX8_isOld_17 (by decide) (tq_ite h (fun h => ?_) (fun h => ?_))
    ·
      refine T_iconst (v := 1) dX8_isOld_20 (by decide +kernel) ?_
      refine T_goto (tgt := 25) dX8_isOld_21 (by decide) ?_
      exact S_zret rfl dX8_isOld_25 (by decide) h
    ·
      refine T_iconst (v := 0) dX8_isOld_24 (by decide +kernel) ?_
      exact S_zret rfl dX8_isOld_25 (by decide) h

theorem dX8_isPlayer_0 : decode cX8_isPlayer 0 = .ok (.aload_n 0, 1) := by decide +kernel
theorem dX8_isPlayer_1 : decode cX8_isPlayer 1 = .ok (.iload_n 1, 1) := by decide +kernel
theorem dX8_isPlayer_2 : decode cX8_isPlayer 2 = .ok (.invokevirtual 53, 3) := by decide +kernel
theorem dX8_isPlayer_5 : decode cX8_isPlayer 5 = .ok (.ifCond .eq 18, 3) := by decide +kernel
theorem dX8_isPlayer_8 : decode cX8_isPlayer 8 = .ok (.aload_n 0, 1) := by decide +kernel
theorem dX8_isPlayer_9 : decode cX8_isPlayer 9 = .ok (.getfield 15, 3) := by decide +kernel
theorem dX8_isPlayer_12 : decode cX8_isPlayer 12 = .ok (.iload_n 1, 1) := by decide +kernel
theorem dX8_isPlayer_13 : decode cX8_isPlayer 13 = .ok (.iconst 5, 1) := by decide +kernel
theorem dX8_isPlayer_14 : decode cX8_isPlayer 14 = .ok (.imul, 1) := by decide +kernel
theorem dX8_isPlayer_15 : decode cX8_isPlayer 15 = .ok (.iaload, 1) := by decide +kernel
theorem dX8_isPlayer_16 : decode cX8_isPlayer 16 = .ok (.ifCond .ne 7, 3) := by decide +kernel
theorem dX8_isPlayer_19 : decode cX8_isPlayer 19 = .ok (.iconst 1, 1) := by decide +kernel
theorem dX8_isPlayer_20 : decode cX8_isPlayer 20 = .ok (.goto 4, 3) := by decide +kernel
theorem dX8_isPlayer_23 : decode cX8_isPlayer 23 = .ok (.iconst 0, 1) := by decide +kernel
theorem dX8_isPlayer_24 : decode cX8_isPlayer 24 = .ok (.ireturn, 1) := by decide +kernel
set_option maxRecDepth 100000 in
theorem sgX8_isPlayer_0 {d : Nat} {I : st_I} {L : st_L} {F : Int32 → st_I → st_L → Prop} {a1 : Int32} (h : EI d mX8_hasPerson [.ref 1, .int a1] I L (fun r1 I1 L1 => (if r1 = 0 then F 0 I1 L1 else vp_in (a1 * 5) 50 ∧ (if (I1 3 ((a1 * 5).toNatClampNeg)) = 0 then F 1 I1 L1 else F 0 I1 L1)))) : EI (d + 1) mX8_isPlayer [.ref 1, .int a1] I L F := by
  refine Ev_of (ls0 := 0) (by decide +kernel) rfl rfl rfl ?_
  refine T_aload_n dX8_isPlayer_0 rfl ?_
  refine T_iload_n dX8_isPlayer_1 rfl ?_
  refine S_callVI (M' := mX8_hasPerson) [.int a1] [] dX8_isPlayer_2 ml_RX8_53 mkX8_hasPerson rfl shp_1 rfl rfl rfl (Nat.le_of_ble_eq_true rfl) h (fun r1 I1 L1 h => ?_)
  refine T_if_eq (tgt := 23) dX8_isPlayer_5 (by decide) (tq_ite h (fun h => ?_) (fun h => ?_))
  ·
    refine T_iconst (v := 0) dX8_isPlayer_23 (by decide +kernel) ?_
    exact S_zret rfl dX8_isPlayer_24 (by decide) h
  ·
    refine T_aload_n dX8_isPlayer_8 rfl ?_
    refine T_getr dX8_isPlayer_9 fl_RX8_15 shp_1 rfl ?_
    refine T_iload_n dX8_isPlayer_12 rfl ?_
    refine T_iconst (v := 5) dX8_isPlayer_13 (by decide +kernel) ?_
    refine T_imul dX8_isPlayer_14 ?_
    refine T_ialdv (v := (I1 3 ((a1 * 5).toNatClampNeg))) (j := (a1 * 5).toNatClampNeg) dX8_isPlayer_15 shp_3 h.1 rfl rfl ?_
    replace h := h.2
    refine T_if_ne (tgt := 23) dX8_isPlayer_16 (by decide) (tq_ite h (fun h => ?_) (fun h => ?_))
    ·
      refine T_iconst (v := 1) dX8_isPlayer_19 (by decide +kernel) ?_
      refine T_goto (tgt := 24) dX8_isPlayer_20 (by decide) ?_
      exact S_zret rfl dX8_isPlayer_24 (by decide) h
    ·
      refine T_iconst (v := 0) dX8_isPlayer_23 (by decide +kernel) ?_
      exact S_zret rfl dX8_isPlayer_24 (by decide) h

theorem dX8_sits_0 : decode cX8_sits 0 = .ok (.aload_n 0, 1) := by decide +kernel
theorem dX8_sits_1 : decode cX8_sits 1 = .ok (.iload_n 1, 1) := by decide +kernel
theorem dX8_sits_2 : decode cX8_sits 2 = .ok (.invokevirtual 63, 3) := by decide +kernel
theorem dX8_sits_5 : decode cX8_sits 5 = .ok (.ifCond .eq 12, 3) := by decide +kernel
theorem dX8_sits_8 : decode cX8_sits 8 = .ok (.aload_n 0, 1) := by decide +kernel
theorem dX8_sits_9 : decode cX8_sits 9 = .ok (.getfield 27, 3) := by decide +kernel
theorem dX8_sits_12 : decode cX8_sits 12 = .ok (.iload_n 1, 1) := by decide +kernel
theorem dX8_sits_13 : decode cX8_sits 13 = .ok (.iaload, 1) := by decide +kernel
theorem dX8_sits_14 : decode cX8_sits 14 = .ok (.goto 4, 3) := by decide +kernel
theorem dX8_sits_17 : decode cX8_sits 17 = .ok (.iconst 0, 1) := by decide +kernel
theorem dX8_sits_18 : decode cX8_sits 18 = .ok (.ireturn, 1) := by decide +kernel
set_option maxRecDepth 100000 in
theorem sgX8_sits_0 {d : Nat} {I : st_I} {L : st_L} {F : Int32 → st_I → st_L → Prop} {a1 : Int32} (h : EI d mX8_hasPlan [.ref 1, .int a1] I L (fun r1 I1 L1 => (if r1 = 0 then F 0 I1 L1 else vp_in a1 4 ∧ F (I1 7 (a1.toNatClampNeg)) I1 L1))) : EI (d + 1) mX8_sits [.ref 1, .int a1] I L F := by
  refine Ev_of (ls0 := 0) (by decide +kernel) rfl rfl rfl ?_
  refine T_aload_n dX8_sits_0 rfl ?_
  refine T_iload_n dX8_sits_1 rfl ?_
  refine S_callVI (M' := mX8_hasPlan) [.int a1] [] dX8_sits_2 ml_RX8_63 mkX8_hasPlan rfl shp_1 rfl rfl rfl (Nat.le_of_ble_eq_true rfl) h (fun r1 I1 L1 h => ?_)
  refine T_if_eq (tgt := 17) dX8_sits_5 (by decide) (tq_ite h (fun h => ?_) (fun h => ?_))
  ·
    refine T_iconst (v := 0) dX8_sits_17 (by decide +kernel) ?_
    exact S_iret rfl dX8_sits_18 h
  ·
    refine T_aload_n dX8_sits_8 rfl ?_
    refine T_getr dX8_sits_9 fl_RX8_27 shp_1 rfl ?_
    refine T_iload_n dX8_sits_12 rfl ?_
    refine T_ialdv (v := (I1 7 (a1.toNatClampNeg))) (j := a1.toNatClampNeg) dX8_sits_13 shp_7 h.1 rfl rfl ?_
    replace h := h.2
    refine T_goto (tgt := 18) dX8_sits_14 (by decide) ?_
    exact S_iret rfl dX8_sits_18 h

theorem dX8_sat_0 : decode cX8_sat 0 = .ok (.aload_n 0, 1) := by decide +kernel
theorem dX8_sat_1 : decode cX8_sat 1 = .ok (.iload_n 1, 1) := by decide +kernel
theorem dX8_sat_2 : decode cX8_sat 2 = .ok (.iload_n 2, 1) := by decide +kernel
theorem dX8_sat_3 : decode cX8_sat 3 = .ok (.invokevirtual 66, 3) := by decide +kernel
theorem dX8_sat_6 : decode cX8_sat 6 = .ok (.ifCond .eq 13, 3) := by decide +kernel
theorem dX8_sat_9 : decode cX8_sat 9 = .ok (.iload_n 3, 1) := by decide +kernel
theorem dX8_sat_10 : decode cX8_sat 10 = .ok (.ifCond .lt 9, 3) := by decide +kernel
theorem dX8_sat_13 : decode cX8_sat 13 = .ok (.iload_n 3, 1) := by decide +kernel
theorem dX8_sat_14 : decode cX8_sat 14 = .ok (.bipush 10, 2) := by decide +kernel
theorem dX8_sat_16 : decode cX8_sat 16 = .ok (.if_icmp .lt 5, 3) := by decide +kernel
theorem dX8_sat_19 : decode cX8_sat 19 = .ok (.iconst (-1), 1) := by decide +kernel
theorem dX8_sat_20 : decode cX8_sat 20 = .ok (.ireturn, 1) := by decide +kernel
theorem dX8_sat_21 : decode cX8_sat 21 = .ok (.aload_n 0, 1) := by decide +kernel
theorem dX8_sat_22 : decode cX8_sat 22 = .ok (.getfield 30, 3) := by decide +kernel
theorem dX8_sat_25 : decode cX8_sat 25 = .ok (.iload_n 1, 1) := by decide +kernel
theorem dX8_sat_26 : decode cX8_sat 26 = .ok (.bipush 12, 2) := by decide +kernel
theorem dX8_sat_28 : decode cX8_sat 28 = .ok (.imul, 1) := by decide +kernel
theorem dX8_sat_29 : decode cX8_sat 29 = .ok (.iload_n 2, 1) := by decide +kernel
theorem dX8_sat_30 : decode cX8_sat 30 = .ok (.iadd, 1) := by decide +kernel
theorem dX8_sat_31 : decode cX8_sat 31 = .ok (.bipush 10, 2) := by decide +kernel
theorem dX8_sat_33 : decode cX8_sat 33 = .ok (.imul, 1) := by decide +kernel
theorem dX8_sat_34 : decode cX8_sat 34 = .ok (.iload_n 3, 1) := by decide +kernel
theorem dX8_sat_35 : decode cX8_sat 35 = .ok (.iadd, 1) := by decide +kernel
theorem dX8_sat_36 : decode cX8_sat 36 = .ok (.iaload, 1) := by decide +kernel
theorem dX8_sat_37 : decode cX8_sat 37 = .ok (.ireturn, 1) := by decide +kernel
set_option maxRecDepth 100000 in
theorem sgX8_sat_0 {d : Nat} {I : st_I} {L : st_L} {F : Int32 → st_I → st_L → Prop} {a1 : Int32} {a2 : Int32} {a3 : Int32} (h : EI d mX8_hasSitting [.ref 1, .int a1, .int a2] I L (fun r1 I1 L1 => (if r1 = 0 then F (-1) I1 L1 else (if a3 < 0 then F (-1) I1 L1 else (if a3 < 10 then vp_in ((((a1 * 12) + a2) * 10) + a3) 480 ∧ F (I1 8 (((((a1 * 12) + a2) * 10) + a3).toNatClampNeg)) I1 L1 else F (-1) I1 L1))))) : EI (d + 1) mX8_sat [.ref 1, .int a1, .int a2, .int a3] I L F := by
  refine Ev_of (ls0 := 0) (by decide +kernel) rfl rfl rfl ?_
  refine T_aload_n dX8_sat_0 rfl ?_
  refine T_iload_n dX8_sat_1 rfl ?_
  refine T_iload_n dX8_sat_2 rfl ?_
  refine S_callVI (M' := mX8_hasSitting) [.int a1, .int a2] [] dX8_sat_3 ml_RX8_66 mkX8_hasSitting rfl shp_1 rfl rfl rfl (Nat.le_of_ble_eq_true rfl) h (fun r1 I1 L1 h => ?_)
  refine T_if_eq (tgt := 19) dX8_sat_6 (by decide) (tq_ite h (fun h => ?_) (fun h => ?_))
  ·
    refine T_iconst (v := (-1)) dX8_sat_19 (by decide +kernel) ?_
    exact S_iret rfl dX8_sat_20 h
  ·
    refine T_iload_n dX8_sat_9 rfl ?_
    refine T_if_lt (tgt := 19) dX8_sat_10 (by decide) (tq_ite h (fun h => ?_) (fun h => ?_))
    ·
      refine T_iconst (v := (-1)) dX8_sat_19 (by decide +kernel) ?_
      exact S_iret rfl dX8_sat_20 h
    ·
      refine T_iload_n dX8_sat_13 rfl ?_
      refine T_bipush (v := 10) dX8_sat_14 (by decide +kernel) ?_
      refine T_icmp_lt (tgt := 21) dX8_sat_16 (by decide) (tq_ite h (fun h => ?_) (fun h => ?_))
      ·
        refine T_aload_n dX8_sat_21 rfl ?_
        refine T_getr dX8_sat_22 fl_RX8_30 shp_1 rfl ?_
        refine T_iload_n dX8_sat_25 rfl ?_
        refine T_bipush (v := 12) dX8_sat_26 (by decide +kernel) ?_
        refine T_imul dX8_sat_28 ?_
        refine T_iload_n dX8_sat_29 rfl ?_
        refine T_iadd dX8_sat_30 ?_
        refine T_bipush (v := 10) dX8_sat_31 (by decide +kernel) ?_
        refine T_imul dX8_sat_33 ?_
        refine T_iload_n dX8_sat_34 rfl ?_
        refine T_iadd dX8_sat_35 ?_
        refine T_ialdv (v := (I1 8 (((((a1 * 12) + a2) * 10) + a3).toNatClampNeg))) (j := ((((a1 * 12) + a2) * 10) + a3).toNatClampNeg) dX8_sat_36 shp_8 h.1 rfl rfl ?_
        replace h := h.2
        exact S_iret rfl dX8_sat_37 h
      ·
        refine T_iconst (v := (-1)) dX8_sat_19 (by decide +kernel) ?_
        exact S_iret rfl dX8_sat_20 h

theorem dX8_lawStart_0 : decode cX8_lawStart 0 = .ok (.iload_n 1, 1) := by decide +kernel
theorem dX8_lawStart_1 : decode cX8_lawStart 1 = .ok (.ifCond .le 22, 3) := by decide +kernel
theorem dX8_lawStart_4 : decode cX8_lawStart 4 = .ok (.aload_n 0, 1) := by decide +kernel
theorem dX8_lawStart_5 : decode cX8_lawStart 5 = .ok (.iload_n 1, 1) := by decide +kernel
theorem dX8_lawStart_6 : decode cX8_lawStart 6 = .ok (.invokevirtual 70, 3) := by decide +kernel
theorem dX8_lawStart_9 : decode cX8_lawStart 9 = .ok (.ifCond .eq 14, 3) := by decide +kernel
theorem dX8_lawStart_12 : decode cX8_lawStart 12 = .ok (.aload_n 0, 1) := by decide +kernel
theorem dX8_lawStart_13 : decode cX8_lawStart 13 = .ok (.getfield 24, 3) := by decide +kernel
theorem dX8_lawStart_16 : decode cX8_lawStart 16 = .ok (.iload_n 1, 1) := by decide +kernel
theorem dX8_lawStart_17 : decode cX8_lawStart 17 = .ok (.iconst 1, 1) := by decide +kernel
theorem dX8_lawStart_18 : decode cX8_lawStart 18 = .ok (.isub, 1) := by decide +kernel
theorem dX8_lawStart_19 : decode cX8_lawStart 19 = .ok (.iaload, 1) := by decide +kernel
theorem dX8_lawStart_20 : decode cX8_lawStart 20 = .ok (.goto 4, 3) := by decide +kernel
theorem dX8_lawStart_23 : decode cX8_lawStart 23 = .ok (.iconst 0, 1) := by decide +kernel
theorem dX8_lawStart_24 : decode cX8_lawStart 24 = .ok (.ireturn, 1) := by decide +kernel
set_option maxRecDepth 100000 in
theorem sgX8_lawStart_0 {d : Nat} {I : st_I} {L : st_L} {F : Int32 → st_I → st_L → Prop} {a1 : Int32} (h : (if a1 ≤ 0 then F 0 I L else EI d mX8_hasLaw [.ref 1, .int a1] I L (fun r1 I1 L1 => (if r1 = 0 then F 0 I1 L1 else vp_in (a1 - 1) 6 ∧ F (I1 6 ((a1 - 1).toNatClampNeg)) I1 L1)))) : EI (d + 1) mX8_lawStart [.ref 1, .int a1] I L F := by
  refine Ev_of (ls0 := 0) (by decide +kernel) rfl rfl rfl ?_
  refine T_iload_n dX8_lawStart_0 rfl ?_
  refine T_if_le (tgt := 23) dX8_lawStart_1 (by decide) (tq_ite h (fun h => ?_) (fun h => ?_))
  ·
    refine T_iconst (v := 0) dX8_lawStart_23 (by decide +kernel) ?_
    exact S_iret rfl dX8_lawStart_24 h
  ·
    refine T_aload_n dX8_lawStart_4 rfl ?_
    refine T_iload_n dX8_lawStart_5 rfl ?_
    refine S_callVI (M' := mX8_hasLaw) [.int a1] [] dX8_lawStart_6 ml_RX8_70 mkX8_hasLaw rfl shp_1 rfl rfl rfl (Nat.le_of_ble_eq_true rfl) h (fun r1 I1 L1 h => ?_)
    refine T_if_eq (tgt := 23) dX8_lawStart_9 (by decide) (tq_ite h (fun h => ?_) (fun h => ?_))
    ·
      refine T_iconst (v := 0) dX8_lawStart_23 (by decide +kernel) ?_
      exact S_iret rfl dX8_lawStart_24 h
    ·
      refine T_aload_n dX8_lawStart_12 rfl ?_
      refine T_getr dX8_lawStart_13 fl_RX8_24 shp_1 rfl ?_
      refine T_iload_n dX8_lawStart_16 rfl ?_
      refine T_iconst (v := 1) dX8_lawStart_17 (by decide +kernel) ?_
      refine T_isub dX8_lawStart_18 ?_
      refine T_ialdv (v := (I1 6 ((a1 - 1).toNatClampNeg))) (j := (a1 - 1).toNatClampNeg) dX8_lawStart_19 shp_6 h.1 rfl rfl ?_
      replace h := h.2
      refine T_goto (tgt := 24) dX8_lawStart_20 (by decide) ?_
      exact S_iret rfl dX8_lawStart_24 h

theorem dX8_lawEnd_0 : decode cX8_lawEnd 0 = .ok (.aload_n 0, 1) := by decide +kernel
theorem dX8_lawEnd_1 : decode cX8_lawEnd 1 = .ok (.iload_n 1, 1) := by decide +kernel
theorem dX8_lawEnd_2 : decode cX8_lawEnd 2 = .ok (.invokevirtual 70, 3) := by decide +kernel
theorem dX8_lawEnd_5 : decode cX8_lawEnd 5 = .ok (.ifCond .eq 12, 3) := by decide +kernel
theorem dX8_lawEnd_8 : decode cX8_lawEnd 8 = .ok (.aload_n 0, 1) := by decide +kernel
theorem dX8_lawEnd_9 : decode cX8_lawEnd 9 = .ok (.getfield 24, 3) := by decide +kernel
theorem dX8_lawEnd_12 : decode cX8_lawEnd 12 = .ok (.iload_n 1, 1) := by decide +kernel
theorem dX8_lawEnd_13 : decode cX8_lawEnd 13 = .ok (.iaload, 1) := by decide +kernel
theorem dX8_lawEnd_14 : decode cX8_lawEnd 14 = .ok (.goto 4, 3) := by decide +kernel
theorem dX8_lawEnd_17 : decode cX8_lawEnd 17 = .ok (.iconst 0, 1) := by decide +kernel
theorem dX8_lawEnd_18 : decode cX8_lawEnd 18 = .ok (.ireturn, 1) := by decide +kernel
set_option maxRecDepth 100000 in
theorem sgX8_lawEnd_0 {d : Nat} {I : st_I} {L : st_L} {F : Int32 → st_I → st_L → Prop} {a1 : Int32} (h : EI d mX8_hasLaw [.ref 1, .int a1] I L (fun r1 I1 L1 => (if r1 = 0 then F 0 I1 L1 else vp_in a1 6 ∧ F (I1 6 (a1.toNatClampNeg)) I1 L1))) : EI (d + 1) mX8_lawEnd [.ref 1, .int a1] I L F := by
  refine Ev_of (ls0 := 0) (by decide +kernel) rfl rfl rfl ?_
  refine T_aload_n dX8_lawEnd_0 rfl ?_
  refine T_iload_n dX8_lawEnd_1 rfl ?_
  refine S_callVI (M' := mX8_hasLaw) [.int a1] [] dX8_lawEnd_2 ml_RX8_70 mkX8_hasLaw rfl shp_1 rfl rfl rfl (Nat.le_of_ble_eq_true rfl) h (fun r1 I1 L1 h => ?_)
  refine T_if_eq (tgt := 17) dX8_lawEnd_5 (by decide) (tq_ite h (fun h => ?_) (fun h => ?_))
  ·
    refine T_iconst (v := 0) dX8_lawEnd_17 (by decide +kernel) ?_
    exact S_iret rfl dX8_lawEnd_18 h
  ·
    refine T_aload_n dX8_lawEnd_8 rfl ?_
    refine T_getr dX8_lawEnd_9 fl_RX8_24 shp_1 rfl ?_
    refine T_iload_n dX8_lawEnd_12 rfl ?_
    refine T_ialdv (v := (I1 6 (a1.toNatClampNeg))) (j := a1.toNatClampNeg) dX8_lawEnd_13 shp_6 h.1 rfl rfl ?_
    replace h := h.2
    refine T_goto (tgt := 18) dX8_lawEnd_14 (by decide) ?_
    exact S_iret rfl dX8_lawEnd_18 h

theorem dX8_factsOf_0 : decode cX8_factsOf 0 = .ok (.iconst 0, 1) := by decide +kernel
theorem dX8_factsOf_1 : decode cX8_factsOf 1 = .ok (.istore_n 2, 1) := by decide +kernel
theorem dX8_factsOf_2 : decode cX8_factsOf 2 = .ok (.iconst 0, 1) := by decide +kernel
theorem dX8_factsOf_3 : decode cX8_factsOf 3 = .ok (.istore_n 3, 1) := by decide +kernel
theorem dX8_factsOf_4 : decode cX8_factsOf 4 = .ok (.iload_n 3, 1) := by decide +kernel
theorem dX8_factsOf_5 : decode cX8_factsOf 5 = .ok (.aload_n 0, 1) := by decide +kernel
theorem dX8_factsOf_6 : decode cX8_factsOf 6 = .ok (.iload_n 1, 1) := by decide +kernel
theorem dX8_factsOf_7 : decode cX8_factsOf 7 = .ok (.invokevirtual 49, 3) := by decide +kernel
theorem dX8_factsOf_10 : decode cX8_factsOf 10 = .ok (.if_icmp .ge 41, 3) := by decide +kernel
theorem dX8_factsOf_13 : decode cX8_factsOf 13 = .ok (.aload_n 0, 1) := by decide +kernel
theorem dX8_factsOf_14 : decode cX8_factsOf 14 = .ok (.iload_n 1, 1) := by decide +kernel
theorem dX8_factsOf_15 : decode cX8_factsOf 15 = .ok (.iload_n 3, 1) := by decide +kernel
theorem dX8_factsOf_16 : decode cX8_factsOf 16 = .ok (.iconst 3, 1) := by decide +kernel
theorem dX8_factsOf_17 : decode cX8_factsOf 17 = .ok (.invokevirtual 73, 3) := by decide +kernel
theorem dX8_factsOf_20 : decode cX8_factsOf 20 = .ok (.istore 4, 2) := by decide +kernel
theorem dX8_factsOf_22 : decode cX8_factsOf 22 = .ok (.iload_n 2, 1) := by decide +kernel
theorem dX8_factsOf_23 : decode cX8_factsOf 23 = .ok (.aload_n 0, 1) := by decide +kernel
theorem dX8_factsOf_24 : decode cX8_factsOf 24 = .ok (.iload_n 1, 1) := by decide +kernel
theorem dX8_factsOf_25 : decode cX8_factsOf 25 = .ok (.iload_n 3, 1) := by decide +kernel
theorem dX8_factsOf_26 : decode cX8_factsOf 26 = .ok (.iconst 2, 1) := by decide +kernel
theorem dX8_factsOf_27 : decode cX8_factsOf 27 = .ok (.invokevirtual 73, 3) := by decide +kernel
theorem dX8_factsOf_30 : decode cX8_factsOf 30 = .ok (.iconst 1, 1) := by decide +kernel
theorem dX8_factsOf_31 : decode cX8_factsOf 31 = .ok (.if_icmp .ne 8, 3) := by decide +kernel
theorem dX8_factsOf_34 : decode cX8_factsOf 34 = .ok (.iload 4, 2) := by decide +kernel
theorem dX8_factsOf_36 : decode cX8_factsOf 36 = .ok (.goto 7, 3) := by decide +kernel
theorem dX8_factsOf_39 : decode cX8_factsOf 39 = .ok (.iconst 2, 1) := by decide +kernel
theorem dX8_factsOf_40 : decode cX8_factsOf 40 = .ok (.iload 4, 2) := by decide +kernel
theorem dX8_factsOf_42 : decode cX8_factsOf 42 = .ok (.imul, 1) := by decide +kernel
theorem dX8_factsOf_43 : decode cX8_factsOf 43 = .ok (.iadd, 1) := by decide +kernel
theorem dX8_factsOf_44 : decode cX8_factsOf 44 = .ok (.istore_n 2, 1) := by decide +kernel
theorem dX8_factsOf_45 : decode cX8_factsOf 45 = .ok (.iinc 3 1, 3) := by decide +kernel
theorem dX8_factsOf_48 : decode cX8_factsOf 48 = .ok (.goto (-44), 3) := by decide +kernel
theorem dX8_factsOf_51 : decode cX8_factsOf 51 = .ok (.iload_n 2, 1) := by decide +kernel
theorem dX8_factsOf_52 : decode cX8_factsOf 52 = .ok (.ireturn, 1) := by decide +kernel
set_option maxRecDepth 100000 in
theorem sgX8_factsOf_0 {d : Nat} {I : st_I} {L : st_L} {F : Int32 → st_I → st_L → Prop} {a1 : Int32} (h : TI (d + 1) mX8_factsOf 4 [.ref 1, .int a1, .int 0, .int 0, .null] [] I L F) : EI (d + 1) mX8_factsOf [.ref 1, .int a1] I L F := by
  refine Ev_of (ls0 := 3) (by decide +kernel) rfl rfl rfl ?_
  refine T_iconst (v := 0) dX8_factsOf_0 (by decide +kernel) ?_
  refine T_istore_n (lv' := [.ref 1, .int a1, .int 0, .null, .null]) dX8_factsOf_1 rfl (by decide) rfl ?_
  refine T_iconst (v := 0) dX8_factsOf_2 (by decide +kernel) ?_
  refine T_istore_n (lv' := [.ref 1, .int a1, .int 0, .int 0, .null]) dX8_factsOf_3 rfl (by decide) rfl ?_
  exact h

set_option maxRecDepth 100000 in
theorem sgX8_factsOf_4 {d : Nat} {I : st_I} {L : st_L} {F : Int32 → st_I → st_L → Prop} {x1 : Int32} {x2 : Int32} {x3 : Int32} (h : EI d mX8_sits [.ref 1, .int x1] I L (fun r1 I1 L1 => (if r1 ≤ x3 then F x2 I1 L1 else EI d mX8_sat [.ref 1, .int x1, .int x3, .int 3] I1 L1 (fun r2 I2 L2 => EI d mX8_sat [.ref 1, .int x1, .int x3, .int 2] I2 L2 (fun r3 I3 L3 => TI (d + 1) mX8_factsOf 4 [.ref 1, .int x1, .int (x2 + (if r3 = 1 then r2 else (2 * r2))), .int (x3 + 1), .null] [] I3 L3 F))))) : TI (d + 1) mX8_factsOf 4 [.ref 1, .int x1, .int x2, .int x3, .null] [] I L F := by
  refine T_iload_n dX8_factsOf_4 rfl ?_
  refine T_aload_n dX8_factsOf_5 rfl ?_
  refine T_iload_n dX8_factsOf_6 rfl ?_
  refine S_callVI (M' := mX8_sits) [.int x1] [.int x3] dX8_factsOf_7 ml_RX8_49 mkX8_sits rfl shp_1 rfl rfl rfl (Nat.le_of_ble_eq_true rfl) h (fun r1 I1 L1 h => ?_)
  refine T_icmp_ge (tgt := 51) dX8_factsOf_10 (by decide) (tq_ite h (fun h => ?_) (fun h => ?_))
  ·
    refine T_iload_n dX8_factsOf_51 rfl ?_
    exact S_iret rfl dX8_factsOf_52 h
  ·
    refine T_aload_n dX8_factsOf_13 rfl ?_
    refine T_iload_n dX8_factsOf_14 rfl ?_
    refine T_iload_n dX8_factsOf_15 rfl ?_
    refine T_iconst (v := 3) dX8_factsOf_16 (by decide +kernel) ?_
    refine S_callVI (M' := mX8_sat) [.int x1, .int x3, .int 3] [] dX8_factsOf_17 ml_RX8_73 mkX8_sat rfl shp_1 rfl rfl rfl (Nat.le_of_ble_eq_true rfl) h (fun r2 I2 L2 h => ?_)
    refine T_istore (lv' := [.ref 1, .int x1, .int x2, .int x3, .int r2]) dX8_factsOf_20 (by decide) rfl ?_
    refine T_iload_n dX8_factsOf_22 rfl ?_
    refine T_aload_n dX8_factsOf_23 rfl ?_
    refine T_iload_n dX8_factsOf_24 rfl ?_
    refine T_iload_n dX8_factsOf_25 rfl ?_
    refine T_iconst (v := 2) dX8_factsOf_26 (by decide +kernel) ?_
    refine S_callVI (M' := mX8_sat) [.int x1, .int x3, .int 2] [.int x2] dX8_factsOf_27 ml_RX8_73 mkX8_sat rfl shp_1 rfl rfl rfl (Nat.le_of_ble_eq_true rfl) h (fun r3 I3 L3 h => ?_)
    refine T_iconst (v := 1) dX8_factsOf_30 (by decide +kernel) ?_
    refine T_icmp_ne (tgt := 39) dX8_factsOf_31 (by decide) (tq_itv (fun v => T shp (d + 1) mX8_factsOf 43 [.ref 1, .int x1, .int x2, .int x3, .int r2] (.int v :: [.int x2]) I3 L3 (kI F)) r2 (2 * r2) (fun hJ => ?_) (fun hJ => ?_) ?_)
    ·
        refine T_iload dX8_factsOf_34 rfl ?_
        refine T_goto (tgt := 43) dX8_factsOf_36 (by decide) ?_
        exact hJ
    ·
        refine T_iconst (v := 2) dX8_factsOf_39 (by decide +kernel) ?_
        refine T_iload dX8_factsOf_40 rfl ?_
        refine T_imul dX8_factsOf_42 ?_
        exact hJ
    refine T_iadd dX8_factsOf_43 ?_
    refine T_istore_n (lv' := [.ref 1, .int x1, .int (x2 + (if r3 = 1 then r2 else (2 * r2))), .int x3, .int r2]) dX8_factsOf_44 rfl (by decide) rfl ?_
    refine T_iinc (lv' := [.ref 1, .int x1, .int (x2 + (if r3 = 1 then r2 else (2 * r2))), .int (x3 + 1), .int r2]) dX8_factsOf_45 rfl (by decide) rfl ?_
    refine T_goto (tgt := 4) dX8_factsOf_48 (by decide) ?_
    exact T_wk (lv' := [.ref 1, .int x1, .int (x2 + (if r3 = 1 then r2 else (2 * r2))), .int (x3 + 1), .null]) ⟨Or.inr rfl, Or.inr rfl, Or.inr rfl, Or.inr rfl, Or.inl rfl, trivial⟩ h

theorem dX10_isRare_0 : decode cX10_isRare 0 = .ok (.lload_n 0, 1) := by decide +kernel
theorem dX10_isRare_1 : decode cX10_isRare 1 = .ok (.lload_n 2, 1) := by decide +kernel
theorem dX10_isRare_2 : decode cX10_isRare 2 = .ok (.ldc2_w 7, 3) := by decide +kernel
theorem dX10_isRare_5 : decode cX10_isRare 5 = .ok (.ldiv, 1) := by decide +kernel
theorem dX10_isRare_6 : decode cX10_isRare 6 = .ok (.lcmp, 1) := by decide +kernel
theorem dX10_isRare_7 : decode cX10_isRare 7 = .ok (.ifCond .gt 7, 3) := by decide +kernel
theorem dX10_isRare_10 : decode cX10_isRare 10 = .ok (.iconst 1, 1) := by decide +kernel
theorem dX10_isRare_11 : decode cX10_isRare 11 = .ok (.goto 4, 3) := by decide +kernel
theorem dX10_isRare_14 : decode cX10_isRare 14 = .ok (.iconst 0, 1) := by decide +kernel
theorem dX10_isRare_15 : decode cX10_isRare 15 = .ok (.ireturn, 1) := by decide +kernel
set_option maxRecDepth 100000 in
theorem sgX10_isRare_0 {d : Nat} {I : st_I} {L : st_L} {F : Int32 → st_I → st_L → Prop} {a1 : Int64} {a2 : Int64} (h : F (if 0 < (lg_cmp a1 (a2 / 20)) then (0 : Int32) else 1) I L) : EI d mX10_isRare [.long a1, .long a2] I L F := by
  refine Ev_of (ls0 := 0) (by decide +kernel) rfl rfl rfl ?_
  refine T_lload_n dX10_isRare_0 rfl ?_
  refine T_lload_n dX10_isRare_1 rfl ?_
  refine T_ldc2 (v := 20) dX10_isRare_2 ki_RX10_7 ?_
  refine T_ldiv dX10_isRare_5 (by decide) ?_
  refine T_lcmp dX10_isRare_6 ?_
  refine T_if_gt (tgt := 14) dX10_isRare_7 (by decide) (tq_itv (fun v => T shp d mX10_isRare 15 [.long a1, .null, .long a2, .null] (.int v :: []) I L (kI F)) 0 1 (fun hJ => ?_) (fun hJ => ?_) ?_)
  ·
      refine T_iconst (v := 0) dX10_isRare_14 (by decide +kernel) ?_
      exact hJ
  ·
      refine T_iconst (v := 1) dX10_isRare_10 (by decide +kernel) ?_
      refine T_goto (tgt := 15) dX10_isRare_11 (by decide) ?_
      exact hJ
  exact S_zret rfl dX10_isRare_15 (by (repeat' split) <;> first | exact Or.inl rfl | exact Or.inr rfl) h

theorem dX10_choose_0 : decode cX10_choose 0 = .ok (.iload_n 1, 1) := by decide +kernel
theorem dX10_choose_1 : decode cX10_choose 1 = .ok (.ifCond .lt 8, 3) := by decide +kernel
theorem dX10_choose_4 : decode cX10_choose 4 = .ok (.iload_n 1, 1) := by decide +kernel
theorem dX10_choose_5 : decode cX10_choose 5 = .ok (.iload_n 0, 1) := by decide +kernel
theorem dX10_choose_6 : decode cX10_choose 6 = .ok (.if_icmp .le 5, 3) := by decide +kernel
theorem dX10_choose_9 : decode cX10_choose 9 = .ok (.lconst 0, 1) := by decide +kernel
theorem dX10_choose_10 : decode cX10_choose 10 = .ok (.lreturn, 1) := by decide +kernel
theorem dX10_choose_11 : decode cX10_choose 11 = .ok (.lconst 1, 1) := by decide +kernel
theorem dX10_choose_12 : decode cX10_choose 12 = .ok (.lstore_n 2, 1) := by decide +kernel
theorem dX10_choose_13 : decode cX10_choose 13 = .ok (.iconst 0, 1) := by decide +kernel
theorem dX10_choose_14 : decode cX10_choose 14 = .ok (.istore 4, 2) := by decide +kernel
theorem dX10_choose_16 : decode cX10_choose 16 = .ok (.iload 4, 2) := by decide +kernel
theorem dX10_choose_18 : decode cX10_choose 18 = .ok (.iload_n 1, 1) := by decide +kernel
theorem dX10_choose_19 : decode cX10_choose 19 = .ok (.if_icmp .ge 23, 3) := by decide +kernel
theorem dX10_choose_22 : decode cX10_choose 22 = .ok (.lload_n 2, 1) := by decide +kernel
theorem dX10_choose_23 : decode cX10_choose 23 = .ok (.iload_n 0, 1) := by decide +kernel
theorem dX10_choose_24 : decode cX10_choose 24 = .ok (.iload 4, 2) := by decide +kernel
theorem dX10_choose_26 : decode cX10_choose 26 = .ok (.isub, 1) := by decide +kernel
theorem dX10_choose_27 : decode cX10_choose 27 = .ok (.i2l, 1) := by decide +kernel
theorem dX10_choose_28 : decode cX10_choose 28 = .ok (.lmul, 1) := by decide +kernel
theorem dX10_choose_29 : decode cX10_choose 29 = .ok (.iload 4, 2) := by decide +kernel
theorem dX10_choose_31 : decode cX10_choose 31 = .ok (.iconst 1, 1) := by decide +kernel
theorem dX10_choose_32 : decode cX10_choose 32 = .ok (.iadd, 1) := by decide +kernel
theorem dX10_choose_33 : decode cX10_choose 33 = .ok (.i2l, 1) := by decide +kernel
theorem dX10_choose_34 : decode cX10_choose 34 = .ok (.ldiv, 1) := by decide +kernel
theorem dX10_choose_35 : decode cX10_choose 35 = .ok (.lstore_n 2, 1) := by decide +kernel
theorem dX10_choose_36 : decode cX10_choose 36 = .ok (.iinc 4 1, 3) := by decide +kernel
theorem dX10_choose_39 : decode cX10_choose 39 = .ok (.goto (-23), 3) := by decide +kernel
theorem dX10_choose_42 : decode cX10_choose 42 = .ok (.lload_n 2, 1) := by decide +kernel
theorem dX10_choose_43 : decode cX10_choose 43 = .ok (.lreturn, 1) := by decide +kernel
set_option maxRecDepth 100000 in
theorem sgX10_choose_0 {d : Nat} {I : st_I} {L : st_L} {F : Int64 → st_I → st_L → Prop} {a1 : Int32} {a2 : Int32} (h : (if a2 < 0 then F 0 I L else (if a2 ≤ a1 then TL d mX10_choose 16 [.int a1, .int a2, .long 1, .null, .int 0] [] I L F else F 0 I L))) : EL d mX10_choose [.int a1, .int a2] I L F := by
  refine Ev_of (ls0 := 3) (by decide +kernel) rfl rfl rfl ?_
  refine T_iload_n dX10_choose_0 rfl ?_
  refine T_if_lt (tgt := 9) dX10_choose_1 (by decide) (tq_ite h (fun h => ?_) (fun h => ?_))
  ·
    refine T_lconst (v := 0) dX10_choose_9 (by decide +kernel) ?_
    exact S_lret rfl dX10_choose_10 h
  ·
    refine T_iload_n dX10_choose_4 rfl ?_
    refine T_iload_n dX10_choose_5 rfl ?_
    refine T_icmp_le (tgt := 11) dX10_choose_6 (by decide) (tq_ite h (fun h => ?_) (fun h => ?_))
    ·
      refine T_lconst (v := 1) dX10_choose_11 (by decide +kernel) ?_
      refine T_lstore_n (lv' := [.int a1, .int a2, .long 1, .null, .null]) dX10_choose_12 rfl (by decide) rfl ?_
      refine T_iconst (v := 0) dX10_choose_13 (by decide +kernel) ?_
      refine T_istore (lv' := [.int a1, .int a2, .long 1, .null, .int 0]) dX10_choose_14 (by decide) rfl ?_
      exact h
    ·
      refine T_lconst (v := 0) dX10_choose_9 (by decide +kernel) ?_
      exact S_lret rfl dX10_choose_10 h

set_option maxRecDepth 100000 in
theorem sgX10_choose_16 {d : Nat} {I : st_I} {L : st_L} {F : Int64 → st_I → st_L → Prop} {x0 : Int32} {x1 : Int32} {x2 : Int64} {x4 : Int32} (h : (if x1 ≤ x4 then F x2 I L else ¬ (((x4 + 1) : Int32).toInt64) = 0 ∧ TL d mX10_choose 16 [.int x0, .int x1, .long ((x2 * (((x0 - x4) : Int32).toInt64)) / (((x4 + 1) : Int32).toInt64)), .null, .int (x4 + 1)] [] I L F)) : TL d mX10_choose 16 [.int x0, .int x1, .long x2, .null, .int x4] [] I L F := by
  refine T_iload dX10_choose_16 rfl ?_
  refine T_iload_n dX10_choose_18 rfl ?_
  refine T_icmp_ge (tgt := 42) dX10_choose_19 (by decide) (tq_ite h (fun h => ?_) (fun h => ?_))
  ·
    refine T_lload_n dX10_choose_42 rfl ?_
    exact S_lret rfl dX10_choose_43 h
  ·
    refine T_lload_n dX10_choose_22 rfl ?_
    refine T_iload_n dX10_choose_23 rfl ?_
    refine T_iload dX10_choose_24 rfl ?_
    refine T_isub dX10_choose_26 ?_
    refine T_i2l dX10_choose_27 ?_
    refine T_lmul dX10_choose_28 ?_
    refine T_iload dX10_choose_29 rfl ?_
    refine T_iconst (v := 1) dX10_choose_31 (by decide +kernel) ?_
    refine T_iadd dX10_choose_32 ?_
    refine T_i2l dX10_choose_33 ?_
    refine T_ldiv dX10_choose_34 h.1 ?_
    replace h := h.2
    refine T_lstore_n (lv' := [.int x0, .int x1, .long ((x2 * (((x0 - x4) : Int32).toInt64)) / (((x4 + 1) : Int32).toInt64)), .null, .int x4]) dX10_choose_35 rfl (by decide) rfl ?_
    refine T_iinc (lv' := [.int x0, .int x1, .long ((x2 * (((x0 - x4) : Int32).toInt64)) / (((x4 + 1) : Int32).toInt64)), .null, .int (x4 + 1)]) dX10_choose_36 rfl (by decide) rfl ?_
    refine T_goto (tgt := 16) dX10_choose_39 (by decide) ?_
    exact h

theorem dX10_orMoreHeads_0 : decode cX10_orMoreHeads 0 = .ok (.lconst 0, 1) := by decide +kernel
theorem dX10_orMoreHeads_1 : decode cX10_orMoreHeads 1 = .ok (.lstore_n 2, 1) := by decide +kernel
theorem dX10_orMoreHeads_2 : decode cX10_orMoreHeads 2 = .ok (.iload_n 1, 1) := by decide +kernel
theorem dX10_orMoreHeads_3 : decode cX10_orMoreHeads 3 = .ok (.istore 4, 2) := by decide +kernel
theorem dX10_orMoreHeads_5 : decode cX10_orMoreHeads 5 = .ok (.iload 4, 2) := by decide +kernel
theorem dX10_orMoreHeads_7 : decode cX10_orMoreHeads 7 = .ok (.iload_n 0, 1) := by decide +kernel
theorem dX10_orMoreHeads_8 : decode cX10_orMoreHeads 8 = .ok (.if_icmp .gt 18, 3) := by decide +kernel
theorem dX10_orMoreHeads_11 : decode cX10_orMoreHeads 11 = .ok (.lload_n 2, 1) := by decide +kernel
theorem dX10_orMoreHeads_12 : decode cX10_orMoreHeads 12 = .ok (.iload_n 0, 1) := by decide +kernel
theorem dX10_orMoreHeads_13 : decode cX10_orMoreHeads 13 = .ok (.iload 4, 2) := by decide +kernel
theorem dX10_orMoreHeads_15 : decode cX10_orMoreHeads 15 = .ok (.invokestatic 9, 3) := by decide +kernel
theorem dX10_orMoreHeads_18 : decode cX10_orMoreHeads 18 = .ok (.ladd, 1) := by decide +kernel
theorem dX10_orMoreHeads_19 : decode cX10_orMoreHeads 19 = .ok (.lstore_n 2, 1) := by decide +kernel
theorem dX10_orMoreHeads_20 : decode cX10_orMoreHeads 20 = .ok (.iinc 4 1, 3) := by decide +kernel
theorem dX10_orMoreHeads_23 : decode cX10_orMoreHeads 23 = .ok (.goto (-18), 3) := by decide +kernel
theorem dX10_orMoreHeads_26 : decode cX10_orMoreHeads 26 = .ok (.lload_n 2, 1) := by decide +kernel
theorem dX10_orMoreHeads_27 : decode cX10_orMoreHeads 27 = .ok (.lreturn, 1) := by decide +kernel
set_option maxRecDepth 100000 in
theorem sgX10_orMoreHeads_0 {d : Nat} {I : st_I} {L : st_L} {F : Int64 → st_I → st_L → Prop} {a1 : Int32} {a2 : Int32} (h : TL (d + 1) mX10_orMoreHeads 5 [.int a1, .null, .long 0, .null, .int a2] [] I L F) : EL (d + 1) mX10_orMoreHeads [.int a1, .int a2] I L F := by
  refine Ev_of (ls0 := 3) (by decide +kernel) rfl rfl rfl ?_
  refine T_lconst (v := 0) dX10_orMoreHeads_0 (by decide +kernel) ?_
  refine T_lstore_n (lv' := [.int a1, .int a2, .long 0, .null, .null]) dX10_orMoreHeads_1 rfl (by decide) rfl ?_
  refine T_iload_n dX10_orMoreHeads_2 rfl ?_
  refine T_istore (lv' := [.int a1, .int a2, .long 0, .null, .int a2]) dX10_orMoreHeads_3 (by decide) rfl ?_
  exact T_wk (lv' := [.int a1, .null, .long 0, .null, .int a2]) ⟨Or.inr rfl, Or.inl rfl, Or.inr rfl, Or.inr rfl, Or.inr rfl, trivial⟩ h

set_option maxRecDepth 100000 in
theorem sgX10_orMoreHeads_5 {d : Nat} {I : st_I} {L : st_L} {F : Int64 → st_I → st_L → Prop} {x0 : Int32} {x2 : Int64} {x4 : Int32} (h : (if x0 < x4 then F x2 I L else EL d mX10_choose [.int x0, .int x4] I L (fun r1 I1 L1 => TL (d + 1) mX10_orMoreHeads 5 [.int x0, .null, .long (x2 + r1), .null, .int (x4 + 1)] [] I1 L1 F))) : TL (d + 1) mX10_orMoreHeads 5 [.int x0, .null, .long x2, .null, .int x4] [] I L F := by
  refine T_iload dX10_orMoreHeads_5 rfl ?_
  refine T_iload_n dX10_orMoreHeads_7 rfl ?_
  refine T_icmp_gt (tgt := 26) dX10_orMoreHeads_8 (by decide) (tq_ite h (fun h => ?_) (fun h => ?_))
  ·
    refine T_lload_n dX10_orMoreHeads_26 rfl ?_
    exact S_lret rfl dX10_orMoreHeads_27 h
  ·
    refine T_lload_n dX10_orMoreHeads_11 rfl ?_
    refine T_iload_n dX10_orMoreHeads_12 rfl ?_
    refine T_iload dX10_orMoreHeads_13 rfl ?_
    refine S_callSL (M' := mX10_choose) [.int x0, .int x4] [.long x2] dX10_orMoreHeads_15 ml_RX10_9 mkX10_choose rfl rfl (Nat.le_of_ble_eq_true rfl) h (fun r1 I1 L1 h => ?_)
    refine T_ladd dX10_orMoreHeads_18 ?_
    refine T_lstore_n (lv' := [.int x0, .null, .long (x2 + r1), .null, .int x4]) dX10_orMoreHeads_19 rfl (by decide) rfl ?_
    refine T_iinc (lv' := [.int x0, .null, .long (x2 + r1), .null, .int (x4 + 1)]) dX10_orMoreHeads_20 rfl (by decide) rfl ?_
    refine T_goto (tgt := 5) dX10_orMoreHeads_23 (by decide) ?_
    exact h

theorem dX10_orMoreTaken_0 : decode cX10_orMoreTaken 0 = .ok (.lconst 0, 1) := by decide +kernel
theorem dX10_orMoreTaken_1 : decode cX10_orMoreTaken 1 = .ok (.lstore 4, 2) := by decide +kernel
theorem dX10_orMoreTaken_3 : decode cX10_orMoreTaken 3 = .ok (.iload_n 3, 1) := by decide +kernel
theorem dX10_orMoreTaken_4 : decode cX10_orMoreTaken 4 = .ok (.istore 6, 2) := by decide +kernel
theorem dX10_orMoreTaken_6 : decode cX10_orMoreTaken 6 = .ok (.iload 6, 2) := by decide +kernel
theorem dX10_orMoreTaken_8 : decode cX10_orMoreTaken 8 = .ok (.iload_n 2, 1) := by decide +kernel
theorem dX10_orMoreTaken_9 : decode cX10_orMoreTaken 9 = .ok (.if_icmp .gt 31, 3) := by decide +kernel
theorem dX10_orMoreTaken_12 : decode cX10_orMoreTaken 12 = .ok (.lload 4, 2) := by decide +kernel
theorem dX10_orMoreTaken_14 : decode cX10_orMoreTaken 14 = .ok (.iload_n 2, 1) := by decide +kernel
theorem dX10_orMoreTaken_15 : decode cX10_orMoreTaken 15 = .ok (.iload 6, 2) := by decide +kernel
theorem dX10_orMoreTaken_17 : decode cX10_orMoreTaken 17 = .ok (.invokestatic 9, 3) := by decide +kernel
theorem dX10_orMoreTaken_20 : decode cX10_orMoreTaken 20 = .ok (.iload_n 0, 1) := by decide +kernel
theorem dX10_orMoreTaken_21 : decode cX10_orMoreTaken 21 = .ok (.iload_n 2, 1) := by decide +kernel
theorem dX10_orMoreTaken_22 : decode cX10_orMoreTaken 22 = .ok (.isub, 1) := by decide +kernel
theorem dX10_orMoreTaken_23 : decode cX10_orMoreTaken 23 = .ok (.iload_n 1, 1) := by decide +kernel
theorem dX10_orMoreTaken_24 : decode cX10_orMoreTaken 24 = .ok (.iload 6, 2) := by decide +kernel
theorem dX10_orMoreTaken_26 : decode cX10_orMoreTaken 26 = .ok (.isub, 1) := by decide +kernel
theorem dX10_orMoreTaken_27 : decode cX10_orMoreTaken 27 = .ok (.invokestatic 9, 3) := by decide +kernel
theorem dX10_orMoreTaken_30 : decode cX10_orMoreTaken 30 = .ok (.lmul, 1) := by decide +kernel
theorem dX10_orMoreTaken_31 : decode cX10_orMoreTaken 31 = .ok (.ladd, 1) := by decide +kernel
theorem dX10_orMoreTaken_32 : decode cX10_orMoreTaken 32 = .ok (.lstore 4, 2) := by decide +kernel
theorem dX10_orMoreTaken_34 : decode cX10_orMoreTaken 34 = .ok (.iinc 6 1, 3) := by decide +kernel
theorem dX10_orMoreTaken_37 : decode cX10_orMoreTaken 37 = .ok (.goto (-31), 3) := by decide +kernel
theorem dX10_orMoreTaken_40 : decode cX10_orMoreTaken 40 = .ok (.lload 4, 2) := by decide +kernel
theorem dX10_orMoreTaken_42 : decode cX10_orMoreTaken 42 = .ok (.lreturn, 1) := by decide +kernel
set_option maxRecDepth 100000 in
theorem sgX10_orMoreTaken_0 {d : Nat} {I : st_I} {L : st_L} {F : Int64 → st_I → st_L → Prop} {a1 : Int32} {a2 : Int32} {a3 : Int32} {a4 : Int32} (h : TL (d + 1) mX10_orMoreTaken 6 [.int a1, .int a2, .int a3, .null, .long 0, .null, .int a4] [] I L F) : EL (d + 1) mX10_orMoreTaken [.int a1, .int a2, .int a3, .int a4] I L F := by
  refine Ev_of (ls0 := 3) (by decide +kernel) rfl rfl rfl ?_
  refine T_lconst (v := 0) dX10_orMoreTaken_0 (by decide +kernel) ?_
  refine T_lstore (lv' := [.int a1, .int a2, .int a3, .int a4, .long 0, .null, .null]) dX10_orMoreTaken_1 (by decide) rfl ?_
  refine T_iload_n dX10_orMoreTaken_3 rfl ?_
  refine T_istore (lv' := [.int a1, .int a2, .int a3, .int a4, .long 0, .null, .int a4]) dX10_orMoreTaken_4 (by decide) rfl ?_
  exact T_wk (lv' := [.int a1, .int a2, .int a3, .null, .long 0, .null, .int a4]) ⟨Or.inr rfl, Or.inr rfl, Or.inr rfl, Or.inl rfl, Or.inr rfl, Or.inr rfl, Or.inr rfl, trivial⟩ h

set_option maxRecDepth 100000 in
theorem sgX10_orMoreTaken_6 {d : Nat} {I : st_I} {L : st_L} {F : Int64 → st_I → st_L → Prop} {x0 : Int32} {x1 : Int32} {x2 : Int32} {x4 : Int64} {x6 : Int32} (h : (if x2 < x6 then F x4 I L else EL d mX10_choose [.int x2, .int x6] I L (fun r1 I1 L1 => EL d mX10_choose [.int (x0 - x2), .int (x1 - x6)] I1 L1 (fun r2 I2 L2 => TL (d + 1) mX10_orMoreTaken 6 [.int x0, .int x1, .int x2, .null, .long (x4 + (r1 * r2)), .null, .int (x6 + 1)] [] I2 L2 F)))) : TL (d + 1) mX10_orMoreTaken 6 [.int x0, .int x1, .int x2, .null, .long x4, .null, .int x6] [] I L F := by
  refine T_iload dX10_orMoreTaken_6 rfl ?_
  refine T_iload_n dX10_orMoreTaken_8 rfl ?_
  refine T_icmp_gt (tgt := 40) dX10_orMoreTaken_9 (by decide) (tq_ite h (fun h => ?_) (fun h => ?_))
  ·
    refine T_lload dX10_orMoreTaken_40 rfl ?_
    exact S_lret rfl dX10_orMoreTaken_42 h
  ·
    refine T_lload dX10_orMoreTaken_12 rfl ?_
    refine T_iload_n dX10_orMoreTaken_14 rfl ?_
    refine T_iload dX10_orMoreTaken_15 rfl ?_
    refine S_callSL (M' := mX10_choose) [.int x2, .int x6] [.long x4] dX10_orMoreTaken_17 ml_RX10_9 mkX10_choose rfl rfl (Nat.le_of_ble_eq_true rfl) h (fun r1 I1 L1 h => ?_)
    refine T_iload_n dX10_orMoreTaken_20 rfl ?_
    refine T_iload_n dX10_orMoreTaken_21 rfl ?_
    refine T_isub dX10_orMoreTaken_22 ?_
    refine T_iload_n dX10_orMoreTaken_23 rfl ?_
    refine T_iload dX10_orMoreTaken_24 rfl ?_
    refine T_isub dX10_orMoreTaken_26 ?_
    refine S_callSL (M' := mX10_choose) [.int (x0 - x2), .int (x1 - x6)] [.long r1, .long x4] dX10_orMoreTaken_27 ml_RX10_9 mkX10_choose rfl rfl (Nat.le_of_ble_eq_true rfl) h (fun r2 I2 L2 h => ?_)
    refine T_lmul dX10_orMoreTaken_30 ?_
    refine T_ladd dX10_orMoreTaken_31 ?_
    refine T_lstore (lv' := [.int x0, .int x1, .int x2, .null, .long (x4 + (r1 * r2)), .null, .int x6]) dX10_orMoreTaken_32 (by decide) rfl ?_
    refine T_iinc (lv' := [.int x0, .int x1, .int x2, .null, .long (x4 + (r1 * r2)), .null, .int (x6 + 1)]) dX10_orMoreTaken_34 rfl (by decide) rfl ?_
    refine T_goto (tgt := 6) dX10_orMoreTaken_37 (by decide) ?_
    exact h

theorem dX10_orders_0 : decode cX10_orders 0 = .ok (.iconst 1, 1) := by decide +kernel
theorem dX10_orders_1 : decode cX10_orders 1 = .ok (.istore_n 1, 1) := by decide +kernel
theorem dX10_orders_2 : decode cX10_orders 2 = .ok (.iconst 2, 1) := by decide +kernel
theorem dX10_orders_3 : decode cX10_orders 3 = .ok (.istore_n 2, 1) := by decide +kernel
theorem dX10_orders_4 : decode cX10_orders 4 = .ok (.iload_n 2, 1) := by decide +kernel
theorem dX10_orders_5 : decode cX10_orders 5 = .ok (.iload_n 0, 1) := by decide +kernel
theorem dX10_orders_6 : decode cX10_orders 6 = .ok (.if_icmp .gt 13, 3) := by decide +kernel
theorem dX10_orders_9 : decode cX10_orders 9 = .ok (.iload_n 1, 1) := by decide +kernel
theorem dX10_orders_10 : decode cX10_orders 10 = .ok (.iload_n 2, 1) := by decide +kernel
theorem dX10_orders_11 : decode cX10_orders 11 = .ok (.imul, 1) := by decide +kernel
theorem dX10_orders_12 : decode cX10_orders 12 = .ok (.istore_n 1, 1) := by decide +kernel
theorem dX10_orders_13 : decode cX10_orders 13 = .ok (.iinc 2 1, 3) := by decide +kernel
theorem dX10_orders_16 : decode cX10_orders 16 = .ok (.goto (-12), 3) := by decide +kernel
theorem dX10_orders_19 : decode cX10_orders 19 = .ok (.iload_n 1, 1) := by decide +kernel
theorem dX10_orders_20 : decode cX10_orders 20 = .ok (.ireturn, 1) := by decide +kernel
set_option maxRecDepth 100000 in
theorem sgX10_orders_0 {d : Nat} {I : st_I} {L : st_L} {F : Int32 → st_I → st_L → Prop} {a1 : Int32} (h : TI d mX10_orders 4 [.int a1, .int 1, .int 2] [] I L F) : EI d mX10_orders [.int a1] I L F := by
  refine Ev_of (ls0 := 2) (by decide +kernel) rfl rfl rfl ?_
  refine T_iconst (v := 1) dX10_orders_0 (by decide +kernel) ?_
  refine T_istore_n (lv' := [.int a1, .int 1, .null]) dX10_orders_1 rfl (by decide) rfl ?_
  refine T_iconst (v := 2) dX10_orders_2 (by decide +kernel) ?_
  refine T_istore_n (lv' := [.int a1, .int 1, .int 2]) dX10_orders_3 rfl (by decide) rfl ?_
  exact h

set_option maxRecDepth 100000 in
theorem sgX10_orders_4 {d : Nat} {I : st_I} {L : st_L} {F : Int32 → st_I → st_L → Prop} {x0 : Int32} {x1 : Int32} {x2 : Int32} (h : (if x0 < x2 then F x1 I L else TI d mX10_orders 4 [.int x0, .int (x1 * x2), .int (x2 + 1)] [] I L F)) : TI d mX10_orders 4 [.int x0, .int x1, .int x2] [] I L F := by
  refine T_iload_n dX10_orders_4 rfl ?_
  refine T_iload_n dX10_orders_5 rfl ?_
  refine T_icmp_gt (tgt := 19) dX10_orders_6 (by decide) (tq_ite h (fun h => ?_) (fun h => ?_))
  ·
    refine T_iload_n dX10_orders_19 rfl ?_
    exact S_iret rfl dX10_orders_20 h
  ·
    refine T_iload_n dX10_orders_9 rfl ?_
    refine T_iload_n dX10_orders_10 rfl ?_
    refine T_imul dX10_orders_11 ?_
    refine T_istore_n (lv' := [.int x0, .int (x1 * x2), .int x2]) dX10_orders_12 rfl (by decide) rfl ?_
    refine T_iinc (lv' := [.int x0, .int (x1 * x2), .int (x2 + 1)]) dX10_orders_13 rfl (by decide) rfl ?_
    refine T_goto (tgt := 4) dX10_orders_16 (by decide) ?_
    exact h

theorem dX10_commonMultiple_0 : decode cX10_commonMultiple 0 = .ok (.iload_n 0, 1) := by decide +kernel
theorem dX10_commonMultiple_1 : decode cX10_commonMultiple 1 = .ok (.istore_n 2, 1) := by decide +kernel
theorem dX10_commonMultiple_2 : decode cX10_commonMultiple 2 = .ok (.iconst 0, 1) := by decide +kernel
theorem dX10_commonMultiple_3 : decode cX10_commonMultiple 3 = .ok (.istore_n 3, 1) := by decide +kernel
theorem dX10_commonMultiple_4 : decode cX10_commonMultiple 4 = .ok (.iload_n 3, 1) := by decide +kernel
theorem dX10_commonMultiple_5 : decode cX10_commonMultiple 5 = .ok (.iload_n 1, 1) := by decide +kernel
theorem dX10_commonMultiple_6 : decode cX10_commonMultiple 6 = .ok (.if_icmp .ge 19, 3) := by decide +kernel
theorem dX10_commonMultiple_9 : decode cX10_commonMultiple 9 = .ok (.iload_n 2, 1) := by decide +kernel
theorem dX10_commonMultiple_10 : decode cX10_commonMultiple 10 = .ok (.iload_n 1, 1) := by decide +kernel
theorem dX10_commonMultiple_11 : decode cX10_commonMultiple 11 = .ok (.irem, 1) := by decide +kernel
theorem dX10_commonMultiple_12 : decode cX10_commonMultiple 12 = .ok (.ifCond .eq 13, 3) := by decide +kernel
theorem dX10_commonMultiple_15 : decode cX10_commonMultiple 15 = .ok (.iload_n 2, 1) := by decide +kernel
theorem dX10_commonMultiple_16 : decode cX10_commonMultiple 16 = .ok (.iload_n 0, 1) := by decide +kernel
theorem dX10_commonMultiple_17 : decode cX10_commonMultiple 17 = .ok (.iadd, 1) := by decide +kernel
theorem dX10_commonMultiple_18 : decode cX10_commonMultiple 18 = .ok (.istore_n 2, 1) := by decide +kernel
theorem dX10_commonMultiple_19 : decode cX10_commonMultiple 19 = .ok (.iinc 3 1, 3) := by decide +kernel
theorem dX10_commonMultiple_22 : decode cX10_commonMultiple 22 = .ok (.goto (-18), 3) := by decide +kernel
theorem dX10_commonMultiple_25 : decode cX10_commonMultiple 25 = .ok (.iload_n 2, 1) := by decide +kernel
theorem dX10_commonMultiple_26 : decode cX10_commonMultiple 26 = .ok (.ireturn, 1) := by decide +kernel
set_option maxRecDepth 100000 in
theorem sgX10_commonMultiple_0 {d : Nat} {I : st_I} {L : st_L} {F : Int32 → st_I → st_L → Prop} {a1 : Int32} {a2 : Int32} (h : TI d mX10_commonMultiple 4 [.int a1, .int a2, .int a1, .int 0] [] I L F) : EI d mX10_commonMultiple [.int a1, .int a2] I L F := by
  refine Ev_of (ls0 := 2) (by decide +kernel) rfl rfl rfl ?_
  refine T_iload_n dX10_commonMultiple_0 rfl ?_
  refine T_istore_n (lv' := [.int a1, .int a2, .int a1, .null]) dX10_commonMultiple_1 rfl (by decide) rfl ?_
  refine T_iconst (v := 0) dX10_commonMultiple_2 (by decide +kernel) ?_
  refine T_istore_n (lv' := [.int a1, .int a2, .int a1, .int 0]) dX10_commonMultiple_3 rfl (by decide) rfl ?_
  exact h

set_option maxRecDepth 100000 in
theorem sgX10_commonMultiple_4 {d : Nat} {I : st_I} {L : st_L} {F : Int32 → st_I → st_L → Prop} {x0 : Int32} {x1 : Int32} {x2 : Int32} {x3 : Int32} (h : (if x1 ≤ x3 then F x2 I L else ¬ x1 = 0 ∧ (if (x2 - x2 / x1 * x1) = 0 then F x2 I L else TI d mX10_commonMultiple 4 [.int x0, .int x1, .int (x2 + x0), .int (x3 + 1)] [] I L F))) : TI d mX10_commonMultiple 4 [.int x0, .int x1, .int x2, .int x3] [] I L F := by
  refine T_iload_n dX10_commonMultiple_4 rfl ?_
  refine T_iload_n dX10_commonMultiple_5 rfl ?_
  refine T_icmp_ge (tgt := 25) dX10_commonMultiple_6 (by decide) (tq_ite h (fun h => ?_) (fun h => ?_))
  ·
    refine T_iload_n dX10_commonMultiple_25 rfl ?_
    exact S_iret rfl dX10_commonMultiple_26 h
  ·
    refine T_iload_n dX10_commonMultiple_9 rfl ?_
    refine T_iload_n dX10_commonMultiple_10 rfl ?_
    refine T_irem dX10_commonMultiple_11 h.1 ?_
    replace h := h.2
    refine T_if_eq (tgt := 25) dX10_commonMultiple_12 (by decide) (tq_ite h (fun h => ?_) (fun h => ?_))
    ·
      refine T_iload_n dX10_commonMultiple_25 rfl ?_
      exact S_iret rfl dX10_commonMultiple_26 h
    ·
      refine T_iload_n dX10_commonMultiple_15 rfl ?_
      refine T_iload_n dX10_commonMultiple_16 rfl ?_
      refine T_iadd dX10_commonMultiple_17 ?_
      refine T_istore_n (lv' := [.int x0, .int x1, .int (x2 + x0), .int x3]) dX10_commonMultiple_18 rfl (by decide) rfl ?_
      refine T_iinc (lv' := [.int x0, .int x1, .int (x2 + x0), .int (x3 + 1)]) dX10_commonMultiple_19 rfl (by decide) rfl ?_
      refine T_goto (tgt := 4) dX10_commonMultiple_22 (by decide) ?_
      exact h

