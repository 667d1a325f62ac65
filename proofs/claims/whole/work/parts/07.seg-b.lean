theorem dX7_meet_0 : decode cX7_meet 0 = .ok (.aload_n 1, 1) := by decide +kernel
theorem dX7_meet_1 : decode cX7_meet 1 = .ok (.iload_n 2, 1) := by decide +kernel
theorem dX7_meet_2 : decode cX7_meet 2 = .ok (.iload_n 3, 1) := by decide +kernel
theorem dX7_meet_3 : decode cX7_meet 3 = .ok (.iload 4, 2) := by decide +kernel
theorem dX7_meet_5 : decode cX7_meet 5 = .ok (.invokevirtual 18, 3) := by decide +kernel
theorem dX7_meet_8 : decode cX7_meet 8 = .ok (.ifCond .ne 4, 3) := by decide +kernel
theorem dX7_meet_11 : decode cX7_meet 11 = .ok (.return_, 1) := by decide +kernel
theorem dX7_meet_12 : decode cX7_meet 12 = .ok (.iconst 0, 1) := by decide +kernel
theorem dX7_meet_13 : decode cX7_meet 13 = .ok (.istore 5, 2) := by decide +kernel
theorem dX7_meet_15 : decode cX7_meet 15 = .ok (.iload 5, 2) := by decide +kernel
theorem dX7_meet_17 : decode cX7_meet 17 = .ok (.iconst 3, 1) := by decide +kernel
theorem dX7_meet_18 : decode cX7_meet 18 = .ok (.if_icmp .ge 44, 3) := by decide +kernel
theorem dX7_meet_21 : decode cX7_meet 21 = .ok (.aload_n 0, 1) := by decide +kernel
theorem dX7_meet_22 : decode cX7_meet 22 = .ok (.getfield 9, 3) := by decide +kernel
theorem dX7_meet_25 : decode cX7_meet 25 = .ok (.iconst 0, 1) := by decide +kernel
theorem dX7_meet_26 : decode cX7_meet 26 = .ok (.iload 5, 2) := by decide +kernel
theorem dX7_meet_28 : decode cX7_meet 28 = .ok (.iadd, 1) := by decide +kernel
theorem dX7_meet_29 : decode cX7_meet 29 = .ok (.aload_n 1, 1) := by decide +kernel
theorem dX7_meet_30 : decode cX7_meet 30 = .ok (.getfield 24, 3) := by decide +kernel
theorem dX7_meet_33 : decode cX7_meet 33 = .ok (.iload_n 3, 1) := by decide +kernel
theorem dX7_meet_34 : decode cX7_meet 34 = .ok (.iconst 5, 1) := by decide +kernel
theorem dX7_meet_35 : decode cX7_meet 35 = .ok (.imul, 1) := by decide +kernel
theorem dX7_meet_36 : decode cX7_meet 36 = .ok (.iconst 1, 1) := by decide +kernel
theorem dX7_meet_37 : decode cX7_meet 37 = .ok (.iadd, 1) := by decide +kernel
theorem dX7_meet_38 : decode cX7_meet 38 = .ok (.iload 5, 2) := by decide +kernel
theorem dX7_meet_40 : decode cX7_meet 40 = .ok (.iadd, 1) := by decide +kernel
theorem dX7_meet_41 : decode cX7_meet 41 = .ok (.iaload, 1) := by decide +kernel
theorem dX7_meet_42 : decode cX7_meet 42 = .ok (.aload_n 1, 1) := by decide +kernel
theorem dX7_meet_43 : decode cX7_meet 43 = .ok (.getfield 27, 3) := by decide +kernel
theorem dX7_meet_46 : decode cX7_meet 46 = .ok (.iload 4, 2) := by decide +kernel
theorem dX7_meet_48 : decode cX7_meet 48 = .ok (.iconst 3, 1) := by decide +kernel
theorem dX7_meet_49 : decode cX7_meet 49 = .ok (.imul, 1) := by decide +kernel
theorem dX7_meet_50 : decode cX7_meet 50 = .ok (.iload 5, 2) := by decide +kernel
theorem dX7_meet_52 : decode cX7_meet 52 = .ok (.iadd, 1) := by decide +kernel
theorem dX7_meet_53 : decode cX7_meet 53 = .ok (.iaload, 1) := by decide +kernel
theorem dX7_meet_54 : decode cX7_meet 54 = .ok (.iadd, 1) := by decide +kernel
theorem dX7_meet_55 : decode cX7_meet 55 = .ok (.iastore, 1) := by decide +kernel
theorem dX7_meet_56 : decode cX7_meet 56 = .ok (.iinc 5 1, 3) := by decide +kernel
theorem dX7_meet_59 : decode cX7_meet 59 = .ok (.goto (-44), 3) := by decide +kernel
theorem dX7_meet_62 : decode cX7_meet 62 = .ok (.iconst 0, 1) := by decide +kernel
theorem dX7_meet_63 : decode cX7_meet 63 = .ok (.istore 5, 2) := by decide +kernel
theorem dX7_meet_65 : decode cX7_meet 65 = .ok (.iload 5, 2) := by decide +kernel
theorem dX7_meet_67 : decode cX7_meet 67 = .ok (.iconst 4, 1) := by decide +kernel
theorem dX7_meet_68 : decode cX7_meet 68 = .ok (.if_icmp .ge 31, 3) := by decide +kernel
theorem dX7_meet_71 : decode cX7_meet 71 = .ok (.aload_n 0, 1) := by decide +kernel
theorem dX7_meet_72 : decode cX7_meet 72 = .ok (.getfield 9, 3) := by decide +kernel
theorem dX7_meet_75 : decode cX7_meet 75 = .ok (.iconst 3, 1) := by decide +kernel
theorem dX7_meet_76 : decode cX7_meet 76 = .ok (.iload 5, 2) := by decide +kernel
theorem dX7_meet_78 : decode cX7_meet 78 = .ok (.iadd, 1) := by decide +kernel
theorem dX7_meet_79 : decode cX7_meet 79 = .ok (.aload_n 1, 1) := by decide +kernel
theorem dX7_meet_80 : decode cX7_meet 80 = .ok (.getfield 30, 3) := by decide +kernel
theorem dX7_meet_83 : decode cX7_meet 83 = .ok (.iload_n 2, 1) := by decide +kernel
theorem dX7_meet_84 : decode cX7_meet 84 = .ok (.iconst 5, 1) := by decide +kernel
theorem dX7_meet_85 : decode cX7_meet 85 = .ok (.imul, 1) := by decide +kernel
theorem dX7_meet_86 : decode cX7_meet 86 = .ok (.iconst 1, 1) := by decide +kernel
theorem dX7_meet_87 : decode cX7_meet 87 = .ok (.iadd, 1) := by decide +kernel
theorem dX7_meet_88 : decode cX7_meet 88 = .ok (.iload 5, 2) := by decide +kernel
theorem dX7_meet_90 : decode cX7_meet 90 = .ok (.iadd, 1) := by decide +kernel
theorem dX7_meet_91 : decode cX7_meet 91 = .ok (.iaload, 1) := by decide +kernel
theorem dX7_meet_92 : decode cX7_meet 92 = .ok (.iastore, 1) := by decide +kernel
theorem dX7_meet_93 : decode cX7_meet 93 = .ok (.iinc 5 1, 3) := by decide +kernel
theorem dX7_meet_96 : decode cX7_meet 96 = .ok (.goto (-31), 3) := by decide +kernel
theorem dX7_meet_99 : decode cX7_meet 99 = .ok (.aload_n 0, 1) := by decide +kernel
theorem dX7_meet_100 : decode cX7_meet 100 = .ok (.getfield 9, 3) := by decide +kernel
theorem dX7_meet_103 : decode cX7_meet 103 = .ok (.bipush 7, 2) := by decide +kernel
theorem dX7_meet_105 : decode cX7_meet 105 = .ok (.aload_n 1, 1) := by decide +kernel
theorem dX7_meet_106 : decode cX7_meet 106 = .ok (.getfield 24, 3) := by decide +kernel
theorem dX7_meet_109 : decode cX7_meet 109 = .ok (.iload_n 3, 1) := by decide +kernel
theorem dX7_meet_110 : decode cX7_meet 110 = .ok (.iconst 5, 1) := by decide +kernel
theorem dX7_meet_111 : decode cX7_meet 111 = .ok (.imul, 1) := by decide +kernel
theorem dX7_meet_112 : decode cX7_meet 112 = .ok (.iaload, 1) := by decide +kernel
theorem dX7_meet_113 : decode cX7_meet 113 = .ok (.iastore, 1) := by decide +kernel
theorem dX7_meet_114 : decode cX7_meet 114 = .ok (.aload_n 0, 1) := by decide +kernel
theorem dX7_meet_115 : decode cX7_meet 115 = .ok (.getfield 9, 3) := by decide +kernel
theorem dX7_meet_118 : decode cX7_meet 118 = .ok (.bipush 10, 2) := by decide +kernel
theorem dX7_meet_120 : decode cX7_meet 120 = .ok (.aload_n 1, 1) := by decide +kernel
theorem dX7_meet_121 : decode cX7_meet 121 = .ok (.getfield 30, 3) := by decide +kernel
theorem dX7_meet_124 : decode cX7_meet 124 = .ok (.iload_n 2, 1) := by decide +kernel
theorem dX7_meet_125 : decode cX7_meet 125 = .ok (.iconst 5, 1) := by decide +kernel
theorem dX7_meet_126 : decode cX7_meet 126 = .ok (.imul, 1) := by decide +kernel
theorem dX7_meet_127 : decode cX7_meet 127 = .ok (.iaload, 1) := by decide +kernel
theorem dX7_meet_128 : decode cX7_meet 128 = .ok (.iastore, 1) := by decide +kernel
theorem dX7_meet_129 : decode cX7_meet 129 = .ok (.return_, 1) := by decide +kernel
set_option maxRecDepth 100000 in
theorem sgX7_meet_0 {d : Nat} {I : st_I} {L : st_L} {F : st_I → st_L → Prop} {a2 : Int32} {a3 : Int32} {a4 : Int32} (h : EI d mX8_hasMeeting [.ref 1, .int a2, .int a3, .int a4] I L (fun r1 I1 L1 => (if r1 = 0 then F I1 L1 else TV (d + 1) mX7_meet 15 [.ref 25, .ref 1, .int a2, .int a3, .int a4, .int 0] [] I1 L1 F))) : EV (d + 1) mX7_meet [.ref 25, .ref 1, .int a2, .int a3, .int a4] I L F := by
  refine Ev_of (ls0 := 1) (by decide +kernel) rfl rfl rfl ?_
  refine T_aload_n dX7_meet_0 rfl ?_
  refine T_iload_n dX7_meet_1 rfl ?_
  refine T_iload_n dX7_meet_2 rfl ?_
  refine T_iload dX7_meet_3 rfl ?_
  refine S_callVI (M' := mX8_hasMeeting) [.int a2, .int a3, .int a4] [] dX7_meet_5 ml_RX7_18 mkX8_hasMeeting rfl shp_1 rfl rfl rfl (Nat.le_of_ble_eq_true rfl) h (fun r1 I1 L1 h => ?_)
  refine T_if_ne (tgt := 12) dX7_meet_8 (by decide) (tq_ite h (fun h => ?_) (fun h => ?_))
  ·
    exact S_vret rfl dX7_meet_11 h
  ·
    refine T_iconst (v := 0) dX7_meet_12 (by decide +kernel) ?_
    refine T_istore (lv' := [.ref 25, .ref 1, .int a2, .int a3, .int a4, .int 0]) dX7_meet_13 (by decide) rfl ?_
    exact h

set_option maxRecDepth 100000 in
theorem sgX7_meet_15 {d : Nat} {I : st_I} {L : st_L} {F : st_I → st_L → Prop} {x2 : Int32} {x3 : Int32} {x4 : Int32} {x5 : Int32} (h : (if 3 ≤ x5 then TV (d + 1) mX7_meet 65 [.ref 25, .ref 1, .int x2, .int x3, .null, .int 0] [] I L F else vp_in (((x3 * 5) + 1) + x5) 40 ∧ vp_in ((x4 * 3) + x5) 12 ∧ vp_in (0 + x5) 12 ∧ TV (d + 1) mX7_meet 15 [.ref 25, .ref 1, .int x2, .int x3, .int x4, .int (x5 + 1)] [] (u_I I 26 ((0 + x5).toNatClampNeg) ((I 2 ((((x3 * 5) + 1) + x5).toNatClampNeg)) + (I 4 (((x4 * 3) + x5).toNatClampNeg)))) L F)) : TV (d + 1) mX7_meet 15 [.ref 25, .ref 1, .int x2, .int x3, .int x4, .int x5] [] I L F := by
  refine T_iload dX7_meet_15 rfl ?_
  refine T_iconst (v := 3) dX7_meet_17 (by decide +kernel) ?_
  refine T_icmp_ge (tgt := 62) dX7_meet_18 (by decide) (tq_ite h (fun h => ?_) (fun h => ?_))
  ·
    refine T_iconst (v := 0) dX7_meet_62 (by decide +kernel) ?_
    refine T_istore (lv' := [.ref 25, .ref 1, .int x2, .int x3, .int x4, .int 0]) dX7_meet_63 (by decide) rfl ?_
    exact T_wk (lv' := [.ref 25, .ref 1, .int x2, .int x3, .null, .int 0]) ⟨Or.inr rfl, Or.inr rfl, Or.inr rfl, Or.inr rfl, Or.inl rfl, Or.inr rfl, trivial⟩ h
  ·
    refine T_aload_n dX7_meet_21 rfl ?_
    refine T_getr dX7_meet_22 fl_RX7_9 shp_25 rfl ?_
    refine T_iconst (v := 0) dX7_meet_25 (by decide +kernel) ?_
    refine T_iload dX7_meet_26 rfl ?_
    refine T_iadd dX7_meet_28 ?_
    refine T_aload_n dX7_meet_29 rfl ?_
    refine T_getr dX7_meet_30 fl_RX7_24 shp_1 rfl ?_
    refine T_iload_n dX7_meet_33 rfl ?_
    refine T_iconst (v := 5) dX7_meet_34 (by decide +kernel) ?_
    refine T_imul dX7_meet_35 ?_
    refine T_iconst (v := 1) dX7_meet_36 (by decide +kernel) ?_
    refine T_iadd dX7_meet_37 ?_
    refine T_iload dX7_meet_38 rfl ?_
    refine T_iadd dX7_meet_40 ?_
    refine T_ialdv (v := (I 2 ((((x3 * 5) + 1) + x5).toNatClampNeg))) (j := (((x3 * 5) + 1) + x5).toNatClampNeg) dX7_meet_41 shp_2 h.1 rfl rfl ?_
    replace h := h.2
    refine T_aload_n dX7_meet_42 rfl ?_
    refine T_getr dX7_meet_43 fl_RX7_27 shp_1 rfl ?_
    refine T_iload dX7_meet_46 rfl ?_
    refine T_iconst (v := 3) dX7_meet_48 (by decide +kernel) ?_
    refine T_imul dX7_meet_49 ?_
    refine T_iload dX7_meet_50 rfl ?_
    refine T_iadd dX7_meet_52 ?_
    refine T_ialdv (v := (I 4 (((x4 * 3) + x5).toNatClampNeg))) (j := ((x4 * 3) + x5).toNatClampNeg) dX7_meet_53 shp_4 h.1 rfl rfl ?_
    replace h := h.2
    refine T_iadd dX7_meet_54 ?_
    refine T_iastv (j := (0 + x5).toNatClampNeg) dX7_meet_55 shp_26 h.1 rfl ?_
    replace h := h.2
    refine T_iinc (lv' := [.ref 25, .ref 1, .int x2, .int x3, .int x4, .int (x5 + 1)]) dX7_meet_56 rfl (by decide) rfl ?_
    refine T_goto (tgt := 15) dX7_meet_59 (by decide) ?_
    exact h

set_option maxRecDepth 100000 in
theorem sgX7_meet_65 {d : Nat} {I : st_I} {L : st_L} {F : st_I → st_L → Prop} {x2 : Int32} {x3 : Int32} {x5 : Int32} (h : (if 4 ≤ x5 then vp_in (x3 * 5) 40 ∧ vp_in (x2 * 5) 50 ∧ F (u_I (u_I I 26 7 (I 2 ((x3 * 5).toNatClampNeg))) 26 10 (I 3 ((x2 * 5).toNatClampNeg))) L else vp_in (((x2 * 5) + 1) + x5) 50 ∧ vp_in (3 + x5) 12 ∧ TV (d + 1) mX7_meet 65 [.ref 25, .ref 1, .int x2, .int x3, .null, .int (x5 + 1)] [] (u_I I 26 ((3 + x5).toNatClampNeg) (I 3 ((((x2 * 5) + 1) + x5).toNatClampNeg))) L F)) : TV (d + 1) mX7_meet 65 [.ref 25, .ref 1, .int x2, .int x3, .null, .int x5] [] I L F := by
  refine T_iload dX7_meet_65 rfl ?_
  refine T_iconst (v := 4) dX7_meet_67 (by decide +kernel) ?_
  refine T_icmp_ge (tgt := 99) dX7_meet_68 (by decide) (tq_ite h (fun h => ?_) (fun h => ?_))
  ·
    refine T_aload_n dX7_meet_99 rfl ?_
    refine T_getr dX7_meet_100 fl_RX7_9 shp_25 rfl ?_
    refine T_bipush (v := 7) dX7_meet_103 (by decide +kernel) ?_
    refine T_aload_n dX7_meet_105 rfl ?_
    refine T_getr dX7_meet_106 fl_RX7_24 shp_1 rfl ?_
    refine T_iload_n dX7_meet_109 rfl ?_
    refine T_iconst (v := 5) dX7_meet_110 (by decide +kernel) ?_
    refine T_imul dX7_meet_111 ?_
    refine T_ialdv (v := (I 2 ((x3 * 5).toNatClampNeg))) (j := (x3 * 5).toNatClampNeg) dX7_meet_112 shp_2 h.1 rfl rfl ?_
    replace h := h.2
    refine T_iastv (j := 7) dX7_meet_113 shp_26 (tq_inl (by decide +kernel)) (by decide +kernel) ?_
    refine T_aload_n dX7_meet_114 rfl ?_
    refine T_getr dX7_meet_115 fl_RX7_9 shp_25 rfl ?_
    refine T_bipush (v := 10) dX7_meet_118 (by decide +kernel) ?_
    refine T_aload_n dX7_meet_120 rfl ?_
    refine T_getr dX7_meet_121 fl_RX7_30 shp_1 rfl ?_
    refine T_iload_n dX7_meet_124 rfl ?_
    refine T_iconst (v := 5) dX7_meet_125 (by decide +kernel) ?_
    refine T_imul dX7_meet_126 ?_
    refine T_ialdv (v := (I 3 ((x2 * 5).toNatClampNeg))) (j := (x2 * 5).toNatClampNeg) dX7_meet_127 shp_3 h.1 rfl rfl ?_
    replace h := h.2
    refine T_iastv (j := 10) dX7_meet_128 shp_26 (tq_inl (by decide +kernel)) (by decide +kernel) ?_
    exact S_vret rfl dX7_meet_129 h
  ·
    refine T_aload_n dX7_meet_71 rfl ?_
    refine T_getr dX7_meet_72 fl_RX7_9 shp_25 rfl ?_
    refine T_iconst (v := 3) dX7_meet_75 (by decide +kernel) ?_
    refine T_iload dX7_meet_76 rfl ?_
    refine T_iadd dX7_meet_78 ?_
    refine T_aload_n dX7_meet_79 rfl ?_
    refine T_getr dX7_meet_80 fl_RX7_30 shp_1 rfl ?_
    refine T_iload_n dX7_meet_83 rfl ?_
    refine T_iconst (v := 5) dX7_meet_84 (by decide +kernel) ?_
    refine T_imul dX7_meet_85 ?_
    refine T_iconst (v := 1) dX7_meet_86 (by decide +kernel) ?_
    refine T_iadd dX7_meet_87 ?_
    refine T_iload dX7_meet_88 rfl ?_
    refine T_iadd dX7_meet_90 ?_
    refine T_ialdv (v := (I 3 ((((x2 * 5) + 1) + x5).toNatClampNeg))) (j := (((x2 * 5) + 1) + x5).toNatClampNeg) dX7_meet_91 shp_3 h.1 rfl rfl ?_
    replace h := h.2
    refine T_iastv (j := (3 + x5).toNatClampNeg) dX7_meet_92 shp_26 h.1 rfl ?_
    replace h := h.2
    refine T_iinc (lv' := [.ref 25, .ref 1, .int x2, .int x3, .null, .int (x5 + 1)]) dX7_meet_93 rfl (by decide) rfl ?_
    refine T_goto (tgt := 65) dX7_meet_96 (by decide) ?_
    exact h

theorem dX7_attend_0 : decode cX7_attend 0 = .ok (.aload_n 0, 1) := by decide +kernel
theorem dX7_attend_1 : decode cX7_attend 1 = .ok (.getfield 9, 3) := by decide +kernel
theorem dX7_attend_4 : decode cX7_attend 4 = .ok (.bipush 8, 2) := by decide +kernel
theorem dX7_attend_6 : decode cX7_attend 6 = .ok (.iload_n 1, 1) := by decide +kernel
theorem dX7_attend_7 : decode cX7_attend 7 = .ok (.iastore, 1) := by decide +kernel
theorem dX7_attend_8 : decode cX7_attend 8 = .ok (.aload_n 0, 1) := by decide +kernel
theorem dX7_attend_9 : decode cX7_attend 9 = .ok (.getfield 9, 3) := by decide +kernel
theorem dX7_attend_12 : decode cX7_attend 12 = .ok (.bipush 9, 2) := by decide +kernel
theorem dX7_attend_14 : decode cX7_attend 14 = .ok (.iload_n 2, 1) := by decide +kernel
theorem dX7_attend_15 : decode cX7_attend 15 = .ok (.iastore, 1) := by decide +kernel
theorem dX7_attend_16 : decode cX7_attend 16 = .ok (.aload_n 0, 1) := by decide +kernel
theorem dX7_attend_17 : decode cX7_attend 17 = .ok (.getfield 9, 3) := by decide +kernel
theorem dX7_attend_20 : decode cX7_attend 20 = .ok (.bipush 11, 2) := by decide +kernel
theorem dX7_attend_22 : decode cX7_attend 22 = .ok (.iload_n 3, 1) := by decide +kernel
theorem dX7_attend_23 : decode cX7_attend 23 = .ok (.iastore, 1) := by decide +kernel
theorem dX7_attend_24 : decode cX7_attend 24 = .ok (.return_, 1) := by decide +kernel
set_option maxRecDepth 100000 in
theorem sgX7_attend_0 {d : Nat} {I : st_I} {L : st_L} {F : st_I → st_L → Prop} {a1 : Int32} {a2 : Int32} {a3 : Int32} (h : F (u_I (u_I (u_I I 26 8 a1) 26 9 a2) 26 11 a3) L) : EV d mX7_attend [.ref 25, .int a1, .int a2, .int a3] I L F := by
  refine Ev_of (ls0 := 0) (by decide +kernel) rfl rfl rfl ?_
  refine T_aload_n dX7_attend_0 rfl ?_
  refine T_getr dX7_attend_1 fl_RX7_9 shp_25 rfl ?_
  refine T_bipush (v := 8) dX7_attend_4 (by decide +kernel) ?_
  refine T_iload_n dX7_attend_6 rfl ?_
  refine T_iastv (j := 8) dX7_attend_7 shp_26 (tq_inl (by decide +kernel)) (by decide +kernel) ?_
  refine T_aload_n dX7_attend_8 rfl ?_
  refine T_getr dX7_attend_9 fl_RX7_9 shp_25 rfl ?_
  refine T_bipush (v := 9) dX7_attend_12 (by decide +kernel) ?_
  refine T_iload_n dX7_attend_14 rfl ?_
  refine T_iastv (j := 9) dX7_attend_15 shp_26 (tq_inl (by decide +kernel)) (by decide +kernel) ?_
  refine T_aload_n dX7_attend_16 rfl ?_
  refine T_getr dX7_attend_17 fl_RX7_9 shp_25 rfl ?_
  refine T_bipush (v := 11) dX7_attend_20 (by decide +kernel) ?_
  refine T_iload_n dX7_attend_22 rfl ?_
  refine T_iastv (j := 11) dX7_attend_23 shp_26 (tq_inl (by decide +kernel)) (by decide +kernel) ?_
  exact S_vret rfl dX7_attend_24 h

theorem dX7_seat_0 : decode cX7_seat 0 = .ok (.aload_n 0, 1) := by decide +kernel
theorem dX7_seat_1 : decode cX7_seat 1 = .ok (.aload_n 1, 1) := by decide +kernel
theorem dX7_seat_2 : decode cX7_seat 2 = .ok (.aload_n 1, 1) := by decide +kernel
theorem dX7_seat_3 : decode cX7_seat 3 = .ok (.iload_n 2, 1) := by decide +kernel
theorem dX7_seat_4 : decode cX7_seat 4 = .ok (.iload_n 3, 1) := by decide +kernel
theorem dX7_seat_5 : decode cX7_seat 5 = .ok (.iconst 0, 1) := by decide +kernel
theorem dX7_seat_6 : decode cX7_seat 6 = .ok (.invokevirtual 33, 3) := by decide +kernel
theorem dX7_seat_9 : decode cX7_seat 9 = .ok (.aload_n 1, 1) := by decide +kernel
theorem dX7_seat_10 : decode cX7_seat 10 = .ok (.iload_n 2, 1) := by decide +kernel
theorem dX7_seat_11 : decode cX7_seat 11 = .ok (.iload_n 3, 1) := by decide +kernel
theorem dX7_seat_12 : decode cX7_seat 12 = .ok (.iconst 4, 1) := by decide +kernel
theorem dX7_seat_13 : decode cX7_seat 13 = .ok (.iload 4, 2) := by decide +kernel
theorem dX7_seat_15 : decode cX7_seat 15 = .ok (.iadd, 1) := by decide +kernel
theorem dX7_seat_16 : decode cX7_seat 16 = .ok (.invokevirtual 33, 3) := by decide +kernel
theorem dX7_seat_19 : decode cX7_seat 19 = .ok (.aload_n 1, 1) := by decide +kernel
theorem dX7_seat_20 : decode cX7_seat 20 = .ok (.iload_n 2, 1) := by decide +kernel
theorem dX7_seat_21 : decode cX7_seat 21 = .ok (.iload_n 3, 1) := by decide +kernel
theorem dX7_seat_22 : decode cX7_seat 22 = .ok (.iconst 1, 1) := by decide +kernel
theorem dX7_seat_23 : decode cX7_seat 23 = .ok (.invokevirtual 33, 3) := by decide +kernel
theorem dX7_seat_26 : decode cX7_seat 26 = .ok (.invokevirtual 37, 3) := by decide +kernel
theorem dX7_seat_29 : decode cX7_seat 29 = .ok (.aload_n 0, 1) := by decide +kernel
theorem dX7_seat_30 : decode cX7_seat 30 = .ok (.aload_n 1, 1) := by decide +kernel
theorem dX7_seat_31 : decode cX7_seat 31 = .ok (.iload_n 2, 1) := by decide +kernel
theorem dX7_seat_32 : decode cX7_seat 32 = .ok (.iload_n 3, 1) := by decide +kernel
theorem dX7_seat_33 : decode cX7_seat 33 = .ok (.iconst 2, 1) := by decide +kernel
theorem dX7_seat_34 : decode cX7_seat 34 = .ok (.invokevirtual 33, 3) := by decide +kernel
theorem dX7_seat_37 : decode cX7_seat 37 = .ok (.iload 4, 2) := by decide +kernel
theorem dX7_seat_39 : decode cX7_seat 39 = .ok (.iload 5, 2) := by decide +kernel
theorem dX7_seat_41 : decode cX7_seat 41 = .ok (.bipush 10, 2) := by decide +kernel
theorem dX7_seat_43 : decode cX7_seat 43 = .ok (.iload_n 3, 1) := by decide +kernel
theorem dX7_seat_44 : decode cX7_seat 44 = .ok (.imul, 1) := by decide +kernel
theorem dX7_seat_45 : decode cX7_seat 45 = .ok (.iload 4, 2) := by decide +kernel
theorem dX7_seat_47 : decode cX7_seat 47 = .ok (.iadd, 1) := by decide +kernel
theorem dX7_seat_48 : decode cX7_seat 48 = .ok (.invokestatic 41, 3) := by decide +kernel
theorem dX7_seat_51 : decode cX7_seat 51 = .ok (.invokevirtual 45, 3) := by decide +kernel
theorem dX7_seat_54 : decode cX7_seat 54 = .ok (.return_, 1) := by decide +kernel
set_option maxRecDepth 100000 in
theorem sgX7_seat_0 {d : Nat} {I : st_I} {L : st_L} {F : st_I → st_L → Prop} {a2 : Int32} {a3 : Int32} {a4 : Int32} {a5 : Int32} (h : EI d mX8_sat [.ref 1, .int a2, .int a3, .int 0] I L (fun r1 I1 L1 => EI d mX8_sat [.ref 1, .int a2, .int a3, .int (4 + a4)] I1 L1 (fun r2 I2 L2 => EI d mX8_sat [.ref 1, .int a2, .int a3, .int 1] I2 L2 (fun r3 I3 L3 => EV d mX7_meet [.ref 25, .ref 1, .int r1, .int r2, .int r3] I3 L3 (fun I4 L4 => EI d mX8_sat [.ref 1, .int a2, .int a3, .int 2] I4 L4 (fun r5 I5 L5 => EI d mX7_noiseOf [.int a5, .int ((10 * a3) + a4)] I5 L5 (fun r6 I6 L6 => EV d mX7_attend [.ref 25, .int r5, .int a4, .int r6] I6 L6 (fun I7 L7 => F I7 L7)))))))) : EV (d + 1) mX7_seat [.ref 25, .ref 1, .int a2, .int a3, .int a4, .int a5] I L F := by
  refine Ev_of (ls0 := 0) (by decide +kernel) rfl rfl rfl ?_
  refine T_aload_n dX7_seat_0 rfl ?_
  refine T_aload_n dX7_seat_1 rfl ?_
  refine T_aload_n dX7_seat_2 rfl ?_
  refine T_iload_n dX7_seat_3 rfl ?_
  refine T_iload_n dX7_seat_4 rfl ?_
  refine T_iconst (v := 0) dX7_seat_5 (by decide +kernel) ?_
  refine S_callVI (M' := mX8_sat) [.int a2, .int a3, .int 0] [.ref 1, .ref 25] dX7_seat_6 ml_RX7_33 mkX8_sat rfl shp_1 rfl rfl rfl (Nat.le_of_ble_eq_true rfl) h (fun r1 I1 L1 h => ?_)
  refine T_aload_n dX7_seat_9 rfl ?_
  refine T_iload_n dX7_seat_10 rfl ?_
  refine T_iload_n dX7_seat_11 rfl ?_
  refine T_iconst (v := 4) dX7_seat_12 (by decide +kernel) ?_
  refine T_iload dX7_seat_13 rfl ?_
  refine T_iadd dX7_seat_15 ?_
  refine S_callVI (M' := mX8_sat) [.int a2, .int a3, .int (4 + a4)] [.int r1, .ref 1, .ref 25] dX7_seat_16 ml_RX7_33 mkX8_sat rfl shp_1 rfl rfl rfl (Nat.le_of_ble_eq_true rfl) h (fun r2 I2 L2 h => ?_)
  refine T_aload_n dX7_seat_19 rfl ?_
  refine T_iload_n dX7_seat_20 rfl ?_
  refine T_iload_n dX7_seat_21 rfl ?_
  refine T_iconst (v := 1) dX7_seat_22 (by decide +kernel) ?_
  refine S_callVI (M' := mX8_sat) [.int a2, .int a3, .int 1] [.int r2, .int r1, .ref 1, .ref 25] dX7_seat_23 ml_RX7_33 mkX8_sat rfl shp_1 rfl rfl rfl (Nat.le_of_ble_eq_true rfl) h (fun r3 I3 L3 h => ?_)
  refine S_callVV (M' := mX7_meet) [.ref 1, .int r1, .int r2, .int r3] [] dX7_seat_26 ml_RX7_37 mkX7_meet rfl shp_25 rfl rfl rfl (Nat.le_of_ble_eq_true rfl) h (fun I4 L4 h => ?_)
  refine T_aload_n dX7_seat_29 rfl ?_
  refine T_aload_n dX7_seat_30 rfl ?_
  refine T_iload_n dX7_seat_31 rfl ?_
  refine T_iload_n dX7_seat_32 rfl ?_
  refine T_iconst (v := 2) dX7_seat_33 (by decide +kernel) ?_
  refine S_callVI (M' := mX8_sat) [.int a2, .int a3, .int 2] [.ref 25] dX7_seat_34 ml_RX7_33 mkX8_sat rfl shp_1 rfl rfl rfl (Nat.le_of_ble_eq_true rfl) h (fun r5 I5 L5 h => ?_)
  refine T_iload dX7_seat_37 rfl ?_
  refine T_iload dX7_seat_39 rfl ?_
  refine T_bipush (v := 10) dX7_seat_41 (by decide +kernel) ?_
  refine T_iload_n dX7_seat_43 rfl ?_
  refine T_imul dX7_seat_44 ?_
  refine T_iload dX7_seat_45 rfl ?_
  refine T_iadd dX7_seat_47 ?_
  refine S_callSI (M' := mX7_noiseOf) [.int a5, .int ((10 * a3) + a4)] [.int a4, .int r5, .ref 25] dX7_seat_48 ml_RX7_41 mkX7_noiseOf rfl rfl (Nat.le_of_ble_eq_true rfl) h (fun r6 I6 L6 h => ?_)
  refine S_callVV (M' := mX7_attend) [.int r5, .int a4, .int r6] [] dX7_seat_51 ml_RX7_45 mkX7_attend rfl shp_25 rfl rfl rfl (Nat.le_of_ble_eq_true rfl) h (fun I7 L7 h => ?_)
  exact S_vret rfl dX7_seat_54 h

theorem dX7_noiseOf_0 : decode cX7_noiseOf 0 = .ok (.iload_n 0, 1) := by decide +kernel
theorem dX7_noiseOf_1 : decode cX7_noiseOf 1 = .ok (.bipush 11, 2) := by decide +kernel
theorem dX7_noiseOf_3 : decode cX7_noiseOf 3 = .ok (.invokestatic 49, 3) := by decide +kernel
theorem dX7_noiseOf_6 : decode cX7_noiseOf 6 = .ok (.iload_n 1, 1) := by decide +kernel
theorem dX7_noiseOf_7 : decode cX7_noiseOf 7 = .ok (.invokestatic 49, 3) := by decide +kernel
theorem dX7_noiseOf_10 : decode cX7_noiseOf 10 = .ok (.istore_n 2, 1) := by decide +kernel
theorem dX7_noiseOf_11 : decode cX7_noiseOf 11 = .ok (.iload_n 2, 1) := by decide +kernel
theorem dX7_noiseOf_12 : decode cX7_noiseOf 12 = .ok (.iconst 1, 1) := by decide +kernel
theorem dX7_noiseOf_13 : decode cX7_noiseOf 13 = .ok (.iushr, 1) := by decide +kernel
theorem dX7_noiseOf_14 : decode cX7_noiseOf 14 = .ok (.bipush 10, 2) := by decide +kernel
theorem dX7_noiseOf_16 : decode cX7_noiseOf 16 = .ok (.irem, 1) := by decide +kernel
theorem dX7_noiseOf_17 : decode cX7_noiseOf 17 = .ok (.ireturn, 1) := by decide +kernel
set_option maxRecDepth 100000 in
theorem sgX7_noiseOf_0 {d : Nat} {I : st_I} {L : st_L} {F : Int32 → st_I → st_L → Prop} {a1 : Int32} {a2 : Int32} (h : EI d mX7_stirred [.int a1, .int 11] I L (fun r1 I1 L1 => EI d mX7_stirred [.int r1, .int a2] I1 L1 (fun r2 I2 L2 => F ((((r2).toUInt32 >>> ((1 : Int32).toUInt32 &&& Int32.toUInt32 31)).toInt32) - (((r2).toUInt32 >>> ((1 : Int32).toUInt32 &&& Int32.toUInt32 31)).toInt32) / 10 * 10) I2 L2))) : EI (d + 1) mX7_noiseOf [.int a1, .int a2] I L F := by
  refine Ev_of (ls0 := 1) (by decide +kernel) rfl rfl rfl ?_
  refine T_iload_n dX7_noiseOf_0 rfl ?_
  refine T_bipush (v := 11) dX7_noiseOf_1 (by decide +kernel) ?_
  refine S_callSI (M' := mX7_stirred) [.int a1, .int 11] [] dX7_noiseOf_3 ml_RX7_49 mkX7_stirred rfl rfl (Nat.le_of_ble_eq_true rfl) h (fun r1 I1 L1 h => ?_)
  refine T_iload_n dX7_noiseOf_6 rfl ?_
  refine S_callSI (M' := mX7_stirred) [.int r1, .int a2] [] dX7_noiseOf_7 ml_RX7_49 mkX7_stirred rfl rfl (Nat.le_of_ble_eq_true rfl) h (fun r2 I2 L2 h => ?_)
  refine T_istore_n (lv' := [.int a1, .int a2, .int r2]) dX7_noiseOf_10 rfl (by decide) rfl ?_
  refine T_iload_n dX7_noiseOf_11 rfl ?_
  refine T_iconst (v := 1) dX7_noiseOf_12 (by decide +kernel) ?_
  refine T_iushr dX7_noiseOf_13 ?_
  refine T_bipush (v := 10) dX7_noiseOf_14 (by decide +kernel) ?_
  refine T_irem dX7_noiseOf_16 (by decide) ?_
  exact S_iret rfl dX7_noiseOf_17 h

theorem dX7_stirred_0 : decode cX7_stirred 0 = .ok (.iload_n 0, 1) := by decide +kernel
theorem dX7_stirred_1 : decode cX7_stirred 1 = .ok (.iload_n 1, 1) := by decide +kernel
theorem dX7_stirred_2 : decode cX7_stirred 2 = .ok (.ixor, 1) := by decide +kernel
theorem dX7_stirred_3 : decode cX7_stirred 3 = .ok (.ldc 52, 2) := by decide +kernel
theorem dX7_stirred_5 : decode cX7_stirred 5 = .ok (.imul, 1) := by decide +kernel
theorem dX7_stirred_6 : decode cX7_stirred 6 = .ok (.sipush 12345, 3) := by decide +kernel
theorem dX7_stirred_9 : decode cX7_stirred 9 = .ok (.iadd, 1) := by decide +kernel
theorem dX7_stirred_10 : decode cX7_stirred 10 = .ok (.istore_n 2, 1) := by decide +kernel
theorem dX7_stirred_11 : decode cX7_stirred 11 = .ok (.iload_n 2, 1) := by decide +kernel
theorem dX7_stirred_12 : decode cX7_stirred 12 = .ok (.iload_n 2, 1) := by decide +kernel
theorem dX7_stirred_13 : decode cX7_stirred 13 = .ok (.bipush 15, 2) := by decide +kernel
theorem dX7_stirred_15 : decode cX7_stirred 15 = .ok (.iushr, 1) := by decide +kernel
theorem dX7_stirred_16 : decode cX7_stirred 16 = .ok (.ixor, 1) := by decide +kernel
theorem dX7_stirred_17 : decode cX7_stirred 17 = .ok (.ireturn, 1) := by decide +kernel
set_option maxRecDepth 100000 in
theorem sgX7_stirred_0 {d : Nat} {I : st_I} {L : st_L} {F : Int32 → st_I → st_L → Prop} {a1 : Int32} {a2 : Int32} (h : F ((((a1 ^^^ a2) * 1103515245) + 12345) ^^^ ((((((a1 ^^^ a2) * 1103515245) + 12345)).toUInt32 >>> ((15 : Int32).toUInt32 &&& Int32.toUInt32 31)).toInt32)) I L) : EI d mX7_stirred [.int a1, .int a2] I L F := by
  refine Ev_of (ls0 := 1) (by decide +kernel) rfl rfl rfl ?_
  refine T_iload_n dX7_stirred_0 rfl ?_
  refine T_iload_n dX7_stirred_1 rfl ?_
  refine T_ixor dX7_stirred_2 ?_
  refine T_ldc (v := 1103515245) dX7_stirred_3 ki_RX7_52 ?_
  refine T_imul dX7_stirred_5 ?_
  refine T_sipush (v := 12345) dX7_stirred_6 (by decide +kernel) ?_
  refine T_iadd dX7_stirred_9 ?_
  refine T_istore_n (lv' := [.int a1, .int a2, .int (((a1 ^^^ a2) * 1103515245) + 12345)]) dX7_stirred_10 rfl (by decide) rfl ?_
  refine T_iload_n dX7_stirred_11 rfl ?_
  refine T_iload_n dX7_stirred_12 rfl ?_
  refine T_bipush (v := 15) dX7_stirred_13 (by decide +kernel) ?_
  refine T_iushr dX7_stirred_15 ?_
  refine T_ixor dX7_stirred_16 ?_
  exact S_iret rfl dX7_stirred_17 h

theorem dX7_like_0 : decode cX7_like 0 = .ok (.aload_n 1, 1) := by decide +kernel
theorem dX7_like_1 : decode cX7_like 1 = .ok (.iload_n 2, 1) := by decide +kernel
theorem dX7_like_2 : decode cX7_like 2 = .ok (.invokevirtual 53, 3) := by decide +kernel
theorem dX7_like_5 : decode cX7_like 5 = .ok (.istore_n 3, 1) := by decide +kernel
theorem dX7_like_6 : decode cX7_like 6 = .ok (.iconst 0, 1) := by decide +kernel
theorem dX7_like_7 : decode cX7_like 7 = .ok (.istore 4, 2) := by decide +kernel
theorem dX7_like_9 : decode cX7_like 9 = .ok (.aload_n 0, 1) := by decide +kernel
theorem dX7_like_10 : decode cX7_like 10 = .ok (.getfield 15, 3) := by decide +kernel
theorem dX7_like_13 : decode cX7_like 13 = .ok (.iconst 0, 1) := by decide +kernel
theorem dX7_like_14 : decode cX7_like 14 = .ok (.iconst 0, 1) := by decide +kernel
theorem dX7_like_15 : decode cX7_like 15 = .ok (.iastore, 1) := by decide +kernel
theorem dX7_like_16 : decode cX7_like 16 = .ok (.aload_n 1, 1) := by decide +kernel
theorem dX7_like_17 : decode cX7_like 17 = .ok (.iload_n 2, 1) := by decide +kernel
theorem dX7_like_18 : decode cX7_like 18 = .ok (.invokevirtual 57, 3) := by decide +kernel
theorem dX7_like_21 : decode cX7_like 21 = .ok (.istore 5, 2) := by decide +kernel
theorem dX7_like_23 : decode cX7_like 23 = .ok (.iload 5, 2) := by decide +kernel
theorem dX7_like_25 : decode cX7_like 25 = .ok (.iload_n 3, 1) := by decide +kernel
theorem dX7_like_26 : decode cX7_like 26 = .ok (.if_icmp .ge 138, 3) := by decide +kernel
theorem dX7_like_29 : decode cX7_like 29 = .ok (.aload_n 1, 1) := by decide +kernel
theorem dX7_like_30 : decode cX7_like 30 = .ok (.getfield 60, 3) := by decide +kernel
theorem dX7_like_33 : decode cX7_like 33 = .ok (.iload 5, 2) := by decide +kernel
theorem dX7_like_35 : decode cX7_like 35 = .ok (.iaload, 1) := by decide +kernel
theorem dX7_like_36 : decode cX7_like 36 = .ok (.istore 6, 2) := by decide +kernel
theorem dX7_like_38 : decode cX7_like 38 = .ok (.iload 6, 2) := by decide +kernel
theorem dX7_like_40 : decode cX7_like 40 = .ok (.ineg, 1) := by decide +kernel
theorem dX7_like_41 : decode cX7_like 41 = .ok (.sipush 128, 3) := by decide +kernel
theorem dX7_like_44 : decode cX7_like 44 = .ok (.isub, 1) := by decide +kernel
theorem dX7_like_45 : decode cX7_like 45 = .ok (.istore 7, 2) := by decide +kernel
theorem dX7_like_47 : decode cX7_like 47 = .ok (.iload 6, 2) := by decide +kernel
theorem dX7_like_49 : decode cX7_like 49 = .ok (.ifCond .ge 15, 3) := by decide +kernel
theorem dX7_like_52 : decode cX7_like 52 = .ok (.iload 7, 2) := by decide +kernel
theorem dX7_like_54 : decode cX7_like 54 = .ok (.ifCond .lt 14, 3) := by decide +kernel
theorem dX7_like_57 : decode cX7_like 57 = .ok (.iload 7, 2) := by decide +kernel
theorem dX7_like_59 : decode cX7_like 59 = .ok (.bipush 12, 2) := by decide +kernel
theorem dX7_like_61 : decode cX7_like 61 = .ok (.if_icmp .ge 7, 3) := by decide +kernel
theorem dX7_like_64 : decode cX7_like 64 = .ok (.iconst 1, 1) := by decide +kernel
theorem dX7_like_65 : decode cX7_like 65 = .ok (.goto 4, 3) := by decide +kernel
theorem dX7_like_68 : decode cX7_like 68 = .ok (.iconst 0, 1) := by decide +kernel
theorem dX7_like_69 : decode cX7_like 69 = .ok (.istore 8, 2) := by decide +kernel
theorem dX7_like_71 : decode cX7_like 71 = .ok (.iload 8, 2) := by decide +kernel
theorem dX7_like_73 : decode cX7_like 73 = .ok (.ifCond .eq 40, 3) := by decide +kernel
theorem dX7_like_76 : decode cX7_like 76 = .ok (.iload 4, 2) := by decide +kernel
theorem dX7_like_78 : decode cX7_like 78 = .ok (.bipush 24, 2) := by decide +kernel
theorem dX7_like_80 : decode cX7_like 80 = .ok (.if_icmp .ge 33, 3) := by decide +kernel
theorem dX7_like_83 : decode cX7_like 83 = .ok (.aload_n 0, 1) := by decide +kernel
theorem dX7_like_84 : decode cX7_like 84 = .ok (.getfield 15, 3) := by decide +kernel
theorem dX7_like_87 : decode cX7_like 87 = .ok (.iload 4, 2) := by decide +kernel
theorem dX7_like_89 : decode cX7_like 89 = .ok (.iload 6, 2) := by decide +kernel
theorem dX7_like_91 : decode cX7_like 91 = .ok (.ifCond .lt 8, 3) := by decide +kernel
theorem dX7_like_94 : decode cX7_like 94 = .ok (.iload 6, 2) := by decide +kernel
theorem dX7_like_96 : decode cX7_like 96 = .ok (.goto 10, 3) := by decide +kernel
theorem dX7_like_99 : decode cX7_like 99 = .ok (.aload_n 0, 1) := by decide +kernel
theorem dX7_like_100 : decode cX7_like 100 = .ok (.getfield 9, 3) := by decide +kernel
theorem dX7_like_103 : decode cX7_like 103 = .ok (.iload 7, 2) := by decide +kernel
theorem dX7_like_105 : decode cX7_like 105 = .ok (.iaload, 1) := by decide +kernel
theorem dX7_like_106 : decode cX7_like 106 = .ok (.iastore, 1) := by decide +kernel
theorem dX7_like_107 : decode cX7_like 107 = .ok (.iinc 4 1, 3) := by decide +kernel
theorem dX7_like_110 : decode cX7_like 110 = .ok (.goto 48, 3) := by decide +kernel
theorem dX7_like_113 : decode cX7_like 113 = .ok (.iload 8, 2) := by decide +kernel
theorem dX7_like_115 : decode cX7_like 115 = .ok (.ifCond .ne 43, 3) := by decide +kernel
theorem dX7_like_118 : decode cX7_like 118 = .ok (.iload 4, 2) := by decide +kernel
theorem dX7_like_120 : decode cX7_like 120 = .ok (.iconst 2, 1) := by decide +kernel
theorem dX7_like_121 : decode cX7_like 121 = .ok (.if_icmp .lt 37, 3) := by decide +kernel
theorem dX7_like_124 : decode cX7_like 124 = .ok (.iinc 4 (-1), 3) := by decide +kernel
theorem dX7_like_127 : decode cX7_like 127 = .ok (.aload_n 0, 1) := by decide +kernel
theorem dX7_like_128 : decode cX7_like 128 = .ok (.getfield 15, 3) := by decide +kernel
theorem dX7_like_131 : decode cX7_like 131 = .ok (.iload 4, 2) := by decide +kernel
theorem dX7_like_133 : decode cX7_like 133 = .ok (.iconst 1, 1) := by decide +kernel
theorem dX7_like_134 : decode cX7_like 134 = .ok (.isub, 1) := by decide +kernel
theorem dX7_like_135 : decode cX7_like 135 = .ok (.iload 6, 2) := by decide +kernel
theorem dX7_like_137 : decode cX7_like 137 = .ok (.ineg, 1) := by decide +kernel
theorem dX7_like_138 : decode cX7_like 138 = .ok (.aload_n 0, 1) := by decide +kernel
theorem dX7_like_139 : decode cX7_like 139 = .ok (.getfield 15, 3) := by decide +kernel
theorem dX7_like_142 : decode cX7_like 142 = .ok (.iload 4, 2) := by decide +kernel
theorem dX7_like_144 : decode cX7_like 144 = .ok (.iconst 1, 1) := by decide +kernel
theorem dX7_like_145 : decode cX7_like 145 = .ok (.isub, 1) := by decide +kernel
theorem dX7_like_146 : decode cX7_like 146 = .ok (.iaload, 1) := by decide +kernel
theorem dX7_like_147 : decode cX7_like 147 = .ok (.aload_n 0, 1) := by decide +kernel
theorem dX7_like_148 : decode cX7_like 148 = .ok (.getfield 15, 3) := by decide +kernel
theorem dX7_like_151 : decode cX7_like 151 = .ok (.iload 4, 2) := by decide +kernel
theorem dX7_like_153 : decode cX7_like 153 = .ok (.iaload, 1) := by decide +kernel
theorem dX7_like_154 : decode cX7_like 154 = .ok (.invokestatic 63, 3) := by decide +kernel
theorem dX7_like_157 : decode cX7_like 157 = .ok (.iastore, 1) := by decide +kernel
theorem dX7_like_158 : decode cX7_like 158 = .ok (.iinc 5 1, 3) := by decide +kernel
theorem dX7_like_161 : decode cX7_like 161 = .ok (.goto (-138), 3) := by decide +kernel
theorem dX7_like_164 : decode cX7_like 164 = .ok (.aload_n 0, 1) := by decide +kernel
theorem dX7_like_165 : decode cX7_like 165 = .ok (.getfield 15, 3) := by decide +kernel
theorem dX7_like_168 : decode cX7_like 168 = .ok (.iconst 0, 1) := by decide +kernel
theorem dX7_like_169 : decode cX7_like 169 = .ok (.iaload, 1) := by decide +kernel
theorem dX7_like_170 : decode cX7_like 170 = .ok (.ireturn, 1) := by decide +kernel
set_option maxRecDepth 100000 in
theorem sgX7_like_0 {d : Nat} {I : st_I} {L : st_L} {F : Int32 → st_I → st_L → Prop} {a2 : Int32} (h : EI d mX8_lawEnd [.ref 1, .int a2] I L (fun r1 I1 L1 => EI d mX8_lawStart [.ref 1, .int a2] (u_I I1 27 0 0) L1 (fun r2 I2 L2 => TI (d + 1) mX7_like 23 [.ref 25, .ref 1, .null, .int r1, .int 0, .int r2, .null, .null, .null] [] I2 L2 F))) : EI (d + 1) mX7_like [.ref 25, .ref 1, .int a2] I L F := by
  refine Ev_of (ls0 := 6) (by decide +kernel) rfl rfl rfl ?_
  refine T_aload_n dX7_like_0 rfl ?_
  refine T_iload_n dX7_like_1 rfl ?_
  refine S_callVI (M' := mX8_lawEnd) [.int a2] [] dX7_like_2 ml_RX7_53 mkX8_lawEnd rfl shp_1 rfl rfl rfl (Nat.le_of_ble_eq_true rfl) h (fun r1 I1 L1 h => ?_)
  refine T_istore_n (lv' := [.ref 25, .ref 1, .int a2, .int r1, .null, .null, .null, .null, .null]) dX7_like_5 rfl (by decide) rfl ?_
  refine T_iconst (v := 0) dX7_like_6 (by decide +kernel) ?_
  refine T_istore (lv' := [.ref 25, .ref 1, .int a2, .int r1, .int 0, .null, .null, .null, .null]) dX7_like_7 (by decide) rfl ?_
  refine T_aload_n dX7_like_9 rfl ?_
  refine T_getr dX7_like_10 fl_RX7_15 shp_25 rfl ?_
  refine T_iconst (v := 0) dX7_like_13 (by decide +kernel) ?_
  refine T_iconst (v := 0) dX7_like_14 (by decide +kernel) ?_
  refine T_iastv (j := 0) dX7_like_15 shp_27 (tq_inl (by decide +kernel)) (by decide +kernel) ?_
  refine T_aload_n dX7_like_16 rfl ?_
  refine T_iload_n dX7_like_17 rfl ?_
  refine S_callVI (M' := mX8_lawStart) [.int a2] [] dX7_like_18 ml_RX7_57 mkX8_lawStart rfl shp_1 rfl rfl rfl (Nat.le_of_ble_eq_true rfl) h (fun r2 I2 L2 h => ?_)
  refine T_istore (lv' := [.ref 25, .ref 1, .int a2, .int r1, .int 0, .int r2, .null, .null, .null]) dX7_like_21 (by decide) rfl ?_
  exact T_wk (lv' := [.ref 25, .ref 1, .null, .int r1, .int 0, .int r2, .null, .null, .null]) ⟨Or.inr rfl, Or.inr rfl, Or.inl rfl, Or.inr rfl, Or.inr rfl, Or.inr rfl, Or.inr rfl, Or.inr rfl, Or.inr rfl, trivial⟩ h

set_option maxRecDepth 100000 in
theorem sgX7_like_23 {d : Nat} {I : st_I} {L : st_L} {F : Int32 → st_I → st_L → Prop} {x3 : Int32} {x4 : Int32} {x5 : Int32} (h : (if x3 ≤ x5 then F (I 27 0) I L else vp_in x5 400 ∧ (if (if 0 ≤ (I 5 (x5.toNatClampNeg)) then (1 : Int32) else (if ((-(I 5 (x5.toNatClampNeg))) - 128) < 0 then (0 : Int32) else (if 12 ≤ ((-(I 5 (x5.toNatClampNeg))) - 128) then (0 : Int32) else 1))) = 0 then TI (d + 1) mX7_like 113 [.ref 25, .ref 1, .null, .int x3, .int x4, .int x5, .int (I 5 (x5.toNatClampNeg)), .null, .int (if 0 ≤ (I 5 (x5.toNatClampNeg)) then (1 : Int32) else (if ((-(I 5 (x5.toNatClampNeg))) - 128) < 0 then (0 : Int32) else (if 12 ≤ ((-(I 5 (x5.toNatClampNeg))) - 128) then (0 : Int32) else 1)))] [] I L F else (if 24 ≤ x4 then TI (d + 1) mX7_like 113 [.ref 25, .ref 1, .null, .int x3, .int x4, .int x5, .int (I 5 (x5.toNatClampNeg)), .null, .int (if 0 ≤ (I 5 (x5.toNatClampNeg)) then (1 : Int32) else (if ((-(I 5 (x5.toNatClampNeg))) - 128) < 0 then (0 : Int32) else (if 12 ≤ ((-(I 5 (x5.toNatClampNeg))) - 128) then (0 : Int32) else 1)))] [] I L F else (if (I 5 (x5.toNatClampNeg)) < 0 then vp_in ((-(I 5 (x5.toNatClampNeg))) - 128) 12 ∧ vp_in x4 24 ∧ TI (d + 1) mX7_like 23 [.ref 25, .ref 1, .null, .int x3, .int (x4 + 1), .int (x5 + 1), .null, .null, .null] [] (u_I I 27 (x4.toNatClampNeg) (I 26 (((-(I 5 (x5.toNatClampNeg))) - 128).toNatClampNeg))) L F else vp_in x4 24 ∧ TI (d + 1) mX7_like 23 [.ref 25, .ref 1, .null, .int x3, .int (x4 + 1), .int (x5 + 1), .null, .null, .null] [] (u_I I 27 (x4.toNatClampNeg) (I 5 (x5.toNatClampNeg))) L F))))) : TI (d + 1) mX7_like 23 [.ref 25, .ref 1, .null, .int x3, .int x4, .int x5, .null, .null, .null] [] I L F := by
  refine T_iload dX7_like_23 rfl ?_
  refine T_iload_n dX7_like_25 rfl ?_
  refine T_icmp_ge (tgt := 164) dX7_like_26 (by decide) (tq_ite h (fun h => ?_) (fun h => ?_))
  ·
    refine T_aload_n dX7_like_164 rfl ?_
    refine T_getr dX7_like_165 fl_RX7_15 shp_25 rfl ?_
    refine T_iconst (v := 0) dX7_like_168 (by decide +kernel) ?_
    refine T_ialdv (v := (I 27 0)) (j := 0) dX7_like_169 shp_27 (tq_inl (by decide +kernel)) (by decide +kernel) rfl ?_
    exact S_iret rfl dX7_like_170 h
  ·
    refine T_aload_n dX7_like_29 rfl ?_
    refine T_getr dX7_like_30 fl_RX7_60 shp_1 rfl ?_
    refine T_iload dX7_like_33 rfl ?_
    refine T_ialdv (v := (I 5 (x5.toNatClampNeg))) (j := x5.toNatClampNeg) dX7_like_35 shp_5 h.1 rfl rfl ?_
    replace h := h.2
    refine T_istore (lv' := [.ref 25, .ref 1, .null, .int x3, .int x4, .int x5, .int (I 5 (x5.toNatClampNeg)), .null, .null]) dX7_like_36 (by decide) rfl ?_
    refine T_iload dX7_like_38 rfl ?_
    refine T_ineg dX7_like_40 ?_
    refine T_sipush (v := 128) dX7_like_41 (by decide +kernel) ?_
    refine T_isub dX7_like_44 ?_
    refine T_istore (lv' := [.ref 25, .ref 1, .null, .int x3, .int x4, .int x5, .int (I 5 (x5.toNatClampNeg)), .int ((-(I 5 (x5.toNatClampNeg))) - 128), .null]) dX7_like_45 (by decide) rfl ?_
    refine T_iload dX7_like_47 rfl ?_
    refine T_if_ge (tgt := 64) dX7_like_49 (by decide) (tq_itv (fun v => T shp (d + 1) mX7_like 69 [.ref 25, .ref 1, .null, .int x3, .int x4, .int x5, .int (I 5 (x5.toNatClampNeg)), .int ((-(I 5 (x5.toNatClampNeg))) - 128), .null] (.int v :: []) I L (kI F)) 1 (if ((-(I 5 (x5.toNatClampNeg))) - 128) < 0 then (0 : Int32) else (if 12 ≤ ((-(I 5 (x5.toNatClampNeg))) - 128) then (0 : Int32) else 1)) (fun hJ => ?_) (fun hJ => ?_) ?_)
    ·
        refine T_iconst (v := 1) dX7_like_64 (by decide +kernel) ?_
        refine T_goto (tgt := 69) dX7_like_65 (by decide) ?_
        exact hJ
    ·
        refine T_iload dX7_like_52 rfl ?_
        refine T_if_lt (tgt := 68) dX7_like_54 (by decide) (tq_itv (fun v => T shp (d + 1) mX7_like 69 [.ref 25, .ref 1, .null, .int x3, .int x4, .int x5, .int (I 5 (x5.toNatClampNeg)), .int ((-(I 5 (x5.toNatClampNeg))) - 128), .null] (.int v :: []) I L (kI F)) 0 (if 12 ≤ ((-(I 5 (x5.toNatClampNeg))) - 128) then (0 : Int32) else 1) (fun hJ => ?_) (fun hJ => ?_) hJ)
        ·
          refine T_iconst (v := 0) dX7_like_68 (by decide +kernel) ?_
          exact hJ
        ·
          refine T_iload dX7_like_57 rfl ?_
          refine T_bipush (v := 12) dX7_like_59 (by decide +kernel) ?_
          refine T_icmp_ge (tgt := 68) dX7_like_61 (by decide) (tq_itv (fun v => T shp (d + 1) mX7_like 69 [.ref 25, .ref 1, .null, .int x3, .int x4, .int x5, .int (I 5 (x5.toNatClampNeg)), .int ((-(I 5 (x5.toNatClampNeg))) - 128), .null] (.int v :: []) I L (kI F)) 0 1 (fun hJ => ?_) (fun hJ => ?_) hJ)
          ·
            refine T_iconst (v := 0) dX7_like_68 (by decide +kernel) ?_
            exact hJ
          ·
            refine T_iconst (v := 1) dX7_like_64 (by decide +kernel) ?_
            refine T_goto (tgt := 69) dX7_like_65 (by decide) ?_
            exact hJ
    refine T_istore (lv' := [.ref 25, .ref 1, .null, .int x3, .int x4, .int x5, .int (I 5 (x5.toNatClampNeg)), .int ((-(I 5 (x5.toNatClampNeg))) - 128), .int (if 0 ≤ (I 5 (x5.toNatClampNeg)) then (1 : Int32) else (if ((-(I 5 (x5.toNatClampNeg))) - 128) < 0 then (0 : Int32) else (if 12 ≤ ((-(I 5 (x5.toNatClampNeg))) - 128) then (0 : Int32) else 1)))]) dX7_like_69 (by decide) rfl ?_
    refine T_iload dX7_like_71 rfl ?_
    refine T_if_eq (tgt := 113) dX7_like_73 (by decide) (tq_ite h (fun h => ?_) (fun h => ?_))
    ·
      exact T_wk (lv' := [.ref 25, .ref 1, .null, .int x3, .int x4, .int x5, .int (I 5 (x5.toNatClampNeg)), .null, .int (if 0 ≤ (I 5 (x5.toNatClampNeg)) then (1 : Int32) else (if ((-(I 5 (x5.toNatClampNeg))) - 128) < 0 then (0 : Int32) else (if 12 ≤ ((-(I 5 (x5.toNatClampNeg))) - 128) then (0 : Int32) else 1)))]) ⟨Or.inr rfl, Or.inr rfl, Or.inr rfl, Or.inr rfl, Or.inr rfl, Or.inr rfl, Or.inr rfl, Or.inl rfl, Or.inr rfl, trivial⟩ h
    ·
      refine T_iload dX7_like_76 rfl ?_
      refine T_bipush (v := 24) dX7_like_78 (by decide +kernel) ?_
      refine T_icmp_ge (tgt := 113) dX7_like_80 (by decide) (tq_ite h (fun h => ?_) (fun h => ?_))
      ·
        exact T_wk (lv' := [.ref 25, .ref 1, .null, .int x3, .int x4, .int x5, .int (I 5 (x5.toNatClampNeg)), .null, .int (if 0 ≤ (I 5 (x5.toNatClampNeg)) then (1 : Int32) else (if ((-(I 5 (x5.toNatClampNeg))) - 128) < 0 then (0 : Int32) else (if 12 ≤ ((-(I 5 (x5.toNatClampNeg))) - 128) then (0 : Int32) else 1)))]) ⟨Or.inr rfl, Or.inr rfl, Or.inr rfl, Or.inr rfl, Or.inr rfl, Or.inr rfl, Or.inr rfl, Or.inl rfl, Or.inr rfl, trivial⟩ h
      ·
        refine T_aload_n dX7_like_83 rfl ?_
        refine T_getr dX7_like_84 fl_RX7_15 shp_25 rfl ?_
        refine T_iload dX7_like_87 rfl ?_
        refine T_iload dX7_like_89 rfl ?_
        refine T_if_lt (tgt := 99) dX7_like_91 (by decide) (tq_ite h (fun h => ?_) (fun h => ?_))
        ·
          refine T_aload_n dX7_like_99 rfl ?_
          refine T_getr dX7_like_100 fl_RX7_9 shp_25 rfl ?_
          refine T_iload dX7_like_103 rfl ?_
          refine T_ialdv (v := (I 26 (((-(I 5 (x5.toNatClampNeg))) - 128).toNatClampNeg))) (j := ((-(I 5 (x5.toNatClampNeg))) - 128).toNatClampNeg) dX7_like_105 shp_26 h.1 rfl rfl ?_
          replace h := h.2
          refine T_iastv (j := x4.toNatClampNeg) dX7_like_106 shp_27 h.1 rfl ?_
          replace h := h.2
          refine T_iinc (lv' := [.ref 25, .ref 1, .null, .int x3, .int (x4 + 1), .int x5, .int (I 5 (x5.toNatClampNeg)), .int ((-(I 5 (x5.toNatClampNeg))) - 128), .int (if 0 ≤ (I 5 (x5.toNatClampNeg)) then (1 : Int32) else (if ((-(I 5 (x5.toNatClampNeg))) - 128) < 0 then (0 : Int32) else (if 12 ≤ ((-(I 5 (x5.toNatClampNeg))) - 128) then (0 : Int32) else 1)))]) dX7_like_107 rfl (by decide) rfl ?_
          refine T_goto (tgt := 158) dX7_like_110 (by decide) ?_
          refine T_iinc (lv' := [.ref 25, .ref 1, .null, .int x3, .int (x4 + 1), .int (x5 + 1), .int (I 5 (x5.toNatClampNeg)), .int ((-(I 5 (x5.toNatClampNeg))) - 128), .int (if 0 ≤ (I 5 (x5.toNatClampNeg)) then (1 : Int32) else (if ((-(I 5 (x5.toNatClampNeg))) - 128) < 0 then (0 : Int32) else (if 12 ≤ ((-(I 5 (x5.toNatClampNeg))) - 128) then (0 : Int32) else 1)))]) dX7_like_158 rfl (by decide) rfl ?_
          refine T_goto (tgt := 23) dX7_like_161 (by decide) ?_
          exact T_wk (lv' := [.ref 25, .ref 1, .null, .int x3, .int (x4 + 1), .int (x5 + 1), .null, .null, .null]) ⟨Or.inr rfl, Or.inr rfl, Or.inr rfl, Or.inr rfl, Or.inr rfl, Or.inr rfl, Or.inl rfl, Or.inl rfl, Or.inl rfl, trivial⟩ h
        ·
          refine T_iload dX7_like_94 rfl ?_
          refine T_goto (tgt := 106) dX7_like_96 (by decide) ?_
          refine T_iastv (j := x4.toNatClampNeg) dX7_like_106 shp_27 h.1 rfl ?_
          replace h := h.2
          refine T_iinc (lv' := [.ref 25, .ref 1, .null, .int x3, .int (x4 + 1), .int x5, .int (I 5 (x5.toNatClampNeg)), .int ((-(I 5 (x5.toNatClampNeg))) - 128), .int (if 0 ≤ (I 5 (x5.toNatClampNeg)) then (1 : Int32) else (if ((-(I 5 (x5.toNatClampNeg))) - 128) < 0 then (0 : Int32) else (if 12 ≤ ((-(I 5 (x5.toNatClampNeg))) - 128) then (0 : Int32) else 1)))]) dX7_like_107 rfl (by decide) rfl ?_
          refine T_goto (tgt := 158) dX7_like_110 (by decide) ?_
          refine T_iinc (lv' := [.ref 25, .ref 1, .null, .int x3, .int (x4 + 1), .int (x5 + 1), .int (I 5 (x5.toNatClampNeg)), .int ((-(I 5 (x5.toNatClampNeg))) - 128), .int (if 0 ≤ (I 5 (x5.toNatClampNeg)) then (1 : Int32) else (if ((-(I 5 (x5.toNatClampNeg))) - 128) < 0 then (0 : Int32) else (if 12 ≤ ((-(I 5 (x5.toNatClampNeg))) - 128) then (0 : Int32) else 1)))]) dX7_like_158 rfl (by decide) rfl ?_
          refine T_goto (tgt := 23) dX7_like_161 (by decide) ?_
          exact T_wk (lv' := [.ref 25, .ref 1, .null, .int x3, .int (x4 + 1), .int (x5 + 1), .null, .null, .null]) ⟨Or.inr rfl, Or.inr rfl, Or.inr rfl, Or.inr rfl, Or.inr rfl, Or.inr rfl, Or.inl rfl, Or.inl rfl, Or.inl rfl, trivial⟩ h

set_option maxRecDepth 100000 in
theorem sgX7_like_113 {d : Nat} {I : st_I} {L : st_L} {F : Int32 → st_I → st_L → Prop} {x3 : Int32} {x4 : Int32} {x5 : Int32} {x6 : Int32} {x8 : Int32} (h : (if x8 = 0 then (if x4 < 2 then TI (d + 1) mX7_like 23 [.ref 25, .ref 1, .null, .int x3, .int x4, .int (x5 + 1), .null, .null, .null] [] I L F else vp_in ((x4 + (-1)) - 1) 24 ∧ vp_in (x4 + (-1)) 24 ∧ EI d mX7_joined [.int (-x6), .int (I 27 (((x4 + (-1)) - 1).toNatClampNeg)), .int (I 27 ((x4 + (-1)).toNatClampNeg))] I L (fun r1 I1 L1 => vp_in ((x4 + (-1)) - 1) 24 ∧ TI (d + 1) mX7_like 23 [.ref 25, .ref 1, .null, .int x3, .int (x4 + (-1)), .int (x5 + 1), .null, .null, .null] [] (u_I I1 27 (((x4 + (-1)) - 1).toNatClampNeg) r1) L1 F)) else TI (d + 1) mX7_like 23 [.ref 25, .ref 1, .null, .int x3, .int x4, .int (x5 + 1), .null, .null, .null] [] I L F)) : TI (d + 1) mX7_like 113 [.ref 25, .ref 1, .null, .int x3, .int x4, .int x5, .int x6, .null, .int x8] [] I L F := by
  refine T_iload dX7_like_113 rfl ?_
  refine T_if_ne (tgt := 158) dX7_like_115 (by decide) (tq_ite h (fun h => ?_) (fun h => ?_))
  ·
    refine T_iload dX7_like_118 rfl ?_
    refine T_iconst (v := 2) dX7_like_120 (by decide +kernel) ?_
    refine T_icmp_lt (tgt := 158) dX7_like_121 (by decide) (tq_ite h (fun h => ?_) (fun h => ?_))
    ·
      refine T_iinc (lv' := [.ref 25, .ref 1, .null, .int x3, .int x4, .int (x5 + 1), .int x6, .null, .int x8]) dX7_like_158 rfl (by decide) rfl ?_
      refine T_goto (tgt := 23) dX7_like_161 (by decide) ?_
      exact T_wk (lv' := [.ref 25, .ref 1, .null, .int x3, .int x4, .int (x5 + 1), .null, .null, .null]) ⟨Or.inr rfl, Or.inr rfl, Or.inr rfl, Or.inr rfl, Or.inr rfl, Or.inr rfl, Or.inl rfl, Or.inr rfl, Or.inl rfl, trivial⟩ h
    ·
      refine T_iinc (lv' := [.ref 25, .ref 1, .null, .int x3, .int (x4 + (-1)), .int x5, .int x6, .null, .int x8]) dX7_like_124 rfl (by decide) rfl ?_
      refine T_aload_n dX7_like_127 rfl ?_
      refine T_getr dX7_like_128 fl_RX7_15 shp_25 rfl ?_
      refine T_iload dX7_like_131 rfl ?_
      refine T_iconst (v := 1) dX7_like_133 (by decide +kernel) ?_
      refine T_isub dX7_like_134 ?_
      refine T_iload dX7_like_135 rfl ?_
      refine T_ineg dX7_like_137 ?_
      refine T_aload_n dX7_like_138 rfl ?_
      refine T_getr dX7_like_139 fl_RX7_15 shp_25 rfl ?_
      refine T_iload dX7_like_142 rfl ?_
      refine T_iconst (v := 1) dX7_like_144 (by decide +kernel) ?_
      refine T_isub dX7_like_145 ?_
      refine T_ialdv (v := (I 27 (((x4 + (-1)) - 1).toNatClampNeg))) (j := ((x4 + (-1)) - 1).toNatClampNeg) dX7_like_146 shp_27 h.1 rfl rfl ?_
      replace h := h.2
      refine T_aload_n dX7_like_147 rfl ?_
      refine T_getr dX7_like_148 fl_RX7_15 shp_25 rfl ?_
      refine T_iload dX7_like_151 rfl ?_
      refine T_ialdv (v := (I 27 ((x4 + (-1)).toNatClampNeg))) (j := (x4 + (-1)).toNatClampNeg) dX7_like_153 shp_27 h.1 rfl rfl ?_
      replace h := h.2
      refine S_callSI (M' := mX7_joined) [.int (-x6), .int (I 27 (((x4 + (-1)) - 1).toNatClampNeg)), .int (I 27 ((x4 + (-1)).toNatClampNeg))] [.int ((x4 + (-1)) - 1), .ref 27] dX7_like_154 ml_RX7_63 mkX7_joined rfl rfl (Nat.le_of_ble_eq_true rfl) h (fun r1 I1 L1 h => ?_)
      refine T_iastv (j := ((x4 + (-1)) - 1).toNatClampNeg) dX7_like_157 shp_27 h.1 rfl ?_
      replace h := h.2
      refine T_iinc (lv' := [.ref 25, .ref 1, .null, .int x3, .int (x4 + (-1)), .int (x5 + 1), .int x6, .null, .int x8]) dX7_like_158 rfl (by decide) rfl ?_
      refine T_goto (tgt := 23) dX7_like_161 (by decide) ?_
      exact T_wk (lv' := [.ref 25, .ref 1, .null, .int x3, .int (x4 + (-1)), .int (x5 + 1), .null, .null, .null]) ⟨Or.inr rfl, Or.inr rfl, Or.inr rfl, Or.inr rfl, Or.inr rfl, Or.inr rfl, Or.inl rfl, Or.inr rfl, Or.inl rfl, trivial⟩ h
  ·
    refine T_iinc (lv' := [.ref 25, .ref 1, .null, .int x3, .int x4, .int (x5 + 1), .int x6, .null, .int x8]) dX7_like_158 rfl (by decide) rfl ?_
    refine T_goto (tgt := 23) dX7_like_161 (by decide) ?_
    exact T_wk (lv' := [.ref 25, .ref 1, .null, .int x3, .int x4, .int (x5 + 1), .null, .null, .null]) ⟨Or.inr rfl, Or.inr rfl, Or.inr rfl, Or.inr rfl, Or.inr rfl, Or.inr rfl, Or.inl rfl, Or.inr rfl, Or.inl rfl, trivial⟩ h

theorem dX7_joined_0 : decode cX7_joined 0 = .ok (.iload_n 0, 1) := by decide +kernel
theorem dX7_joined_1 : decode cX7_joined 1 = .ok (.lookupswitch 66 #[(42, 51), (43, 43), (45, 47), (60, 55)], 43) := by decide +kernel
theorem dX7_joined_44 : decode cX7_joined 44 = .ok (.iload_n 1, 1) := by decide +kernel
theorem dX7_joined_45 : decode cX7_joined 45 = .ok (.iload_n 2, 1) := by decide +kernel
theorem dX7_joined_46 : decode cX7_joined 46 = .ok (.iadd, 1) := by decide +kernel
theorem dX7_joined_47 : decode cX7_joined 47 = .ok (.ireturn, 1) := by decide +kernel
theorem dX7_joined_48 : decode cX7_joined 48 = .ok (.iload_n 1, 1) := by decide +kernel
theorem dX7_joined_49 : decode cX7_joined 49 = .ok (.iload_n 2, 1) := by decide +kernel
theorem dX7_joined_50 : decode cX7_joined 50 = .ok (.isub, 1) := by decide +kernel
theorem dX7_joined_51 : decode cX7_joined 51 = .ok (.ireturn, 1) := by decide +kernel
theorem dX7_joined_52 : decode cX7_joined 52 = .ok (.iload_n 1, 1) := by decide +kernel
theorem dX7_joined_53 : decode cX7_joined 53 = .ok (.iload_n 2, 1) := by decide +kernel
theorem dX7_joined_54 : decode cX7_joined 54 = .ok (.imul, 1) := by decide +kernel
theorem dX7_joined_55 : decode cX7_joined 55 = .ok (.ireturn, 1) := by decide +kernel
theorem dX7_joined_56 : decode cX7_joined 56 = .ok (.iload_n 1, 1) := by decide +kernel
theorem dX7_joined_57 : decode cX7_joined 57 = .ok (.iload_n 2, 1) := by decide +kernel
theorem dX7_joined_58 : decode cX7_joined 58 = .ok (.if_icmp .ge 7, 3) := by decide +kernel
theorem dX7_joined_61 : decode cX7_joined 61 = .ok (.iconst 1, 1) := by decide +kernel
theorem dX7_joined_62 : decode cX7_joined 62 = .ok (.goto 4, 3) := by decide +kernel
theorem dX7_joined_65 : decode cX7_joined 65 = .ok (.iconst 0, 1) := by decide +kernel
theorem dX7_joined_66 : decode cX7_joined 66 = .ok (.ireturn, 1) := by decide +kernel
theorem dX7_joined_67 : decode cX7_joined 67 = .ok (.iload_n 1, 1) := by decide +kernel
theorem dX7_joined_68 : decode cX7_joined 68 = .ok (.iload_n 2, 1) := by decide +kernel
theorem dX7_joined_69 : decode cX7_joined 69 = .ok (.if_icmp .ne 7, 3) := by decide +kernel
theorem dX7_joined_72 : decode cX7_joined 72 = .ok (.iconst 1, 1) := by decide +kernel
theorem dX7_joined_73 : decode cX7_joined 73 = .ok (.goto 4, 3) := by decide +kernel
theorem dX7_joined_76 : decode cX7_joined 76 = .ok (.iconst 0, 1) := by decide +kernel
theorem dX7_joined_77 : decode cX7_joined 77 = .ok (.ireturn, 1) := by decide +kernel
set_option maxRecDepth 100000 in
theorem sgX7_joined_0 {d : Nat} {I : st_I} {L : st_L} {F : Int32 → st_I → st_L → Prop} {a1 : Int32} {a2 : Int32} {a3 : Int32} (h : (if a1 = 42 then F (a2 * a3) I L else (if a1 = 43 then F (a2 + a3) I L else (if a1 = 45 then F (a2 - a3) I L else (if a1 = 60 then F (if a3 ≤ a2 then (0 : Int32) else 1) I L else F (if a2 = a3 then (1 : Int32) else 0) I L))))) : EI d mX7_joined [.int a1, .int a2, .int a3] I L F := by
  refine Ev_of (ls0 := 0) (by decide +kernel) rfl rfl rfl ?_
  refine T_iload_n dX7_joined_0 rfl ?_
  by_cases hc42 : a1 = 42
  · rw [if_pos hc42] at h
    refine T_lookup (off := 51) (tgt := 52) dX7_joined_1 (by decide +kernel) (by rw [hc42]; decide +kernel) (by decide) ?_
    refine T_iload_n dX7_joined_52 rfl ?_
    refine T_iload_n dX7_joined_53 rfl ?_
    refine T_imul dX7_joined_54 ?_
    exact S_iret rfl dX7_joined_55 h
  rw [if_neg hc42] at h
  by_cases hc43 : a1 = 43
  · rw [if_pos hc43] at h
    refine T_lookup (off := 43) (tgt := 44) dX7_joined_1 (by decide +kernel) (by rw [hc43]; decide +kernel) (by decide) ?_
    refine T_iload_n dX7_joined_44 rfl ?_
    refine T_iload_n dX7_joined_45 rfl ?_
    refine T_iadd dX7_joined_46 ?_
    exact S_iret rfl dX7_joined_47 h
  rw [if_neg hc43] at h
  by_cases hc45 : a1 = 45
  · rw [if_pos hc45] at h
    refine T_lookup (off := 47) (tgt := 48) dX7_joined_1 (by decide +kernel) (by rw [hc45]; decide +kernel) (by decide) ?_
    refine T_iload_n dX7_joined_48 rfl ?_
    refine T_iload_n dX7_joined_49 rfl ?_
    refine T_isub dX7_joined_50 ?_
    exact S_iret rfl dX7_joined_51 h
  rw [if_neg hc45] at h
  by_cases hc60 : a1 = 60
  · rw [if_pos hc60] at h
    refine T_lookup (off := 55) (tgt := 56) dX7_joined_1 (by decide +kernel) (by rw [hc60]; decide +kernel) (by decide) ?_
    refine T_iload_n dX7_joined_56 rfl ?_
    refine T_iload_n dX7_joined_57 rfl ?_
    refine T_icmp_ge (tgt := 65) dX7_joined_58 (by decide) (tq_itv (fun v => T shp d mX7_joined 66 [.int a1, .int a2, .int a3] (.int v :: []) I L (kI F)) 0 1 (fun hJ => ?_) (fun hJ => ?_) ?_)
    ·
        refine T_iconst (v := 0) dX7_joined_65 (by decide +kernel) ?_
        exact hJ
    ·
        refine T_iconst (v := 1) dX7_joined_61 (by decide +kernel) ?_
        refine T_goto (tgt := 66) dX7_joined_62 (by decide) ?_
        exact hJ
    exact S_iret rfl dX7_joined_66 h
  rw [if_neg hc60] at h
  refine T_lookup (off := 66) (tgt := 67) dX7_joined_1 (by decide +kernel) (by simp only [lv_osw (o := 51) hc42 (show (42 : Int32).toInt = 42 by decide +kernel), lv_osw (o := 43) hc43 (show (43 : Int32).toInt = 43 by decide +kernel), lv_osw (o := 47) hc45 (show (45 : Int32).toInt = 45 by decide +kernel), lv_osw (o := 55) hc60 (show (60 : Int32).toInt = 60 by decide +kernel)]; rfl) (by decide) ?_
  refine T_iload_n dX7_joined_67 rfl ?_
  refine T_iload_n dX7_joined_68 rfl ?_
  refine T_icmp_ne (tgt := 76) dX7_joined_69 (by decide) (tq_itv (fun v => T shp d mX7_joined 77 [.int a1, .int a2, .int a3] (.int v :: []) I L (kI F)) 1 0 (fun hJ => ?_) (fun hJ => ?_) ?_)
  ·
      refine T_iconst (v := 1) dX7_joined_72 (by decide +kernel) ?_
      refine T_goto (tgt := 77) dX7_joined_73 (by decide) ?_
      exact hJ
  ·
      refine T_iconst (v := 0) dX7_joined_76 (by decide +kernel) ?_
      exact hJ
  exact S_iret rfl dX7_joined_77 h

theorem dX7_reach_0 : decode cX7_reach 0 = .ok (.aload_n 0, 1) := by decide +kernel
theorem dX7_reach_1 : decode cX7_reach 1 = .ok (.iload_n 1, 1) := by decide +kernel
theorem dX7_reach_2 : decode cX7_reach 2 = .ok (.invokevirtual 53, 3) := by decide +kernel
theorem dX7_reach_5 : decode cX7_reach 5 = .ok (.istore 4, 2) := by decide +kernel
theorem dX7_reach_7 : decode cX7_reach 7 = .ok (.aload_n 0, 1) := by decide +kernel
theorem dX7_reach_8 : decode cX7_reach 8 = .ok (.iload_n 1, 1) := by decide +kernel
theorem dX7_reach_9 : decode cX7_reach 9 = .ok (.invokevirtual 57, 3) := by decide +kernel
theorem dX7_reach_12 : decode cX7_reach 12 = .ok (.istore 5, 2) := by decide +kernel
theorem dX7_reach_14 : decode cX7_reach 14 = .ok (.iload 5, 2) := by decide +kernel
theorem dX7_reach_16 : decode cX7_reach 16 = .ok (.iload 4, 2) := by decide +kernel
theorem dX7_reach_18 : decode cX7_reach 18 = .ok (.if_icmp .ge 25, 3) := by decide +kernel
theorem dX7_reach_21 : decode cX7_reach 21 = .ok (.aload_n 0, 1) := by decide +kernel
theorem dX7_reach_22 : decode cX7_reach 22 = .ok (.getfield 60, 3) := by decide +kernel
theorem dX7_reach_25 : decode cX7_reach 25 = .ok (.iload 5, 2) := by decide +kernel
theorem dX7_reach_27 : decode cX7_reach 27 = .ok (.iaload, 1) := by decide +kernel
theorem dX7_reach_28 : decode cX7_reach 28 = .ok (.bipush (-128), 2) := by decide +kernel
theorem dX7_reach_30 : decode cX7_reach 30 = .ok (.iload_n 2, 1) := by decide +kernel
theorem dX7_reach_31 : decode cX7_reach 31 = .ok (.isub, 1) := by decide +kernel
theorem dX7_reach_32 : decode cX7_reach 32 = .ok (.if_icmp .ne 5, 3) := by decide +kernel
theorem dX7_reach_35 : decode cX7_reach 35 = .ok (.iload_n 3, 1) := by decide +kernel
theorem dX7_reach_36 : decode cX7_reach 36 = .ok (.ireturn, 1) := by decide +kernel
theorem dX7_reach_37 : decode cX7_reach 37 = .ok (.iinc 5 1, 3) := by decide +kernel
theorem dX7_reach_40 : decode cX7_reach 40 = .ok (.goto (-26), 3) := by decide +kernel
theorem dX7_reach_43 : decode cX7_reach 43 = .ok (.iconst 0, 1) := by decide +kernel
theorem dX7_reach_44 : decode cX7_reach 44 = .ok (.ireturn, 1) := by decide +kernel
set_option maxRecDepth 100000 in
theorem sgX7_reach_0 {d : Nat} {I : st_I} {L : st_L} {F : Int32 → st_I → st_L → Prop} {a2 : Int32} {a3 : Int32} {a4 : Int32} (h : EI d mX8_lawEnd [.ref 1, .int a2] I L (fun r1 I1 L1 => EI d mX8_lawStart [.ref 1, .int a2] I1 L1 (fun r2 I2 L2 => TI (d + 1) mX7_reach 14 [.ref 1, .null, .int a3, .int a4, .int r1, .int r2] [] I2 L2 F))) : EI (d + 1) mX7_reach [.ref 1, .int a2, .int a3, .int a4] I L F := by
  refine Ev_of (ls0 := 2) (by decide +kernel) rfl rfl rfl ?_
  refine T_aload_n dX7_reach_0 rfl ?_
  refine T_iload_n dX7_reach_1 rfl ?_
  refine S_callVI (M' := mX8_lawEnd) [.int a2] [] dX7_reach_2 ml_RX7_53 mkX8_lawEnd rfl shp_1 rfl rfl rfl (Nat.le_of_ble_eq_true rfl) h (fun r1 I1 L1 h => ?_)
  refine T_istore (lv' := [.ref 1, .int a2, .int a3, .int a4, .int r1, .null]) dX7_reach_5 (by decide) rfl ?_
  refine T_aload_n dX7_reach_7 rfl ?_
  refine T_iload_n dX7_reach_8 rfl ?_
  refine S_callVI (M' := mX8_lawStart) [.int a2] [] dX7_reach_9 ml_RX7_57 mkX8_lawStart rfl shp_1 rfl rfl rfl (Nat.le_of_ble_eq_true rfl) h (fun r2 I2 L2 h => ?_)
  refine T_istore (lv' := [.ref 1, .int a2, .int a3, .int a4, .int r1, .int r2]) dX7_reach_12 (by decide) rfl ?_
  exact T_wk (lv' := [.ref 1, .null, .int a3, .int a4, .int r1, .int r2]) ⟨Or.inr rfl, Or.inl rfl, Or.inr rfl, Or.inr rfl, Or.inr rfl, Or.inr rfl, trivial⟩ h

set_option maxRecDepth 100000 in
theorem sgX7_reach_14 {d : Nat} {I : st_I} {L : st_L} {F : Int32 → st_I → st_L → Prop} {x2 : Int32} {x3 : Int32} {x4 : Int32} {x5 : Int32} (h : (if x4 ≤ x5 then F 0 I L else vp_in x5 400 ∧ (if (I 5 (x5.toNatClampNeg)) = ((-128) - x2) then F x3 I L else TI (d + 1) mX7_reach 14 [.ref 1, .null, .int x2, .int x3, .int x4, .int (x5 + 1)] [] I L F))) : TI (d + 1) mX7_reach 14 [.ref 1, .null, .int x2, .int x3, .int x4, .int x5] [] I L F := by
  refine T_iload dX7_reach_14 rfl ?_
  refine T_iload dX7_reach_16 rfl ?_
  refine T_icmp_ge (tgt := 43) dX7_reach_18 (by decide) (tq_ite h (fun h => ?_) (fun h => ?_))
  ·
    refine T_iconst (v := 0) dX7_reach_43 (by decide +kernel) ?_
    exact S_iret rfl dX7_reach_44 h
  ·
    refine T_aload_n dX7_reach_21 rfl ?_
    refine T_getr dX7_reach_22 fl_RX7_60 shp_1 rfl ?_
    refine T_iload dX7_reach_25 rfl ?_
    refine T_ialdv (v := (I 5 (x5.toNatClampNeg))) (j := x5.toNatClampNeg) dX7_reach_27 shp_5 h.1 rfl rfl ?_
    replace h := h.2
    refine T_bipush (v := (-128)) dX7_reach_28 (by decide +kernel) ?_
    refine T_iload_n dX7_reach_30 rfl ?_
    refine T_isub dX7_reach_31 ?_
    refine T_icmp_ne (tgt := 37) dX7_reach_32 (by decide) (tq_ite h (fun h => ?_) (fun h => ?_))
    ·
      refine T_iload_n dX7_reach_35 rfl ?_
      exact S_iret rfl dX7_reach_36 h
    ·
      refine T_iinc (lv' := [.ref 1, .null, .int x2, .int x3, .int x4, .int (x5 + 1)]) dX7_reach_37 rfl (by decide) rfl ?_
      refine T_goto (tgt := 14) dX7_reach_40 (by decide) ?_
      exact h

theorem dX7_extreme_0 : decode cX7_extreme 0 = .ok (.aload_n 0, 1) := by decide +kernel
theorem dX7_extreme_1 : decode cX7_extreme 1 = .ok (.getfield 9, 3) := by decide +kernel
theorem dX7_extreme_4 : decode cX7_extreme 4 = .ok (.iconst 0, 1) := by decide +kernel
theorem dX7_extreme_5 : decode cX7_extreme 5 = .ok (.iaload, 1) := by decide +kernel
theorem dX7_extreme_6 : decode cX7_extreme 6 = .ok (.istore 5, 2) := by decide +kernel
theorem dX7_extreme_8 : decode cX7_extreme 8 = .ok (.aload_n 0, 1) := by decide +kernel
theorem dX7_extreme_9 : decode cX7_extreme 9 = .ok (.getfield 9, 3) := by decide +kernel
theorem dX7_extreme_12 : decode cX7_extreme 12 = .ok (.iconst 1, 1) := by decide +kernel
theorem dX7_extreme_13 : decode cX7_extreme 13 = .ok (.iaload, 1) := by decide +kernel
theorem dX7_extreme_14 : decode cX7_extreme 14 = .ok (.istore 6, 2) := by decide +kernel
theorem dX7_extreme_16 : decode cX7_extreme 16 = .ok (.aload_n 1, 1) := by decide +kernel
theorem dX7_extreme_17 : decode cX7_extreme 17 = .ok (.iload_n 2, 1) := by decide +kernel
theorem dX7_extreme_18 : decode cX7_extreme 18 = .ok (.iconst 0, 1) := by decide +kernel
theorem dX7_extreme_19 : decode cX7_extreme 19 = .ok (.iload_n 3, 1) := by decide +kernel
theorem dX7_extreme_20 : decode cX7_extreme 20 = .ok (.invokestatic 66, 3) := by decide +kernel
theorem dX7_extreme_23 : decode cX7_extreme 23 = .ok (.istore 7, 2) := by decide +kernel
theorem dX7_extreme_25 : decode cX7_extreme 25 = .ok (.aload_n 1, 1) := by decide +kernel
theorem dX7_extreme_26 : decode cX7_extreme 26 = .ok (.iload_n 2, 1) := by decide +kernel
theorem dX7_extreme_27 : decode cX7_extreme 27 = .ok (.iconst 1, 1) := by decide +kernel
theorem dX7_extreme_28 : decode cX7_extreme 28 = .ok (.iload_n 3, 1) := by decide +kernel
theorem dX7_extreme_29 : decode cX7_extreme 29 = .ok (.invokestatic 66, 3) := by decide +kernel
theorem dX7_extreme_32 : decode cX7_extreme 32 = .ok (.istore 8, 2) := by decide +kernel
theorem dX7_extreme_34 : decode cX7_extreme 34 = .ok (.aload_n 1, 1) := by decide +kernel
theorem dX7_extreme_35 : decode cX7_extreme 35 = .ok (.iload_n 2, 1) := by decide +kernel
theorem dX7_extreme_36 : decode cX7_extreme 36 = .ok (.iconst 2, 1) := by decide +kernel
theorem dX7_extreme_37 : decode cX7_extreme 37 = .ok (.iload_n 3, 1) := by decide +kernel
theorem dX7_extreme_38 : decode cX7_extreme 38 = .ok (.invokestatic 66, 3) := by decide +kernel
theorem dX7_extreme_41 : decode cX7_extreme 41 = .ok (.istore 9, 2) := by decide +kernel
theorem dX7_extreme_43 : decode cX7_extreme 43 = .ok (.iload 4, 2) := by decide +kernel
theorem dX7_extreme_45 : decode cX7_extreme 45 = .ok (.ifCond .eq 8, 3) := by decide +kernel
theorem dX7_extreme_48 : decode cX7_extreme 48 = .ok (.ldc 70, 2) := by decide +kernel
theorem dX7_extreme_50 : decode cX7_extreme 50 = .ok (.goto 5, 3) := by decide +kernel
theorem dX7_extreme_53 : decode cX7_extreme 53 = .ok (.ldc 71, 2) := by decide +kernel
theorem dX7_extreme_55 : decode cX7_extreme 55 = .ok (.istore 10, 2) := by decide +kernel
theorem dX7_extreme_57 : decode cX7_extreme 57 = .ok (.iload 7, 2) := by decide +kernel
theorem dX7_extreme_59 : decode cX7_extreme 59 = .ok (.ineg, 1) := by decide +kernel
theorem dX7_extreme_60 : decode cX7_extreme 60 = .ok (.istore 11, 2) := by decide +kernel
theorem dX7_extreme_62 : decode cX7_extreme 62 = .ok (.iload 11, 2) := by decide +kernel
theorem dX7_extreme_64 : decode cX7_extreme 64 = .ok (.iload 7, 2) := by decide +kernel
theorem dX7_extreme_66 : decode cX7_extreme 66 = .ok (.if_icmp .gt 85, 3) := by decide +kernel
theorem dX7_extreme_69 : decode cX7_extreme 69 = .ok (.aload_n 0, 1) := by decide +kernel
theorem dX7_extreme_70 : decode cX7_extreme 70 = .ok (.getfield 9, 3) := by decide +kernel
theorem dX7_extreme_73 : decode cX7_extreme 73 = .ok (.iconst 0, 1) := by decide +kernel
theorem dX7_extreme_74 : decode cX7_extreme 74 = .ok (.iload 5, 2) := by decide +kernel
theorem dX7_extreme_76 : decode cX7_extreme 76 = .ok (.iload 11, 2) := by decide +kernel
theorem dX7_extreme_78 : decode cX7_extreme 78 = .ok (.iadd, 1) := by decide +kernel
theorem dX7_extreme_79 : decode cX7_extreme 79 = .ok (.iastore, 1) := by decide +kernel
theorem dX7_extreme_80 : decode cX7_extreme 80 = .ok (.iload 8, 2) := by decide +kernel
theorem dX7_extreme_82 : decode cX7_extreme 82 = .ok (.ineg, 1) := by decide +kernel
theorem dX7_extreme_83 : decode cX7_extreme 83 = .ok (.istore 12, 2) := by decide +kernel
theorem dX7_extreme_85 : decode cX7_extreme 85 = .ok (.iload 12, 2) := by decide +kernel
theorem dX7_extreme_87 : decode cX7_extreme 87 = .ok (.iload 8, 2) := by decide +kernel
theorem dX7_extreme_89 : decode cX7_extreme 89 = .ok (.if_icmp .gt 56, 3) := by decide +kernel
theorem dX7_extreme_92 : decode cX7_extreme 92 = .ok (.aload_n 0, 1) := by decide +kernel
theorem dX7_extreme_93 : decode cX7_extreme 93 = .ok (.getfield 9, 3) := by decide +kernel
theorem dX7_extreme_96 : decode cX7_extreme 96 = .ok (.iconst 1, 1) := by decide +kernel
theorem dX7_extreme_97 : decode cX7_extreme 97 = .ok (.iload 6, 2) := by decide +kernel
theorem dX7_extreme_99 : decode cX7_extreme 99 = .ok (.iload 12, 2) := by decide +kernel
theorem dX7_extreme_101 : decode cX7_extreme 101 = .ok (.iadd, 1) := by decide +kernel
theorem dX7_extreme_102 : decode cX7_extreme 102 = .ok (.iastore, 1) := by decide +kernel
theorem dX7_extreme_103 : decode cX7_extreme 103 = .ok (.aload_n 0, 1) := by decide +kernel
theorem dX7_extreme_104 : decode cX7_extreme 104 = .ok (.aload_n 1, 1) := by decide +kernel
theorem dX7_extreme_105 : decode cX7_extreme 105 = .ok (.iload_n 2, 1) := by decide +kernel
theorem dX7_extreme_106 : decode cX7_extreme 106 = .ok (.iload 9, 2) := by decide +kernel
theorem dX7_extreme_108 : decode cX7_extreme 108 = .ok (.iload 4, 2) := by decide +kernel
theorem dX7_extreme_110 : decode cX7_extreme 110 = .ok (.invokevirtual 72, 3) := by decide +kernel
theorem dX7_extreme_113 : decode cX7_extreme 113 = .ok (.istore 13, 2) := by decide +kernel
theorem dX7_extreme_115 : decode cX7_extreme 115 = .ok (.iload 4, 2) := by decide +kernel
theorem dX7_extreme_117 : decode cX7_extreme 117 = .ok (.ifCond .eq 13, 3) := by decide +kernel
theorem dX7_extreme_120 : decode cX7_extreme 120 = .ok (.iload 10, 2) := by decide +kernel
theorem dX7_extreme_122 : decode cX7_extreme 122 = .ok (.iload 13, 2) := by decide +kernel
theorem dX7_extreme_124 : decode cX7_extreme 124 = .ok (.invokestatic 76, 3) := by decide +kernel
theorem dX7_extreme_127 : decode cX7_extreme 127 = .ok (.goto 10, 3) := by decide +kernel
theorem dX7_extreme_130 : decode cX7_extreme 130 = .ok (.iload 10, 2) := by decide +kernel
theorem dX7_extreme_132 : decode cX7_extreme 132 = .ok (.iload 13, 2) := by decide +kernel
theorem dX7_extreme_134 : decode cX7_extreme 134 = .ok (.invokestatic 81, 3) := by decide +kernel
theorem dX7_extreme_137 : decode cX7_extreme 137 = .ok (.istore 10, 2) := by decide +kernel
theorem dX7_extreme_139 : decode cX7_extreme 139 = .ok (.iinc 12 1, 3) := by decide +kernel
theorem dX7_extreme_142 : decode cX7_extreme 142 = .ok (.goto (-57), 3) := by decide +kernel
theorem dX7_extreme_145 : decode cX7_extreme 145 = .ok (.iinc 11 1, 3) := by decide +kernel
theorem dX7_extreme_148 : decode cX7_extreme 148 = .ok (.goto (-86), 3) := by decide +kernel
theorem dX7_extreme_151 : decode cX7_extreme 151 = .ok (.iload 10, 2) := by decide +kernel
theorem dX7_extreme_153 : decode cX7_extreme 153 = .ok (.ireturn, 1) := by decide +kernel
set_option maxRecDepth 100000 in
theorem sgX7_extreme_0 {d : Nat} {I : st_I} {L : st_L} {F : Int32 → st_I → st_L → Prop} {a2 : Int32} {a3 : Int32} {a4 : Int32} (h : EI d mX7_reach [.ref 1, .int a2, .int 0, .int a3] I L (fun r1 I1 L1 => EI d mX7_reach [.ref 1, .int a2, .int 1, .int a3] I1 L1 (fun r2 I2 L2 => EI d mX7_reach [.ref 1, .int a2, .int 2, .int a3] I2 L2 (fun r3 I3 L3 => (if a4 = 0 then TI (d + 1) mX7_extreme 62 [.ref 25, .ref 1, .int a2, .null, .int a4, .int (I 26 0), .int (I 26 1), .int r1, .int r2, .int r3, .int 2147483647, .int (-r1), .null, .null] [] I3 L3 F else TI (d + 1) mX7_extreme 62 [.ref 25, .ref 1, .int a2, .null, .int a4, .int (I 26 0), .int (I 26 1), .int r1, .int r2, .int r3, .int (-2147483648), .int (-r1), .null, .null] [] I3 L3 F))))) : EI (d + 1) mX7_extreme [.ref 25, .ref 1, .int a2, .int a3, .int a4] I L F := by
  refine Ev_of (ls0 := 9) (by decide +kernel) rfl rfl rfl ?_
  refine T_aload_n dX7_extreme_0 rfl ?_
  refine T_getr dX7_extreme_1 fl_RX7_9 shp_25 rfl ?_
  refine T_iconst (v := 0) dX7_extreme_4 (by decide +kernel) ?_
  refine T_ialdv (v := (I 26 0)) (j := 0) dX7_extreme_5 shp_26 (tq_inl (by decide +kernel)) (by decide +kernel) rfl ?_
  refine T_istore (lv' := [.ref 25, .ref 1, .int a2, .int a3, .int a4, .int (I 26 0), .null, .null, .null, .null, .null, .null, .null, .null]) dX7_extreme_6 (by decide) rfl ?_
  refine T_aload_n dX7_extreme_8 rfl ?_
  refine T_getr dX7_extreme_9 fl_RX7_9 shp_25 rfl ?_
  refine T_iconst (v := 1) dX7_extreme_12 (by decide +kernel) ?_
  refine T_ialdv (v := (I 26 1)) (j := 1) dX7_extreme_13 shp_26 (tq_inl (by decide +kernel)) (by decide +kernel) rfl ?_
  refine T_istore (lv' := [.ref 25, .ref 1, .int a2, .int a3, .int a4, .int (I 26 0), .int (I 26 1), .null, .null, .null, .null, .null, .null, .null]) dX7_extreme_14 (by decide) rfl ?_
  refine T_aload_n dX7_extreme_16 rfl ?_
  refine T_iload_n dX7_extreme_17 rfl ?_
  refine T_iconst (v := 0) dX7_extreme_18 (by decide +kernel) ?_
  refine T_iload_n dX7_extreme_19 rfl ?_
  refine S_callSI (M' := mX7_reach) [.ref 1, .int a2, .int 0, .int a3] [] dX7_extreme_20 ml_RX7_66 mkX7_reach rfl rfl (Nat.le_of_ble_eq_true rfl) h (fun r1 I1 L1 h => ?_)
  refine T_istore (lv' := [.ref 25, .ref 1, .int a2, .int a3, .int a4, .int (I 26 0), .int (I 26 1), .int r1, .null, .null, .null, .null, .null, .null]) dX7_extreme_23 (by decide) rfl ?_
  refine T_aload_n dX7_extreme_25 rfl ?_
  refine T_iload_n dX7_extreme_26 rfl ?_
  refine T_iconst (v := 1) dX7_extreme_27 (by decide +kernel) ?_
  refine T_iload_n dX7_extreme_28 rfl ?_
  refine S_callSI (M' := mX7_reach) [.ref 1, .int a2, .int 1, .int a3] [] dX7_extreme_29 ml_RX7_66 mkX7_reach rfl rfl (Nat.le_of_ble_eq_true rfl) h (fun r2 I2 L2 h => ?_)
  refine T_istore (lv' := [.ref 25, .ref 1, .int a2, .int a3, .int a4, .int (I 26 0), .int (I 26 1), .int r1, .int r2, .null, .null, .null, .null, .null]) dX7_extreme_32 (by decide) rfl ?_
  refine T_aload_n dX7_extreme_34 rfl ?_
  refine T_iload_n dX7_extreme_35 rfl ?_
  refine T_iconst (v := 2) dX7_extreme_36 (by decide +kernel) ?_
  refine T_iload_n dX7_extreme_37 rfl ?_
  refine S_callSI (M' := mX7_reach) [.ref 1, .int a2, .int 2, .int a3] [] dX7_extreme_38 ml_RX7_66 mkX7_reach rfl rfl (Nat.le_of_ble_eq_true rfl) h (fun r3 I3 L3 h => ?_)
  refine T_istore (lv' := [.ref 25, .ref 1, .int a2, .int a3, .int a4, .int (I 26 0), .int (I 26 1), .int r1, .int r2, .int r3, .null, .null, .null, .null]) dX7_extreme_41 (by decide) rfl ?_
  refine T_iload dX7_extreme_43 rfl ?_
  refine T_if_eq (tgt := 53) dX7_extreme_45 (by decide) (tq_ite h (fun h => ?_) (fun h => ?_))
  ·
    refine T_ldc (v := 2147483647) dX7_extreme_53 ki_RX7_71 ?_
    refine T_istore (lv' := [.ref 25, .ref 1, .int a2, .int a3, .int a4, .int (I 26 0), .int (I 26 1), .int r1, .int r2, .int r3, .int 2147483647, .null, .null, .null]) dX7_extreme_55 (by decide) rfl ?_
    refine T_iload dX7_extreme_57 rfl ?_
    refine T_ineg dX7_extreme_59 ?_
    refine T_istore (lv' := [.ref 25, .ref 1, .int a2, .int a3, .int a4, .int (I 26 0), .int (I 26 1), .int r1, .int r2, .int r3, .int 2147483647, .int (-r1), .null, .null]) dX7_extreme_60 (by decide) rfl ?_
    exact T_wk (lv' := [.ref 25, .ref 1, .int a2, .null, .int a4, .int (I 26 0), .int (I 26 1), .int r1, .int r2, .int r3, .int 2147483647, .int (-r1), .null, .null]) ⟨Or.inr rfl, Or.inr rfl, Or.inr rfl, Or.inl rfl, Or.inr rfl, Or.inr rfl, Or.inr rfl, Or.inr rfl, Or.inr rfl, Or.inr rfl, Or.inr rfl, Or.inr rfl, Or.inr rfl, Or.inr rfl, trivial⟩ h
  ·
    refine T_ldc (v := (-2147483648)) dX7_extreme_48 ki_RX7_70 ?_
    refine T_goto (tgt := 55) dX7_extreme_50 (by decide) ?_
    refine T_istore (lv' := [.ref 25, .ref 1, .int a2, .int a3, .int a4, .int (I 26 0), .int (I 26 1), .int r1, .int r2, .int r3, .int (-2147483648), .null, .null, .null]) dX7_extreme_55 (by decide) rfl ?_
    refine T_iload dX7_extreme_57 rfl ?_
    refine T_ineg dX7_extreme_59 ?_
    refine T_istore (lv' := [.ref 25, .ref 1, .int a2, .int a3, .int a4, .int (I 26 0), .int (I 26 1), .int r1, .int r2, .int r3, .int (-2147483648), .int (-r1), .null, .null]) dX7_extreme_60 (by decide) rfl ?_
    exact T_wk (lv' := [.ref 25, .ref 1, .int a2, .null, .int a4, .int (I 26 0), .int (I 26 1), .int r1, .int r2, .int r3, .int (-2147483648), .int (-r1), .null, .null]) ⟨Or.inr rfl, Or.inr rfl, Or.inr rfl, Or.inl rfl, Or.inr rfl, Or.inr rfl, Or.inr rfl, Or.inr rfl, Or.inr rfl, Or.inr rfl, Or.inr rfl, Or.inr rfl, Or.inr rfl, Or.inr rfl, trivial⟩ h

set_option maxRecDepth 100000 in
theorem sgX7_extreme_62 {d : Nat} {I : st_I} {L : st_L} {F : Int32 → st_I → st_L → Prop} {x2 : Int32} {x4 : Int32} {x5 : Int32} {x6 : Int32} {x7 : Int32} {x8 : Int32} {x9 : Int32} {x10 : Int32} {x11 : Int32} (h : (if x7 < x11 then F x10 I L else TI (d + 1) mX7_extreme 85 [.ref 25, .ref 1, .int x2, .null, .int x4, .int x5, .int x6, .int x7, .int x8, .int x9, .int x10, .int x11, .int (-x8), .null] [] (u_I I 26 0 (x5 + x11)) L F)) : TI (d + 1) mX7_extreme 62 [.ref 25, .ref 1, .int x2, .null, .int x4, .int x5, .int x6, .int x7, .int x8, .int x9, .int x10, .int x11, .null, .null] [] I L F := by
  refine T_iload dX7_extreme_62 rfl ?_
  refine T_iload dX7_extreme_64 rfl ?_
  refine T_icmp_gt (tgt := 151) dX7_extreme_66 (by decide) (tq_ite h (fun h => ?_) (fun h => ?_))
  ·
    refine T_iload dX7_extreme_151 rfl ?_
    exact S_iret rfl dX7_extreme_153 h
  ·
    refine T_aload_n dX7_extreme_69 rfl ?_
    refine T_getr dX7_extreme_70 fl_RX7_9 shp_25 rfl ?_
    refine T_iconst (v := 0) dX7_extreme_73 (by decide +kernel) ?_
    refine T_iload dX7_extreme_74 rfl ?_
    refine T_iload dX7_extreme_76 rfl ?_
    refine T_iadd dX7_extreme_78 ?_
    refine T_iastv (j := 0) dX7_extreme_79 shp_26 (tq_inl (by decide +kernel)) (by decide +kernel) ?_
    refine T_iload dX7_extreme_80 rfl ?_
    refine T_ineg dX7_extreme_82 ?_
    refine T_istore (lv' := [.ref 25, .ref 1, .int x2, .null, .int x4, .int x5, .int x6, .int x7, .int x8, .int x9, .int x10, .int x11, .int (-x8), .null]) dX7_extreme_83 (by decide) rfl ?_
    exact h

set_option maxRecDepth 100000 in
theorem sgX7_extreme_85 {d : Nat} {I : st_I} {L : st_L} {F : Int32 → st_I → st_L → Prop} {x2 : Int32} {x4 : Int32} {x5 : Int32} {x6 : Int32} {x7 : Int32} {x8 : Int32} {x9 : Int32} {x10 : Int32} {x11 : Int32} {x12 : Int32} (h : (if x8 < x12 then TI (d + 1) mX7_extreme 62 [.ref 25, .ref 1, .int x2, .null, .int x4, .int x5, .int x6, .int x7, .int x8, .int x9, .int x10, .int (x11 + 1), .null, .null] [] I L F else EI d mX7_extremeOfQuick [.ref 25, .ref 1, .int x2, .int x9, .int x4] (u_I I 26 1 (x6 + x12)) L (fun r1 I1 L1 => (if x4 = 0 then TI (d + 1) mX7_extreme 85 [.ref 25, .ref 1, .int x2, .null, .int x4, .int x5, .int x6, .int x7, .int x8, .int x9, .int (if r1 < x10 then r1 else x10), .int x11, .int (x12 + 1), .null] [] I1 L1 F else TI (d + 1) mX7_extreme 85 [.ref 25, .ref 1, .int x2, .null, .int x4, .int x5, .int x6, .int x7, .int x8, .int x9, .int (if x10 < r1 then r1 else x10), .int x11, .int (x12 + 1), .null] [] I1 L1 F)))) : TI (d + 1) mX7_extreme 85 [.ref 25, .ref 1, .int x2, .null, .int x4, .int x5, .int x6, .int x7, .int x8, .int x9, .int x10, .int x11, .int x12, .null] [] I L F := by
  refine T_iload dX7_extreme_85 rfl ?_
  refine T_iload dX7_extreme_87 rfl ?_
  refine T_icmp_gt (tgt := 145) dX7_extreme_89 (by decide) (tq_ite h (fun h => ?_) (fun h => ?_))
  ·
    refine T_iinc (lv' := [.ref 25, .ref 1, .int x2, .null, .int x4, .int x5, .int x6, .int x7, .int x8, .int x9, .int x10, .int (x11 + 1), .int x12, .null]) dX7_extreme_145 rfl (by decide) rfl ?_
    refine T_goto (tgt := 62) dX7_extreme_148 (by decide) ?_
    exact T_wk (lv' := [.ref 25, .ref 1, .int x2, .null, .int x4, .int x5, .int x6, .int x7, .int x8, .int x9, .int x10, .int (x11 + 1), .null, .null]) ⟨Or.inr rfl, Or.inr rfl, Or.inr rfl, Or.inr rfl, Or.inr rfl, Or.inr rfl, Or.inr rfl, Or.inr rfl, Or.inr rfl, Or.inr rfl, Or.inr rfl, Or.inr rfl, Or.inl rfl, Or.inr rfl, trivial⟩ h
  ·
    refine T_aload_n dX7_extreme_92 rfl ?_
    refine T_getr dX7_extreme_93 fl_RX7_9 shp_25 rfl ?_
    refine T_iconst (v := 1) dX7_extreme_96 (by decide +kernel) ?_
    refine T_iload dX7_extreme_97 rfl ?_
    refine T_iload dX7_extreme_99 rfl ?_
    refine T_iadd dX7_extreme_101 ?_
    refine T_iastv (j := 1) dX7_extreme_102 shp_26 (tq_inl (by decide +kernel)) (by decide +kernel) ?_
    refine T_aload_n dX7_extreme_103 rfl ?_
    refine T_aload_n dX7_extreme_104 rfl ?_
    refine T_iload_n dX7_extreme_105 rfl ?_
    refine T_iload dX7_extreme_106 rfl ?_
    refine T_iload dX7_extreme_108 rfl ?_
    refine S_callVI (M' := mX7_extremeOfQuick) [.ref 1, .int x2, .int x9, .int x4] [] dX7_extreme_110 ml_RX7_72 mkX7_extremeOfQuick rfl shp_25 rfl rfl rfl (Nat.le_of_ble_eq_true rfl) h (fun r1 I1 L1 h => ?_)
    refine T_istore (lv' := [.ref 25, .ref 1, .int x2, .null, .int x4, .int x5, .int x6, .int x7, .int x8, .int x9, .int x10, .int x11, .int x12, .int r1]) dX7_extreme_113 (by decide) rfl ?_
    refine T_iload dX7_extreme_115 rfl ?_
    refine T_if_eq (tgt := 130) dX7_extreme_117 (by decide) (tq_ite h (fun h => ?_) (fun h => ?_))
    ·
      refine T_iload dX7_extreme_130 rfl ?_
      refine T_iload dX7_extreme_132 rfl ?_
      refine T_mmin dX7_extreme_134 ml_RX7_81 (Nat.le_of_ble_eq_true rfl) ?_
      refine T_istore (lv' := [.ref 25, .ref 1, .int x2, .null, .int x4, .int x5, .int x6, .int x7, .int x8, .int x9, .int (if r1 < x10 then r1 else x10), .int x11, .int x12, .int r1]) dX7_extreme_137 (by decide) rfl ?_
      refine T_iinc (lv' := [.ref 25, .ref 1, .int x2, .null, .int x4, .int x5, .int x6, .int x7, .int x8, .int x9, .int (if r1 < x10 then r1 else x10), .int x11, .int (x12 + 1), .int r1]) dX7_extreme_139 rfl (by decide) rfl ?_
      refine T_goto (tgt := 85) dX7_extreme_142 (by decide) ?_
      exact T_wk (lv' := [.ref 25, .ref 1, .int x2, .null, .int x4, .int x5, .int x6, .int x7, .int x8, .int x9, .int (if r1 < x10 then r1 else x10), .int x11, .int (x12 + 1), .null]) ⟨Or.inr rfl, Or.inr rfl, Or.inr rfl, Or.inr rfl, Or.inr rfl, Or.inr rfl, Or.inr rfl, Or.inr rfl, Or.inr rfl, Or.inr rfl, Or.inr rfl, Or.inr rfl, Or.inr rfl, Or.inl rfl, trivial⟩ h
    ·
      refine T_iload dX7_extreme_120 rfl ?_
      refine T_iload dX7_extreme_122 rfl ?_
      refine T_mmax dX7_extreme_124 ml_RX7_76 (Nat.le_of_ble_eq_true rfl) ?_
      refine T_goto (tgt := 137) dX7_extreme_127 (by decide) ?_
      refine T_istore (lv' := [.ref 25, .ref 1, .int x2, .null, .int x4, .int x5, .int x6, .int x7, .int x8, .int x9, .int (if x10 < r1 then r1 else x10), .int x11, .int x12, .int r1]) dX7_extreme_137 (by decide) rfl ?_
      refine T_iinc (lv' := [.ref 25, .ref 1, .int x2, .null, .int x4, .int x5, .int x6, .int x7, .int x8, .int x9, .int (if x10 < r1 then r1 else x10), .int x11, .int (x12 + 1), .int r1]) dX7_extreme_139 rfl (by decide) rfl ?_
      refine T_goto (tgt := 85) dX7_extreme_142 (by decide) ?_
      exact T_wk (lv' := [.ref 25, .ref 1, .int x2, .null, .int x4, .int x5, .int x6, .int x7, .int x8, .int x9, .int (if x10 < r1 then r1 else x10), .int x11, .int (x12 + 1), .null]) ⟨Or.inr rfl, Or.inr rfl, Or.inr rfl, Or.inr rfl, Or.inr rfl, Or.inr rfl, Or.inr rfl, Or.inr rfl, Or.inr rfl, Or.inr rfl, Or.inr rfl, Or.inr rfl, Or.inr rfl, Or.inl rfl, trivial⟩ h

theorem dX7_extremeOfQuick_0 : decode cX7_extremeOfQuick 0 = .ok (.aload_n 0, 1) := by decide +kernel
theorem dX7_extremeOfQuick_1 : decode cX7_extremeOfQuick 1 = .ok (.getfield 9, 3) := by decide +kernel
theorem dX7_extremeOfQuick_4 : decode cX7_extremeOfQuick 4 = .ok (.iconst 2, 1) := by decide +kernel
theorem dX7_extremeOfQuick_5 : decode cX7_extremeOfQuick 5 = .ok (.iaload, 1) := by decide +kernel
theorem dX7_extremeOfQuick_6 : decode cX7_extremeOfQuick 6 = .ok (.istore 5, 2) := by decide +kernel
theorem dX7_extremeOfQuick_8 : decode cX7_extremeOfQuick 8 = .ok (.iload 4, 2) := by decide +kernel
theorem dX7_extremeOfQuick_10 : decode cX7_extremeOfQuick 10 = .ok (.ifCond .eq 8, 3) := by decide +kernel
theorem dX7_extremeOfQuick_13 : decode cX7_extremeOfQuick 13 = .ok (.ldc 70, 2) := by decide +kernel
theorem dX7_extremeOfQuick_15 : decode cX7_extremeOfQuick 15 = .ok (.goto 5, 3) := by decide +kernel
theorem dX7_extremeOfQuick_18 : decode cX7_extremeOfQuick 18 = .ok (.ldc 71, 2) := by decide +kernel
theorem dX7_extremeOfQuick_20 : decode cX7_extremeOfQuick 20 = .ok (.istore 6, 2) := by decide +kernel
theorem dX7_extremeOfQuick_22 : decode cX7_extremeOfQuick 22 = .ok (.iload_n 3, 1) := by decide +kernel
theorem dX7_extremeOfQuick_23 : decode cX7_extremeOfQuick 23 = .ok (.ineg, 1) := by decide +kernel
theorem dX7_extremeOfQuick_24 : decode cX7_extremeOfQuick 24 = .ok (.istore 7, 2) := by decide +kernel
theorem dX7_extremeOfQuick_26 : decode cX7_extremeOfQuick 26 = .ok (.iload 7, 2) := by decide +kernel
theorem dX7_extremeOfQuick_28 : decode cX7_extremeOfQuick 28 = .ok (.iload_n 3, 1) := by decide +kernel
theorem dX7_extremeOfQuick_29 : decode cX7_extremeOfQuick 29 = .ok (.if_icmp .gt 52, 3) := by decide +kernel
theorem dX7_extremeOfQuick_32 : decode cX7_extremeOfQuick 32 = .ok (.aload_n 0, 1) := by decide +kernel
theorem dX7_extremeOfQuick_33 : decode cX7_extremeOfQuick 33 = .ok (.getfield 9, 3) := by decide +kernel
theorem dX7_extremeOfQuick_36 : decode cX7_extremeOfQuick 36 = .ok (.iconst 2, 1) := by decide +kernel
theorem dX7_extremeOfQuick_37 : decode cX7_extremeOfQuick 37 = .ok (.iload 5, 2) := by decide +kernel
theorem dX7_extremeOfQuick_39 : decode cX7_extremeOfQuick 39 = .ok (.iload 7, 2) := by decide +kernel
theorem dX7_extremeOfQuick_41 : decode cX7_extremeOfQuick 41 = .ok (.iadd, 1) := by decide +kernel
theorem dX7_extremeOfQuick_42 : decode cX7_extremeOfQuick 42 = .ok (.iastore, 1) := by decide +kernel
theorem dX7_extremeOfQuick_43 : decode cX7_extremeOfQuick 43 = .ok (.aload_n 0, 1) := by decide +kernel
theorem dX7_extremeOfQuick_44 : decode cX7_extremeOfQuick 44 = .ok (.aload_n 1, 1) := by decide +kernel
theorem dX7_extremeOfQuick_45 : decode cX7_extremeOfQuick 45 = .ok (.iload_n 2, 1) := by decide +kernel
theorem dX7_extremeOfQuick_46 : decode cX7_extremeOfQuick 46 = .ok (.invokevirtual 84, 3) := by decide +kernel
theorem dX7_extremeOfQuick_49 : decode cX7_extremeOfQuick 49 = .ok (.istore 8, 2) := by decide +kernel
theorem dX7_extremeOfQuick_51 : decode cX7_extremeOfQuick 51 = .ok (.iload 4, 2) := by decide +kernel
theorem dX7_extremeOfQuick_53 : decode cX7_extremeOfQuick 53 = .ok (.ifCond .eq 13, 3) := by decide +kernel
theorem dX7_extremeOfQuick_56 : decode cX7_extremeOfQuick 56 = .ok (.iload 6, 2) := by decide +kernel
theorem dX7_extremeOfQuick_58 : decode cX7_extremeOfQuick 58 = .ok (.iload 8, 2) := by decide +kernel
theorem dX7_extremeOfQuick_60 : decode cX7_extremeOfQuick 60 = .ok (.invokestatic 76, 3) := by decide +kernel
theorem dX7_extremeOfQuick_63 : decode cX7_extremeOfQuick 63 = .ok (.goto 10, 3) := by decide +kernel
theorem dX7_extremeOfQuick_66 : decode cX7_extremeOfQuick 66 = .ok (.iload 6, 2) := by decide +kernel
theorem dX7_extremeOfQuick_68 : decode cX7_extremeOfQuick 68 = .ok (.iload 8, 2) := by decide +kernel
theorem dX7_extremeOfQuick_70 : decode cX7_extremeOfQuick 70 = .ok (.invokestatic 81, 3) := by decide +kernel
theorem dX7_extremeOfQuick_73 : decode cX7_extremeOfQuick 73 = .ok (.istore 6, 2) := by decide +kernel
theorem dX7_extremeOfQuick_75 : decode cX7_extremeOfQuick 75 = .ok (.iinc 7 1, 3) := by decide +kernel
theorem dX7_extremeOfQuick_78 : decode cX7_extremeOfQuick 78 = .ok (.goto (-52), 3) := by decide +kernel
theorem dX7_extremeOfQuick_81 : decode cX7_extremeOfQuick 81 = .ok (.aload_n 0, 1) := by decide +kernel
theorem dX7_extremeOfQuick_82 : decode cX7_extremeOfQuick 82 = .ok (.getfield 9, 3) := by decide +kernel
theorem dX7_extremeOfQuick_85 : decode cX7_extremeOfQuick 85 = .ok (.iconst 2, 1) := by decide +kernel
theorem dX7_extremeOfQuick_86 : decode cX7_extremeOfQuick 86 = .ok (.iload 5, 2) := by decide +kernel
theorem dX7_extremeOfQuick_88 : decode cX7_extremeOfQuick 88 = .ok (.iastore, 1) := by decide +kernel
theorem dX7_extremeOfQuick_89 : decode cX7_extremeOfQuick 89 = .ok (.iload 6, 2) := by decide +kernel
theorem dX7_extremeOfQuick_91 : decode cX7_extremeOfQuick 91 = .ok (.ireturn, 1) := by decide +kernel
set_option maxRecDepth 100000 in
theorem sgX7_extremeOfQuick_0 {d : Nat} {I : st_I} {L : st_L} {F : Int32 → st_I → st_L → Prop} {a2 : Int32} {a3 : Int32} {a4 : Int32} (h : (if a4 = 0 then TI (d + 1) mX7_extremeOfQuick 26 [.ref 25, .ref 1, .int a2, .int a3, .int a4, .int (I 26 2), .int 2147483647, .int (-a3), .null] [] I L F else TI (d + 1) mX7_extremeOfQuick 26 [.ref 25, .ref 1, .int a2, .int a3, .int a4, .int (I 26 2), .int (-2147483648), .int (-a3), .null] [] I L F)) : EI (d + 1) mX7_extremeOfQuick [.ref 25, .ref 1, .int a2, .int a3, .int a4] I L F := by
  refine Ev_of (ls0 := 4) (by decide +kernel) rfl rfl rfl ?_
  refine T_aload_n dX7_extremeOfQuick_0 rfl ?_
  refine T_getr dX7_extremeOfQuick_1 fl_RX7_9 shp_25 rfl ?_
  refine T_iconst (v := 2) dX7_extremeOfQuick_4 (by decide +kernel) ?_
  refine T_ialdv (v := (I 26 2)) (j := 2) dX7_extremeOfQuick_5 shp_26 (tq_inl (by decide +kernel)) (by decide +kernel) rfl ?_
  refine T_istore (lv' := [.ref 25, .ref 1, .int a2, .int a3, .int a4, .int (I 26 2), .null, .null, .null]) dX7_extremeOfQuick_6 (by decide) rfl ?_
  refine T_iload dX7_extremeOfQuick_8 rfl ?_
  refine T_if_eq (tgt := 18) dX7_extremeOfQuick_10 (by decide) (tq_ite h (fun h => ?_) (fun h => ?_))
  ·
    refine T_ldc (v := 2147483647) dX7_extremeOfQuick_18 ki_RX7_71 ?_
    refine T_istore (lv' := [.ref 25, .ref 1, .int a2, .int a3, .int a4, .int (I 26 2), .int 2147483647, .null, .null]) dX7_extremeOfQuick_20 (by decide) rfl ?_
    refine T_iload_n dX7_extremeOfQuick_22 rfl ?_
    refine T_ineg dX7_extremeOfQuick_23 ?_
    refine T_istore (lv' := [.ref 25, .ref 1, .int a2, .int a3, .int a4, .int (I 26 2), .int 2147483647, .int (-a3), .null]) dX7_extremeOfQuick_24 (by decide) rfl ?_
    exact h
  ·
    refine T_ldc (v := (-2147483648)) dX7_extremeOfQuick_13 ki_RX7_70 ?_
    refine T_goto (tgt := 20) dX7_extremeOfQuick_15 (by decide) ?_
    refine T_istore (lv' := [.ref 25, .ref 1, .int a2, .int a3, .int a4, .int (I 26 2), .int (-2147483648), .null, .null]) dX7_extremeOfQuick_20 (by decide) rfl ?_
    refine T_iload_n dX7_extremeOfQuick_22 rfl ?_
    refine T_ineg dX7_extremeOfQuick_23 ?_
    refine T_istore (lv' := [.ref 25, .ref 1, .int a2, .int a3, .int a4, .int (I 26 2), .int (-2147483648), .int (-a3), .null]) dX7_extremeOfQuick_24 (by decide) rfl ?_
    exact h

set_option maxRecDepth 100000 in
theorem sgX7_extremeOfQuick_26 {d : Nat} {I : st_I} {L : st_L} {F : Int32 → st_I → st_L → Prop} {x2 : Int32} {x3 : Int32} {x4 : Int32} {x5 : Int32} {x6 : Int32} {x7 : Int32} (h : (if x3 < x7 then F x6 (u_I I 26 2 x5) L else EI d mX7_like [.ref 25, .ref 1, .int x2] (u_I I 26 2 (x5 + x7)) L (fun r1 I1 L1 => (if x4 = 0 then TI (d + 1) mX7_extremeOfQuick 26 [.ref 25, .ref 1, .int x2, .int x3, .int x4, .int x5, .int (if r1 < x6 then r1 else x6), .int (x7 + 1), .null] [] I1 L1 F else TI (d + 1) mX7_extremeOfQuick 26 [.ref 25, .ref 1, .int x2, .int x3, .int x4, .int x5, .int (if x6 < r1 then r1 else x6), .int (x7 + 1), .null] [] I1 L1 F)))) : TI (d + 1) mX7_extremeOfQuick 26 [.ref 25, .ref 1, .int x2, .int x3, .int x4, .int x5, .int x6, .int x7, .null] [] I L F := by
  refine T_iload dX7_extremeOfQuick_26 rfl ?_
  refine T_iload_n dX7_extremeOfQuick_28 rfl ?_
  refine T_icmp_gt (tgt := 81) dX7_extremeOfQuick_29 (by decide) (tq_ite h (fun h => ?_) (fun h => ?_))
  ·
    refine T_aload_n dX7_extremeOfQuick_81 rfl ?_
    refine T_getr dX7_extremeOfQuick_82 fl_RX7_9 shp_25 rfl ?_
    refine T_iconst (v := 2) dX7_extremeOfQuick_85 (by decide +kernel) ?_
    refine T_iload dX7_extremeOfQuick_86 rfl ?_
    refine T_iastv (j := 2) dX7_extremeOfQuick_88 shp_26 (tq_inl (by decide +kernel)) (by decide +kernel) ?_
    refine T_iload dX7_extremeOfQuick_89 rfl ?_
    exact S_iret rfl dX7_extremeOfQuick_91 h
  ·
    refine T_aload_n dX7_extremeOfQuick_32 rfl ?_
    refine T_getr dX7_extremeOfQuick_33 fl_RX7_9 shp_25 rfl ?_
    refine T_iconst (v := 2) dX7_extremeOfQuick_36 (by decide +kernel) ?_
    refine T_iload dX7_extremeOfQuick_37 rfl ?_
    refine T_iload dX7_extremeOfQuick_39 rfl ?_
    refine T_iadd dX7_extremeOfQuick_41 ?_
    refine T_iastv (j := 2) dX7_extremeOfQuick_42 shp_26 (tq_inl (by decide +kernel)) (by decide +kernel) ?_
    refine T_aload_n dX7_extremeOfQuick_43 rfl ?_
    refine T_aload_n dX7_extremeOfQuick_44 rfl ?_
    refine T_iload_n dX7_extremeOfQuick_45 rfl ?_
    refine S_callVI (M' := mX7_like) [.ref 1, .int x2] [] dX7_extremeOfQuick_46 ml_RX7_84 mkX7_like rfl shp_25 rfl rfl rfl (Nat.le_of_ble_eq_true rfl) h (fun r1 I1 L1 h => ?_)
    refine T_istore (lv' := [.ref 25, .ref 1, .int x2, .int x3, .int x4, .int x5, .int x6, .int x7, .int r1]) dX7_extremeOfQuick_49 (by decide) rfl ?_
    refine T_iload dX7_extremeOfQuick_51 rfl ?_
    refine T_if_eq (tgt := 66) dX7_extremeOfQuick_53 (by decide) (tq_ite h (fun h => ?_) (fun h => ?_))
    ·
      refine T_iload dX7_extremeOfQuick_66 rfl ?_
      refine T_iload dX7_extremeOfQuick_68 rfl ?_
      refine T_mmin dX7_extremeOfQuick_70 ml_RX7_81 (Nat.le_of_ble_eq_true rfl) ?_
      refine T_istore (lv' := [.ref 25, .ref 1, .int x2, .int x3, .int x4, .int x5, .int (if r1 < x6 then r1 else x6), .int x7, .int r1]) dX7_extremeOfQuick_73 (by decide) rfl ?_
      refine T_iinc (lv' := [.ref 25, .ref 1, .int x2, .int x3, .int x4, .int x5, .int (if r1 < x6 then r1 else x6), .int (x7 + 1), .int r1]) dX7_extremeOfQuick_75 rfl (by decide) rfl ?_
      refine T_goto (tgt := 26) dX7_extremeOfQuick_78 (by decide) ?_
      exact T_wk (lv' := [.ref 25, .ref 1, .int x2, .int x3, .int x4, .int x5, .int (if r1 < x6 then r1 else x6), .int (x7 + 1), .null]) ⟨Or.inr rfl, Or.inr rfl, Or.inr rfl, Or.inr rfl, Or.inr rfl, Or.inr rfl, Or.inr rfl, Or.inr rfl, Or.inl rfl, trivial⟩ h
    ·
      refine T_iload dX7_extremeOfQuick_56 rfl ?_
      refine T_iload dX7_extremeOfQuick_58 rfl ?_
      refine T_mmax dX7_extremeOfQuick_60 ml_RX7_76 (Nat.le_of_ble_eq_true rfl) ?_
      refine T_goto (tgt := 73) dX7_extremeOfQuick_63 (by decide) ?_
      refine T_istore (lv' := [.ref 25, .ref 1, .int x2, .int x3, .int x4, .int x5, .int (if x6 < r1 then r1 else x6), .int x7, .int r1]) dX7_extremeOfQuick_73 (by decide) rfl ?_
      refine T_iinc (lv' := [.ref 25, .ref 1, .int x2, .int x3, .int x4, .int x5, .int (if x6 < r1 then r1 else x6), .int (x7 + 1), .int r1]) dX7_extremeOfQuick_75 rfl (by decide) rfl ?_
      refine T_goto (tgt := 26) dX7_extremeOfQuick_78 (by decide) ?_
      exact T_wk (lv' := [.ref 25, .ref 1, .int x2, .int x3, .int x4, .int x5, .int (if x6 < r1 then r1 else x6), .int (x7 + 1), .null]) ⟨Or.inr rfl, Or.inr rfl, Or.inr rfl, Or.inr rfl, Or.inr rfl, Or.inr rfl, Or.inr rfl, Or.inr rfl, Or.inl rfl, trivial⟩ h

theorem dX7_choice_0 : decode cX7_choice 0 = .ok (.iconst (-1), 1) := by decide +kernel
theorem dX7_choice_1 : decode cX7_choice 1 = .ok (.istore 6, 2) := by decide +kernel
theorem dX7_choice_3 : decode cX7_choice 3 = .ok (.iconst 0, 1) := by decide +kernel
theorem dX7_choice_4 : decode cX7_choice 4 = .ok (.istore 7, 2) := by decide +kernel
theorem dX7_choice_6 : decode cX7_choice 6 = .ok (.iconst 0, 1) := by decide +kernel
theorem dX7_choice_7 : decode cX7_choice 7 = .ok (.istore 8, 2) := by decide +kernel
theorem dX7_choice_9 : decode cX7_choice 9 = .ok (.iload 8, 2) := by decide +kernel
theorem dX7_choice_11 : decode cX7_choice 11 = .ok (.aload_n 1, 1) := by decide +kernel
theorem dX7_choice_12 : decode cX7_choice 12 = .ok (.iload_n 2, 1) := by decide +kernel
theorem dX7_choice_13 : decode cX7_choice 13 = .ok (.iload_n 3, 1) := by decide +kernel
theorem dX7_choice_14 : decode cX7_choice 14 = .ok (.iconst 3, 1) := by decide +kernel
theorem dX7_choice_15 : decode cX7_choice 15 = .ok (.invokevirtual 33, 3) := by decide +kernel
theorem dX7_choice_18 : decode cX7_choice 18 = .ok (.if_icmp .ge 58, 3) := by decide +kernel
theorem dX7_choice_21 : decode cX7_choice 21 = .ok (.aload_n 0, 1) := by decide +kernel
theorem dX7_choice_22 : decode cX7_choice 22 = .ok (.aload_n 1, 1) := by decide +kernel
theorem dX7_choice_23 : decode cX7_choice 23 = .ok (.iload_n 2, 1) := by decide +kernel
theorem dX7_choice_24 : decode cX7_choice 24 = .ok (.iload_n 3, 1) := by decide +kernel
theorem dX7_choice_25 : decode cX7_choice 25 = .ok (.iload 8, 2) := by decide +kernel
theorem dX7_choice_27 : decode cX7_choice 27 = .ok (.iload 5, 2) := by decide +kernel
theorem dX7_choice_29 : decode cX7_choice 29 = .ok (.invokevirtual 88, 3) := by decide +kernel
theorem dX7_choice_32 : decode cX7_choice 32 = .ok (.aload_n 0, 1) := by decide +kernel
theorem dX7_choice_33 : decode cX7_choice 33 = .ok (.aload_n 1, 1) := by decide +kernel
theorem dX7_choice_34 : decode cX7_choice 34 = .ok (.iload 4, 2) := by decide +kernel
theorem dX7_choice_36 : decode cX7_choice 36 = .ok (.invokevirtual 84, 3) := by decide +kernel
theorem dX7_choice_39 : decode cX7_choice 39 = .ok (.istore 9, 2) := by decide +kernel
theorem dX7_choice_41 : decode cX7_choice 41 = .ok (.iload 6, 2) := by decide +kernel
theorem dX7_choice_43 : decode cX7_choice 43 = .ok (.iconst (-1), 1) := by decide +kernel
theorem dX7_choice_44 : decode cX7_choice 44 = .ok (.if_icmp .eq 10, 3) := by decide +kernel
theorem dX7_choice_47 : decode cX7_choice 47 = .ok (.iload 9, 2) := by decide +kernel
theorem dX7_choice_49 : decode cX7_choice 49 = .ok (.iload 7, 2) := by decide +kernel
theorem dX7_choice_51 : decode cX7_choice 51 = .ok (.if_icmp .le 19, 3) := by decide +kernel
theorem dX7_choice_54 : decode cX7_choice 54 = .ok (.aload_n 1, 1) := by decide +kernel
theorem dX7_choice_55 : decode cX7_choice 55 = .ok (.iload_n 2, 1) := by decide +kernel
theorem dX7_choice_56 : decode cX7_choice 56 = .ok (.iload_n 3, 1) := by decide +kernel
theorem dX7_choice_57 : decode cX7_choice 57 = .ok (.iconst 4, 1) := by decide +kernel
theorem dX7_choice_58 : decode cX7_choice 58 = .ok (.iload 8, 2) := by decide +kernel
theorem dX7_choice_60 : decode cX7_choice 60 = .ok (.iadd, 1) := by decide +kernel
theorem dX7_choice_61 : decode cX7_choice 61 = .ok (.invokevirtual 33, 3) := by decide +kernel
theorem dX7_choice_64 : decode cX7_choice 64 = .ok (.istore 6, 2) := by decide +kernel
theorem dX7_choice_66 : decode cX7_choice 66 = .ok (.iload 9, 2) := by decide +kernel
theorem dX7_choice_68 : decode cX7_choice 68 = .ok (.istore 7, 2) := by decide +kernel
theorem dX7_choice_70 : decode cX7_choice 70 = .ok (.iinc 8 1, 3) := by decide +kernel
theorem dX7_choice_73 : decode cX7_choice 73 = .ok (.goto (-64), 3) := by decide +kernel
theorem dX7_choice_76 : decode cX7_choice 76 = .ok (.iload 6, 2) := by decide +kernel
theorem dX7_choice_78 : decode cX7_choice 78 = .ok (.ireturn, 1) := by decide +kernel
set_option maxRecDepth 100000 in
theorem sgX7_choice_0 {d : Nat} {I : st_I} {L : st_L} {F : Int32 → st_I → st_L → Prop} {a2 : Int32} {a3 : Int32} {a4 : Int32} {a5 : Int32} (h : TI (d + 1) mX7_choice 9 [.ref 25, .ref 1, .int a2, .int a3, .int a4, .int a5, .int (-1), .int 0, .int 0, .null] [] I L F) : EI (d + 1) mX7_choice [.ref 25, .ref 1, .int a2, .int a3, .int a4, .int a5] I L F := by
  refine Ev_of (ls0 := 4) (by decide +kernel) rfl rfl rfl ?_
  refine T_iconst (v := (-1)) dX7_choice_0 (by decide +kernel) ?_
  refine T_istore (lv' := [.ref 25, .ref 1, .int a2, .int a3, .int a4, .int a5, .int (-1), .null, .null, .null]) dX7_choice_1 (by decide) rfl ?_
  refine T_iconst (v := 0) dX7_choice_3 (by decide +kernel) ?_
  refine T_istore (lv' := [.ref 25, .ref 1, .int a2, .int a3, .int a4, .int a5, .int (-1), .int 0, .null, .null]) dX7_choice_4 (by decide) rfl ?_
  refine T_iconst (v := 0) dX7_choice_6 (by decide +kernel) ?_
  refine T_istore (lv' := [.ref 25, .ref 1, .int a2, .int a3, .int a4, .int a5, .int (-1), .int 0, .int 0, .null]) dX7_choice_7 (by decide) rfl ?_
  exact h

set_option maxRecDepth 100000 in
theorem sgX7_choice_9 {d : Nat} {I : st_I} {L : st_L} {F : Int32 → st_I → st_L → Prop} {x2 : Int32} {x3 : Int32} {x4 : Int32} {x5 : Int32} {x6 : Int32} {x7 : Int32} {x8 : Int32} (h : EI d mX8_sat [.ref 1, .int x2, .int x3, .int 3] I L (fun r1 I1 L1 => (if r1 ≤ x8 then F x6 I1 L1 else EV d mX7_seat [.ref 25, .ref 1, .int x2, .int x3, .int x8, .int x5] I1 L1 (fun I2 L2 => EI d mX7_like [.ref 25, .ref 1, .int x4] I2 L2 (fun r3 I3 L3 => (if x6 = (-1) then TI (d + 1) mX7_choice 54 [.ref 25, .ref 1, .int x2, .int x3, .int x4, .int x5, .null, .null, .int x8, .int r3] [] I3 L3 F else (if r3 ≤ x7 then TI (d + 1) mX7_choice 9 [.ref 25, .ref 1, .int x2, .int x3, .int x4, .int x5, .int x6, .int x7, .int (x8 + 1), .null] [] I3 L3 F else TI (d + 1) mX7_choice 54 [.ref 25, .ref 1, .int x2, .int x3, .int x4, .int x5, .null, .null, .int x8, .int r3] [] I3 L3 F))))))) : TI (d + 1) mX7_choice 9 [.ref 25, .ref 1, .int x2, .int x3, .int x4, .int x5, .int x6, .int x7, .int x8, .null] [] I L F := by
  refine T_iload dX7_choice_9 rfl ?_
  refine T_aload_n dX7_choice_11 rfl ?_
  refine T_iload_n dX7_choice_12 rfl ?_
  refine T_iload_n dX7_choice_13 rfl ?_
  refine T_iconst (v := 3) dX7_choice_14 (by decide +kernel) ?_
  refine S_callVI (M' := mX8_sat) [.int x2, .int x3, .int 3] [.int x8] dX7_choice_15 ml_RX7_33 mkX8_sat rfl shp_1 rfl rfl rfl (Nat.le_of_ble_eq_true rfl) h (fun r1 I1 L1 h => ?_)
  refine T_icmp_ge (tgt := 76) dX7_choice_18 (by decide) (tq_ite h (fun h => ?_) (fun h => ?_))
  ·
    refine T_iload dX7_choice_76 rfl ?_
    exact S_iret rfl dX7_choice_78 h
  ·
    refine T_aload_n dX7_choice_21 rfl ?_
    refine T_aload_n dX7_choice_22 rfl ?_
    refine T_iload_n dX7_choice_23 rfl ?_
    refine T_iload_n dX7_choice_24 rfl ?_
    refine T_iload dX7_choice_25 rfl ?_
    refine T_iload dX7_choice_27 rfl ?_
    refine S_callVV (M' := mX7_seat) [.ref 1, .int x2, .int x3, .int x8, .int x5] [] dX7_choice_29 ml_RX7_88 mkX7_seat rfl shp_25 rfl rfl rfl (Nat.le_of_ble_eq_true rfl) h (fun I2 L2 h => ?_)
    refine T_aload_n dX7_choice_32 rfl ?_
    refine T_aload_n dX7_choice_33 rfl ?_
    refine T_iload dX7_choice_34 rfl ?_
    refine S_callVI (M' := mX7_like) [.ref 1, .int x4] [] dX7_choice_36 ml_RX7_84 mkX7_like rfl shp_25 rfl rfl rfl (Nat.le_of_ble_eq_true rfl) h (fun r3 I3 L3 h => ?_)
    refine T_istore (lv' := [.ref 25, .ref 1, .int x2, .int x3, .int x4, .int x5, .int x6, .int x7, .int x8, .int r3]) dX7_choice_39 (by decide) rfl ?_
    refine T_iload dX7_choice_41 rfl ?_
    refine T_iconst (v := (-1)) dX7_choice_43 (by decide +kernel) ?_
    refine T_icmp_eq (tgt := 54) dX7_choice_44 (by decide) (tq_ite h (fun h => ?_) (fun h => ?_))
    ·
      exact T_wk (lv' := [.ref 25, .ref 1, .int x2, .int x3, .int x4, .int x5, .null, .null, .int x8, .int r3]) ⟨Or.inr rfl, Or.inr rfl, Or.inr rfl, Or.inr rfl, Or.inr rfl, Or.inr rfl, Or.inl rfl, Or.inl rfl, Or.inr rfl, Or.inr rfl, trivial⟩ h
    ·
      refine T_iload dX7_choice_47 rfl ?_
      refine T_iload dX7_choice_49 rfl ?_
      refine T_icmp_le (tgt := 70) dX7_choice_51 (by decide) (tq_ite h (fun h => ?_) (fun h => ?_))
      ·
        refine T_iinc (lv' := [.ref 25, .ref 1, .int x2, .int x3, .int x4, .int x5, .int x6, .int x7, .int (x8 + 1), .int r3]) dX7_choice_70 rfl (by decide) rfl ?_
        refine T_goto (tgt := 9) dX7_choice_73 (by decide) ?_
        exact T_wk (lv' := [.ref 25, .ref 1, .int x2, .int x3, .int x4, .int x5, .int x6, .int x7, .int (x8 + 1), .null]) ⟨Or.inr rfl, Or.inr rfl, Or.inr rfl, Or.inr rfl, Or.inr rfl, Or.inr rfl, Or.inr rfl, Or.inr rfl, Or.inr rfl, Or.inl rfl, trivial⟩ h
      ·
        exact T_wk (lv' := [.ref 25, .ref 1, .int x2, .int x3, .int x4, .int x5, .null, .null, .int x8, .int r3]) ⟨Or.inr rfl, Or.inr rfl, Or.inr rfl, Or.inr rfl, Or.inr rfl, Or.inr rfl, Or.inl rfl, Or.inl rfl, Or.inr rfl, Or.inr rfl, trivial⟩ h

set_option maxRecDepth 100000 in
theorem sgX7_choice_54 {d : Nat} {I : st_I} {L : st_L} {F : Int32 → st_I → st_L → Prop} {x2 : Int32} {x3 : Int32} {x4 : Int32} {x5 : Int32} {x8 : Int32} {x9 : Int32} (h : EI d mX8_sat [.ref 1, .int x2, .int x3, .int (4 + x8)] I L (fun r1 I1 L1 => TI (d + 1) mX7_choice 9 [.ref 25, .ref 1, .int x2, .int x3, .int x4, .int x5, .int r1, .int x9, .int (x8 + 1), .null] [] I1 L1 F)) : TI (d + 1) mX7_choice 54 [.ref 25, .ref 1, .int x2, .int x3, .int x4, .int x5, .null, .null, .int x8, .int x9] [] I L F := by
  refine T_aload_n dX7_choice_54 rfl ?_
  refine T_iload_n dX7_choice_55 rfl ?_
  refine T_iload_n dX7_choice_56 rfl ?_
  refine T_iconst (v := 4) dX7_choice_57 (by decide +kernel) ?_
  refine T_iload dX7_choice_58 rfl ?_
  refine T_iadd dX7_choice_60 ?_
  refine S_callVI (M' := mX8_sat) [.int x2, .int x3, .int (4 + x8)] [] dX7_choice_61 ml_RX7_33 mkX8_sat rfl shp_1 rfl rfl rfl (Nat.le_of_ble_eq_true rfl) h (fun r1 I1 L1 h => ?_)
  refine T_istore (lv' := [.ref 25, .ref 1, .int x2, .int x3, .int x4, .int x5, .int r1, .null, .int x8, .int x9]) dX7_choice_64 (by decide) rfl ?_
  refine T_iload dX7_choice_66 rfl ?_
  refine T_istore (lv' := [.ref 25, .ref 1, .int x2, .int x3, .int x4, .int x5, .int r1, .int x9, .int x8, .int x9]) dX7_choice_68 (by decide) rfl ?_
  refine T_iinc (lv' := [.ref 25, .ref 1, .int x2, .int x3, .int x4, .int x5, .int r1, .int x9, .int (x8 + 1), .int x9]) dX7_choice_70 rfl (by decide) rfl ?_
  refine T_goto (tgt := 9) dX7_choice_73 (by decide) ?_
  exact T_wk (lv' := [.ref 25, .ref 1, .int x2, .int x3, .int x4, .int x5, .int r1, .int x9, .int (x8 + 1), .null]) ⟨Or.inr rfl, Or.inr rfl, Or.inr rfl, Or.inr rfl, Or.inr rfl, Or.inr rfl, Or.inr rfl, Or.inr rfl, Or.inr rfl, Or.inl rfl, trivial⟩ h

theorem dX7_unlike_0 : decode cX7_unlike 0 = .ok (.iconst 0, 1) := by decide +kernel
theorem dX7_unlike_1 : decode cX7_unlike 1 = .ok (.istore 6, 2) := by decide +kernel
theorem dX7_unlike_3 : decode cX7_unlike 3 = .ok (.iconst 0, 1) := by decide +kernel
theorem dX7_unlike_4 : decode cX7_unlike 4 = .ok (.istore 7, 2) := by decide +kernel
theorem dX7_unlike_6 : decode cX7_unlike 6 = .ok (.iload 7, 2) := by decide +kernel
theorem dX7_unlike_8 : decode cX7_unlike 8 = .ok (.aload_n 1, 1) := by decide +kernel
theorem dX7_unlike_9 : decode cX7_unlike 9 = .ok (.iload_n 2, 1) := by decide +kernel
theorem dX7_unlike_10 : decode cX7_unlike 10 = .ok (.invokevirtual 92, 3) := by decide +kernel
theorem dX7_unlike_13 : decode cX7_unlike 13 = .ok (.if_icmp .ge 38, 3) := by decide +kernel
theorem dX7_unlike_16 : decode cX7_unlike 16 = .ok (.aload_n 0, 1) := by decide +kernel
theorem dX7_unlike_17 : decode cX7_unlike 17 = .ok (.aload_n 1, 1) := by decide +kernel
theorem dX7_unlike_18 : decode cX7_unlike 18 = .ok (.iload_n 2, 1) := by decide +kernel
theorem dX7_unlike_19 : decode cX7_unlike 19 = .ok (.iload 7, 2) := by decide +kernel
theorem dX7_unlike_21 : decode cX7_unlike 21 = .ok (.iload_n 3, 1) := by decide +kernel
theorem dX7_unlike_22 : decode cX7_unlike 22 = .ok (.iload 5, 2) := by decide +kernel
theorem dX7_unlike_24 : decode cX7_unlike 24 = .ok (.invokevirtual 95, 3) := by decide +kernel
theorem dX7_unlike_27 : decode cX7_unlike 27 = .ok (.aload_n 0, 1) := by decide +kernel
theorem dX7_unlike_28 : decode cX7_unlike 28 = .ok (.aload_n 1, 1) := by decide +kernel
theorem dX7_unlike_29 : decode cX7_unlike 29 = .ok (.iload_n 2, 1) := by decide +kernel
theorem dX7_unlike_30 : decode cX7_unlike 30 = .ok (.iload 7, 2) := by decide +kernel
theorem dX7_unlike_32 : decode cX7_unlike 32 = .ok (.iload 4, 2) := by decide +kernel
theorem dX7_unlike_34 : decode cX7_unlike 34 = .ok (.iload 5, 2) := by decide +kernel
theorem dX7_unlike_36 : decode cX7_unlike 36 = .ok (.invokevirtual 95, 3) := by decide +kernel
theorem dX7_unlike_39 : decode cX7_unlike 39 = .ok (.if_icmp .eq 6, 3) := by decide +kernel
theorem dX7_unlike_42 : decode cX7_unlike 42 = .ok (.iinc 6 1, 3) := by decide +kernel
theorem dX7_unlike_45 : decode cX7_unlike 45 = .ok (.iinc 7 1, 3) := by decide +kernel
theorem dX7_unlike_48 : decode cX7_unlike 48 = .ok (.goto (-42), 3) := by decide +kernel
theorem dX7_unlike_51 : decode cX7_unlike 51 = .ok (.iload 6, 2) := by decide +kernel
theorem dX7_unlike_53 : decode cX7_unlike 53 = .ok (.ireturn, 1) := by decide +kernel
set_option maxRecDepth 100000 in
theorem sgX7_unlike_0 {d : Nat} {I : st_I} {L : st_L} {F : Int32 → st_I → st_L → Prop} {a2 : Int32} {a3 : Int32} {a4 : Int32} {a5 : Int32} (h : TI (d + 1) mX7_unlike 6 [.ref 25, .ref 1, .int a2, .int a3, .int a4, .int a5, .int 0, .int 0] [] I L F) : EI (d + 1) mX7_unlike [.ref 25, .ref 1, .int a2, .int a3, .int a4, .int a5] I L F := by
  refine Ev_of (ls0 := 2) (by decide +kernel) rfl rfl rfl ?_
  refine T_iconst (v := 0) dX7_unlike_0 (by decide +kernel) ?_
  refine T_istore (lv' := [.ref 25, .ref 1, .int a2, .int a3, .int a4, .int a5, .int 0, .null]) dX7_unlike_1 (by decide) rfl ?_
  refine T_iconst (v := 0) dX7_unlike_3 (by decide +kernel) ?_
  refine T_istore (lv' := [.ref 25, .ref 1, .int a2, .int a3, .int a4, .int a5, .int 0, .int 0]) dX7_unlike_4 (by decide) rfl ?_
  exact h

set_option maxRecDepth 100000 in
theorem sgX7_unlike_6 {d : Nat} {I : st_I} {L : st_L} {F : Int32 → st_I → st_L → Prop} {x2 : Int32} {x3 : Int32} {x4 : Int32} {x5 : Int32} {x6 : Int32} {x7 : Int32} (h : EI d mX8_sits [.ref 1, .int x2] I L (fun r1 I1 L1 => (if r1 ≤ x7 then F x6 I1 L1 else EI d mX7_choice [.ref 25, .ref 1, .int x2, .int x7, .int x3, .int x5] I1 L1 (fun r2 I2 L2 => EI d mX7_choice [.ref 25, .ref 1, .int x2, .int x7, .int x4, .int x5] I2 L2 (fun r3 I3 L3 => (if r2 = r3 then TI (d + 1) mX7_unlike 6 [.ref 25, .ref 1, .int x2, .int x3, .int x4, .int x5, .int x6, .int (x7 + 1)] [] I3 L3 F else TI (d + 1) mX7_unlike 6 [.ref 25, .ref 1, .int x2, .int x3, .int x4, .int x5, .int (x6 + 1), .int (x7 + 1)] [] I3 L3 F)))))) : TI (d + 1) mX7_unlike 6 [.ref 25, .ref 1, .int x2, .int x3, .int x4, .int x5, .int x6, .int x7] [] I L F := by
  refine T_iload dX7_unlike_6 rfl ?_
  refine T_aload_n dX7_unlike_8 rfl ?_
  refine T_iload_n dX7_unlike_9 rfl ?_
  refine S_callVI (M' := mX8_sits) [.int x2] [.int x7] dX7_unlike_10 ml_RX7_92 mkX8_sits rfl shp_1 rfl rfl rfl (Nat.le_of_ble_eq_true rfl) h (fun r1 I1 L1 h => ?_)
  refine T_icmp_ge (tgt := 51) dX7_unlike_13 (by decide) (tq_ite h (fun h => ?_) (fun h => ?_))
  ·
    refine T_iload dX7_unlike_51 rfl ?_
    exact S_iret rfl dX7_unlike_53 h
  ·
    refine T_aload_n dX7_unlike_16 rfl ?_
    refine T_aload_n dX7_unlike_17 rfl ?_
    refine T_iload_n dX7_unlike_18 rfl ?_
    refine T_iload dX7_unlike_19 rfl ?_
    refine T_iload_n dX7_unlike_21 rfl ?_
    refine T_iload dX7_unlike_22 rfl ?_
    refine S_callVI (M' := mX7_choice) [.ref 1, .int x2, .int x7, .int x3, .int x5] [] dX7_unlike_24 ml_RX7_95 mkX7_choice rfl shp_25 rfl rfl rfl (Nat.le_of_ble_eq_true rfl) h (fun r2 I2 L2 h => ?_)
    refine T_aload_n dX7_unlike_27 rfl ?_
    refine T_aload_n dX7_unlike_28 rfl ?_
    refine T_iload_n dX7_unlike_29 rfl ?_
    refine T_iload dX7_unlike_30 rfl ?_
    refine T_iload dX7_unlike_32 rfl ?_
    refine T_iload dX7_unlike_34 rfl ?_
    refine S_callVI (M' := mX7_choice) [.ref 1, .int x2, .int x7, .int x4, .int x5] [.int r2] dX7_unlike_36 ml_RX7_95 mkX7_choice rfl shp_25 rfl rfl rfl (Nat.le_of_ble_eq_true rfl) h (fun r3 I3 L3 h => ?_)
    refine T_icmp_eq (tgt := 45) dX7_unlike_39 (by decide) (tq_ite h (fun h => ?_) (fun h => ?_))
    ·
      refine T_iinc (lv' := [.ref 25, .ref 1, .int x2, .int x3, .int x4, .int x5, .int x6, .int (x7 + 1)]) dX7_unlike_45 rfl (by decide) rfl ?_
      refine T_goto (tgt := 6) dX7_unlike_48 (by decide) ?_
      exact h
    ·
      refine T_iinc (lv' := [.ref 25, .ref 1, .int x2, .int x3, .int x4, .int x5, .int (x6 + 1), .int x7]) dX7_unlike_42 rfl (by decide) rfl ?_
      refine T_iinc (lv' := [.ref 25, .ref 1, .int x2, .int x3, .int x4, .int x5, .int (x6 + 1), .int (x7 + 1)]) dX7_unlike_45 rfl (by decide) rfl ?_
      refine T_goto (tgt := 6) dX7_unlike_48 (by decide) ?_
      exact h

theorem dX2_learn_0 : decode cX2_learn 0 = .ok (.aload_n 0, 1) := by decide +kernel
theorem dX2_learn_1 : decode cX2_learn 1 = .ok (.iconst 0, 1) := by decide +kernel
theorem dX2_learn_2 : decode cX2_learn 2 = .ok (.iload_n 3, 1) := by decide +kernel
theorem dX2_learn_3 : decode cX2_learn 3 = .ok (.aload_n 2, 1) := by decide +kernel
theorem dX2_learn_4 : decode cX2_learn 4 = .ok (.getfield 43, 3) := by decide +kernel
theorem dX2_learn_7 : decode cX2_learn 7 = .ok (.invokestatic 48, 3) := by decide +kernel
theorem dX2_learn_10 : decode cX2_learn 10 = .ok (.invokestatic 54, 3) := by decide +kernel
theorem dX2_learn_13 : decode cX2_learn 13 = .ok (.putfield 9, 3) := by decide +kernel
theorem dX2_learn_16 : decode cX2_learn 16 = .ok (.aload_n 0, 1) := by decide +kernel
theorem dX2_learn_17 : decode cX2_learn 17 = .ok (.invokevirtual 57, 3) := by decide +kernel
theorem dX2_learn_20 : decode cX2_learn 20 = .ok (.aload_n 0, 1) := by decide +kernel
theorem dX2_learn_21 : decode cX2_learn 21 = .ok (.aload_n 1, 1) := by decide +kernel
theorem dX2_learn_22 : decode cX2_learn 22 = .ok (.aload_n 2, 1) := by decide +kernel
theorem dX2_learn_23 : decode cX2_learn 23 = .ok (.invokevirtual 60, 3) := by decide +kernel
theorem dX2_learn_26 : decode cX2_learn 26 = .ok (.iconst 0, 1) := by decide +kernel
theorem dX2_learn_27 : decode cX2_learn 27 = .ok (.istore 4, 2) := by decide +kernel
theorem dX2_learn_29 : decode cX2_learn 29 = .ok (.iload 4, 2) := by decide +kernel
theorem dX2_learn_31 : decode cX2_learn 31 = .ok (.aload_n 0, 1) := by decide +kernel
theorem dX2_learn_32 : decode cX2_learn 32 = .ok (.getfield 9, 3) := by decide +kernel
theorem dX2_learn_35 : decode cX2_learn 35 = .ok (.if_icmp .ge 83, 3) := by decide +kernel
theorem dX2_learn_38 : decode cX2_learn 38 = .ok (.aload_n 0, 1) := by decide +kernel
theorem dX2_learn_39 : decode cX2_learn 39 = .ok (.getfield 15, 3) := by decide +kernel
theorem dX2_learn_42 : decode cX2_learn 42 = .ok (.iload 4, 2) := by decide +kernel
theorem dX2_learn_44 : decode cX2_learn 44 = .ok (.iaload, 1) := by decide +kernel
theorem dX2_learn_45 : decode cX2_learn 45 = .ok (.iconst 1, 1) := by decide +kernel
theorem dX2_learn_46 : decode cX2_learn 46 = .ok (.if_icmp .ne 24, 3) := by decide +kernel
theorem dX2_learn_49 : decode cX2_learn 49 = .ok (.aload_n 2, 1) := by decide +kernel
theorem dX2_learn_50 : decode cX2_learn 50 = .ok (.iload 4, 2) := by decide +kernel
theorem dX2_learn_52 : decode cX2_learn 52 = .ok (.iconst 0, 1) := by decide +kernel
theorem dX2_learn_53 : decode cX2_learn 53 = .ok (.invokevirtual 64, 3) := by decide +kernel
theorem dX2_learn_56 : decode cX2_learn 56 = .ok (.ifCond .ne 14, 3) := by decide +kernel
theorem dX2_learn_59 : decode cX2_learn 59 = .ok (.aload_n 0, 1) := by decide +kernel
theorem dX2_learn_60 : decode cX2_learn 60 = .ok (.aload_n 1, 1) := by decide +kernel
theorem dX2_learn_61 : decode cX2_learn 61 = .ok (.aload_n 2, 1) := by decide +kernel
theorem dX2_learn_62 : decode cX2_learn 62 = .ok (.iload 4, 2) := by decide +kernel
theorem dX2_learn_64 : decode cX2_learn 64 = .ok (.invokevirtual 67, 3) := by decide +kernel
theorem dX2_learn_67 : decode cX2_learn 67 = .ok (.goto 45, 3) := by decide +kernel
theorem dX2_learn_70 : decode cX2_learn 70 = .ok (.aload_n 0, 1) := by decide +kernel
theorem dX2_learn_71 : decode cX2_learn 71 = .ok (.getfield 15, 3) := by decide +kernel
theorem dX2_learn_74 : decode cX2_learn 74 = .ok (.iload 4, 2) := by decide +kernel
theorem dX2_learn_76 : decode cX2_learn 76 = .ok (.iaload, 1) := by decide +kernel
theorem dX2_learn_77 : decode cX2_learn 77 = .ok (.iconst 1, 1) := by decide +kernel
theorem dX2_learn_78 : decode cX2_learn 78 = .ok (.if_icmp .ne 34, 3) := by decide +kernel
theorem dX2_learn_81 : decode cX2_learn 81 = .ok (.aload_n 0, 1) := by decide +kernel
theorem dX2_learn_82 : decode cX2_learn 82 = .ok (.aload_n 1, 1) := by decide +kernel
theorem dX2_learn_83 : decode cX2_learn 83 = .ok (.aload_n 2, 1) := by decide +kernel
theorem dX2_learn_84 : decode cX2_learn 84 = .ok (.iload 4, 2) := by decide +kernel
theorem dX2_learn_86 : decode cX2_learn 86 = .ok (.iconst 2, 1) := by decide +kernel
theorem dX2_learn_87 : decode cX2_learn 87 = .ok (.invokevirtual 64, 3) := by decide +kernel
theorem dX2_learn_90 : decode cX2_learn 90 = .ok (.invokevirtual 71, 3) := by decide +kernel
theorem dX2_learn_93 : decode cX2_learn 93 = .ok (.aload_n 2, 1) := by decide +kernel
theorem dX2_learn_94 : decode cX2_learn 94 = .ok (.iload 4, 2) := by decide +kernel
theorem dX2_learn_96 : decode cX2_learn 96 = .ok (.iconst 3, 1) := by decide +kernel
theorem dX2_learn_97 : decode cX2_learn 97 = .ok (.invokevirtual 64, 3) := by decide +kernel
theorem dX2_learn_100 : decode cX2_learn 100 = .ok (.iconst 1, 1) := by decide +kernel
theorem dX2_learn_101 : decode cX2_learn 101 = .ok (.if_icmp .ne 7, 3) := by decide +kernel
theorem dX2_learn_104 : decode cX2_learn 104 = .ok (.iconst 1, 1) := by decide +kernel
theorem dX2_learn_105 : decode cX2_learn 105 = .ok (.goto 4, 3) := by decide +kernel
theorem dX2_learn_108 : decode cX2_learn 108 = .ok (.iconst 0, 1) := by decide +kernel
theorem dX2_learn_109 : decode cX2_learn 109 = .ok (.invokevirtual 77, 3) := by decide +kernel
theorem dX2_learn_112 : decode cX2_learn 112 = .ok (.iinc 4 1, 3) := by decide +kernel
theorem dX2_learn_115 : decode cX2_learn 115 = .ok (.goto (-86), 3) := by decide +kernel
theorem dX2_learn_118 : decode cX2_learn 118 = .ok (.aload_n 0, 1) := by decide +kernel
theorem dX2_learn_119 : decode cX2_learn 119 = .ok (.aload_n 1, 1) := by decide +kernel
theorem dX2_learn_120 : decode cX2_learn 120 = .ok (.invokevirtual 81, 3) := by decide +kernel
theorem dX2_learn_123 : decode cX2_learn 123 = .ok (.return_, 1) := by decide +kernel
set_option maxRecDepth 100000 in
theorem sgX2_learn_0 {d : Nat} {I : st_I} {L : st_L} {F : st_I → st_L → Prop} {a3 : Int32} (h : EV d mX2_clear [.ref 30] (u_I I 30 0 (if 0 < (if (I 28 0) < a3 then (I 28 0) else a3) then (if (I 28 0) < a3 then (I 28 0) else a3) else 0)) L (fun I1 L1 => EV d mX2_sift [.ref 30, .ref 1, .ref 28] I1 L1 (fun I2 L2 => TV (d + 1) mX2_learn 29 [.ref 30, .ref 1, .ref 28, .null, .int 0] [] I2 L2 F))) : EV (d + 1) mX2_learn [.ref 30, .ref 1, .ref 28, .int a3] I L F := by
  refine Ev_of (ls0 := 1) (by decide +kernel) rfl rfl rfl ?_
  refine T_aload_n dX2_learn_0 rfl ?_
  refine T_iconst (v := 0) dX2_learn_1 (by decide +kernel) ?_
  refine T_iload_n dX2_learn_2 rfl ?_
  refine T_aload_n dX2_learn_3 rfl ?_
  refine T_getv (v := (I 28 0)) dX2_learn_4 fl_RX2_43 shp_28 rfl rfl ?_
  refine T_mmin dX2_learn_7 ml_RX2_48 (Nat.le_of_ble_eq_true rfl) ?_
  refine T_mmax dX2_learn_10 ml_RX2_54 (Nat.le_of_ble_eq_true rfl) ?_
  refine T_puti dX2_learn_13 fl_RX2_9 pf_2_0 shp_30 rfl rfl rfl ?_
  refine T_aload_n dX2_learn_16 rfl ?_
  refine S_callVV (M' := mX2_clear) [] [] dX2_learn_17 ml_RX2_57 mkX2_clear rfl shp_30 rfl rfl rfl (Nat.le_of_ble_eq_true rfl) h (fun I1 L1 h => ?_)
  refine T_aload_n dX2_learn_20 rfl ?_
  refine T_aload_n dX2_learn_21 rfl ?_
  refine T_aload_n dX2_learn_22 rfl ?_
  refine S_callVV (M' := mX2_sift) [.ref 1, .ref 28] [] dX2_learn_23 ml_RX2_60 mkX2_sift rfl shp_30 rfl rfl rfl (Nat.le_of_ble_eq_true rfl) h (fun I2 L2 h => ?_)
  refine T_iconst (v := 0) dX2_learn_26 (by decide +kernel) ?_
  refine T_istore (lv' := [.ref 30, .ref 1, .ref 28, .int a3, .int 0]) dX2_learn_27 (by decide) rfl ?_
  exact T_wk (lv' := [.ref 30, .ref 1, .ref 28, .null, .int 0]) ⟨Or.inr rfl, Or.inr rfl, Or.inr rfl, Or.inl rfl, Or.inr rfl, trivial⟩ h

set_option maxRecDepth 100000 in
theorem sgX2_learn_29 {d : Nat} {I : st_I} {L : st_L} {F : st_I → st_L → Prop} {x4 : Int32} (h : (if (I 30 0) ≤ x4 then EV d mX2_learnMeans [.ref 30, .ref 1] I L (fun I1 L1 => F I1 L1) else vp_in x4 80 ∧ (if (I 31 (x4.toNatClampNeg)) = 1 then EI d mX0_of [.ref 28, .int x4, .int 0] I L (fun r2 I2 L2 => (if r2 = 0 then EV d mX2_learnMark [.ref 30, .ref 1, .ref 28, .int x4] I2 L2 (fun I3 L3 => TV (d + 1) mX2_learn 29 [.ref 30, .ref 1, .ref 28, .null, .int (x4 + 1)] [] I3 L3 F) else TV (d + 1) mX2_learn 70 [.ref 30, .ref 1, .ref 28, .null, .int x4] [] I2 L2 F)) else TV (d + 1) mX2_learn 70 [.ref 30, .ref 1, .ref 28, .null, .int x4] [] I L F))) : TV (d + 1) mX2_learn 29 [.ref 30, .ref 1, .ref 28, .null, .int x4] [] I L F := by
  refine T_iload dX2_learn_29 rfl ?_
  refine T_aload_n dX2_learn_31 rfl ?_
  refine T_getv (v := (I 30 0)) dX2_learn_32 fl_RX2_9 shp_30 rfl rfl ?_
  refine T_icmp_ge (tgt := 118) dX2_learn_35 (by decide) (tq_ite h (fun h => ?_) (fun h => ?_))
  ·
    refine T_aload_n dX2_learn_118 rfl ?_
    refine T_aload_n dX2_learn_119 rfl ?_
    refine S_callVV (M' := mX2_learnMeans) [.ref 1] [] dX2_learn_120 ml_RX2_81 mkX2_learnMeans rfl shp_30 rfl rfl rfl (Nat.le_of_ble_eq_true rfl) h (fun I1 L1 h => ?_)
    exact S_vret rfl dX2_learn_123 h
  ·
    refine T_aload_n dX2_learn_38 rfl ?_
    refine T_getr dX2_learn_39 fl_RX2_15 shp_30 rfl ?_
    refine T_iload dX2_learn_42 rfl ?_
    refine T_ialdv (v := (I 31 (x4.toNatClampNeg))) (j := x4.toNatClampNeg) dX2_learn_44 shp_31 h.1 rfl rfl ?_
    replace h := h.2
    refine T_iconst (v := 1) dX2_learn_45 (by decide +kernel) ?_
    refine T_icmp_ne (tgt := 70) dX2_learn_46 (by decide) (tq_ite h (fun h => ?_) (fun h => ?_))
    ·
      refine T_aload_n dX2_learn_49 rfl ?_
      refine T_iload dX2_learn_50 rfl ?_
      refine T_iconst (v := 0) dX2_learn_52 (by decide +kernel) ?_
      refine S_callVI (M' := mX0_of) [.int x4, .int 0] [] dX2_learn_53 ml_RX2_64 mkX0_of rfl shp_28 rfl rfl rfl (Nat.le_of_ble_eq_true rfl) h (fun r2 I2 L2 h => ?_)
      refine T_if_ne (tgt := 70) dX2_learn_56 (by decide) (tq_ite h (fun h => ?_) (fun h => ?_))
      ·
        refine T_aload_n dX2_learn_59 rfl ?_
        refine T_aload_n dX2_learn_60 rfl ?_
        refine T_aload_n dX2_learn_61 rfl ?_
        refine T_iload dX2_learn_62 rfl ?_
        refine S_callVV (M' := mX2_learnMark) [.ref 1, .ref 28, .int x4] [] dX2_learn_64 ml_RX2_67 mkX2_learnMark rfl shp_30 rfl rfl rfl (Nat.le_of_ble_eq_true rfl) h (fun I3 L3 h => ?_)
        refine T_goto (tgt := 112) dX2_learn_67 (by decide) ?_
        refine T_iinc (lv' := [.ref 30, .ref 1, .ref 28, .null, .int (x4 + 1)]) dX2_learn_112 rfl (by decide) rfl ?_
        refine T_goto (tgt := 29) dX2_learn_115 (by decide) ?_
        exact h
      ·
        exact h
    ·
      exact h

set_option maxRecDepth 100000 in
theorem sgX2_learn_70 {d : Nat} {I : st_I} {L : st_L} {F : st_I → st_L → Prop} {x4 : Int32} (h : vp_in x4 80 ∧ (if (I 31 (x4.toNatClampNeg)) = 1 then EI d mX0_of [.ref 28, .int x4, .int 2] I L (fun r1 I1 L1 => EI d mX8_isOld [.ref 1, .int r1] I1 L1 (fun r2 I2 L2 => EI d mX0_of [.ref 28, .int x4, .int 3] I2 L2 (fun r3 I3 L3 => EV d mX2_learnGuess [.ref 30, .int r2, .int (if r3 = 1 then (1 : Int32) else 0)] I3 L3 (fun I4 L4 => TV (d + 1) mX2_learn 29 [.ref 30, .ref 1, .ref 28, .null, .int (x4 + 1)] [] I4 L4 F)))) else TV (d + 1) mX2_learn 29 [.ref 30, .ref 1, .ref 28, .null, .int (x4 + 1)] [] I L F)) : TV (d + 1) mX2_learn 70 [.ref 30, .ref 1, .ref 28, .null, .int x4] [] I L F := by
  refine T_aload_n dX2_learn_70 rfl ?_
  refine T_getr dX2_learn_71 fl_RX2_15 shp_30 rfl ?_
  refine T_iload dX2_learn_74 rfl ?_
  refine T_ialdv (v := (I 31 (x4.toNatClampNeg))) (j := x4.toNatClampNeg) dX2_learn_76 shp_31 h.1 rfl rfl ?_
  replace h := h.2
  refine T_iconst (v := 1) dX2_learn_77 (by decide +kernel) ?_
  refine T_icmp_ne (tgt := 112) dX2_learn_78 (by decide) (tq_ite h (fun h => ?_) (fun h => ?_))
  ·
    refine T_aload_n dX2_learn_81 rfl ?_
    refine T_aload_n dX2_learn_82 rfl ?_
    refine T_aload_n dX2_learn_83 rfl ?_
    refine T_iload dX2_learn_84 rfl ?_
    refine T_iconst (v := 2) dX2_learn_86 (by decide +kernel) ?_
    refine S_callVI (M' := mX0_of) [.int x4, .int 2] [.ref 1, .ref 30] dX2_learn_87 ml_RX2_64 mkX0_of rfl shp_28 rfl rfl rfl (Nat.le_of_ble_eq_true rfl) h (fun r1 I1 L1 h => ?_)
    refine S_callVI (M' := mX8_isOld) [.int r1] [.ref 30] dX2_learn_90 ml_RX2_71 mkX8_isOld rfl shp_1 rfl rfl rfl (Nat.le_of_ble_eq_true rfl) h (fun r2 I2 L2 h => ?_)
    refine T_aload_n dX2_learn_93 rfl ?_
    refine T_iload dX2_learn_94 rfl ?_
    refine T_iconst (v := 3) dX2_learn_96 (by decide +kernel) ?_
    refine S_callVI (M' := mX0_of) [.int x4, .int 3] [.int r2, .ref 30] dX2_learn_97 ml_RX2_64 mkX0_of rfl shp_28 rfl rfl rfl (Nat.le_of_ble_eq_true rfl) h (fun r3 I3 L3 h => ?_)
    refine T_iconst (v := 1) dX2_learn_100 (by decide +kernel) ?_
    refine T_icmp_ne (tgt := 108) dX2_learn_101 (by decide) (tq_itv (fun v => T shp (d + 1) mX2_learn 109 [.ref 30, .ref 1, .ref 28, .null, .int x4] (.int v :: [.int r2, .ref 30]) I3 L3 (kV F)) 1 0 (fun hJ => ?_) (fun hJ => ?_) ?_)
    ·
        refine T_iconst (v := 1) dX2_learn_104 (by decide +kernel) ?_
        refine T_goto (tgt := 109) dX2_learn_105 (by decide) ?_
        exact hJ
    ·
        refine T_iconst (v := 0) dX2_learn_108 (by decide +kernel) ?_
        exact hJ
    refine S_callVV (M' := mX2_learnGuess) [.int r2, .int (if r3 = 1 then (1 : Int32) else 0)] [] dX2_learn_109 ml_RX2_77 mkX2_learnGuess rfl shp_30 rfl rfl rfl (Nat.le_of_ble_eq_true rfl) h (fun I4 L4 h => ?_)
    refine T_iinc (lv' := [.ref 30, .ref 1, .ref 28, .null, .int (x4 + 1)]) dX2_learn_112 rfl (by decide) rfl ?_
    refine T_goto (tgt := 29) dX2_learn_115 (by decide) ?_
    exact h
  ·
    refine T_iinc (lv' := [.ref 30, .ref 1, .ref 28, .null, .int (x4 + 1)]) dX2_learn_112 rfl (by decide) rfl ?_
    refine T_goto (tgt := 29) dX2_learn_115 (by decide) ?_
    exact h

theorem dX2_clear_0 : decode cX2_clear 0 = .ok (.aload_n 0, 1) := by decide +kernel
theorem dX2_clear_1 : decode cX2_clear 1 = .ok (.getfield 15, 3) := by decide +kernel
theorem dX2_clear_4 : decode cX2_clear 4 = .ok (.iconst 0, 1) := by decide +kernel
theorem dX2_clear_5 : decode cX2_clear 5 = .ok (.invokestatic 85, 3) := by decide +kernel
theorem dX2_clear_8 : decode cX2_clear 8 = .ok (.aload_n 0, 1) := by decide +kernel
theorem dX2_clear_9 : decode cX2_clear 9 = .ok (.getfield 19, 3) := by decide +kernel
theorem dX2_clear_12 : decode cX2_clear 12 = .ok (.iconst (-1), 1) := by decide +kernel
theorem dX2_clear_13 : decode cX2_clear 13 = .ok (.invokestatic 85, 3) := by decide +kernel
theorem dX2_clear_16 : decode cX2_clear 16 = .ok (.aload_n 0, 1) := by decide +kernel
theorem dX2_clear_17 : decode cX2_clear 17 = .ok (.getfield 22, 3) := by decide +kernel
theorem dX2_clear_20 : decode cX2_clear 20 = .ok (.iconst (-1), 1) := by decide +kernel
theorem dX2_clear_21 : decode cX2_clear 21 = .ok (.invokestatic 85, 3) := by decide +kernel
theorem dX2_clear_24 : decode cX2_clear 24 = .ok (.aload_n 0, 1) := by decide +kernel
theorem dX2_clear_25 : decode cX2_clear 25 = .ok (.getfield 25, 3) := by decide +kernel
theorem dX2_clear_28 : decode cX2_clear 28 = .ok (.iconst (-1), 1) := by decide +kernel
theorem dX2_clear_29 : decode cX2_clear 29 = .ok (.invokestatic 85, 3) := by decide +kernel
theorem dX2_clear_32 : decode cX2_clear 32 = .ok (.aload_n 0, 1) := by decide +kernel
theorem dX2_clear_33 : decode cX2_clear 33 = .ok (.getfield 28, 3) := by decide +kernel
theorem dX2_clear_36 : decode cX2_clear 36 = .ok (.iconst 0, 1) := by decide +kernel
theorem dX2_clear_37 : decode cX2_clear 37 = .ok (.invokestatic 85, 3) := by decide +kernel
theorem dX2_clear_40 : decode cX2_clear 40 = .ok (.aload_n 0, 1) := by decide +kernel
theorem dX2_clear_41 : decode cX2_clear 41 = .ok (.getfield 31, 3) := by decide +kernel
theorem dX2_clear_44 : decode cX2_clear 44 = .ok (.iconst 0, 1) := by decide +kernel
theorem dX2_clear_45 : decode cX2_clear 45 = .ok (.invokestatic 85, 3) := by decide +kernel
theorem dX2_clear_48 : decode cX2_clear 48 = .ok (.aload_n 0, 1) := by decide +kernel
theorem dX2_clear_49 : decode cX2_clear 49 = .ok (.getfield 34, 3) := by decide +kernel
theorem dX2_clear_52 : decode cX2_clear 52 = .ok (.iconst 0, 1) := by decide +kernel
theorem dX2_clear_53 : decode cX2_clear 53 = .ok (.invokestatic 85, 3) := by decide +kernel
theorem dX2_clear_56 : decode cX2_clear 56 = .ok (.aload_n 0, 1) := by decide +kernel
theorem dX2_clear_57 : decode cX2_clear 57 = .ok (.getfield 37, 3) := by decide +kernel
theorem dX2_clear_60 : decode cX2_clear 60 = .ok (.iconst 0, 1) := by decide +kernel
theorem dX2_clear_61 : decode cX2_clear 61 = .ok (.invokestatic 85, 3) := by decide +kernel
theorem dX2_clear_64 : decode cX2_clear 64 = .ok (.aload_n 0, 1) := by decide +kernel
theorem dX2_clear_65 : decode cX2_clear 65 = .ok (.getfield 40, 3) := by decide +kernel
theorem dX2_clear_68 : decode cX2_clear 68 = .ok (.iconst 0, 1) := by decide +kernel
theorem dX2_clear_69 : decode cX2_clear 69 = .ok (.invokestatic 85, 3) := by decide +kernel
theorem dX2_clear_72 : decode cX2_clear 72 = .ok (.return_, 1) := by decide +kernel
set_option maxRecDepth 100000 in
theorem sgX2_clear_0 {d : Nat} {I : st_I} {L : st_L} {F : st_I → st_L → Prop}  (h : EV d mJ7_fill_53178 [.ref 31, .int 0] I L (fun I1 L1 => EV d mJ7_fill_53178 [.ref 32, .int (-1)] I1 L1 (fun I2 L2 => EV d mJ7_fill_53178 [.ref 33, .int (-1)] I2 L2 (fun I3 L3 => EV d mJ7_fill_53178 [.ref 34, .int (-1)] I3 L3 (fun I4 L4 => EV d mJ7_fill_53178 [.ref 35, .int 0] I4 L4 (fun I5 L5 => EV d mJ7_fill_53178 [.ref 36, .int 0] I5 L5 (fun I6 L6 => EV d mJ7_fill_53178 [.ref 37, .int 0] I6 L6 (fun I7 L7 => EV d mJ7_fill_53178 [.ref 38, .int 0] I7 L7 (fun I8 L8 => EV d mJ7_fill_53178 [.ref 39, .int 0] I8 L8 (fun I9 L9 => F I9 L9)))))))))) : EV (d + 1) mX2_clear [.ref 30] I L F := by
  refine Ev_of (ls0 := 0) (by decide +kernel) rfl rfl rfl ?_
  refine T_aload_n dX2_clear_0 rfl ?_
  refine T_getr dX2_clear_1 fl_RX2_15 shp_30 rfl ?_
  refine T_iconst (v := 0) dX2_clear_4 (by decide +kernel) ?_
  refine S_callSV (M' := mJ7_fill_53178) [.ref 31, .int 0] [] dX2_clear_5 ml_RX2_85 mkJ7_fill_53178 rfl rfl (Nat.le_of_ble_eq_true rfl) h (fun I1 L1 h => ?_)
  refine T_aload_n dX2_clear_8 rfl ?_
  refine T_getr dX2_clear_9 fl_RX2_19 shp_30 rfl ?_
  refine T_iconst (v := (-1)) dX2_clear_12 (by decide +kernel) ?_
  refine S_callSV (M' := mJ7_fill_53178) [.ref 32, .int (-1)] [] dX2_clear_13 ml_RX2_85 mkJ7_fill_53178 rfl rfl (Nat.le_of_ble_eq_true rfl) h (fun I2 L2 h => ?_)
  refine T_aload_n dX2_clear_16 rfl ?_
  refine T_getr dX2_clear_17 fl_RX2_22 shp_30 rfl ?_
  refine T_iconst (v := (-1)) dX2_clear_20 (by decide +kernel) ?_
  refine S_callSV (M' := mJ7_fill_53178) [.ref 33, .int (-1)] [] dX2_clear_21 ml_RX2_85 mkJ7_fill_53178 rfl rfl (Nat.le_of_ble_eq_true rfl) h (fun I3 L3 h => ?_)
  refine T_aload_n dX2_clear_24 rfl ?_
  refine T_getr dX2_clear_25 fl_RX2_25 shp_30 rfl ?_
  refine T_iconst (v := (-1)) dX2_clear_28 (by decide +kernel) ?_
  refine S_callSV (M' := mJ7_fill_53178) [.ref 34, .int (-1)] [] dX2_clear_29 ml_RX2_85 mkJ7_fill_53178 rfl rfl (Nat.le_of_ble_eq_true rfl) h (fun I4 L4 h => ?_)
  refine T_aload_n dX2_clear_32 rfl ?_
  refine T_getr dX2_clear_33 fl_RX2_28 shp_30 rfl ?_
  refine T_iconst (v := 0) dX2_clear_36 (by decide +kernel) ?_
  refine S_callSV (M' := mJ7_fill_53178) [.ref 35, .int 0] [] dX2_clear_37 ml_RX2_85 mkJ7_fill_53178 rfl rfl (Nat.le_of_ble_eq_true rfl) h (fun I5 L5 h => ?_)
  refine T_aload_n dX2_clear_40 rfl ?_
  refine T_getr dX2_clear_41 fl_RX2_31 shp_30 rfl ?_
  refine T_iconst (v := 0) dX2_clear_44 (by decide +kernel) ?_
  refine S_callSV (M' := mJ7_fill_53178) [.ref 36, .int 0] [] dX2_clear_45 ml_RX2_85 mkJ7_fill_53178 rfl rfl (Nat.le_of_ble_eq_true rfl) h (fun I6 L6 h => ?_)
  refine T_aload_n dX2_clear_48 rfl ?_
  refine T_getr dX2_clear_49 fl_RX2_34 shp_30 rfl ?_
  refine T_iconst (v := 0) dX2_clear_52 (by decide +kernel) ?_
  refine S_callSV (M' := mJ7_fill_53178) [.ref 37, .int 0] [] dX2_clear_53 ml_RX2_85 mkJ7_fill_53178 rfl rfl (Nat.le_of_ble_eq_true rfl) h (fun I7 L7 h => ?_)
  refine T_aload_n dX2_clear_56 rfl ?_
  refine T_getr dX2_clear_57 fl_RX2_37 shp_30 rfl ?_
  refine T_iconst (v := 0) dX2_clear_60 (by decide +kernel) ?_
  refine S_callSV (M' := mJ7_fill_53178) [.ref 38, .int 0] [] dX2_clear_61 ml_RX2_85 mkJ7_fill_53178 rfl rfl (Nat.le_of_ble_eq_true rfl) h (fun I8 L8 h => ?_)
  refine T_aload_n dX2_clear_64 rfl ?_
  refine T_getr dX2_clear_65 fl_RX2_40 shp_30 rfl ?_
  refine T_iconst (v := 0) dX2_clear_68 (by decide +kernel) ?_
  refine S_callSV (M' := mJ7_fill_53178) [.ref 39, .int 0] [] dX2_clear_69 ml_RX2_85 mkJ7_fill_53178 rfl rfl (Nat.le_of_ble_eq_true rfl) h (fun I9 L9 h => ?_)
  exact S_vret rfl dX2_clear_72 h

theorem dX2_sift_0 : decode cX2_sift 0 = .ok (.iconst 0, 1) := by decide +kernel
theorem dX2_sift_1 : decode cX2_sift 1 = .ok (.istore_n 3, 1) := by decide +kernel
theorem dX2_sift_2 : decode cX2_sift 2 = .ok (.iload_n 3, 1) := by decide +kernel
theorem dX2_sift_3 : decode cX2_sift 3 = .ok (.aload_n 0, 1) := by decide +kernel
theorem dX2_sift_4 : decode cX2_sift 4 = .ok (.getfield 9, 3) := by decide +kernel
theorem dX2_sift_7 : decode cX2_sift 7 = .ok (.if_icmp .ge 93, 3) := by decide +kernel
theorem dX2_sift_10 : decode cX2_sift 10 = .ok (.aload_n 2, 1) := by decide +kernel
theorem dX2_sift_11 : decode cX2_sift 11 = .ok (.iload_n 3, 1) := by decide +kernel
theorem dX2_sift_12 : decode cX2_sift 12 = .ok (.iconst 1, 1) := by decide +kernel
theorem dX2_sift_13 : decode cX2_sift 13 = .ok (.invokevirtual 64, 3) := by decide +kernel
theorem dX2_sift_16 : decode cX2_sift 16 = .ok (.istore 4, 2) := by decide +kernel
theorem dX2_sift_18 : decode cX2_sift 18 = .ok (.aload_n 2, 1) := by decide +kernel
theorem dX2_sift_19 : decode cX2_sift 19 = .ok (.iload_n 3, 1) := by decide +kernel
theorem dX2_sift_20 : decode cX2_sift 20 = .ok (.iconst 0, 1) := by decide +kernel
theorem dX2_sift_21 : decode cX2_sift 21 = .ok (.invokevirtual 64, 3) := by decide +kernel
theorem dX2_sift_24 : decode cX2_sift 24 = .ok (.iconst 2, 1) := by decide +kernel
theorem dX2_sift_25 : decode cX2_sift 25 = .ok (.if_icmp .ne 7, 3) := by decide +kernel
theorem dX2_sift_28 : decode cX2_sift 28 = .ok (.iconst 1, 1) := by decide +kernel
theorem dX2_sift_29 : decode cX2_sift 29 = .ok (.goto 4, 3) := by decide +kernel
theorem dX2_sift_32 : decode cX2_sift 32 = .ok (.iconst 0, 1) := by decide +kernel
theorem dX2_sift_33 : decode cX2_sift 33 = .ok (.istore 5, 2) := by decide +kernel
theorem dX2_sift_35 : decode cX2_sift 35 = .ok (.iload 5, 2) := by decide +kernel
theorem dX2_sift_37 : decode cX2_sift 37 = .ok (.ifCond .eq 23, 3) := by decide +kernel
theorem dX2_sift_40 : decode cX2_sift 40 = .ok (.aload_n 2, 1) := by decide +kernel
theorem dX2_sift_41 : decode cX2_sift 41 = .ok (.iload 4, 2) := by decide +kernel
theorem dX2_sift_43 : decode cX2_sift 43 = .ok (.invokevirtual 91, 3) := by decide +kernel
theorem dX2_sift_46 : decode cX2_sift 46 = .ok (.ifCond .eq 14, 3) := by decide +kernel
theorem dX2_sift_49 : decode cX2_sift 49 = .ok (.aload_n 0, 1) := by decide +kernel
theorem dX2_sift_50 : decode cX2_sift 50 = .ok (.getfield 15, 3) := by decide +kernel
theorem dX2_sift_53 : decode cX2_sift 53 = .ok (.iload 4, 2) := by decide +kernel
theorem dX2_sift_55 : decode cX2_sift 55 = .ok (.iconst 0, 1) := by decide +kernel
theorem dX2_sift_56 : decode cX2_sift 56 = .ok (.iastore, 1) := by decide +kernel
theorem dX2_sift_57 : decode cX2_sift 57 = .ok (.goto 37, 3) := by decide +kernel
theorem dX2_sift_60 : decode cX2_sift 60 = .ok (.iload 5, 2) := by decide +kernel
theorem dX2_sift_62 : decode cX2_sift 62 = .ok (.ifCond .ne 32, 3) := by decide +kernel
theorem dX2_sift_65 : decode cX2_sift 65 = .ok (.aload_n 1, 1) := by decide +kernel
theorem dX2_sift_66 : decode cX2_sift 66 = .ok (.iload 4, 2) := by decide +kernel
theorem dX2_sift_68 : decode cX2_sift 68 = .ok (.invokevirtual 94, 3) := by decide +kernel
theorem dX2_sift_71 : decode cX2_sift 71 = .ok (.ifCond .eq 23, 3) := by decide +kernel
theorem dX2_sift_74 : decode cX2_sift 74 = .ok (.aload_n 1, 1) := by decide +kernel
theorem dX2_sift_75 : decode cX2_sift 75 = .ok (.aload_n 2, 1) := by decide +kernel
theorem dX2_sift_76 : decode cX2_sift 76 = .ok (.iload_n 3, 1) := by decide +kernel
theorem dX2_sift_77 : decode cX2_sift 77 = .ok (.iconst 2, 1) := by decide +kernel
theorem dX2_sift_78 : decode cX2_sift 78 = .ok (.invokevirtual 64, 3) := by decide +kernel
theorem dX2_sift_81 : decode cX2_sift 81 = .ok (.invokevirtual 97, 3) := by decide +kernel
theorem dX2_sift_84 : decode cX2_sift 84 = .ok (.ifCond .eq 10, 3) := by decide +kernel
theorem dX2_sift_87 : decode cX2_sift 87 = .ok (.aload_n 0, 1) := by decide +kernel
theorem dX2_sift_88 : decode cX2_sift 88 = .ok (.getfield 15, 3) := by decide +kernel
theorem dX2_sift_91 : decode cX2_sift 91 = .ok (.iload_n 3, 1) := by decide +kernel
theorem dX2_sift_92 : decode cX2_sift 92 = .ok (.iconst 1, 1) := by decide +kernel
theorem dX2_sift_93 : decode cX2_sift 93 = .ok (.iastore, 1) := by decide +kernel
theorem dX2_sift_94 : decode cX2_sift 94 = .ok (.iinc 3 1, 3) := by decide +kernel
theorem dX2_sift_97 : decode cX2_sift 97 = .ok (.goto (-95), 3) := by decide +kernel
theorem dX2_sift_100 : decode cX2_sift 100 = .ok (.return_, 1) := by decide +kernel
set_option maxRecDepth 100000 in
theorem sgX2_sift_0 {d : Nat} {I : st_I} {L : st_L} {F : st_I → st_L → Prop}  (h : TV (d + 1) mX2_sift 2 [.ref 30, .ref 1, .ref 28, .int 0, .null, .null] [] I L F) : EV (d + 1) mX2_sift [.ref 30, .ref 1, .ref 28] I L F := by
  refine Ev_of (ls0 := 3) (by decide +kernel) rfl rfl rfl ?_
  refine T_iconst (v := 0) dX2_sift_0 (by decide +kernel) ?_
  refine T_istore_n (lv' := [.ref 30, .ref 1, .ref 28, .int 0, .null, .null]) dX2_sift_1 rfl (by decide) rfl ?_
  exact h

set_option maxRecDepth 100000 in
theorem sgX2_sift_2 {d : Nat} {I : st_I} {L : st_L} {F : st_I → st_L → Prop} {x3 : Int32} (h : (if (I 30 0) ≤ x3 then F I L else EI d mX0_of [.ref 28, .int x3, .int 1] I L (fun r1 I1 L1 => EI d mX0_of [.ref 28, .int x3, .int 0] I1 L1 (fun r2 I2 L2 => (if (if r2 = 2 then (1 : Int32) else 0) = 0 then TV (d + 1) mX2_sift 60 [.ref 30, .ref 1, .ref 28, .int x3, .int r1, .int (if r2 = 2 then (1 : Int32) else 0)] [] I2 L2 F else EI d mX0_has [.ref 28, .int r1] I2 L2 (fun r3 I3 L3 => (if r3 = 0 then TV (d + 1) mX2_sift 60 [.ref 30, .ref 1, .ref 28, .int x3, .int r1, .int (if r2 = 2 then (1 : Int32) else 0)] [] I3 L3 F else vp_in r1 80 ∧ TV (d + 1) mX2_sift 2 [.ref 30, .ref 1, .ref 28, .int (x3 + 1), .null, .null] [] (u_I I3 31 (r1.toNatClampNeg) 0) L3 F))))))) : TV (d + 1) mX2_sift 2 [.ref 30, .ref 1, .ref 28, .int x3, .null, .null] [] I L F := by
  refine T_iload_n dX2_sift_2 rfl ?_
  refine T_aload_n dX2_sift_3 rfl ?_
  refine T_getv (v := (I 30 0)) dX2_sift_4 fl_RX2_9 shp_30 rfl rfl ?_
  refine T_icmp_ge (tgt := 100) dX2_sift_7 (by decide) (tq_ite h (fun h => ?_) (fun h => ?_))
  ·
    exact S_vret rfl dX2_sift_100 h
  ·
    refine T_aload_n dX2_sift_10 rfl ?_
    refine T_iload_n dX2_sift_11 rfl ?_
    refine T_iconst (v := 1) dX2_sift_12 (by decide +kernel) ?_
    refine S_callVI (M' := mX0_of) [.int x3, .int 1] [] dX2_sift_13 ml_RX2_64 mkX0_of rfl shp_28 rfl rfl rfl (Nat.le_of_ble_eq_true rfl) h (fun r1 I1 L1 h => ?_)
    refine T_istore (lv' := [.ref 30, .ref 1, .ref 28, .int x3, .int r1, .null]) dX2_sift_16 (by decide) rfl ?_
    refine T_aload_n dX2_sift_18 rfl ?_
    refine T_iload_n dX2_sift_19 rfl ?_
    refine T_iconst (v := 0) dX2_sift_20 (by decide +kernel) ?_
    refine S_callVI (M' := mX0_of) [.int x3, .int 0] [] dX2_sift_21 ml_RX2_64 mkX0_of rfl shp_28 rfl rfl rfl (Nat.le_of_ble_eq_true rfl) h (fun r2 I2 L2 h => ?_)
    refine T_iconst (v := 2) dX2_sift_24 (by decide +kernel) ?_
    refine T_icmp_ne (tgt := 32) dX2_sift_25 (by decide) (tq_itv (fun v => T shp (d + 1) mX2_sift 33 [.ref 30, .ref 1, .ref 28, .int x3, .int r1, .null] (.int v :: []) I2 L2 (kV F)) 1 0 (fun hJ => ?_) (fun hJ => ?_) ?_)
    ·
        refine T_iconst (v := 1) dX2_sift_28 (by decide +kernel) ?_
        refine T_goto (tgt := 33) dX2_sift_29 (by decide) ?_
        exact hJ
    ·
        refine T_iconst (v := 0) dX2_sift_32 (by decide +kernel) ?_
        exact hJ
    refine T_istore (lv' := [.ref 30, .ref 1, .ref 28, .int x3, .int r1, .int (if r2 = 2 then (1 : Int32) else 0)]) dX2_sift_33 (by decide) rfl ?_
    refine T_iload dX2_sift_35 rfl ?_
    refine T_if_eq (tgt := 60) dX2_sift_37 (by decide) (tq_ite h (fun h => ?_) (fun h => ?_))
    ·
      exact h
    ·
      refine T_aload_n dX2_sift_40 rfl ?_
      refine T_iload dX2_sift_41 rfl ?_
      refine S_callVI (M' := mX0_has) [.int r1] [] dX2_sift_43 ml_RX2_91 mkX0_has rfl shp_28 rfl rfl rfl (Nat.le_of_ble_eq_true rfl) h (fun r3 I3 L3 h => ?_)
      refine T_if_eq (tgt := 60) dX2_sift_46 (by decide) (tq_ite h (fun h => ?_) (fun h => ?_))
      ·
        exact h
      ·
        refine T_aload_n dX2_sift_49 rfl ?_
        refine T_getr dX2_sift_50 fl_RX2_15 shp_30 rfl ?_
        refine T_iload dX2_sift_53 rfl ?_
        refine T_iconst (v := 0) dX2_sift_55 (by decide +kernel) ?_
        refine T_iastv (j := r1.toNatClampNeg) dX2_sift_56 shp_31 h.1 rfl ?_
        replace h := h.2
        refine T_goto (tgt := 94) dX2_sift_57 (by decide) ?_
        refine T_iinc (lv' := [.ref 30, .ref 1, .ref 28, .int (x3 + 1), .int r1, .int (if r2 = 2 then (1 : Int32) else 0)]) dX2_sift_94 rfl (by decide) rfl ?_
        refine T_goto (tgt := 2) dX2_sift_97 (by decide) ?_
        exact T_wk (lv' := [.ref 30, .ref 1, .ref 28, .int (x3 + 1), .null, .null]) ⟨Or.inr rfl, Or.inr rfl, Or.inr rfl, Or.inr rfl, Or.inl rfl, Or.inl rfl, trivial⟩ h

set_option maxRecDepth 100000 in
theorem sgX2_sift_60 {d : Nat} {I : st_I} {L : st_L} {F : st_I → st_L → Prop} {x3 : Int32} {x4 : Int32} {x5 : Int32} (h : (if x5 = 0 then EI d mX8_hasPerson [.ref 1, .int x4] I L (fun r1 I1 L1 => (if r1 = 0 then TV (d + 1) mX2_sift 2 [.ref 30, .ref 1, .ref 28, .int (x3 + 1), .null, .null] [] I1 L1 F else EI d mX0_of [.ref 28, .int x3, .int 2] I1 L1 (fun r2 I2 L2 => EI d mX8_hasFiddle [.ref 1, .int r2] I2 L2 (fun r3 I3 L3 => (if r3 = 0 then TV (d + 1) mX2_sift 2 [.ref 30, .ref 1, .ref 28, .int (x3 + 1), .null, .null] [] I3 L3 F else vp_in x3 80 ∧ TV (d + 1) mX2_sift 2 [.ref 30, .ref 1, .ref 28, .int (x3 + 1), .null, .null] [] (u_I I3 31 (x3.toNatClampNeg) 1) L3 F))))) else TV (d + 1) mX2_sift 2 [.ref 30, .ref 1, .ref 28, .int (x3 + 1), .null, .null] [] I L F)) : TV (d + 1) mX2_sift 60 [.ref 30, .ref 1, .ref 28, .int x3, .int x4, .int x5] [] I L F := by
  refine T_iload dX2_sift_60 rfl ?_
  refine T_if_ne (tgt := 94) dX2_sift_62 (by decide) (tq_ite h (fun h => ?_) (fun h => ?_))
  ·
    refine T_aload_n dX2_sift_65 rfl ?_
    refine T_iload dX2_sift_66 rfl ?_
    refine S_callVI (M' := mX8_hasPerson) [.int x4] [] dX2_sift_68 ml_RX2_94 mkX8_hasPerson rfl shp_1 rfl rfl rfl (Nat.le_of_ble_eq_true rfl) h (fun r1 I1 L1 h => ?_)
    refine T_if_eq (tgt := 94) dX2_sift_71 (by decide) (tq_ite h (fun h => ?_) (fun h => ?_))
    ·
      refine T_iinc (lv' := [.ref 30, .ref 1, .ref 28, .int (x3 + 1), .int x4, .int x5]) dX2_sift_94 rfl (by decide) rfl ?_
      refine T_goto (tgt := 2) dX2_sift_97 (by decide) ?_
      exact T_wk (lv' := [.ref 30, .ref 1, .ref 28, .int (x3 + 1), .null, .null]) ⟨Or.inr rfl, Or.inr rfl, Or.inr rfl, Or.inr rfl, Or.inl rfl, Or.inl rfl, trivial⟩ h
    ·
      refine T_aload_n dX2_sift_74 rfl ?_
      refine T_aload_n dX2_sift_75 rfl ?_
      refine T_iload_n dX2_sift_76 rfl ?_
      refine T_iconst (v := 2) dX2_sift_77 (by decide +kernel) ?_
      refine S_callVI (M' := mX0_of) [.int x3, .int 2] [.ref 1] dX2_sift_78 ml_RX2_64 mkX0_of rfl shp_28 rfl rfl rfl (Nat.le_of_ble_eq_true rfl) h (fun r2 I2 L2 h => ?_)
      refine S_callVI (M' := mX8_hasFiddle) [.int r2] [] dX2_sift_81 ml_RX2_97 mkX8_hasFiddle rfl shp_1 rfl rfl rfl (Nat.le_of_ble_eq_true rfl) h (fun r3 I3 L3 h => ?_)
      refine T_if_eq (tgt := 94) dX2_sift_84 (by decide) (tq_ite h (fun h => ?_) (fun h => ?_))
      ·
        refine T_iinc (lv' := [.ref 30, .ref 1, .ref 28, .int (x3 + 1), .int x4, .int x5]) dX2_sift_94 rfl (by decide) rfl ?_
        refine T_goto (tgt := 2) dX2_sift_97 (by decide) ?_
        exact T_wk (lv' := [.ref 30, .ref 1, .ref 28, .int (x3 + 1), .null, .null]) ⟨Or.inr rfl, Or.inr rfl, Or.inr rfl, Or.inr rfl, Or.inl rfl, Or.inl rfl, trivial⟩ h
      ·
        refine T_aload_n dX2_sift_87 rfl ?_
        refine T_getr dX2_sift_88 fl_RX2_15 shp_30 rfl ?_
        refine T_iload_n dX2_sift_91 rfl ?_
        refine T_iconst (v := 1) dX2_sift_92 (by decide +kernel) ?_
        refine T_iastv (j := x3.toNatClampNeg) dX2_sift_93 shp_31 h.1 rfl ?_
        replace h := h.2
        refine T_iinc (lv' := [.ref 30, .ref 1, .ref 28, .int (x3 + 1), .int x4, .int x5]) dX2_sift_94 rfl (by decide) rfl ?_
        refine T_goto (tgt := 2) dX2_sift_97 (by decide) ?_
        exact T_wk (lv' := [.ref 30, .ref 1, .ref 28, .int (x3 + 1), .null, .null]) ⟨Or.inr rfl, Or.inr rfl, Or.inr rfl, Or.inr rfl, Or.inl rfl, Or.inl rfl, trivial⟩ h
  ·
    refine T_iinc (lv' := [.ref 30, .ref 1, .ref 28, .int (x3 + 1), .int x4, .int x5]) dX2_sift_94 rfl (by decide) rfl ?_
    refine T_goto (tgt := 2) dX2_sift_97 (by decide) ?_
    exact T_wk (lv' := [.ref 30, .ref 1, .ref 28, .int (x3 + 1), .null, .null]) ⟨Or.inr rfl, Or.inr rfl, Or.inr rfl, Or.inr rfl, Or.inl rfl, Or.inl rfl, trivial⟩ h

theorem dX2_learnMark_0 : decode cX2_learnMark 0 = .ok (.aload_n 2, 1) := by decide +kernel
theorem dX2_learnMark_1 : decode cX2_learnMark 1 = .ok (.iload_n 3, 1) := by decide +kernel
theorem dX2_learnMark_2 : decode cX2_learnMark 2 = .ok (.iconst 1, 1) := by decide +kernel
theorem dX2_learnMark_3 : decode cX2_learnMark 3 = .ok (.invokevirtual 64, 3) := by decide +kernel
theorem dX2_learnMark_6 : decode cX2_learnMark 6 = .ok (.istore 4, 2) := by decide +kernel
theorem dX2_learnMark_8 : decode cX2_learnMark 8 = .ok (.iload 4, 2) := by decide +kernel
theorem dX2_learnMark_10 : decode cX2_learnMark 10 = .ok (.bipush 8, 2) := by decide +kernel
theorem dX2_learnMark_12 : decode cX2_learnMark 12 = .ok (.imul, 1) := by decide +kernel
theorem dX2_learnMark_13 : decode cX2_learnMark 13 = .ok (.aload_n 2, 1) := by decide +kernel
theorem dX2_learnMark_14 : decode cX2_learnMark 14 = .ok (.iload_n 3, 1) := by decide +kernel
theorem dX2_learnMark_15 : decode cX2_learnMark 15 = .ok (.iconst 2, 1) := by decide +kernel
theorem dX2_learnMark_16 : decode cX2_learnMark 16 = .ok (.invokevirtual 64, 3) := by decide +kernel
theorem dX2_learnMark_19 : decode cX2_learnMark 19 = .ok (.iadd, 1) := by decide +kernel
theorem dX2_learnMark_20 : decode cX2_learnMark 20 = .ok (.istore 5, 2) := by decide +kernel
theorem dX2_learnMark_22 : decode cX2_learnMark 22 = .ok (.aload_n 2, 1) := by decide +kernel
theorem dX2_learnMark_23 : decode cX2_learnMark 23 = .ok (.iload_n 3, 1) := by decide +kernel
theorem dX2_learnMark_24 : decode cX2_learnMark 24 = .ok (.iconst 3, 1) := by decide +kernel
theorem dX2_learnMark_25 : decode cX2_learnMark 25 = .ok (.invokevirtual 64, 3) := by decide +kernel
theorem dX2_learnMark_28 : decode cX2_learnMark 28 = .ok (.istore 6, 2) := by decide +kernel
theorem dX2_learnMark_30 : decode cX2_learnMark 30 = .ok (.aload_n 2, 1) := by decide +kernel
theorem dX2_learnMark_31 : decode cX2_learnMark 31 = .ok (.iload_n 3, 1) := by decide +kernel
theorem dX2_learnMark_32 : decode cX2_learnMark 32 = .ok (.iconst 5, 1) := by decide +kernel
theorem dX2_learnMark_33 : decode cX2_learnMark 33 = .ok (.invokevirtual 64, 3) := by decide +kernel
theorem dX2_learnMark_36 : decode cX2_learnMark 36 = .ok (.iconst 1, 1) := by decide +kernel
theorem dX2_learnMark_37 : decode cX2_learnMark 37 = .ok (.if_icmp .ne 13, 3) := by decide +kernel
theorem dX2_learnMark_40 : decode cX2_learnMark 40 = .ok (.aload_n 0, 1) := by decide +kernel
theorem dX2_learnMark_41 : decode cX2_learnMark 41 = .ok (.getfield 25, 3) := by decide +kernel
theorem dX2_learnMark_44 : decode cX2_learnMark 44 = .ok (.iload 5, 2) := by decide +kernel
theorem dX2_learnMark_46 : decode cX2_learnMark 46 = .ok (.iload 6, 2) := by decide +kernel
theorem dX2_learnMark_48 : decode cX2_learnMark 48 = .ok (.iastore, 1) := by decide +kernel
theorem dX2_learnMark_49 : decode cX2_learnMark 49 = .ok (.return_, 1) := by decide +kernel
theorem dX2_learnMark_50 : decode cX2_learnMark 50 = .ok (.aload_n 0, 1) := by decide +kernel
theorem dX2_learnMark_51 : decode cX2_learnMark 51 = .ok (.getfield 22, 3) := by decide +kernel
theorem dX2_learnMark_54 : decode cX2_learnMark 54 = .ok (.iload 5, 2) := by decide +kernel
theorem dX2_learnMark_56 : decode cX2_learnMark 56 = .ok (.aload_n 0, 1) := by decide +kernel
theorem dX2_learnMark_57 : decode cX2_learnMark 57 = .ok (.getfield 19, 3) := by decide +kernel
theorem dX2_learnMark_60 : decode cX2_learnMark 60 = .ok (.iload 5, 2) := by decide +kernel
theorem dX2_learnMark_62 : decode cX2_learnMark 62 = .ok (.iaload, 1) := by decide +kernel
theorem dX2_learnMark_63 : decode cX2_learnMark 63 = .ok (.iastore, 1) := by decide +kernel
theorem dX2_learnMark_64 : decode cX2_learnMark 64 = .ok (.aload_n 0, 1) := by decide +kernel
theorem dX2_learnMark_65 : decode cX2_learnMark 65 = .ok (.getfield 19, 3) := by decide +kernel
theorem dX2_learnMark_68 : decode cX2_learnMark 68 = .ok (.iload 5, 2) := by decide +kernel
theorem dX2_learnMark_70 : decode cX2_learnMark 70 = .ok (.iload 6, 2) := by decide +kernel
theorem dX2_learnMark_72 : decode cX2_learnMark 72 = .ok (.iastore, 1) := by decide +kernel
theorem dX2_learnMark_73 : decode cX2_learnMark 73 = .ok (.aload_n 2, 1) := by decide +kernel
theorem dX2_learnMark_74 : decode cX2_learnMark 74 = .ok (.iload_n 3, 1) := by decide +kernel
theorem dX2_learnMark_75 : decode cX2_learnMark 75 = .ok (.iconst 4, 1) := by decide +kernel
theorem dX2_learnMark_76 : decode cX2_learnMark 76 = .ok (.invokevirtual 64, 3) := by decide +kernel
theorem dX2_learnMark_79 : decode cX2_learnMark 79 = .ok (.istore 7, 2) := by decide +kernel
theorem dX2_learnMark_81 : decode cX2_learnMark 81 = .ok (.aload_n 1, 1) := by decide +kernel
theorem dX2_learnMark_82 : decode cX2_learnMark 82 = .ok (.iload 4, 2) := by decide +kernel
theorem dX2_learnMark_84 : decode cX2_learnMark 84 = .ok (.invokevirtual 100, 3) := by decide +kernel
theorem dX2_learnMark_87 : decode cX2_learnMark 87 = .ok (.ifCond .eq 38, 3) := by decide +kernel
theorem dX2_learnMark_90 : decode cX2_learnMark 90 = .ok (.iload 7, 2) := by decide +kernel
theorem dX2_learnMark_92 : decode cX2_learnMark 92 = .ok (.ifCond .lt 33, 3) := by decide +kernel
theorem dX2_learnMark_95 : decode cX2_learnMark 95 = .ok (.iload 7, 2) := by decide +kernel
theorem dX2_learnMark_97 : decode cX2_learnMark 97 = .ok (.bipush 10, 2) := by decide +kernel
theorem dX2_learnMark_99 : decode cX2_learnMark 99 = .ok (.if_icmp .ge 26, 3) := by decide +kernel
theorem dX2_learnMark_102 : decode cX2_learnMark 102 = .ok (.aload_n 0, 1) := by decide +kernel
theorem dX2_learnMark_103 : decode cX2_learnMark 103 = .ok (.getfield 34, 3) := by decide +kernel
theorem dX2_learnMark_106 : decode cX2_learnMark 106 = .ok (.iload 7, 2) := by decide +kernel
theorem dX2_learnMark_108 : decode cX2_learnMark 108 = .ok (.dup2, 1) := by decide +kernel
theorem dX2_learnMark_109 : decode cX2_learnMark 109 = .ok (.iaload, 1) := by decide +kernel
theorem dX2_learnMark_110 : decode cX2_learnMark 110 = .ok (.iload 6, 2) := by decide +kernel
theorem dX2_learnMark_112 : decode cX2_learnMark 112 = .ok (.iadd, 1) := by decide +kernel
theorem dX2_learnMark_113 : decode cX2_learnMark 113 = .ok (.iastore, 1) := by decide +kernel
theorem dX2_learnMark_114 : decode cX2_learnMark 114 = .ok (.aload_n 0, 1) := by decide +kernel
theorem dX2_learnMark_115 : decode cX2_learnMark 115 = .ok (.getfield 37, 3) := by decide +kernel
theorem dX2_learnMark_118 : decode cX2_learnMark 118 = .ok (.iload 7, 2) := by decide +kernel
theorem dX2_learnMark_120 : decode cX2_learnMark 120 = .ok (.dup2, 1) := by decide +kernel
theorem dX2_learnMark_121 : decode cX2_learnMark 121 = .ok (.iaload, 1) := by decide +kernel
theorem dX2_learnMark_122 : decode cX2_learnMark 122 = .ok (.iconst 1, 1) := by decide +kernel
theorem dX2_learnMark_123 : decode cX2_learnMark 123 = .ok (.iadd, 1) := by decide +kernel
theorem dX2_learnMark_124 : decode cX2_learnMark 124 = .ok (.iastore, 1) := by decide +kernel
theorem dX2_learnMark_125 : decode cX2_learnMark 125 = .ok (.return_, 1) := by decide +kernel
set_option maxRecDepth 100000 in
theorem sgX2_learnMark_0 {d : Nat} {I : st_I} {L : st_L} {F : st_I → st_L → Prop} {a3 : Int32} (h : EI d mX0_of [.ref 28, .int a3, .int 1] I L (fun r1 I1 L1 => EI d mX0_of [.ref 28, .int a3, .int 2] I1 L1 (fun r2 I2 L2 => EI d mX0_of [.ref 28, .int a3, .int 3] I2 L2 (fun r3 I3 L3 => EI d mX0_of [.ref 28, .int a3, .int 5] I3 L3 (fun r4 I4 L4 => (if r4 = 1 then vp_in ((r1 * 8) + r2) 80 ∧ F (u_I I4 34 (((r1 * 8) + r2).toNatClampNeg) r3) L4 else vp_in ((r1 * 8) + r2) 80 ∧ vp_in ((r1 * 8) + r2) 80 ∧ vp_in ((r1 * 8) + r2) 80 ∧ EI d mX0_of [.ref 28, .int a3, .int 4] (u_I (u_I I4 33 (((r1 * 8) + r2).toNatClampNeg) (I4 32 (((r1 * 8) + r2).toNatClampNeg))) 32 (((r1 * 8) + r2).toNatClampNeg) r3) L4 (fun r5 I5 L5 => EI d mX8_isPlayer [.ref 1, .int r1] I5 L5 (fun r6 I6 L6 => (if r6 = 0 then F I6 L6 else (if r5 < 0 then F I6 L6 else (if 10 ≤ r5 then F I6 L6 else vp_in r5 10 ∧ vp_in r5 10 ∧ vp_in r5 10 ∧ vp_in r5 10 ∧ F (u_I (u_I I6 37 (r5.toNatClampNeg) ((I6 37 (r5.toNatClampNeg)) + r3)) 38 (r5.toNatClampNeg) ((I6 38 (r5.toNatClampNeg)) + 1)) L6))))))))))) : EV (d + 1) mX2_learnMark [.ref 30, .ref 1, .ref 28, .int a3] I L F := by
  refine Ev_of (ls0 := 4) (by decide +kernel) rfl rfl rfl ?_
  refine T_aload_n dX2_learnMark_0 rfl ?_
  refine T_iload_n dX2_learnMark_1 rfl ?_
  refine T_iconst (v := 1) dX2_learnMark_2 (by decide +kernel) ?_
  refine S_callVI (M' := mX0_of) [.int a3, .int 1] [] dX2_learnMark_3 ml_RX2_64 mkX0_of rfl shp_28 rfl rfl rfl (Nat.le_of_ble_eq_true rfl) h (fun r1 I1 L1 h => ?_)
  refine T_istore (lv' := [.ref 30, .ref 1, .ref 28, .int a3, .int r1, .null, .null, .null]) dX2_learnMark_6 (by decide) rfl ?_
  refine T_iload dX2_learnMark_8 rfl ?_
  refine T_bipush (v := 8) dX2_learnMark_10 (by decide +kernel) ?_
  refine T_imul dX2_learnMark_12 ?_
  refine T_aload_n dX2_learnMark_13 rfl ?_
  refine T_iload_n dX2_learnMark_14 rfl ?_
  refine T_iconst (v := 2) dX2_learnMark_15 (by decide +kernel) ?_
  refine S_callVI (M' := mX0_of) [.int a3, .int 2] [.int (r1 * 8)] dX2_learnMark_16 ml_RX2_64 mkX0_of rfl shp_28 rfl rfl rfl (Nat.le_of_ble_eq_true rfl) h (fun r2 I2 L2 h => ?_)
  refine T_iadd dX2_learnMark_19 ?_
  refine T_istore (lv' := [.ref 30, .ref 1, .ref 28, .int a3, .int r1, .int ((r1 * 8) + r2), .null, .null]) dX2_learnMark_20 (by decide) rfl ?_
  refine T_aload_n dX2_learnMark_22 rfl ?_
  refine T_iload_n dX2_learnMark_23 rfl ?_
  refine T_iconst (v := 3) dX2_learnMark_24 (by decide +kernel) ?_
  refine S_callVI (M' := mX0_of) [.int a3, .int 3] [] dX2_learnMark_25 ml_RX2_64 mkX0_of rfl shp_28 rfl rfl rfl (Nat.le_of_ble_eq_true rfl) h (fun r3 I3 L3 h => ?_)
  refine T_istore (lv' := [.ref 30, .ref 1, .ref 28, .int a3, .int r1, .int ((r1 * 8) + r2), .int r3, .null]) dX2_learnMark_28 (by decide) rfl ?_
  refine T_aload_n dX2_learnMark_30 rfl ?_
  refine T_iload_n dX2_learnMark_31 rfl ?_
  refine T_iconst (v := 5) dX2_learnMark_32 (by decide +kernel) ?_
  refine S_callVI (M' := mX0_of) [.int a3, .int 5] [] dX2_learnMark_33 ml_RX2_64 mkX0_of rfl shp_28 rfl rfl rfl (Nat.le_of_ble_eq_true rfl) h (fun r4 I4 L4 h => ?_)
  refine T_iconst (v := 1) dX2_learnMark_36 (by decide +kernel) ?_
  refine T_icmp_ne (tgt := 50) dX2_learnMark_37 (by decide) (tq_ite h (fun h => ?_) (fun h => ?_))
  ·
    refine T_aload_n dX2_learnMark_40 rfl ?_
    refine T_getr dX2_learnMark_41 fl_RX2_25 shp_30 rfl ?_
    refine T_iload dX2_learnMark_44 rfl ?_
    refine T_iload dX2_learnMark_46 rfl ?_
    refine T_iastv (j := ((r1 * 8) + r2).toNatClampNeg) dX2_learnMark_48 shp_34 h.1 rfl ?_
    replace h := h.2
    exact S_vret rfl dX2_learnMark_49 h
  ·
    refine T_aload_n dX2_learnMark_50 rfl ?_
    refine T_getr dX2_learnMark_51 fl_RX2_22 shp_30 rfl ?_
    refine T_iload dX2_learnMark_54 rfl ?_
    refine T_aload_n dX2_learnMark_56 rfl ?_
    refine T_getr dX2_learnMark_57 fl_RX2_19 shp_30 rfl ?_
    refine T_iload dX2_learnMark_60 rfl ?_
    refine T_ialdv (v := (I4 32 (((r1 * 8) + r2).toNatClampNeg))) (j := ((r1 * 8) + r2).toNatClampNeg) dX2_learnMark_62 shp_32 h.1 rfl rfl ?_
    replace h := h.2
    refine T_iastv (j := ((r1 * 8) + r2).toNatClampNeg) dX2_learnMark_63 shp_33 h.1 rfl ?_
    replace h := h.2
    refine T_aload_n dX2_learnMark_64 rfl ?_
    refine T_getr dX2_learnMark_65 fl_RX2_19 shp_30 rfl ?_
    refine T_iload dX2_learnMark_68 rfl ?_
    refine T_iload dX2_learnMark_70 rfl ?_
    refine T_iastv (j := ((r1 * 8) + r2).toNatClampNeg) dX2_learnMark_72 shp_32 h.1 rfl ?_
    replace h := h.2
    refine T_aload_n dX2_learnMark_73 rfl ?_
    refine T_iload_n dX2_learnMark_74 rfl ?_
    refine T_iconst (v := 4) dX2_learnMark_75 (by decide +kernel) ?_
    refine S_callVI (M' := mX0_of) [.int a3, .int 4] [] dX2_learnMark_76 ml_RX2_64 mkX0_of rfl shp_28 rfl rfl rfl (Nat.le_of_ble_eq_true rfl) h (fun r5 I5 L5 h => ?_)
    refine T_istore (lv' := [.ref 30, .ref 1, .ref 28, .int a3, .int r1, .int ((r1 * 8) + r2), .int r3, .int r5]) dX2_learnMark_79 (by decide) rfl ?_
    refine T_aload_n dX2_learnMark_81 rfl ?_
    refine T_iload dX2_learnMark_82 rfl ?_
    refine S_callVI (M' := mX8_isPlayer) [.int r1] [] dX2_learnMark_84 ml_RX2_100 mkX8_isPlayer rfl shp_1 rfl rfl rfl (Nat.le_of_ble_eq_true rfl) h (fun r6 I6 L6 h => ?_)
    refine T_if_eq (tgt := 125) dX2_learnMark_87 (by decide) (tq_ite h (fun h => ?_) (fun h => ?_))
    ·
      exact S_vret rfl dX2_learnMark_125 h
    ·
      refine T_iload dX2_learnMark_90 rfl ?_
      refine T_if_lt (tgt := 125) dX2_learnMark_92 (by decide) (tq_ite h (fun h => ?_) (fun h => ?_))
      ·
        exact S_vret rfl dX2_learnMark_125 h
      ·
        refine T_iload dX2_learnMark_95 rfl ?_
        refine T_bipush (v := 10) dX2_learnMark_97 (by decide +kernel) ?_
        refine T_icmp_ge (tgt := 125) dX2_learnMark_99 (by decide) (tq_ite h (fun h => ?_) (fun h => ?_))
        ·
          exact S_vret rfl dX2_learnMark_125 h
        ·
          refine T_aload_n dX2_learnMark_102 rfl ?_
          refine T_getr dX2_learnMark_103 fl_RX2_34 shp_30 rfl ?_
          refine T_iload dX2_learnMark_106 rfl ?_
          refine T_dup2 dX2_learnMark_108 rfl rfl ?_
          refine T_ialdv (v := (I6 37 (r5.toNatClampNeg))) (j := r5.toNatClampNeg) dX2_learnMark_109 shp_37 h.1 rfl rfl ?_
          replace h := h.2
          refine T_iload dX2_learnMark_110 rfl ?_
          refine T_iadd dX2_learnMark_112 ?_
          refine T_iastv (j := r5.toNatClampNeg) dX2_learnMark_113 shp_37 h.1 rfl ?_
          replace h := h.2
          refine T_aload_n dX2_learnMark_114 rfl ?_
          refine T_getr dX2_learnMark_115 fl_RX2_37 shp_30 rfl ?_
          refine T_iload dX2_learnMark_118 rfl ?_
          refine T_dup2 dX2_learnMark_120 rfl rfl ?_
          refine T_ialdv (v := (I6 38 (r5.toNatClampNeg))) (j := r5.toNatClampNeg) dX2_learnMark_121 shp_38 h.1 rfl rfl ?_
          replace h := h.2
          refine T_iconst (v := 1) dX2_learnMark_122 (by decide +kernel) ?_
          refine T_iadd dX2_learnMark_123 ?_
          refine T_iastv (j := r5.toNatClampNeg) dX2_learnMark_124 shp_38 h.1 rfl ?_
          replace h := h.2
          exact S_vret rfl dX2_learnMark_125 h

theorem dX2_learnGuess_0 : decode cX2_learnGuess 0 = .ok (.aload_n 0, 1) := by decide +kernel
theorem dX2_learnGuess_1 : decode cX2_learnGuess 1 = .ok (.getfield 40, 3) := by decide +kernel
theorem dX2_learnGuess_4 : decode cX2_learnGuess 4 = .ok (.iconst 0, 1) := by decide +kernel
theorem dX2_learnGuess_5 : decode cX2_learnGuess 5 = .ok (.dup2, 1) := by decide +kernel
theorem dX2_learnGuess_6 : decode cX2_learnGuess 6 = .ok (.iaload, 1) := by decide +kernel
theorem dX2_learnGuess_7 : decode cX2_learnGuess 7 = .ok (.iconst 1, 1) := by decide +kernel
theorem dX2_learnGuess_8 : decode cX2_learnGuess 8 = .ok (.iadd, 1) := by decide +kernel
theorem dX2_learnGuess_9 : decode cX2_learnGuess 9 = .ok (.iastore, 1) := by decide +kernel
theorem dX2_learnGuess_10 : decode cX2_learnGuess 10 = .ok (.aload_n 0, 1) := by decide +kernel
theorem dX2_learnGuess_11 : decode cX2_learnGuess 11 = .ok (.getfield 40, 3) := by decide +kernel
theorem dX2_learnGuess_14 : decode cX2_learnGuess 14 = .ok (.iconst 1, 1) := by decide +kernel
theorem dX2_learnGuess_15 : decode cX2_learnGuess 15 = .ok (.dup2, 1) := by decide +kernel
theorem dX2_learnGuess_16 : decode cX2_learnGuess 16 = .ok (.iaload, 1) := by decide +kernel
theorem dX2_learnGuess_17 : decode cX2_learnGuess 17 = .ok (.iload_n 1, 1) := by decide +kernel
theorem dX2_learnGuess_18 : decode cX2_learnGuess 18 = .ok (.iload_n 2, 1) := by decide +kernel
theorem dX2_learnGuess_19 : decode cX2_learnGuess 19 = .ok (.if_icmp .ne 7, 3) := by decide +kernel
theorem dX2_learnGuess_22 : decode cX2_learnGuess 22 = .ok (.iconst 1, 1) := by decide +kernel
theorem dX2_learnGuess_23 : decode cX2_learnGuess 23 = .ok (.goto 4, 3) := by decide +kernel
theorem dX2_learnGuess_26 : decode cX2_learnGuess 26 = .ok (.iconst 0, 1) := by decide +kernel
theorem dX2_learnGuess_27 : decode cX2_learnGuess 27 = .ok (.iadd, 1) := by decide +kernel
theorem dX2_learnGuess_28 : decode cX2_learnGuess 28 = .ok (.iastore, 1) := by decide +kernel
theorem dX2_learnGuess_29 : decode cX2_learnGuess 29 = .ok (.aload_n 0, 1) := by decide +kernel
theorem dX2_learnGuess_30 : decode cX2_learnGuess 30 = .ok (.getfield 40, 3) := by decide +kernel
theorem dX2_learnGuess_33 : decode cX2_learnGuess 33 = .ok (.iconst 2, 1) := by decide +kernel
theorem dX2_learnGuess_34 : decode cX2_learnGuess 34 = .ok (.dup2, 1) := by decide +kernel
theorem dX2_learnGuess_35 : decode cX2_learnGuess 35 = .ok (.iaload, 1) := by decide +kernel
theorem dX2_learnGuess_36 : decode cX2_learnGuess 36 = .ok (.iload_n 2, 1) := by decide +kernel
theorem dX2_learnGuess_37 : decode cX2_learnGuess 37 = .ok (.ifCond .eq 7, 3) := by decide +kernel
theorem dX2_learnGuess_40 : decode cX2_learnGuess 40 = .ok (.iconst 1, 1) := by decide +kernel
theorem dX2_learnGuess_41 : decode cX2_learnGuess 41 = .ok (.goto 4, 3) := by decide +kernel
theorem dX2_learnGuess_44 : decode cX2_learnGuess 44 = .ok (.iconst 0, 1) := by decide +kernel
theorem dX2_learnGuess_45 : decode cX2_learnGuess 45 = .ok (.iadd, 1) := by decide +kernel
theorem dX2_learnGuess_46 : decode cX2_learnGuess 46 = .ok (.iastore, 1) := by decide +kernel
theorem dX2_learnGuess_47 : decode cX2_learnGuess 47 = .ok (.aload_n 0, 1) := by decide +kernel
theorem dX2_learnGuess_48 : decode cX2_learnGuess 48 = .ok (.getfield 40, 3) := by decide +kernel
theorem dX2_learnGuess_51 : decode cX2_learnGuess 51 = .ok (.iconst 3, 1) := by decide +kernel
theorem dX2_learnGuess_52 : decode cX2_learnGuess 52 = .ok (.dup2, 1) := by decide +kernel
theorem dX2_learnGuess_53 : decode cX2_learnGuess 53 = .ok (.iaload, 1) := by decide +kernel
theorem dX2_learnGuess_54 : decode cX2_learnGuess 54 = .ok (.iload_n 1, 1) := by decide +kernel
theorem dX2_learnGuess_55 : decode cX2_learnGuess 55 = .ok (.ifCond .eq 7, 3) := by decide +kernel
theorem dX2_learnGuess_58 : decode cX2_learnGuess 58 = .ok (.iconst 1, 1) := by decide +kernel
theorem dX2_learnGuess_59 : decode cX2_learnGuess 59 = .ok (.goto 4, 3) := by decide +kernel
theorem dX2_learnGuess_62 : decode cX2_learnGuess 62 = .ok (.iconst 0, 1) := by decide +kernel
theorem dX2_learnGuess_63 : decode cX2_learnGuess 63 = .ok (.iadd, 1) := by decide +kernel
theorem dX2_learnGuess_64 : decode cX2_learnGuess 64 = .ok (.iastore, 1) := by decide +kernel
theorem dX2_learnGuess_65 : decode cX2_learnGuess 65 = .ok (.aload_n 0, 1) := by decide +kernel
theorem dX2_learnGuess_66 : decode cX2_learnGuess 66 = .ok (.getfield 40, 3) := by decide +kernel
theorem dX2_learnGuess_69 : decode cX2_learnGuess 69 = .ok (.iconst 4, 1) := by decide +kernel
theorem dX2_learnGuess_70 : decode cX2_learnGuess 70 = .ok (.dup2, 1) := by decide +kernel
theorem dX2_learnGuess_71 : decode cX2_learnGuess 71 = .ok (.iaload, 1) := by decide +kernel
theorem dX2_learnGuess_72 : decode cX2_learnGuess 72 = .ok (.iload_n 1, 1) := by decide +kernel
theorem dX2_learnGuess_73 : decode cX2_learnGuess 73 = .ok (.ifCond .eq 11, 3) := by decide +kernel
theorem dX2_learnGuess_76 : decode cX2_learnGuess 76 = .ok (.iload_n 2, 1) := by decide +kernel
theorem dX2_learnGuess_77 : decode cX2_learnGuess 77 = .ok (.ifCond .eq 7, 3) := by decide +kernel
theorem dX2_learnGuess_80 : decode cX2_learnGuess 80 = .ok (.iconst 1, 1) := by decide +kernel
theorem dX2_learnGuess_81 : decode cX2_learnGuess 81 = .ok (.goto 4, 3) := by decide +kernel
theorem dX2_learnGuess_84 : decode cX2_learnGuess 84 = .ok (.iconst 0, 1) := by decide +kernel
theorem dX2_learnGuess_85 : decode cX2_learnGuess 85 = .ok (.iadd, 1) := by decide +kernel
theorem dX2_learnGuess_86 : decode cX2_learnGuess 86 = .ok (.iastore, 1) := by decide +kernel
theorem dX2_learnGuess_87 : decode cX2_learnGuess 87 = .ok (.return_, 1) := by decide +kernel
set_option maxRecDepth 100000 in
theorem sgX2_learnGuess_0 {d : Nat} {I : st_I} {L : st_L} {F : st_I → st_L → Prop} {a1 : Int32} {a2 : Int32} (h : F (u_I (u_I (u_I (u_I (u_I I 39 0 ((I 39 0) + 1)) 39 1 ((I 39 1) + (if a1 = a2 then (1 : Int32) else 0))) 39 2 ((I 39 2) + (if a2 = 0 then (0 : Int32) else 1))) 39 3 ((I 39 3) + (if a1 = 0 then (0 : Int32) else 1))) 39 4 ((I 39 4) + (if a1 = 0 then (0 : Int32) else (if a2 = 0 then (0 : Int32) else 1)))) L) : EV d mX2_learnGuess [.ref 30, .int a1, .int a2] I L F := by
  refine Ev_of (ls0 := 0) (by decide +kernel) rfl rfl rfl ?_
  refine T_aload_n dX2_learnGuess_0 rfl ?_
  refine T_getr dX2_learnGuess_1 fl_RX2_40 shp_30 rfl ?_
  refine T_iconst (v := 0) dX2_learnGuess_4 (by decide +kernel) ?_
  refine T_dup2 dX2_learnGuess_5 rfl rfl ?_
  refine T_ialdv (v := (I 39 0)) (j := 0) dX2_learnGuess_6 shp_39 (tq_inl (by decide +kernel)) (by decide +kernel) rfl ?_
  refine T_iconst (v := 1) dX2_learnGuess_7 (by decide +kernel) ?_
  refine T_iadd dX2_learnGuess_8 ?_
  refine T_iastv (j := 0) dX2_learnGuess_9 shp_39 (tq_inl (by decide +kernel)) (by decide +kernel) ?_
  refine T_aload_n dX2_learnGuess_10 rfl ?_
  refine T_getr dX2_learnGuess_11 fl_RX2_40 shp_30 rfl ?_
  refine T_iconst (v := 1) dX2_learnGuess_14 (by decide +kernel) ?_
  refine T_dup2 dX2_learnGuess_15 rfl rfl ?_
  refine T_ialdv (v := (I 39 1)) (j := 1) dX2_learnGuess_16 shp_39 (tq_inl (by decide +kernel)) (by decide +kernel) rfl ?_
  refine T_iload_n dX2_learnGuess_17 rfl ?_
  refine T_iload_n dX2_learnGuess_18 rfl ?_
  refine T_icmp_ne (tgt := 26) dX2_learnGuess_19 (by decide) (tq_itv (fun v => T shp d mX2_learnGuess 27 [.ref 30, .int a1, .int a2] (.int v :: [.int (I 39 1), .int 1, .ref 39]) (u_I I 39 0 ((I 39 0) + 1)) L (kV F)) 1 0 (fun hJ => ?_) (fun hJ => ?_) ?_)
  ·
      refine T_iconst (v := 1) dX2_learnGuess_22 (by decide +kernel) ?_
      refine T_goto (tgt := 27) dX2_learnGuess_23 (by decide) ?_
      exact hJ
  ·
      refine T_iconst (v := 0) dX2_learnGuess_26 (by decide +kernel) ?_
      exact hJ
  refine T_iadd dX2_learnGuess_27 ?_
  refine T_iastv (j := 1) dX2_learnGuess_28 shp_39 (tq_inl (by decide +kernel)) (by decide +kernel) ?_
  refine T_aload_n dX2_learnGuess_29 rfl ?_
  refine T_getr dX2_learnGuess_30 fl_RX2_40 shp_30 rfl ?_
  refine T_iconst (v := 2) dX2_learnGuess_33 (by decide +kernel) ?_
  refine T_dup2 dX2_learnGuess_34 rfl rfl ?_
  refine T_ialdv (v := (I 39 2)) (j := 2) dX2_learnGuess_35 shp_39 (tq_inl (by decide +kernel)) (by decide +kernel) rfl ?_
  refine T_iload_n dX2_learnGuess_36 rfl ?_
  refine T_if_eq (tgt := 44) dX2_learnGuess_37 (by decide) (tq_itv (fun v => T shp d mX2_learnGuess 45 [.ref 30, .int a1, .int a2] (.int v :: [.int (I 39 2), .int 2, .ref 39]) (u_I (u_I I 39 0 ((I 39 0) + 1)) 39 1 ((I 39 1) + (if a1 = a2 then (1 : Int32) else 0))) L (kV F)) 0 1 (fun hJ => ?_) (fun hJ => ?_) ?_)
  ·
      refine T_iconst (v := 0) dX2_learnGuess_44 (by decide +kernel) ?_
      exact hJ
  ·
      refine T_iconst (v := 1) dX2_learnGuess_40 (by decide +kernel) ?_
      refine T_goto (tgt := 45) dX2_learnGuess_41 (by decide) ?_
      exact hJ
  refine T_iadd dX2_learnGuess_45 ?_
  refine T_iastv (j := 2) dX2_learnGuess_46 shp_39 (tq_inl (by decide +kernel)) (by decide +kernel) ?_
  refine T_aload_n dX2_learnGuess_47 rfl ?_
  refine T_getr dX2_learnGuess_48 fl_RX2_40 shp_30 rfl ?_
  refine T_iconst (v := 3) dX2_learnGuess_51 (by decide +kernel) ?_
  refine T_dup2 dX2_learnGuess_52 rfl rfl ?_
  refine T_ialdv (v := (I 39 3)) (j := 3) dX2_learnGuess_53 shp_39 (tq_inl (by decide +kernel)) (by decide +kernel) rfl ?_
  refine T_iload_n dX2_learnGuess_54 rfl ?_
  refine T_if_eq (tgt := 62) dX2_learnGuess_55 (by decide) (tq_itv (fun v => T shp d mX2_learnGuess 63 [.ref 30, .int a1, .int a2] (.int v :: [.int (I 39 3), .int 3, .ref 39]) (u_I (u_I (u_I I 39 0 ((I 39 0) + 1)) 39 1 ((I 39 1) + (if a1 = a2 then (1 : Int32) else 0))) 39 2 ((I 39 2) + (if a2 = 0 then (0 : Int32) else 1))) L (kV F)) 0 1 (fun hJ => ?_) (fun hJ => ?_) ?_)
  ·
      refine T_iconst (v := 0) dX2_learnGuess_62 (by decide +kernel) ?_
      exact hJ
  ·
      refine T_iconst (v := 1) dX2_learnGuess_58 (by decide +kernel) ?_
      refine T_goto (tgt := 63) dX2_learnGuess_59 (by decide) ?_
      exact hJ
  refine T_iadd dX2_learnGuess_63 ?_
  refine T_iastv (j := 3) dX2_learnGuess_64 shp_39 (tq_inl (by decide +kernel)) (by decide +kernel) ?_
  refine T_aload_n dX2_learnGuess_65 rfl ?_
  refine T_getr dX2_learnGuess_66 fl_RX2_40 shp_30 rfl ?_
  refine T_iconst (v := 4) dX2_learnGuess_69 (by decide +kernel) ?_
  refine T_dup2 dX2_learnGuess_70 rfl rfl ?_
  refine T_ialdv (v := (I 39 4)) (j := 4) dX2_learnGuess_71 shp_39 (tq_inl (by decide +kernel)) (by decide +kernel) rfl ?_
  refine T_iload_n dX2_learnGuess_72 rfl ?_
  refine T_if_eq (tgt := 84) dX2_learnGuess_73 (by decide) (tq_itv (fun v => T shp d mX2_learnGuess 85 [.ref 30, .int a1, .int a2] (.int v :: [.int (I 39 4), .int 4, .ref 39]) (u_I (u_I (u_I (u_I I 39 0 ((I 39 0) + 1)) 39 1 ((I 39 1) + (if a1 = a2 then (1 : Int32) else 0))) 39 2 ((I 39 2) + (if a2 = 0 then (0 : Int32) else 1))) 39 3 ((I 39 3) + (if a1 = 0 then (0 : Int32) else 1))) L (kV F)) 0 (if a2 = 0 then (0 : Int32) else 1) (fun hJ => ?_) (fun hJ => ?_) ?_)
  ·
      refine T_iconst (v := 0) dX2_learnGuess_84 (by decide +kernel) ?_
      exact hJ
  ·
      refine T_iload_n dX2_learnGuess_76 rfl ?_
      refine T_if_eq (tgt := 84) dX2_learnGuess_77 (by decide) (tq_itv (fun v => T shp d mX2_learnGuess 85 [.ref 30, .int a1, .int a2] (.int v :: [.int (I 39 4), .int 4, .ref 39]) (u_I (u_I (u_I (u_I I 39 0 ((I 39 0) + 1)) 39 1 ((I 39 1) + (if a1 = a2 then (1 : Int32) else 0))) 39 2 ((I 39 2) + (if a2 = 0 then (0 : Int32) else 1))) 39 3 ((I 39 3) + (if a1 = 0 then (0 : Int32) else 1))) L (kV F)) 0 1 (fun hJ => ?_) (fun hJ => ?_) hJ)
      ·
        refine T_iconst (v := 0) dX2_learnGuess_84 (by decide +kernel) ?_
        exact hJ
      ·
        refine T_iconst (v := 1) dX2_learnGuess_80 (by decide +kernel) ?_
        refine T_goto (tgt := 85) dX2_learnGuess_81 (by decide) ?_
        exact hJ
  refine T_iadd dX2_learnGuess_85 ?_
  refine T_iastv (j := 4) dX2_learnGuess_86 shp_39 (tq_inl (by decide +kernel)) (by decide +kernel) ?_
  exact S_vret rfl dX2_learnGuess_87 h

theorem dX2_learnMeans_0 : decode cX2_learnMeans 0 = .ok (.iconst 0, 1) := by decide +kernel
theorem dX2_learnMeans_1 : decode cX2_learnMeans 1 = .ok (.istore_n 2, 1) := by decide +kernel
theorem dX2_learnMeans_2 : decode cX2_learnMeans 2 = .ok (.iload_n 2, 1) := by decide +kernel
theorem dX2_learnMeans_3 : decode cX2_learnMeans 3 = .ok (.aload_n 1, 1) := by decide +kernel
theorem dX2_learnMeans_4 : decode cX2_learnMeans 4 = .ok (.getfield 103, 3) := by decide +kernel
theorem dX2_learnMeans_7 : decode cX2_learnMeans 7 = .ok (.if_icmp .ge 89, 3) := by decide +kernel
theorem dX2_learnMeans_10 : decode cX2_learnMeans 10 = .ok (.aload_n 1, 1) := by decide +kernel
theorem dX2_learnMeans_11 : decode cX2_learnMeans 11 = .ok (.iload_n 2, 1) := by decide +kernel
theorem dX2_learnMeans_12 : decode cX2_learnMeans 12 = .ok (.invokevirtual 100, 3) := by decide +kernel
theorem dX2_learnMeans_15 : decode cX2_learnMeans 15 = .ok (.ifCond .eq 7, 3) := by decide +kernel
theorem dX2_learnMeans_18 : decode cX2_learnMeans 18 = .ok (.iconst 0, 1) := by decide +kernel
theorem dX2_learnMeans_19 : decode cX2_learnMeans 19 = .ok (.goto 5, 3) := by decide +kernel
theorem dX2_learnMeans_22 : decode cX2_learnMeans 22 = .ok (.bipush 8, 2) := by decide +kernel
theorem dX2_learnMeans_24 : decode cX2_learnMeans 24 = .ok (.istore_n 3, 1) := by decide +kernel
theorem dX2_learnMeans_25 : decode cX2_learnMeans 25 = .ok (.iconst 0, 1) := by decide +kernel
theorem dX2_learnMeans_26 : decode cX2_learnMeans 26 = .ok (.istore 4, 2) := by decide +kernel
theorem dX2_learnMeans_28 : decode cX2_learnMeans 28 = .ok (.iload 4, 2) := by decide +kernel
theorem dX2_learnMeans_30 : decode cX2_learnMeans 30 = .ok (.aload_n 1, 1) := by decide +kernel
theorem dX2_learnMeans_31 : decode cX2_learnMeans 31 = .ok (.getfield 106, 3) := by decide +kernel
theorem dX2_learnMeans_34 : decode cX2_learnMeans 34 = .ok (.if_icmp .ge 56, 3) := by decide +kernel
theorem dX2_learnMeans_37 : decode cX2_learnMeans 37 = .ok (.aload_n 0, 1) := by decide +kernel
theorem dX2_learnMeans_38 : decode cX2_learnMeans 38 = .ok (.getfield 19, 3) := by decide +kernel
theorem dX2_learnMeans_41 : decode cX2_learnMeans 41 = .ok (.iload_n 2, 1) := by decide +kernel
theorem dX2_learnMeans_42 : decode cX2_learnMeans 42 = .ok (.bipush 8, 2) := by decide +kernel
theorem dX2_learnMeans_44 : decode cX2_learnMeans 44 = .ok (.imul, 1) := by decide +kernel
theorem dX2_learnMeans_45 : decode cX2_learnMeans 45 = .ok (.iload 4, 2) := by decide +kernel
theorem dX2_learnMeans_47 : decode cX2_learnMeans 47 = .ok (.iadd, 1) := by decide +kernel
theorem dX2_learnMeans_48 : decode cX2_learnMeans 48 = .ok (.iaload, 1) := by decide +kernel
theorem dX2_learnMeans_49 : decode cX2_learnMeans 49 = .ok (.istore 5, 2) := by decide +kernel
theorem dX2_learnMeans_51 : decode cX2_learnMeans 51 = .ok (.iload 5, 2) := by decide +kernel
theorem dX2_learnMeans_53 : decode cX2_learnMeans 53 = .ok (.iconst (-1), 1) := by decide +kernel
theorem dX2_learnMeans_54 : decode cX2_learnMeans 54 = .ok (.if_icmp .eq 30, 3) := by decide +kernel
theorem dX2_learnMeans_57 : decode cX2_learnMeans 57 = .ok (.aload_n 0, 1) := by decide +kernel
theorem dX2_learnMeans_58 : decode cX2_learnMeans 58 = .ok (.getfield 28, 3) := by decide +kernel
theorem dX2_learnMeans_61 : decode cX2_learnMeans 61 = .ok (.iload_n 3, 1) := by decide +kernel
theorem dX2_learnMeans_62 : decode cX2_learnMeans 62 = .ok (.iload 4, 2) := by decide +kernel
theorem dX2_learnMeans_64 : decode cX2_learnMeans 64 = .ok (.iadd, 1) := by decide +kernel
theorem dX2_learnMeans_65 : decode cX2_learnMeans 65 = .ok (.dup2, 1) := by decide +kernel
theorem dX2_learnMeans_66 : decode cX2_learnMeans 66 = .ok (.iaload, 1) := by decide +kernel
theorem dX2_learnMeans_67 : decode cX2_learnMeans 67 = .ok (.iload 5, 2) := by decide +kernel
theorem dX2_learnMeans_69 : decode cX2_learnMeans 69 = .ok (.iadd, 1) := by decide +kernel
theorem dX2_learnMeans_70 : decode cX2_learnMeans 70 = .ok (.iastore, 1) := by decide +kernel
theorem dX2_learnMeans_71 : decode cX2_learnMeans 71 = .ok (.aload_n 0, 1) := by decide +kernel
theorem dX2_learnMeans_72 : decode cX2_learnMeans 72 = .ok (.getfield 31, 3) := by decide +kernel
theorem dX2_learnMeans_75 : decode cX2_learnMeans 75 = .ok (.iload_n 3, 1) := by decide +kernel
theorem dX2_learnMeans_76 : decode cX2_learnMeans 76 = .ok (.iload 4, 2) := by decide +kernel
theorem dX2_learnMeans_78 : decode cX2_learnMeans 78 = .ok (.iadd, 1) := by decide +kernel
theorem dX2_learnMeans_79 : decode cX2_learnMeans 79 = .ok (.dup2, 1) := by decide +kernel
theorem dX2_learnMeans_80 : decode cX2_learnMeans 80 = .ok (.iaload, 1) := by decide +kernel
theorem dX2_learnMeans_81 : decode cX2_learnMeans 81 = .ok (.iconst 1, 1) := by decide +kernel
theorem dX2_learnMeans_82 : decode cX2_learnMeans 82 = .ok (.iadd, 1) := by decide +kernel
theorem dX2_learnMeans_83 : decode cX2_learnMeans 83 = .ok (.iastore, 1) := by decide +kernel
theorem dX2_learnMeans_84 : decode cX2_learnMeans 84 = .ok (.iinc 4 1, 3) := by decide +kernel
theorem dX2_learnMeans_87 : decode cX2_learnMeans 87 = .ok (.goto (-59), 3) := by decide +kernel
theorem dX2_learnMeans_90 : decode cX2_learnMeans 90 = .ok (.iinc 2 1, 3) := by decide +kernel
theorem dX2_learnMeans_93 : decode cX2_learnMeans 93 = .ok (.goto (-91), 3) := by decide +kernel
theorem dX2_learnMeans_96 : decode cX2_learnMeans 96 = .ok (.return_, 1) := by decide +kernel
set_option maxRecDepth 100000 in
theorem sgX2_learnMeans_0 {d : Nat} {I : st_I} {L : st_L} {F : st_I → st_L → Prop}  (h : TV (d + 1) mX2_learnMeans 2 [.ref 30, .ref 1, .int 0, .null, .null, .null] [] I L F) : EV (d + 1) mX2_learnMeans [.ref 30, .ref 1] I L F := by
  refine Ev_of (ls0 := 4) (by decide +kernel) rfl rfl rfl ?_
  refine T_iconst (v := 0) dX2_learnMeans_0 (by decide +kernel) ?_
  refine T_istore_n (lv' := [.ref 30, .ref 1, .int 0, .null, .null, .null]) dX2_learnMeans_1 rfl (by decide) rfl ?_
  exact h

set_option maxRecDepth 100000 in
theorem sgX2_learnMeans_2 {d : Nat} {I : st_I} {L : st_L} {F : st_I → st_L → Prop} {x2 : Int32} (h : (if (I 1 1) ≤ x2 then F I L else EI d mX8_isPlayer [.ref 1, .int x2] I L (fun r1 I1 L1 => TV (d + 1) mX2_learnMeans 28 [.ref 30, .ref 1, .int x2, .int (if r1 = 0 then (8 : Int32) else 0), .int 0, .null] [] I1 L1 F))) : TV (d + 1) mX2_learnMeans 2 [.ref 30, .ref 1, .int x2, .null, .null, .null] [] I L F := by
  refine T_iload_n dX2_learnMeans_2 rfl ?_
  refine T_aload_n dX2_learnMeans_3 rfl ?_
  refine T_getv (v := (I 1 1)) dX2_learnMeans_4 fl_RX2_103 shp_1 rfl rfl ?_
  refine T_icmp_ge (tgt := 96) dX2_learnMeans_7 (by decide) (tq_ite h (fun h => ?_) (fun h => ?_))
  ·
    exact S_vret rfl dX2_learnMeans_96 h
  ·
    refine T_aload_n dX2_learnMeans_10 rfl ?_
    refine T_iload_n dX2_learnMeans_11 rfl ?_
    refine S_callVI (M' := mX8_isPlayer) [.int x2] [] dX2_learnMeans_12 ml_RX2_100 mkX8_isPlayer rfl shp_1 rfl rfl rfl (Nat.le_of_ble_eq_true rfl) h (fun r1 I1 L1 h => ?_)
    refine T_if_eq (tgt := 22) dX2_learnMeans_15 (by decide) (tq_itv (fun v => T shp (d + 1) mX2_learnMeans 24 [.ref 30, .ref 1, .int x2, .null, .null, .null] (.int v :: []) I1 L1 (kV F)) 8 0 (fun hJ => ?_) (fun hJ => ?_) ?_)
    ·
        refine T_bipush (v := 8) dX2_learnMeans_22 (by decide +kernel) ?_
        exact hJ
    ·
        refine T_iconst (v := 0) dX2_learnMeans_18 (by decide +kernel) ?_
        refine T_goto (tgt := 24) dX2_learnMeans_19 (by decide) ?_
        exact hJ
    refine T_istore_n (lv' := [.ref 30, .ref 1, .int x2, .int (if r1 = 0 then (8 : Int32) else 0), .null, .null]) dX2_learnMeans_24 rfl (by decide) rfl ?_
    refine T_iconst (v := 0) dX2_learnMeans_25 (by decide +kernel) ?_
    refine T_istore (lv' := [.ref 30, .ref 1, .int x2, .int (if r1 = 0 then (8 : Int32) else 0), .int 0, .null]) dX2_learnMeans_26 (by decide) rfl ?_
    exact h

set_option maxRecDepth 100000 in
theorem sgX2_learnMeans_28 {d : Nat} {I : st_I} {L : st_L} {F : st_I → st_L → Prop} {x2 : Int32} {x3 : Int32} {x4 : Int32} (h : (if (I 1 0) ≤ x4 then TV (d + 1) mX2_learnMeans 2 [.ref 30, .ref 1, .int (x2 + 1), .null, .null, .null] [] I L F else vp_in ((x2 * 8) + x4) 80 ∧ (if (I 32 (((x2 * 8) + x4).toNatClampNeg)) = (-1) then TV (d + 1) mX2_learnMeans 28 [.ref 30, .ref 1, .int x2, .int x3, .int (x4 + 1), .null] [] I L F else vp_in (x3 + x4) 16 ∧ vp_in (x3 + x4) 16 ∧ vp_in (x3 + x4) 16 ∧ vp_in (x3 + x4) 16 ∧ TV (d + 1) mX2_learnMeans 28 [.ref 30, .ref 1, .int x2, .int x3, .int (x4 + 1), .null] [] (u_I (u_I I 35 ((x3 + x4).toNatClampNeg) ((I 35 ((x3 + x4).toNatClampNeg)) + (I 32 (((x2 * 8) + x4).toNatClampNeg)))) 36 ((x3 + x4).toNatClampNeg) ((I 36 ((x3 + x4).toNatClampNeg)) + 1)) L F))) : TV (d + 1) mX2_learnMeans 28 [.ref 30, .ref 1, .int x2, .int x3, .int x4, .null] [] I L F := by
  refine T_iload dX2_learnMeans_28 rfl ?_
  refine T_aload_n dX2_learnMeans_30 rfl ?_
  refine T_getv (v := (I 1 0)) dX2_learnMeans_31 fl_RX2_106 shp_1 rfl rfl ?_
  refine T_icmp_ge (tgt := 90) dX2_learnMeans_34 (by decide) (tq_ite h (fun h => ?_) (fun h => ?_))
  ·
    refine T_iinc (lv' := [.ref 30, .ref 1, .int (x2 + 1), .int x3, .int x4, .null]) dX2_learnMeans_90 rfl (by decide) rfl ?_
    refine T_goto (tgt := 2) dX2_learnMeans_93 (by decide) ?_
    exact T_wk (lv' := [.ref 30, .ref 1, .int (x2 + 1), .null, .null, .null]) ⟨Or.inr rfl, Or.inr rfl, Or.inr rfl, Or.inl rfl, Or.inl rfl, Or.inr rfl, trivial⟩ h
  ·
    refine T_aload_n dX2_learnMeans_37 rfl ?_
    refine T_getr dX2_learnMeans_38 fl_RX2_19 shp_30 rfl ?_
    refine T_iload_n dX2_learnMeans_41 rfl ?_
    refine T_bipush (v := 8) dX2_learnMeans_42 (by decide +kernel) ?_
    refine T_imul dX2_learnMeans_44 ?_
    refine T_iload dX2_learnMeans_45 rfl ?_
    refine T_iadd dX2_learnMeans_47 ?_
    refine T_ialdv (v := (I 32 (((x2 * 8) + x4).toNatClampNeg))) (j := ((x2 * 8) + x4).toNatClampNeg) dX2_learnMeans_48 shp_32 h.1 rfl rfl ?_
    replace h := h.2
    refine T_istore (lv' := [.ref 30, .ref 1, .int x2, .int x3, .int x4, .int (I 32 (((x2 * 8) + x4).toNatClampNeg))]) dX2_learnMeans_49 (by decide) rfl ?_
    refine T_iload dX2_learnMeans_51 rfl ?_
    refine T_iconst (v := (-1)) dX2_learnMeans_53 (by decide +kernel) ?_
    refine T_icmp_eq (tgt := 84) dX2_learnMeans_54 (by decide) (tq_ite h (fun h => ?_) (fun h => ?_))
    ·
      refine T_iinc (lv' := [.ref 30, .ref 1, .int x2, .int x3, .int (x4 + 1), .int (I 32 (((x2 * 8) + x4).toNatClampNeg))]) dX2_learnMeans_84 rfl (by decide) rfl ?_
      refine T_goto (tgt := 28) dX2_learnMeans_87 (by decide) ?_
      exact T_wk (lv' := [.ref 30, .ref 1, .int x2, .int x3, .int (x4 + 1), .null]) ⟨Or.inr rfl, Or.inr rfl, Or.inr rfl, Or.inr rfl, Or.inr rfl, Or.inl rfl, trivial⟩ h
    ·
      refine T_aload_n dX2_learnMeans_57 rfl ?_
      refine T_getr dX2_learnMeans_58 fl_RX2_28 shp_30 rfl ?_
      refine T_iload_n dX2_learnMeans_61 rfl ?_
      refine T_iload dX2_learnMeans_62 rfl ?_
      refine T_iadd dX2_learnMeans_64 ?_
      refine T_dup2 dX2_learnMeans_65 rfl rfl ?_
      refine T_ialdv (v := (I 35 ((x3 + x4).toNatClampNeg))) (j := (x3 + x4).toNatClampNeg) dX2_learnMeans_66 shp_35 h.1 rfl rfl ?_
      replace h := h.2
      refine T_iload dX2_learnMeans_67 rfl ?_
      refine T_iadd dX2_learnMeans_69 ?_
      refine T_iastv (j := (x3 + x4).toNatClampNeg) dX2_learnMeans_70 shp_35 h.1 rfl ?_
      replace h := h.2
      refine T_aload_n dX2_learnMeans_71 rfl ?_
      refine T_getr dX2_learnMeans_72 fl_RX2_31 shp_30 rfl ?_
      refine T_iload_n dX2_learnMeans_75 rfl ?_
      refine T_iload dX2_learnMeans_76 rfl ?_
      refine T_iadd dX2_learnMeans_78 ?_
      refine T_dup2 dX2_learnMeans_79 rfl rfl ?_
      refine T_ialdv (v := (I 36 ((x3 + x4).toNatClampNeg))) (j := (x3 + x4).toNatClampNeg) dX2_learnMeans_80 shp_36 h.1 rfl rfl ?_
      replace h := h.2
      refine T_iconst (v := 1) dX2_learnMeans_81 (by decide +kernel) ?_
      refine T_iadd dX2_learnMeans_82 ?_
      refine T_iastv (j := (x3 + x4).toNatClampNeg) dX2_learnMeans_83 shp_36 h.1 rfl ?_
      replace h := h.2
      refine T_iinc (lv' := [.ref 30, .ref 1, .int x2, .int x3, .int (x4 + 1), .int (I 32 (((x2 * 8) + x4).toNatClampNeg))]) dX2_learnMeans_84 rfl (by decide) rfl ?_
      refine T_goto (tgt := 28) dX2_learnMeans_87 (by decide) ?_
      exact T_wk (lv' := [.ref 30, .ref 1, .int x2, .int x3, .int (x4 + 1), .null]) ⟨Or.inr rfl, Or.inr rfl, Or.inr rfl, Or.inr rfl, Or.inr rfl, Or.inl rfl, trivial⟩ h

theorem dX2_hasMean_0 : decode cX2_hasMean 0 = .ok (.iload_n 1, 1) := by decide +kernel
theorem dX2_hasMean_1 : decode cX2_hasMean 1 = .ok (.ifCond .lt 25, 3) := by decide +kernel
theorem dX2_hasMean_4 : decode cX2_hasMean 4 = .ok (.iload_n 1, 1) := by decide +kernel
theorem dX2_hasMean_5 : decode cX2_hasMean 5 = .ok (.aload_n 0, 1) := by decide +kernel
theorem dX2_hasMean_6 : decode cX2_hasMean 6 = .ok (.getfield 31, 3) := by decide +kernel
theorem dX2_hasMean_9 : decode cX2_hasMean 9 = .ok (.arraylength, 1) := by decide +kernel
theorem dX2_hasMean_10 : decode cX2_hasMean 10 = .ok (.if_icmp .ge 16, 3) := by decide +kernel
theorem dX2_hasMean_13 : decode cX2_hasMean 13 = .ok (.aload_n 0, 1) := by decide +kernel
theorem dX2_hasMean_14 : decode cX2_hasMean 14 = .ok (.getfield 31, 3) := by decide +kernel
theorem dX2_hasMean_17 : decode cX2_hasMean 17 = .ok (.iload_n 1, 1) := by decide +kernel
theorem dX2_hasMean_18 : decode cX2_hasMean 18 = .ok (.iaload, 1) := by decide +kernel
theorem dX2_hasMean_19 : decode cX2_hasMean 19 = .ok (.ifCond .le 7, 3) := by decide +kernel
theorem dX2_hasMean_22 : decode cX2_hasMean 22 = .ok (.iconst 1, 1) := by decide +kernel
theorem dX2_hasMean_23 : decode cX2_hasMean 23 = .ok (.goto 4, 3) := by decide +kernel
theorem dX2_hasMean_26 : decode cX2_hasMean 26 = .ok (.iconst 0, 1) := by decide +kernel
theorem dX2_hasMean_27 : decode cX2_hasMean 27 = .ok (.ireturn, 1) := by decide +kernel
set_option maxRecDepth 100000 in
theorem sgX2_hasMean_0 {d : Nat} {I : st_I} {L : st_L} {F : Int32 → st_I → st_L → Prop} {a1 : Int32} (h : (if a1 < 0 then F 0 I L else (if 16 ≤ a1 then F 0 I L else vp_in a1 16 ∧ (if (I 36 (a1.toNatClampNeg)) ≤ 0 then F 0 I L else F 1 I L)))) : EI d mX2_hasMean [.ref 30, .int a1] I L F := by
  refine Ev_of (ls0 := 0) (by decide +kernel) rfl rfl rfl ?_
  refine T_iload_n dX2_hasMean_0 rfl ?_
  refine T_if_lt (tgt := 26) dX2_hasMean_1 (by decide) (tq_ite h (fun h => ?_) (fun h => ?_))
  ·
    refine T_iconst (v := 0) dX2_hasMean_26 (by decide +kernel) ?_
    exact S_zret rfl dX2_hasMean_27 (by decide) h
  ·
    refine T_iload_n dX2_hasMean_4 rfl ?_
    refine T_aload_n dX2_hasMean_5 rfl ?_
    refine T_getr dX2_hasMean_6 fl_RX2_31 shp_30 rfl ?_
    refine T_alen (v := 16) dX2_hasMean_9 shp_36 (by decide) (by decide +kernel) ?_
    refine T_icmp_ge (tgt := 26) dX2_hasMean_10 (by decide) (tq_ite h (fun h => ?_) (fun h => ?_))
    ·
      refine T_iconst (v := 0) dX2_hasMean_26 (by decide +kernel) ?_
      exact S_zret rfl dX2_hasMean_27 (by decide) h
    ·
      refine T_aload_n dX2_hasMean_13 rfl ?_
      refine T_getr dX2_hasMean_14 fl_RX2_31 shp_30 rfl ?_
      refine T_iload_n dX2_hasMean_17 rfl ?_
      refine T_ialdv (v := (I 36 (a1.toNatClampNeg))) (j := a1.toNatClampNeg) dX2_hasMean_18 shp_36 h.1 rfl rfl ?_
      replace h := h.2
      refine T_if_le (tgt := 26) dX2_hasMean_19 (by decide) (tq_ite h (fun h => ?_) (fun h => ?_))
      ·
        refine T_iconst (v := 0) dX2_hasMean_26 (by decide +kernel) ?_
        exact S_zret rfl dX2_hasMean_27 (by decide) h
      ·
        refine T_iconst (v := 1) dX2_hasMean_22 (by decide +kernel) ?_
        refine T_goto (tgt := 27) dX2_hasMean_23 (by decide) ?_
        exact S_zret rfl dX2_hasMean_27 (by decide) h

theorem dX2_parted_0 : decode cX2_parted 0 = .ok (.aload_n 0, 1) := by decide +kernel
theorem dX2_parted_1 : decode cX2_parted 1 = .ok (.iload_n 1, 1) := by decide +kernel
theorem dX2_parted_2 : decode cX2_parted 2 = .ok (.invokevirtual 109, 3) := by decide +kernel
theorem dX2_parted_5 : decode cX2_parted 5 = .ok (.ifCond .eq 11, 3) := by decide +kernel
theorem dX2_parted_8 : decode cX2_parted 8 = .ok (.aload_n 0, 1) := by decide +kernel
theorem dX2_parted_9 : decode cX2_parted 9 = .ok (.iload_n 2, 1) := by decide +kernel
theorem dX2_parted_10 : decode cX2_parted 10 = .ok (.invokevirtual 109, 3) := by decide +kernel
theorem dX2_parted_13 : decode cX2_parted 13 = .ok (.ifCond .ne 5, 3) := by decide +kernel
theorem dX2_parted_16 : decode cX2_parted 16 = .ok (.iconst 0, 1) := by decide +kernel
theorem dX2_parted_17 : decode cX2_parted 17 = .ok (.ireturn, 1) := by decide +kernel
theorem dX2_parted_18 : decode cX2_parted 18 = .ok (.aload_n 0, 1) := by decide +kernel
theorem dX2_parted_19 : decode cX2_parted 19 = .ok (.getfield 28, 3) := by decide +kernel
theorem dX2_parted_22 : decode cX2_parted 22 = .ok (.iload_n 1, 1) := by decide +kernel
theorem dX2_parted_23 : decode cX2_parted 23 = .ok (.iaload, 1) := by decide +kernel
theorem dX2_parted_24 : decode cX2_parted 24 = .ok (.aload_n 0, 1) := by decide +kernel
theorem dX2_parted_25 : decode cX2_parted 25 = .ok (.getfield 31, 3) := by decide +kernel
theorem dX2_parted_28 : decode cX2_parted 28 = .ok (.iload_n 2, 1) := by decide +kernel
theorem dX2_parted_29 : decode cX2_parted 29 = .ok (.iaload, 1) := by decide +kernel
theorem dX2_parted_30 : decode cX2_parted 30 = .ok (.imul, 1) := by decide +kernel
theorem dX2_parted_31 : decode cX2_parted 31 = .ok (.istore_n 3, 1) := by decide +kernel
theorem dX2_parted_32 : decode cX2_parted 32 = .ok (.aload_n 0, 1) := by decide +kernel
theorem dX2_parted_33 : decode cX2_parted 33 = .ok (.getfield 28, 3) := by decide +kernel
theorem dX2_parted_36 : decode cX2_parted 36 = .ok (.iload_n 2, 1) := by decide +kernel
theorem dX2_parted_37 : decode cX2_parted 37 = .ok (.iaload, 1) := by decide +kernel
theorem dX2_parted_38 : decode cX2_parted 38 = .ok (.aload_n 0, 1) := by decide +kernel
theorem dX2_parted_39 : decode cX2_parted 39 = .ok (.getfield 31, 3) := by decide +kernel
theorem dX2_parted_42 : decode cX2_parted 42 = .ok (.iload_n 1, 1) := by decide +kernel
theorem dX2_parted_43 : decode cX2_parted 43 = .ok (.iaload, 1) := by decide +kernel
theorem dX2_parted_44 : decode cX2_parted 44 = .ok (.imul, 1) := by decide +kernel
theorem dX2_parted_45 : decode cX2_parted 45 = .ok (.istore 4, 2) := by decide +kernel
theorem dX2_parted_47 : decode cX2_parted 47 = .ok (.iload_n 3, 1) := by decide +kernel
theorem dX2_parted_48 : decode cX2_parted 48 = .ok (.iload 4, 2) := by decide +kernel
theorem dX2_parted_50 : decode cX2_parted 50 = .ok (.if_icmp .ne 5, 3) := by decide +kernel
theorem dX2_parted_53 : decode cX2_parted 53 = .ok (.iconst 0, 1) := by decide +kernel
theorem dX2_parted_54 : decode cX2_parted 54 = .ok (.ireturn, 1) := by decide +kernel
theorem dX2_parted_55 : decode cX2_parted 55 = .ok (.iload_n 3, 1) := by decide +kernel
theorem dX2_parted_56 : decode cX2_parted 56 = .ok (.iload 4, 2) := by decide +kernel
theorem dX2_parted_58 : decode cX2_parted 58 = .ok (.if_icmp .le 7, 3) := by decide +kernel
theorem dX2_parted_61 : decode cX2_parted 61 = .ok (.iconst 1, 1) := by decide +kernel
theorem dX2_parted_62 : decode cX2_parted 62 = .ok (.goto 4, 3) := by decide +kernel
theorem dX2_parted_65 : decode cX2_parted 65 = .ok (.iconst (-1), 1) := by decide +kernel
theorem dX2_parted_66 : decode cX2_parted 66 = .ok (.ireturn, 1) := by decide +kernel
set_option maxRecDepth 100000 in
theorem sgX2_parted_0 {d : Nat} {I : st_I} {L : st_L} {F : Int32 → st_I → st_L → Prop} {a1 : Int32} {a2 : Int32} (h : EI d mX2_hasMean [.ref 30, .int a1] I L (fun r1 I1 L1 => (if r1 = 0 then F 0 I1 L1 else EI d mX2_hasMean [.ref 30, .int a2] I1 L1 (fun r2 I2 L2 => (if r2 = 0 then F 0 I2 L2 else vp_in a1 16 ∧ vp_in a2 16 ∧ vp_in a2 16 ∧ vp_in a1 16 ∧ (if ((I2 35 (a1.toNatClampNeg)) * (I2 36 (a2.toNatClampNeg))) = ((I2 35 (a2.toNatClampNeg)) * (I2 36 (a1.toNatClampNeg))) then F 0 I2 L2 else F (if ((I2 35 (a1.toNatClampNeg)) * (I2 36 (a2.toNatClampNeg))) ≤ ((I2 35 (a2.toNatClampNeg)) * (I2 36 (a1.toNatClampNeg))) then ((-1) : Int32) else 1) I2 L2)))))) : EI (d + 1) mX2_parted [.ref 30, .int a1, .int a2] I L F := by
  refine Ev_of (ls0 := 2) (by decide +kernel) rfl rfl rfl ?_
  refine T_aload_n dX2_parted_0 rfl ?_
  refine T_iload_n dX2_parted_1 rfl ?_
  refine S_callVI (M' := mX2_hasMean) [.int a1] [] dX2_parted_2 ml_RX2_109 mkX2_hasMean rfl shp_30 rfl rfl rfl (Nat.le_of_ble_eq_true rfl) h (fun r1 I1 L1 h => ?_)
  refine T_if_eq (tgt := 16) dX2_parted_5 (by decide) (tq_ite h (fun h => ?_) (fun h => ?_))
  ·
    refine T_iconst (v := 0) dX2_parted_16 (by decide +kernel) ?_
    exact S_iret rfl dX2_parted_17 h
  ·
    refine T_aload_n dX2_parted_8 rfl ?_
    refine T_iload_n dX2_parted_9 rfl ?_
    refine S_callVI (M' := mX2_hasMean) [.int a2] [] dX2_parted_10 ml_RX2_109 mkX2_hasMean rfl shp_30 rfl rfl rfl (Nat.le_of_ble_eq_true rfl) h (fun r2 I2 L2 h => ?_)
    refine T_if_ne (tgt := 18) dX2_parted_13 (by decide) (tq_ite h (fun h => ?_) (fun h => ?_))
    ·
      refine T_iconst (v := 0) dX2_parted_16 (by decide +kernel) ?_
      exact S_iret rfl dX2_parted_17 h
    ·
      refine T_aload_n dX2_parted_18 rfl ?_
      refine T_getr dX2_parted_19 fl_RX2_28 shp_30 rfl ?_
      refine T_iload_n dX2_parted_22 rfl ?_
      refine T_ialdv (v := (I2 35 (a1.toNatClampNeg))) (j := a1.toNatClampNeg) dX2_parted_23 shp_35 h.1 rfl rfl ?_
      replace h := h.2
      refine T_aload_n dX2_parted_24 rfl ?_
      refine T_getr dX2_parted_25 fl_RX2_31 shp_30 rfl ?_
      refine T_iload_n dX2_parted_28 rfl ?_
      refine T_ialdv (v := (I2 36 (a2.toNatClampNeg))) (j := a2.toNatClampNeg) dX2_parted_29 shp_36 h.1 rfl rfl ?_
      replace h := h.2
      refine T_imul dX2_parted_30 ?_
      refine T_istore_n (lv' := [.ref 30, .int a1, .int a2, .int ((I2 35 (a1.toNatClampNeg)) * (I2 36 (a2.toNatClampNeg))), .null]) dX2_parted_31 rfl (by decide) rfl ?_
      refine T_aload_n dX2_parted_32 rfl ?_
      refine T_getr dX2_parted_33 fl_RX2_28 shp_30 rfl ?_
      refine T_iload_n dX2_parted_36 rfl ?_
      refine T_ialdv (v := (I2 35 (a2.toNatClampNeg))) (j := a2.toNatClampNeg) dX2_parted_37 shp_35 h.1 rfl rfl ?_
      replace h := h.2
      refine T_aload_n dX2_parted_38 rfl ?_
      refine T_getr dX2_parted_39 fl_RX2_31 shp_30 rfl ?_
      refine T_iload_n dX2_parted_42 rfl ?_
      refine T_ialdv (v := (I2 36 (a1.toNatClampNeg))) (j := a1.toNatClampNeg) dX2_parted_43 shp_36 h.1 rfl rfl ?_
      replace h := h.2
      refine T_imul dX2_parted_44 ?_
      refine T_istore (lv' := [.ref 30, .int a1, .int a2, .int ((I2 35 (a1.toNatClampNeg)) * (I2 36 (a2.toNatClampNeg))), .int ((I2 35 (a2.toNatClampNeg)) * (I2 36 (a1.toNatClampNeg)))]) dX2_parted_45 (by decide) rfl ?_
      refine T_iload_n dX2_parted_47 rfl ?_
      refine T_iload dX2_parted_48 rfl ?_
      refine T_icmp_ne (tgt := 55) dX2_parted_50 (by decide) (tq_ite h (fun h => ?_) (fun h => ?_))
      ·
        refine T_iconst (v := 0) dX2_parted_53 (by decide +kernel) ?_
        exact S_iret rfl dX2_parted_54 h
      ·
        refine T_iload_n dX2_parted_55 rfl ?_
        refine T_iload dX2_parted_56 rfl ?_
        refine T_icmp_le (tgt := 65) dX2_parted_58 (by decide) (tq_itv (fun v => T shp (d + 1) mX2_parted 66 [.ref 30, .int a1, .int a2, .int ((I2 35 (a1.toNatClampNeg)) * (I2 36 (a2.toNatClampNeg))), .int ((I2 35 (a2.toNatClampNeg)) * (I2 36 (a1.toNatClampNeg)))] (.int v :: []) I2 L2 (kI F)) (-1) 1 (fun hJ => ?_) (fun hJ => ?_) ?_)
        ·
            refine T_iconst (v := (-1)) dX2_parted_65 (by decide +kernel) ?_
            exact hJ
        ·
            refine T_iconst (v := 1) dX2_parted_61 (by decide +kernel) ?_
            refine T_goto (tgt := 66) dX2_parted_62 (by decide) ?_
            exact hJ
        exact S_iret rfl dX2_parted_66 h

theorem dX2_putRight_0 : decode cX2_putRight 0 = .ok (.iconst 0, 1) := by decide +kernel
theorem dX2_putRight_1 : decode cX2_putRight 1 = .ok (.istore 4, 2) := by decide +kernel
theorem dX2_putRight_3 : decode cX2_putRight 3 = .ok (.iconst 0, 1) := by decide +kernel
theorem dX2_putRight_4 : decode cX2_putRight 4 = .ok (.istore 5, 2) := by decide +kernel
theorem dX2_putRight_6 : decode cX2_putRight 6 = .ok (.iload 5, 2) := by decide +kernel
theorem dX2_putRight_8 : decode cX2_putRight 8 = .ok (.aload_n 0, 1) := by decide +kernel
theorem dX2_putRight_9 : decode cX2_putRight 9 = .ok (.getfield 9, 3) := by decide +kernel
theorem dX2_putRight_12 : decode cX2_putRight 12 = .ok (.if_icmp .ge 68, 3) := by decide +kernel
theorem dX2_putRight_15 : decode cX2_putRight 15 = .ok (.aload_n 0, 1) := by decide +kernel
theorem dX2_putRight_16 : decode cX2_putRight 16 = .ok (.getfield 15, 3) := by decide +kernel
theorem dX2_putRight_19 : decode cX2_putRight 19 = .ok (.iload 5, 2) := by decide +kernel
theorem dX2_putRight_21 : decode cX2_putRight 21 = .ok (.iaload, 1) := by decide +kernel
theorem dX2_putRight_22 : decode cX2_putRight 22 = .ok (.iconst 1, 1) := by decide +kernel
theorem dX2_putRight_23 : decode cX2_putRight 23 = .ok (.if_icmp .ne 51, 3) := by decide +kernel
theorem dX2_putRight_26 : decode cX2_putRight 26 = .ok (.aload_n 1, 1) := by decide +kernel
theorem dX2_putRight_27 : decode cX2_putRight 27 = .ok (.aload_n 2, 1) := by decide +kernel
theorem dX2_putRight_28 : decode cX2_putRight 28 = .ok (.iload 5, 2) := by decide +kernel
theorem dX2_putRight_30 : decode cX2_putRight 30 = .ok (.invokestatic 112, 3) := by decide +kernel
theorem dX2_putRight_33 : decode cX2_putRight 33 = .ok (.ifCond .eq 41, 3) := by decide +kernel
theorem dX2_putRight_36 : decode cX2_putRight 36 = .ok (.aload_n 2, 1) := by decide +kernel
theorem dX2_putRight_37 : decode cX2_putRight 37 = .ok (.iload 5, 2) := by decide +kernel
theorem dX2_putRight_39 : decode cX2_putRight 39 = .ok (.iconst 2, 1) := by decide +kernel
theorem dX2_putRight_40 : decode cX2_putRight 40 = .ok (.invokevirtual 64, 3) := by decide +kernel
theorem dX2_putRight_43 : decode cX2_putRight 43 = .ok (.iload_n 3, 1) := by decide +kernel
theorem dX2_putRight_44 : decode cX2_putRight 44 = .ok (.if_icmp .ne 30, 3) := by decide +kernel
theorem dX2_putRight_47 : decode cX2_putRight 47 = .ok (.iload 4, 2) := by decide +kernel
theorem dX2_putRight_49 : decode cX2_putRight 49 = .ok (.bipush 100, 2) := by decide +kernel
theorem dX2_putRight_51 : decode cX2_putRight 51 = .ok (.aload_n 2, 1) := by decide +kernel
theorem dX2_putRight_52 : decode cX2_putRight 52 = .ok (.iload 5, 2) := by decide +kernel
theorem dX2_putRight_54 : decode cX2_putRight 54 = .ok (.iconst 3, 1) := by decide +kernel
theorem dX2_putRight_55 : decode cX2_putRight 55 = .ok (.invokevirtual 64, 3) := by decide +kernel
theorem dX2_putRight_58 : decode cX2_putRight 58 = .ok (.imul, 1) := by decide +kernel
theorem dX2_putRight_59 : decode cX2_putRight 59 = .ok (.aload_n 0, 1) := by decide +kernel
theorem dX2_putRight_60 : decode cX2_putRight 60 = .ok (.aload_n 2, 1) := by decide +kernel
theorem dX2_putRight_61 : decode cX2_putRight 61 = .ok (.iload 5, 2) := by decide +kernel
theorem dX2_putRight_63 : decode cX2_putRight 63 = .ok (.iconst 4, 1) := by decide +kernel
theorem dX2_putRight_64 : decode cX2_putRight 64 = .ok (.invokevirtual 64, 3) := by decide +kernel
theorem dX2_putRight_67 : decode cX2_putRight 67 = .ok (.invokevirtual 116, 3) := by decide +kernel
theorem dX2_putRight_70 : decode cX2_putRight 70 = .ok (.isub, 1) := by decide +kernel
theorem dX2_putRight_71 : decode cX2_putRight 71 = .ok (.iadd, 1) := by decide +kernel
theorem dX2_putRight_72 : decode cX2_putRight 72 = .ok (.istore 4, 2) := by decide +kernel
theorem dX2_putRight_74 : decode cX2_putRight 74 = .ok (.iinc 5 1, 3) := by decide +kernel
theorem dX2_putRight_77 : decode cX2_putRight 77 = .ok (.goto (-71), 3) := by decide +kernel
theorem dX2_putRight_80 : decode cX2_putRight 80 = .ok (.iload 4, 2) := by decide +kernel
theorem dX2_putRight_82 : decode cX2_putRight 82 = .ok (.ireturn, 1) := by decide +kernel
set_option maxRecDepth 100000 in
theorem sgX2_putRight_0 {d : Nat} {I : st_I} {L : st_L} {F : Int32 → st_I → st_L → Prop} {a3 : Int32} (h : TI (d + 1) mX2_putRight 6 [.ref 30, .ref 1, .ref 28, .int a3, .int 0, .int 0] [] I L F) : EI (d + 1) mX2_putRight [.ref 30, .ref 1, .ref 28, .int a3] I L F := by
  refine Ev_of (ls0 := 2) (by decide +kernel) rfl rfl rfl ?_
  refine T_iconst (v := 0) dX2_putRight_0 (by decide +kernel) ?_
  refine T_istore (lv' := [.ref 30, .ref 1, .ref 28, .int a3, .int 0, .null]) dX2_putRight_1 (by decide) rfl ?_
  refine T_iconst (v := 0) dX2_putRight_3 (by decide +kernel) ?_
  refine T_istore (lv' := [.ref 30, .ref 1, .ref 28, .int a3, .int 0, .int 0]) dX2_putRight_4 (by decide) rfl ?_
  exact h

set_option maxRecDepth 100000 in
theorem sgX2_putRight_6 {d : Nat} {I : st_I} {L : st_L} {F : Int32 → st_I → st_L → Prop} {x3 : Int32} {x4 : Int32} {x5 : Int32} (h : (if (I 30 0) ≤ x5 then F x4 I L else vp_in x5 80 ∧ (if (I 31 (x5.toNatClampNeg)) = 1 then EI d mX2_isBlindMark [.ref 1, .ref 28, .int x5] I L (fun r1 I1 L1 => (if r1 = 0 then TI (d + 1) mX2_putRight 6 [.ref 30, .ref 1, .ref 28, .int x3, .int x4, .int (x5 + 1)] [] I1 L1 F else EI d mX0_of [.ref 28, .int x5, .int 2] I1 L1 (fun r2 I2 L2 => (if r2 = x3 then EI d mX0_of [.ref 28, .int x5, .int 3] I2 L2 (fun r3 I3 L3 => EI d mX0_of [.ref 28, .int x5, .int 4] I3 L3 (fun r4 I4 L4 => EI d mX2_spotMean [.ref 30, .int r4] I4 L4 (fun r5 I5 L5 => TI (d + 1) mX2_putRight 6 [.ref 30, .ref 1, .ref 28, .int x3, .int (x4 + ((100 * r3) - r5)), .int (x5 + 1)] [] I5 L5 F))) else TI (d + 1) mX2_putRight 6 [.ref 30, .ref 1, .ref 28, .int x3, .int x4, .int (x5 + 1)] [] I2 L2 F)))) else TI (d + 1) mX2_putRight 6 [.ref 30, .ref 1, .ref 28, .int x3, .int x4, .int (x5 + 1)] [] I L F))) : TI (d + 1) mX2_putRight 6 [.ref 30, .ref 1, .ref 28, .int x3, .int x4, .int x5] [] I L F := by
  refine T_iload dX2_putRight_6 rfl ?_
  refine T_aload_n dX2_putRight_8 rfl ?_
  refine T_getv (v := (I 30 0)) dX2_putRight_9 fl_RX2_9 shp_30 rfl rfl ?_
  refine T_icmp_ge (tgt := 80) dX2_putRight_12 (by decide) (tq_ite h (fun h => ?_) (fun h => ?_))
  ·
    refine T_iload dX2_putRight_80 rfl ?_
    exact S_iret rfl dX2_putRight_82 h
  ·
    refine T_aload_n dX2_putRight_15 rfl ?_
    refine T_getr dX2_putRight_16 fl_RX2_15 shp_30 rfl ?_
    refine T_iload dX2_putRight_19 rfl ?_
    refine T_ialdv (v := (I 31 (x5.toNatClampNeg))) (j := x5.toNatClampNeg) dX2_putRight_21 shp_31 h.1 rfl rfl ?_
    replace h := h.2
    refine T_iconst (v := 1) dX2_putRight_22 (by decide +kernel) ?_
    refine T_icmp_ne (tgt := 74) dX2_putRight_23 (by decide) (tq_ite h (fun h => ?_) (fun h => ?_))
    ·
      refine T_aload_n dX2_putRight_26 rfl ?_
      refine T_aload_n dX2_putRight_27 rfl ?_
      refine T_iload dX2_putRight_28 rfl ?_
      refine S_callSI (M' := mX2_isBlindMark) [.ref 1, .ref 28, .int x5] [] dX2_putRight_30 ml_RX2_112 mkX2_isBlindMark rfl rfl (Nat.le_of_ble_eq_true rfl) h (fun r1 I1 L1 h => ?_)
      refine T_if_eq (tgt := 74) dX2_putRight_33 (by decide) (tq_ite h (fun h => ?_) (fun h => ?_))
      ·
        refine T_iinc (lv' := [.ref 30, .ref 1, .ref 28, .int x3, .int x4, .int (x5 + 1)]) dX2_putRight_74 rfl (by decide) rfl ?_
        refine T_goto (tgt := 6) dX2_putRight_77 (by decide) ?_
        exact h
      ·
        refine T_aload_n dX2_putRight_36 rfl ?_
        refine T_iload dX2_putRight_37 rfl ?_
        refine T_iconst (v := 2) dX2_putRight_39 (by decide +kernel) ?_
        refine S_callVI (M' := mX0_of) [.int x5, .int 2] [] dX2_putRight_40 ml_RX2_64 mkX0_of rfl shp_28 rfl rfl rfl (Nat.le_of_ble_eq_true rfl) h (fun r2 I2 L2 h => ?_)
        refine T_iload_n dX2_putRight_43 rfl ?_
        refine T_icmp_ne (tgt := 74) dX2_putRight_44 (by decide) (tq_ite h (fun h => ?_) (fun h => ?_))
        ·
          refine T_iload dX2_putRight_47 rfl ?_
          refine T_bipush (v := 100) dX2_putRight_49 (by decide +kernel) ?_
          refine T_aload_n dX2_putRight_51 rfl ?_
          refine T_iload dX2_putRight_52 rfl ?_
          refine T_iconst (v := 3) dX2_putRight_54 (by decide +kernel) ?_
          refine S_callVI (M' := mX0_of) [.int x5, .int 3] [.int 100, .int x4] dX2_putRight_55 ml_RX2_64 mkX0_of rfl shp_28 rfl rfl rfl (Nat.le_of_ble_eq_true rfl) h (fun r3 I3 L3 h => ?_)
          refine T_imul dX2_putRight_58 ?_
          refine T_aload_n dX2_putRight_59 rfl ?_
          refine T_aload_n dX2_putRight_60 rfl ?_
          refine T_iload dX2_putRight_61 rfl ?_
          refine T_iconst (v := 4) dX2_putRight_63 (by decide +kernel) ?_
          refine S_callVI (M' := mX0_of) [.int x5, .int 4] [.ref 30, .int (100 * r3), .int x4] dX2_putRight_64 ml_RX2_64 mkX0_of rfl shp_28 rfl rfl rfl (Nat.le_of_ble_eq_true rfl) h (fun r4 I4 L4 h => ?_)
          refine S_callVI (M' := mX2_spotMean) [.int r4] [.int (100 * r3), .int x4] dX2_putRight_67 ml_RX2_116 mkX2_spotMean rfl shp_30 rfl rfl rfl (Nat.le_of_ble_eq_true rfl) h (fun r5 I5 L5 h => ?_)
          refine T_isub dX2_putRight_70 ?_
          refine T_iadd dX2_putRight_71 ?_
          refine T_istore (lv' := [.ref 30, .ref 1, .ref 28, .int x3, .int (x4 + ((100 * r3) - r5)), .int x5]) dX2_putRight_72 (by decide) rfl ?_
          refine T_iinc (lv' := [.ref 30, .ref 1, .ref 28, .int x3, .int (x4 + ((100 * r3) - r5)), .int (x5 + 1)]) dX2_putRight_74 rfl (by decide) rfl ?_
          refine T_goto (tgt := 6) dX2_putRight_77 (by decide) ?_
          exact h
        ·
          refine T_iinc (lv' := [.ref 30, .ref 1, .ref 28, .int x3, .int x4, .int (x5 + 1)]) dX2_putRight_74 rfl (by decide) rfl ?_
          refine T_goto (tgt := 6) dX2_putRight_77 (by decide) ?_
          exact h
    ·
      refine T_iinc (lv' := [.ref 30, .ref 1, .ref 28, .int x3, .int x4, .int (x5 + 1)]) dX2_putRight_74 rfl (by decide) rfl ?_
      refine T_goto (tgt := 6) dX2_putRight_77 (by decide) ?_
      exact h

theorem dX2_spotMean_0 : decode cX2_spotMean 0 = .ok (.iload_n 1, 1) := by decide +kernel
theorem dX2_spotMean_1 : decode cX2_spotMean 1 = .ok (.ifCond .lt 18, 3) := by decide +kernel
theorem dX2_spotMean_4 : decode cX2_spotMean 4 = .ok (.iload_n 1, 1) := by decide +kernel
theorem dX2_spotMean_5 : decode cX2_spotMean 5 = .ok (.bipush 10, 2) := by decide +kernel
theorem dX2_spotMean_7 : decode cX2_spotMean 7 = .ok (.if_icmp .ge 12, 3) := by decide +kernel
theorem dX2_spotMean_10 : decode cX2_spotMean 10 = .ok (.aload_n 0, 1) := by decide +kernel
theorem dX2_spotMean_11 : decode cX2_spotMean 11 = .ok (.getfield 37, 3) := by decide +kernel
theorem dX2_spotMean_14 : decode cX2_spotMean 14 = .ok (.iload_n 1, 1) := by decide +kernel
theorem dX2_spotMean_15 : decode cX2_spotMean 15 = .ok (.iaload, 1) := by decide +kernel
theorem dX2_spotMean_16 : decode cX2_spotMean 16 = .ok (.ifCond .ne 5, 3) := by decide +kernel
theorem dX2_spotMean_19 : decode cX2_spotMean 19 = .ok (.iconst 0, 1) := by decide +kernel
theorem dX2_spotMean_20 : decode cX2_spotMean 20 = .ok (.ireturn, 1) := by decide +kernel
theorem dX2_spotMean_21 : decode cX2_spotMean 21 = .ok (.bipush 100, 2) := by decide +kernel
theorem dX2_spotMean_23 : decode cX2_spotMean 23 = .ok (.aload_n 0, 1) := by decide +kernel
theorem dX2_spotMean_24 : decode cX2_spotMean 24 = .ok (.getfield 34, 3) := by decide +kernel
theorem dX2_spotMean_27 : decode cX2_spotMean 27 = .ok (.iload_n 1, 1) := by decide +kernel
theorem dX2_spotMean_28 : decode cX2_spotMean 28 = .ok (.iaload, 1) := by decide +kernel
theorem dX2_spotMean_29 : decode cX2_spotMean 29 = .ok (.imul, 1) := by decide +kernel
theorem dX2_spotMean_30 : decode cX2_spotMean 30 = .ok (.aload_n 0, 1) := by decide +kernel
theorem dX2_spotMean_31 : decode cX2_spotMean 31 = .ok (.getfield 37, 3) := by decide +kernel
theorem dX2_spotMean_34 : decode cX2_spotMean 34 = .ok (.iload_n 1, 1) := by decide +kernel
theorem dX2_spotMean_35 : decode cX2_spotMean 35 = .ok (.iaload, 1) := by decide +kernel
theorem dX2_spotMean_36 : decode cX2_spotMean 36 = .ok (.idiv, 1) := by decide +kernel
theorem dX2_spotMean_37 : decode cX2_spotMean 37 = .ok (.ireturn, 1) := by decide +kernel
set_option maxRecDepth 100000 in
theorem sgX2_spotMean_0 {d : Nat} {I : st_I} {L : st_L} {F : Int32 → st_I → st_L → Prop} {a1 : Int32} (h : (if a1 < 0 then F 0 I L else (if 10 ≤ a1 then F 0 I L else vp_in a1 10 ∧ (if (I 38 (a1.toNatClampNeg)) = 0 then F 0 I L else vp_in a1 10 ∧ vp_in a1 10 ∧ ¬ (I 38 (a1.toNatClampNeg)) = 0 ∧ F ((100 * (I 37 (a1.toNatClampNeg))) / (I 38 (a1.toNatClampNeg))) I L)))) : EI d mX2_spotMean [.ref 30, .int a1] I L F := by
  refine Ev_of (ls0 := 0) (by decide +kernel) rfl rfl rfl ?_
  refine T_iload_n dX2_spotMean_0 rfl ?_
  refine T_if_lt (tgt := 19) dX2_spotMean_1 (by decide) (tq_ite h (fun h => ?_) (fun h => ?_))
  ·
    refine T_iconst (v := 0) dX2_spotMean_19 (by decide +kernel) ?_
    exact S_iret rfl dX2_spotMean_20 h
  ·
    refine T_iload_n dX2_spotMean_4 rfl ?_
    refine T_bipush (v := 10) dX2_spotMean_5 (by decide +kernel) ?_
    refine T_icmp_ge (tgt := 19) dX2_spotMean_7 (by decide) (tq_ite h (fun h => ?_) (fun h => ?_))
    ·
      refine T_iconst (v := 0) dX2_spotMean_19 (by decide +kernel) ?_
      exact S_iret rfl dX2_spotMean_20 h
    ·
      refine T_aload_n dX2_spotMean_10 rfl ?_
      refine T_getr dX2_spotMean_11 fl_RX2_37 shp_30 rfl ?_
      refine T_iload_n dX2_spotMean_14 rfl ?_
      refine T_ialdv (v := (I 38 (a1.toNatClampNeg))) (j := a1.toNatClampNeg) dX2_spotMean_15 shp_38 h.1 rfl rfl ?_
      replace h := h.2
      refine T_if_ne (tgt := 21) dX2_spotMean_16 (by decide) (tq_ite h (fun h => ?_) (fun h => ?_))
      ·
        refine T_iconst (v := 0) dX2_spotMean_19 (by decide +kernel) ?_
        exact S_iret rfl dX2_spotMean_20 h
      ·
        refine T_bipush (v := 100) dX2_spotMean_21 (by decide +kernel) ?_
        refine T_aload_n dX2_spotMean_23 rfl ?_
        refine T_getr dX2_spotMean_24 fl_RX2_34 shp_30 rfl ?_
        refine T_iload_n dX2_spotMean_27 rfl ?_
        refine T_ialdv (v := (I 37 (a1.toNatClampNeg))) (j := a1.toNatClampNeg) dX2_spotMean_28 shp_37 h.1 rfl rfl ?_
        replace h := h.2
        refine T_imul dX2_spotMean_29 ?_
        refine T_aload_n dX2_spotMean_30 rfl ?_
        refine T_getr dX2_spotMean_31 fl_RX2_37 shp_30 rfl ?_
        refine T_iload_n dX2_spotMean_34 rfl ?_
        refine T_ialdv (v := (I 38 (a1.toNatClampNeg))) (j := a1.toNatClampNeg) dX2_spotMean_35 shp_38 h.1 rfl rfl ?_
        replace h := h.2
        refine T_idiv dX2_spotMean_36 h.1 ?_
        replace h := h.2
        exact S_iret rfl dX2_spotMean_37 h

theorem dX2_isBlindMark_0 : decode cX2_isBlindMark 0 = .ok (.aload_n 1, 1) := by decide +kernel
theorem dX2_isBlindMark_1 : decode cX2_isBlindMark 1 = .ok (.iload_n 2, 1) := by decide +kernel
theorem dX2_isBlindMark_2 : decode cX2_isBlindMark 2 = .ok (.iconst 0, 1) := by decide +kernel
theorem dX2_isBlindMark_3 : decode cX2_isBlindMark 3 = .ok (.invokevirtual 64, 3) := by decide +kernel
theorem dX2_isBlindMark_6 : decode cX2_isBlindMark 6 = .ok (.ifCond .ne 29, 3) := by decide +kernel
theorem dX2_isBlindMark_9 : decode cX2_isBlindMark 9 = .ok (.aload_n 1, 1) := by decide +kernel
theorem dX2_isBlindMark_10 : decode cX2_isBlindMark 10 = .ok (.iload_n 2, 1) := by decide +kernel
theorem dX2_isBlindMark_11 : decode cX2_isBlindMark 11 = .ok (.iconst 5, 1) := by decide +kernel
theorem dX2_isBlindMark_12 : decode cX2_isBlindMark 12 = .ok (.invokevirtual 64, 3) := by decide +kernel
theorem dX2_isBlindMark_15 : decode cX2_isBlindMark 15 = .ok (.ifCond .ne 20, 3) := by decide +kernel
theorem dX2_isBlindMark_18 : decode cX2_isBlindMark 18 = .ok (.aload_n 0, 1) := by decide +kernel
theorem dX2_isBlindMark_19 : decode cX2_isBlindMark 19 = .ok (.aload_n 1, 1) := by decide +kernel
theorem dX2_isBlindMark_20 : decode cX2_isBlindMark 20 = .ok (.iload_n 2, 1) := by decide +kernel
theorem dX2_isBlindMark_21 : decode cX2_isBlindMark 21 = .ok (.iconst 1, 1) := by decide +kernel
theorem dX2_isBlindMark_22 : decode cX2_isBlindMark 22 = .ok (.invokevirtual 64, 3) := by decide +kernel
theorem dX2_isBlindMark_25 : decode cX2_isBlindMark 25 = .ok (.invokevirtual 100, 3) := by decide +kernel
theorem dX2_isBlindMark_28 : decode cX2_isBlindMark 28 = .ok (.ifCond .eq 7, 3) := by decide +kernel
theorem dX2_isBlindMark_31 : decode cX2_isBlindMark 31 = .ok (.iconst 1, 1) := by decide +kernel
theorem dX2_isBlindMark_32 : decode cX2_isBlindMark 32 = .ok (.goto 4, 3) := by decide +kernel
theorem dX2_isBlindMark_35 : decode cX2_isBlindMark 35 = .ok (.iconst 0, 1) := by decide +kernel
theorem dX2_isBlindMark_36 : decode cX2_isBlindMark 36 = .ok (.ireturn, 1) := by decide +kernel
set_option maxRecDepth 100000 in
theorem sgX2_isBlindMark_0 {d : Nat} {I : st_I} {L : st_L} {F : Int32 → st_I → st_L → Prop} {a3 : Int32} (h : EI d mX0_of [.ref 28, .int a3, .int 0] I L (fun r1 I1 L1 => (if r1 = 0 then EI d mX0_of [.ref 28, .int a3, .int 5] I1 L1 (fun r2 I2 L2 => (if r2 = 0 then EI d mX0_of [.ref 28, .int a3, .int 1] I2 L2 (fun r3 I3 L3 => EI d mX8_isPlayer [.ref 1, .int r3] I3 L3 (fun r4 I4 L4 => (if r4 = 0 then F 0 I4 L4 else F 1 I4 L4))) else F 0 I2 L2)) else F 0 I1 L1))) : EI (d + 1) mX2_isBlindMark [.ref 1, .ref 28, .int a3] I L F := by
  refine Ev_of (ls0 := 0) (by decide +kernel) rfl rfl rfl ?_
  refine T_aload_n dX2_isBlindMark_0 rfl ?_
  refine T_iload_n dX2_isBlindMark_1 rfl ?_
  refine T_iconst (v := 0) dX2_isBlindMark_2 (by decide +kernel) ?_
  refine S_callVI (M' := mX0_of) [.int a3, .int 0] [] dX2_isBlindMark_3 ml_RX2_64 mkX0_of rfl shp_28 rfl rfl rfl (Nat.le_of_ble_eq_true rfl) h (fun r1 I1 L1 h => ?_)
  refine T_if_ne (tgt := 35) dX2_isBlindMark_6 (by decide) (tq_ite h (fun h => ?_) (fun h => ?_))
  ·
    refine T_aload_n dX2_isBlindMark_9 rfl ?_
    refine T_iload_n dX2_isBlindMark_10 rfl ?_
    refine T_iconst (v := 5) dX2_isBlindMark_11 (by decide +kernel) ?_
    refine S_callVI (M' := mX0_of) [.int a3, .int 5] [] dX2_isBlindMark_12 ml_RX2_64 mkX0_of rfl shp_28 rfl rfl rfl (Nat.le_of_ble_eq_true rfl) h (fun r2 I2 L2 h => ?_)
    refine T_if_ne (tgt := 35) dX2_isBlindMark_15 (by decide) (tq_ite h (fun h => ?_) (fun h => ?_))
    ·
      refine T_aload_n dX2_isBlindMark_18 rfl ?_
      refine T_aload_n dX2_isBlindMark_19 rfl ?_
      refine T_iload_n dX2_isBlindMark_20 rfl ?_
      refine T_iconst (v := 1) dX2_isBlindMark_21 (by decide +kernel) ?_
      refine S_callVI (M' := mX0_of) [.int a3, .int 1] [.ref 1] dX2_isBlindMark_22 ml_RX2_64 mkX0_of rfl shp_28 rfl rfl rfl (Nat.le_of_ble_eq_true rfl) h (fun r3 I3 L3 h => ?_)
      refine S_callVI (M' := mX8_isPlayer) [.int r3] [] dX2_isBlindMark_25 ml_RX2_100 mkX8_isPlayer rfl shp_1 rfl rfl rfl (Nat.le_of_ble_eq_true rfl) h (fun r4 I4 L4 h => ?_)
      refine T_if_eq (tgt := 35) dX2_isBlindMark_28 (by decide) (tq_ite h (fun h => ?_) (fun h => ?_))
      ·
        refine T_iconst (v := 0) dX2_isBlindMark_35 (by decide +kernel) ?_
        exact S_zret rfl dX2_isBlindMark_36 (by decide) h
      ·
        refine T_iconst (v := 1) dX2_isBlindMark_31 (by decide +kernel) ?_
        refine T_goto (tgt := 36) dX2_isBlindMark_32 (by decide) ?_
        exact S_zret rfl dX2_isBlindMark_36 (by decide) h
    ·
      refine T_iconst (v := 0) dX2_isBlindMark_35 (by decide +kernel) ?_
      exact S_zret rfl dX2_isBlindMark_36 (by decide) h
  ·
    refine T_iconst (v := 0) dX2_isBlindMark_35 (by decide +kernel) ?_
    exact S_zret rfl dX2_isBlindMark_36 (by decide) h

theorem dX2_above_0 : decode cX2_above 0 = .ok (.aload_n 1, 1) := by decide +kernel
theorem dX2_above_1 : decode cX2_above 1 = .ok (.iload_n 2, 1) := by decide +kernel
theorem dX2_above_2 : decode cX2_above 2 = .ok (.invokevirtual 97, 3) := by decide +kernel
theorem dX2_above_5 : decode cX2_above 5 = .ok (.ifCond .eq 11, 3) := by decide +kernel
theorem dX2_above_8 : decode cX2_above 8 = .ok (.aload_n 1, 1) := by decide +kernel
theorem dX2_above_9 : decode cX2_above 9 = .ok (.iload_n 3, 1) := by decide +kernel
theorem dX2_above_10 : decode cX2_above 10 = .ok (.invokevirtual 97, 3) := by decide +kernel
theorem dX2_above_13 : decode cX2_above 13 = .ok (.ifCond .ne 5, 3) := by decide +kernel
theorem dX2_above_16 : decode cX2_above 16 = .ok (.iconst 0, 1) := by decide +kernel
theorem dX2_above_17 : decode cX2_above 17 = .ok (.ireturn, 1) := by decide +kernel
theorem dX2_above_18 : decode cX2_above 18 = .ok (.iconst 0, 1) := by decide +kernel
theorem dX2_above_19 : decode cX2_above 19 = .ok (.istore 4, 2) := by decide +kernel
theorem dX2_above_21 : decode cX2_above 21 = .ok (.iconst 0, 1) := by decide +kernel
theorem dX2_above_22 : decode cX2_above 22 = .ok (.istore 5, 2) := by decide +kernel
theorem dX2_above_24 : decode cX2_above 24 = .ok (.iload 5, 2) := by decide +kernel
theorem dX2_above_26 : decode cX2_above 26 = .ok (.aload_n 1, 1) := by decide +kernel
theorem dX2_above_27 : decode cX2_above 27 = .ok (.getfield 103, 3) := by decide +kernel
theorem dX2_above_30 : decode cX2_above 30 = .ok (.if_icmp .ge 62, 3) := by decide +kernel
theorem dX2_above_33 : decode cX2_above 33 = .ok (.aload_n 0, 1) := by decide +kernel
theorem dX2_above_34 : decode cX2_above 34 = .ok (.getfield 19, 3) := by decide +kernel
theorem dX2_above_37 : decode cX2_above 37 = .ok (.iload 5, 2) := by decide +kernel
theorem dX2_above_39 : decode cX2_above 39 = .ok (.bipush 8, 2) := by decide +kernel
theorem dX2_above_41 : decode cX2_above 41 = .ok (.imul, 1) := by decide +kernel
theorem dX2_above_42 : decode cX2_above 42 = .ok (.iload_n 2, 1) := by decide +kernel
theorem dX2_above_43 : decode cX2_above 43 = .ok (.iadd, 1) := by decide +kernel
theorem dX2_above_44 : decode cX2_above 44 = .ok (.iaload, 1) := by decide +kernel
theorem dX2_above_45 : decode cX2_above 45 = .ok (.istore 6, 2) := by decide +kernel
theorem dX2_above_47 : decode cX2_above 47 = .ok (.aload_n 0, 1) := by decide +kernel
theorem dX2_above_48 : decode cX2_above 48 = .ok (.getfield 19, 3) := by decide +kernel
theorem dX2_above_51 : decode cX2_above 51 = .ok (.iload 5, 2) := by decide +kernel
theorem dX2_above_53 : decode cX2_above 53 = .ok (.bipush 8, 2) := by decide +kernel
theorem dX2_above_55 : decode cX2_above 55 = .ok (.imul, 1) := by decide +kernel
theorem dX2_above_56 : decode cX2_above 56 = .ok (.iload_n 3, 1) := by decide +kernel
theorem dX2_above_57 : decode cX2_above 57 = .ok (.iadd, 1) := by decide +kernel
theorem dX2_above_58 : decode cX2_above 58 = .ok (.iaload, 1) := by decide +kernel
theorem dX2_above_59 : decode cX2_above 59 = .ok (.istore 7, 2) := by decide +kernel
theorem dX2_above_61 : decode cX2_above 61 = .ok (.aload_n 1, 1) := by decide +kernel
theorem dX2_above_62 : decode cX2_above 62 = .ok (.iload 5, 2) := by decide +kernel
theorem dX2_above_64 : decode cX2_above 64 = .ok (.invokevirtual 100, 3) := by decide +kernel
theorem dX2_above_67 : decode cX2_above 67 = .ok (.ifCond .eq 19, 3) := by decide +kernel
theorem dX2_above_70 : decode cX2_above 70 = .ok (.iload 7, 2) := by decide +kernel
theorem dX2_above_72 : decode cX2_above 72 = .ok (.iconst (-1), 1) := by decide +kernel
theorem dX2_above_73 : decode cX2_above 73 = .ok (.if_icmp .eq 13, 3) := by decide +kernel
theorem dX2_above_76 : decode cX2_above 76 = .ok (.iload 6, 2) := by decide +kernel
theorem dX2_above_78 : decode cX2_above 78 = .ok (.iload 7, 2) := by decide +kernel
theorem dX2_above_80 : decode cX2_above 80 = .ok (.if_icmp .le 6, 3) := by decide +kernel
theorem dX2_above_83 : decode cX2_above 83 = .ok (.iinc 4 1, 3) := by decide +kernel
theorem dX2_above_86 : decode cX2_above 86 = .ok (.iinc 5 1, 3) := by decide +kernel
theorem dX2_above_89 : decode cX2_above 89 = .ok (.goto (-65), 3) := by decide +kernel
theorem dX2_above_92 : decode cX2_above 92 = .ok (.iload 4, 2) := by decide +kernel
theorem dX2_above_94 : decode cX2_above 94 = .ok (.ireturn, 1) := by decide +kernel
set_option maxRecDepth 100000 in
theorem sgX2_above_0 {d : Nat} {I : st_I} {L : st_L} {F : Int32 → st_I → st_L → Prop} {a2 : Int32} {a3 : Int32} (h : EI d mX8_hasFiddle [.ref 1, .int a2] I L (fun r1 I1 L1 => (if r1 = 0 then F 0 I1 L1 else EI d mX8_hasFiddle [.ref 1, .int a3] I1 L1 (fun r2 I2 L2 => (if r2 = 0 then F 0 I2 L2 else TI (d + 1) mX2_above 24 [.ref 30, .ref 1, .int a2, .int a3, .int 0, .int 0, .null, .null] [] I2 L2 F))))) : EI (d + 1) mX2_above [.ref 30, .ref 1, .int a2, .int a3] I L F := by
  refine Ev_of (ls0 := 4) (by decide +kernel) rfl rfl rfl ?_
  refine T_aload_n dX2_above_0 rfl ?_
  refine T_iload_n dX2_above_1 rfl ?_
  refine S_callVI (M' := mX8_hasFiddle) [.int a2] [] dX2_above_2 ml_RX2_97 mkX8_hasFiddle rfl shp_1 rfl rfl rfl (Nat.le_of_ble_eq_true rfl) h (fun r1 I1 L1 h => ?_)
  refine T_if_eq (tgt := 16) dX2_above_5 (by decide) (tq_ite h (fun h => ?_) (fun h => ?_))
  ·
    refine T_iconst (v := 0) dX2_above_16 (by decide +kernel) ?_
    exact S_iret rfl dX2_above_17 h
  ·
    refine T_aload_n dX2_above_8 rfl ?_
    refine T_iload_n dX2_above_9 rfl ?_
    refine S_callVI (M' := mX8_hasFiddle) [.int a3] [] dX2_above_10 ml_RX2_97 mkX8_hasFiddle rfl shp_1 rfl rfl rfl (Nat.le_of_ble_eq_true rfl) h (fun r2 I2 L2 h => ?_)
    refine T_if_ne (tgt := 18) dX2_above_13 (by decide) (tq_ite h (fun h => ?_) (fun h => ?_))
    ·
      refine T_iconst (v := 0) dX2_above_16 (by decide +kernel) ?_
      exact S_iret rfl dX2_above_17 h
    ·
      refine T_iconst (v := 0) dX2_above_18 (by decide +kernel) ?_
      refine T_istore (lv' := [.ref 30, .ref 1, .int a2, .int a3, .int 0, .null, .null, .null]) dX2_above_19 (by decide) rfl ?_
      refine T_iconst (v := 0) dX2_above_21 (by decide +kernel) ?_
      refine T_istore (lv' := [.ref 30, .ref 1, .int a2, .int a3, .int 0, .int 0, .null, .null]) dX2_above_22 (by decide) rfl ?_
      exact h

set_option maxRecDepth 100000 in
theorem sgX2_above_24 {d : Nat} {I : st_I} {L : st_L} {F : Int32 → st_I → st_L → Prop} {x2 : Int32} {x3 : Int32} {x4 : Int32} {x5 : Int32} (h : (if (I 1 1) ≤ x5 then F x4 I L else vp_in ((x5 * 8) + x2) 80 ∧ vp_in ((x5 * 8) + x3) 80 ∧ EI d mX8_isPlayer [.ref 1, .int x5] I L (fun r1 I1 L1 => (if r1 = 0 then TI (d + 1) mX2_above 24 [.ref 30, .ref 1, .int x2, .int x3, .int x4, .int (x5 + 1), .null, .null] [] I1 L1 F else (if (I 32 (((x5 * 8) + x3).toNatClampNeg)) = (-1) then TI (d + 1) mX2_above 24 [.ref 30, .ref 1, .int x2, .int x3, .int x4, .int (x5 + 1), .null, .null] [] I1 L1 F else (if (I 32 (((x5 * 8) + x2).toNatClampNeg)) ≤ (I 32 (((x5 * 8) + x3).toNatClampNeg)) then TI (d + 1) mX2_above 24 [.ref 30, .ref 1, .int x2, .int x3, .int x4, .int (x5 + 1), .null, .null] [] I1 L1 F else TI (d + 1) mX2_above 24 [.ref 30, .ref 1, .int x2, .int x3, .int (x4 + 1), .int (x5 + 1), .null, .null] [] I1 L1 F)))))) : TI (d + 1) mX2_above 24 [.ref 30, .ref 1, .int x2, .int x3, .int x4, .int x5, .null, .null] [] I L F := by
  refine T_iload dX2_above_24 rfl ?_
  refine T_aload_n dX2_above_26 rfl ?_
  refine T_getv (v := (I 1 1)) dX2_above_27 fl_RX2_103 shp_1 rfl rfl ?_
  refine T_icmp_ge (tgt := 92) dX2_above_30 (by decide) (tq_ite h (fun h => ?_) (fun h => ?_))
  ·
    refine T_iload dX2_above_92 rfl ?_
    exact S_iret rfl dX2_above_94 h
  ·
    refine T_aload_n dX2_above_33 rfl ?_
    refine T_getr dX2_above_34 fl_RX2_19 shp_30 rfl ?_
    refine T_iload dX2_above_37 rfl ?_
    refine T_bipush (v := 8) dX2_above_39 (by decide +kernel) ?_
    refine T_imul dX2_above_41 ?_
    refine T_iload_n dX2_above_42 rfl ?_
    refine T_iadd dX2_above_43 ?_
    refine T_ialdv (v := (I 32 (((x5 * 8) + x2).toNatClampNeg))) (j := ((x5 * 8) + x2).toNatClampNeg) dX2_above_44 shp_32 h.1 rfl rfl ?_
    replace h := h.2
    refine T_istore (lv' := [.ref 30, .ref 1, .int x2, .int x3, .int x4, .int x5, .int (I 32 (((x5 * 8) + x2).toNatClampNeg)), .null]) dX2_above_45 (by decide) rfl ?_
    refine T_aload_n dX2_above_47 rfl ?_
    refine T_getr dX2_above_48 fl_RX2_19 shp_30 rfl ?_
    refine T_iload dX2_above_51 rfl ?_
    refine T_bipush (v := 8) dX2_above_53 (by decide +kernel) ?_
    refine T_imul dX2_above_55 ?_
    refine T_iload_n dX2_above_56 rfl ?_
    refine T_iadd dX2_above_57 ?_
    refine T_ialdv (v := (I 32 (((x5 * 8) + x3).toNatClampNeg))) (j := ((x5 * 8) + x3).toNatClampNeg) dX2_above_58 shp_32 h.1 rfl rfl ?_
    replace h := h.2
    refine T_istore (lv' := [.ref 30, .ref 1, .int x2, .int x3, .int x4, .int x5, .int (I 32 (((x5 * 8) + x2).toNatClampNeg)), .int (I 32 (((x5 * 8) + x3).toNatClampNeg))]) dX2_above_59 (by decide) rfl ?_
    refine T_aload_n dX2_above_61 rfl ?_
    refine T_iload dX2_above_62 rfl ?_
    refine S_callVI (M' := mX8_isPlayer) [.int x5] [] dX2_above_64 ml_RX2_100 mkX8_isPlayer rfl shp_1 rfl rfl rfl (Nat.le_of_ble_eq_true rfl) h (fun r1 I1 L1 h => ?_)
    refine T_if_eq (tgt := 86) dX2_above_67 (by decide) (tq_ite h (fun h => ?_) (fun h => ?_))
    ·
      refine T_iinc (lv' := [.ref 30, .ref 1, .int x2, .int x3, .int x4, .int (x5 + 1), .int (I 32 (((x5 * 8) + x2).toNatClampNeg)), .int (I 32 (((x5 * 8) + x3).toNatClampNeg))]) dX2_above_86 rfl (by decide) rfl ?_
      refine T_goto (tgt := 24) dX2_above_89 (by decide) ?_
      exact T_wk (lv' := [.ref 30, .ref 1, .int x2, .int x3, .int x4, .int (x5 + 1), .null, .null]) ⟨Or.inr rfl, Or.inr rfl, Or.inr rfl, Or.inr rfl, Or.inr rfl, Or.inr rfl, Or.inl rfl, Or.inl rfl, trivial⟩ h
    ·
      refine T_iload dX2_above_70 rfl ?_
      refine T_iconst (v := (-1)) dX2_above_72 (by decide +kernel) ?_
      refine T_icmp_eq (tgt := 86) dX2_above_73 (by decide) (tq_ite h (fun h => ?_) (fun h => ?_))
      ·
        refine T_iinc (lv' := [.ref 30, .ref 1, .int x2, .int x3, .int x4, .int (x5 + 1), .int (I 32 (((x5 * 8) + x2).toNatClampNeg)), .int (I 32 (((x5 * 8) + x3).toNatClampNeg))]) dX2_above_86 rfl (by decide) rfl ?_
        refine T_goto (tgt := 24) dX2_above_89 (by decide) ?_
        exact T_wk (lv' := [.ref 30, .ref 1, .int x2, .int x3, .int x4, .int (x5 + 1), .null, .null]) ⟨Or.inr rfl, Or.inr rfl, Or.inr rfl, Or.inr rfl, Or.inr rfl, Or.inr rfl, Or.inl rfl, Or.inl rfl, trivial⟩ h
      ·
        refine T_iload dX2_above_76 rfl ?_
        refine T_iload dX2_above_78 rfl ?_
        refine T_icmp_le (tgt := 86) dX2_above_80 (by decide) (tq_ite h (fun h => ?_) (fun h => ?_))
        ·
          refine T_iinc (lv' := [.ref 30, .ref 1, .int x2, .int x3, .int x4, .int (x5 + 1), .int (I 32 (((x5 * 8) + x2).toNatClampNeg)), .int (I 32 (((x5 * 8) + x3).toNatClampNeg))]) dX2_above_86 rfl (by decide) rfl ?_
          refine T_goto (tgt := 24) dX2_above_89 (by decide) ?_
          exact T_wk (lv' := [.ref 30, .ref 1, .int x2, .int x3, .int x4, .int (x5 + 1), .null, .null]) ⟨Or.inr rfl, Or.inr rfl, Or.inr rfl, Or.inr rfl, Or.inr rfl, Or.inr rfl, Or.inl rfl, Or.inl rfl, trivial⟩ h
        ·
          refine T_iinc (lv' := [.ref 30, .ref 1, .int x2, .int x3, .int (x4 + 1), .int x5, .int (I 32 (((x5 * 8) + x2).toNatClampNeg)), .int (I 32 (((x5 * 8) + x3).toNatClampNeg))]) dX2_above_83 rfl (by decide) rfl ?_
          refine T_iinc (lv' := [.ref 30, .ref 1, .int x2, .int x3, .int (x4 + 1), .int (x5 + 1), .int (I 32 (((x5 * 8) + x2).toNatClampNeg)), .int (I 32 (((x5 * 8) + x3).toNatClampNeg))]) dX2_above_86 rfl (by decide) rfl ?_
          refine T_goto (tgt := 24) dX2_above_89 (by decide) ?_
          exact T_wk (lv' := [.ref 30, .ref 1, .int x2, .int x3, .int (x4 + 1), .int (x5 + 1), .null, .null]) ⟨Or.inr rfl, Or.inr rfl, Or.inr rfl, Or.inr rfl, Or.inr rfl, Or.inr rfl, Or.inl rfl, Or.inl rfl, trivial⟩ h

theorem dX2_beatingAll_0 : decode cX2_beatingAll 0 = .ok (.iconst 0, 1) := by decide +kernel
theorem dX2_beatingAll_1 : decode cX2_beatingAll 1 = .ok (.istore_n 2, 1) := by decide +kernel
theorem dX2_beatingAll_2 : decode cX2_beatingAll 2 = .ok (.iload_n 2, 1) := by decide +kernel
theorem dX2_beatingAll_3 : decode cX2_beatingAll 3 = .ok (.aload_n 1, 1) := by decide +kernel
theorem dX2_beatingAll_4 : decode cX2_beatingAll 4 = .ok (.getfield 106, 3) := by decide +kernel
theorem dX2_beatingAll_7 : decode cX2_beatingAll 7 = .ok (.if_icmp .ge 28, 3) := by decide +kernel
theorem dX2_beatingAll_10 : decode cX2_beatingAll 10 = .ok (.aload_n 0, 1) := by decide +kernel
theorem dX2_beatingAll_11 : decode cX2_beatingAll 11 = .ok (.iload_n 2, 1) := by decide +kernel
theorem dX2_beatingAll_12 : decode cX2_beatingAll 12 = .ok (.invokevirtual 109, 3) := by decide +kernel
theorem dX2_beatingAll_15 : decode cX2_beatingAll 15 = .ok (.ifCond .eq 14, 3) := by decide +kernel
theorem dX2_beatingAll_18 : decode cX2_beatingAll 18 = .ok (.aload_n 0, 1) := by decide +kernel
theorem dX2_beatingAll_19 : decode cX2_beatingAll 19 = .ok (.aload_n 1, 1) := by decide +kernel
theorem dX2_beatingAll_20 : decode cX2_beatingAll 20 = .ok (.iload_n 2, 1) := by decide +kernel
theorem dX2_beatingAll_21 : decode cX2_beatingAll 21 = .ok (.invokevirtual 120, 3) := by decide +kernel
theorem dX2_beatingAll_24 : decode cX2_beatingAll 24 = .ok (.ifCond .eq 5, 3) := by decide +kernel
theorem dX2_beatingAll_27 : decode cX2_beatingAll 27 = .ok (.iload_n 2, 1) := by decide +kernel
theorem dX2_beatingAll_28 : decode cX2_beatingAll 28 = .ok (.ireturn, 1) := by decide +kernel
theorem dX2_beatingAll_29 : decode cX2_beatingAll 29 = .ok (.iinc 2 1, 3) := by decide +kernel
theorem dX2_beatingAll_32 : decode cX2_beatingAll 32 = .ok (.goto (-30), 3) := by decide +kernel
theorem dX2_beatingAll_35 : decode cX2_beatingAll 35 = .ok (.bipush (-2), 2) := by decide +kernel
theorem dX2_beatingAll_37 : decode cX2_beatingAll 37 = .ok (.ireturn, 1) := by decide +kernel
set_option maxRecDepth 100000 in
theorem sgX2_beatingAll_0 {d : Nat} {I : st_I} {L : st_L} {F : Int32 → st_I → st_L → Prop}  (h : TI (d + 1) mX2_beatingAll 2 [.ref 30, .ref 1, .int 0] [] I L F) : EI (d + 1) mX2_beatingAll [.ref 30, .ref 1] I L F := by
  refine Ev_of (ls0 := 1) (by decide +kernel) rfl rfl rfl ?_
  refine T_iconst (v := 0) dX2_beatingAll_0 (by decide +kernel) ?_
  refine T_istore_n (lv' := [.ref 30, .ref 1, .int 0]) dX2_beatingAll_1 rfl (by decide) rfl ?_
  exact h

set_option maxRecDepth 100000 in
theorem sgX2_beatingAll_2 {d : Nat} {I : st_I} {L : st_L} {F : Int32 → st_I → st_L → Prop} {x2 : Int32} (h : (if (I 1 0) ≤ x2 then F (-2) I L else EI d mX2_hasMean [.ref 30, .int x2] I L (fun r1 I1 L1 => (if r1 = 0 then TI (d + 1) mX2_beatingAll 2 [.ref 30, .ref 1, .int (x2 + 1)] [] I1 L1 F else EI d mX2_beatsOthers [.ref 30, .ref 1, .int x2] I1 L1 (fun r2 I2 L2 => (if r2 = 0 then TI (d + 1) mX2_beatingAll 2 [.ref 30, .ref 1, .int (x2 + 1)] [] I2 L2 F else F x2 I2 L2)))))) : TI (d + 1) mX2_beatingAll 2 [.ref 30, .ref 1, .int x2] [] I L F := by
  refine T_iload_n dX2_beatingAll_2 rfl ?_
  refine T_aload_n dX2_beatingAll_3 rfl ?_
  refine T_getv (v := (I 1 0)) dX2_beatingAll_4 fl_RX2_106 shp_1 rfl rfl ?_
  refine T_icmp_ge (tgt := 35) dX2_beatingAll_7 (by decide) (tq_ite h (fun h => ?_) (fun h => ?_))
  ·
    refine T_bipush (v := (-2)) dX2_beatingAll_35 (by decide +kernel) ?_
    exact S_iret rfl dX2_beatingAll_37 h
  ·
    refine T_aload_n dX2_beatingAll_10 rfl ?_
    refine T_iload_n dX2_beatingAll_11 rfl ?_
    refine S_callVI (M' := mX2_hasMean) [.int x2] [] dX2_beatingAll_12 ml_RX2_109 mkX2_hasMean rfl shp_30 rfl rfl rfl (Nat.le_of_ble_eq_true rfl) h (fun r1 I1 L1 h => ?_)
    refine T_if_eq (tgt := 29) dX2_beatingAll_15 (by decide) (tq_ite h (fun h => ?_) (fun h => ?_))
    ·
      refine T_iinc (lv' := [.ref 30, .ref 1, .int (x2 + 1)]) dX2_beatingAll_29 rfl (by decide) rfl ?_
      refine T_goto (tgt := 2) dX2_beatingAll_32 (by decide) ?_
      exact h
    ·
      refine T_aload_n dX2_beatingAll_18 rfl ?_
      refine T_aload_n dX2_beatingAll_19 rfl ?_
      refine T_iload_n dX2_beatingAll_20 rfl ?_
      refine S_callVI (M' := mX2_beatsOthers) [.ref 1, .int x2] [] dX2_beatingAll_21 ml_RX2_120 mkX2_beatsOthers rfl shp_30 rfl rfl rfl (Nat.le_of_ble_eq_true rfl) h (fun r2 I2 L2 h => ?_)
      refine T_if_eq (tgt := 29) dX2_beatingAll_24 (by decide) (tq_ite h (fun h => ?_) (fun h => ?_))
      ·
        refine T_iinc (lv' := [.ref 30, .ref 1, .int (x2 + 1)]) dX2_beatingAll_29 rfl (by decide) rfl ?_
        refine T_goto (tgt := 2) dX2_beatingAll_32 (by decide) ?_
        exact h
      ·
        refine T_iload_n dX2_beatingAll_27 rfl ?_
        exact S_iret rfl dX2_beatingAll_28 h

theorem dX2_beatsOthers_0 : decode cX2_beatsOthers 0 = .ok (.iconst 0, 1) := by decide +kernel
theorem dX2_beatsOthers_1 : decode cX2_beatsOthers 1 = .ok (.istore_n 3, 1) := by decide +kernel
theorem dX2_beatsOthers_2 : decode cX2_beatsOthers 2 = .ok (.iload_n 3, 1) := by decide +kernel
theorem dX2_beatsOthers_3 : decode cX2_beatsOthers 3 = .ok (.aload_n 1, 1) := by decide +kernel
theorem dX2_beatsOthers_4 : decode cX2_beatsOthers 4 = .ok (.getfield 106, 3) := by decide +kernel
theorem dX2_beatsOthers_7 : decode cX2_beatsOthers 7 = .ok (.if_icmp .ge 41, 3) := by decide +kernel
theorem dX2_beatsOthers_10 : decode cX2_beatsOthers 10 = .ok (.iload_n 3, 1) := by decide +kernel
theorem dX2_beatsOthers_11 : decode cX2_beatsOthers 11 = .ok (.iload_n 2, 1) := by decide +kernel
theorem dX2_beatsOthers_12 : decode cX2_beatsOthers 12 = .ok (.if_icmp .eq 30, 3) := by decide +kernel
theorem dX2_beatsOthers_15 : decode cX2_beatsOthers 15 = .ok (.aload_n 0, 1) := by decide +kernel
theorem dX2_beatsOthers_16 : decode cX2_beatsOthers 16 = .ok (.iload_n 3, 1) := by decide +kernel
theorem dX2_beatsOthers_17 : decode cX2_beatsOthers 17 = .ok (.invokevirtual 109, 3) := by decide +kernel
theorem dX2_beatsOthers_20 : decode cX2_beatsOthers 20 = .ok (.ifCond .eq 22, 3) := by decide +kernel
theorem dX2_beatsOthers_23 : decode cX2_beatsOthers 23 = .ok (.aload_n 0, 1) := by decide +kernel
theorem dX2_beatsOthers_24 : decode cX2_beatsOthers 24 = .ok (.aload_n 1, 1) := by decide +kernel
theorem dX2_beatsOthers_25 : decode cX2_beatsOthers 25 = .ok (.iload_n 2, 1) := by decide +kernel
theorem dX2_beatsOthers_26 : decode cX2_beatsOthers 26 = .ok (.iload_n 3, 1) := by decide +kernel
theorem dX2_beatsOthers_27 : decode cX2_beatsOthers 27 = .ok (.invokevirtual 124, 3) := by decide +kernel
theorem dX2_beatsOthers_30 : decode cX2_beatsOthers 30 = .ok (.aload_n 0, 1) := by decide +kernel
theorem dX2_beatsOthers_31 : decode cX2_beatsOthers 31 = .ok (.aload_n 1, 1) := by decide +kernel
theorem dX2_beatsOthers_32 : decode cX2_beatsOthers 32 = .ok (.iload_n 3, 1) := by decide +kernel
theorem dX2_beatsOthers_33 : decode cX2_beatsOthers 33 = .ok (.iload_n 2, 1) := by decide +kernel
theorem dX2_beatsOthers_34 : decode cX2_beatsOthers 34 = .ok (.invokevirtual 124, 3) := by decide +kernel
theorem dX2_beatsOthers_37 : decode cX2_beatsOthers 37 = .ok (.if_icmp .gt 5, 3) := by decide +kernel
theorem dX2_beatsOthers_40 : decode cX2_beatsOthers 40 = .ok (.iconst 0, 1) := by decide +kernel
theorem dX2_beatsOthers_41 : decode cX2_beatsOthers 41 = .ok (.ireturn, 1) := by decide +kernel
theorem dX2_beatsOthers_42 : decode cX2_beatsOthers 42 = .ok (.iinc 3 1, 3) := by decide +kernel
theorem dX2_beatsOthers_45 : decode cX2_beatsOthers 45 = .ok (.goto (-43), 3) := by decide +kernel
theorem dX2_beatsOthers_48 : decode cX2_beatsOthers 48 = .ok (.iconst 1, 1) := by decide +kernel
theorem dX2_beatsOthers_49 : decode cX2_beatsOthers 49 = .ok (.ireturn, 1) := by decide +kernel
set_option maxRecDepth 100000 in
theorem sgX2_beatsOthers_0 {d : Nat} {I : st_I} {L : st_L} {F : Int32 → st_I → st_L → Prop} {a2 : Int32} (h : TI (d + 1) mX2_beatsOthers 2 [.ref 30, .ref 1, .int a2, .int 0] [] I L F) : EI (d + 1) mX2_beatsOthers [.ref 30, .ref 1, .int a2] I L F := by
  refine Ev_of (ls0 := 1) (by decide +kernel) rfl rfl rfl ?_
  refine T_iconst (v := 0) dX2_beatsOthers_0 (by decide +kernel) ?_
  refine T_istore_n (lv' := [.ref 30, .ref 1, .int a2, .int 0]) dX2_beatsOthers_1 rfl (by decide) rfl ?_
  exact h

set_option maxRecDepth 100000 in
theorem sgX2_beatsOthers_2 {d : Nat} {I : st_I} {L : st_L} {F : Int32 → st_I → st_L → Prop} {x2 : Int32} {x3 : Int32} (h : (if (I 1 0) ≤ x3 then F 1 I L else (if x3 = x2 then TI (d + 1) mX2_beatsOthers 2 [.ref 30, .ref 1, .int x2, .int (x3 + 1)] [] I L F else EI d mX2_hasMean [.ref 30, .int x3] I L (fun r1 I1 L1 => (if r1 = 0 then TI (d + 1) mX2_beatsOthers 2 [.ref 30, .ref 1, .int x2, .int (x3 + 1)] [] I1 L1 F else EI d mX2_above [.ref 30, .ref 1, .int x2, .int x3] I1 L1 (fun r2 I2 L2 => EI d mX2_above [.ref 30, .ref 1, .int x3, .int x2] I2 L2 (fun r3 I3 L3 => (if r3 < r2 then TI (d + 1) mX2_beatsOthers 2 [.ref 30, .ref 1, .int x2, .int (x3 + 1)] [] I3 L3 F else F 0 I3 L3)))))))) : TI (d + 1) mX2_beatsOthers 2 [.ref 30, .ref 1, .int x2, .int x3] [] I L F := by
  refine T_iload_n dX2_beatsOthers_2 rfl ?_
  refine T_aload_n dX2_beatsOthers_3 rfl ?_
  refine T_getv (v := (I 1 0)) dX2_beatsOthers_4 fl_RX2_106 shp_1 rfl rfl ?_
  refine T_icmp_ge (tgt := 48) dX2_beatsOthers_7 (by decide) (tq_ite h (fun h => ?_) (fun h => ?_))
  ·
    refine T_iconst (v := 1) dX2_beatsOthers_48 (by decide +kernel) ?_
    exact S_zret rfl dX2_beatsOthers_49 (by decide) h
  ·
    refine T_iload_n dX2_beatsOthers_10 rfl ?_
    refine T_iload_n dX2_beatsOthers_11 rfl ?_
    refine T_icmp_eq (tgt := 42) dX2_beatsOthers_12 (by decide) (tq_ite h (fun h => ?_) (fun h => ?_))
    ·
      refine T_iinc (lv' := [.ref 30, .ref 1, .int x2, .int (x3 + 1)]) dX2_beatsOthers_42 rfl (by decide) rfl ?_
      refine T_goto (tgt := 2) dX2_beatsOthers_45 (by decide) ?_
      exact h
    ·
      refine T_aload_n dX2_beatsOthers_15 rfl ?_
      refine T_iload_n dX2_beatsOthers_16 rfl ?_
      refine S_callVI (M' := mX2_hasMean) [.int x3] [] dX2_beatsOthers_17 ml_RX2_109 mkX2_hasMean rfl shp_30 rfl rfl rfl (Nat.le_of_ble_eq_true rfl) h (fun r1 I1 L1 h => ?_)
      refine T_if_eq (tgt := 42) dX2_beatsOthers_20 (by decide) (tq_ite h (fun h => ?_) (fun h => ?_))
      ·
        refine T_iinc (lv' := [.ref 30, .ref 1, .int x2, .int (x3 + 1)]) dX2_beatsOthers_42 rfl (by decide) rfl ?_
        refine T_goto (tgt := 2) dX2_beatsOthers_45 (by decide) ?_
        exact h
      ·
        refine T_aload_n dX2_beatsOthers_23 rfl ?_
        refine T_aload_n dX2_beatsOthers_24 rfl ?_
        refine T_iload_n dX2_beatsOthers_25 rfl ?_
        refine T_iload_n dX2_beatsOthers_26 rfl ?_
        refine S_callVI (M' := mX2_above) [.ref 1, .int x2, .int x3] [] dX2_beatsOthers_27 ml_RX2_124 mkX2_above rfl shp_30 rfl rfl rfl (Nat.le_of_ble_eq_true rfl) h (fun r2 I2 L2 h => ?_)
        refine T_aload_n dX2_beatsOthers_30 rfl ?_
        refine T_aload_n dX2_beatsOthers_31 rfl ?_
        refine T_iload_n dX2_beatsOthers_32 rfl ?_
        refine T_iload_n dX2_beatsOthers_33 rfl ?_
        refine S_callVI (M' := mX2_above) [.ref 1, .int x3, .int x2] [.int r2] dX2_beatsOthers_34 ml_RX2_124 mkX2_above rfl shp_30 rfl rfl rfl (Nat.le_of_ble_eq_true rfl) h (fun r3 I3 L3 h => ?_)
        refine T_icmp_gt (tgt := 42) dX2_beatsOthers_37 (by decide) (tq_ite h (fun h => ?_) (fun h => ?_))
        ·
          refine T_iinc (lv' := [.ref 30, .ref 1, .int x2, .int (x3 + 1)]) dX2_beatsOthers_42 rfl (by decide) rfl ?_
          refine T_goto (tgt := 2) dX2_beatsOthers_45 (by decide) ?_
          exact h
        ·
          refine T_iconst (v := 0) dX2_beatsOthers_40 (by decide +kernel) ?_
          exact S_zret rfl dX2_beatsOthers_41 (by decide) h

theorem dX6_gather_0 : decode cX6_gather 0 = .ok (.aload_n 0, 1) := by decide +kernel
theorem dX6_gather_1 : decode cX6_gather 1 = .ok (.iconst 0, 1) := by decide +kernel
theorem dX6_gather_2 : decode cX6_gather 2 = .ok (.putfield 18, 3) := by decide +kernel
theorem dX6_gather_5 : decode cX6_gather 5 = .ok (.aload_n 0, 1) := by decide +kernel
theorem dX6_gather_6 : decode cX6_gather 6 = .ok (.iconst 0, 1) := by decide +kernel
theorem dX6_gather_7 : decode cX6_gather 7 = .ok (.putfield 22, 3) := by decide +kernel
theorem dX6_gather_10 : decode cX6_gather 10 = .ok (.iconst 0, 1) := by decide +kernel
theorem dX6_gather_11 : decode cX6_gather 11 = .ok (.istore_n 3, 1) := by decide +kernel
theorem dX6_gather_12 : decode cX6_gather 12 = .ok (.iload_n 3, 1) := by decide +kernel
theorem dX6_gather_13 : decode cX6_gather 13 = .ok (.aload_n 1, 1) := by decide +kernel
theorem dX6_gather_14 : decode cX6_gather 14 = .ok (.getfield 25, 3) := by decide +kernel
theorem dX6_gather_17 : decode cX6_gather 17 = .ok (.bipush 8, 2) := by decide +kernel
theorem dX6_gather_19 : decode cX6_gather 19 = .ok (.imul, 1) := by decide +kernel
theorem dX6_gather_20 : decode cX6_gather 20 = .ok (.if_icmp .ge 110, 3) := by decide +kernel
theorem dX6_gather_23 : decode cX6_gather 23 = .ok (.aload_n 0, 1) := by decide +kernel
theorem dX6_gather_24 : decode cX6_gather 24 = .ok (.getfield 18, 3) := by decide +kernel
theorem dX6_gather_27 : decode cX6_gather 27 = .ok (.bipush 7, 2) := by decide +kernel
theorem dX6_gather_29 : decode cX6_gather 29 = .ok (.if_icmp .ge 101, 3) := by decide +kernel
theorem dX6_gather_32 : decode cX6_gather 32 = .ok (.aload_n 1, 1) := by decide +kernel
theorem dX6_gather_33 : decode cX6_gather 33 = .ok (.iload_n 3, 1) := by decide +kernel
theorem dX6_gather_34 : decode cX6_gather 34 = .ok (.bipush 8, 2) := by decide +kernel
theorem dX6_gather_36 : decode cX6_gather 36 = .ok (.idiv, 1) := by decide +kernel
theorem dX6_gather_37 : decode cX6_gather 37 = .ok (.invokevirtual 30, 3) := by decide +kernel
theorem dX6_gather_40 : decode cX6_gather 40 = .ok (.ifCond .eq 84, 3) := by decide +kernel
theorem dX6_gather_43 : decode cX6_gather 43 = .ok (.aload_n 2, 1) := by decide +kernel
theorem dX6_gather_44 : decode cX6_gather 44 = .ok (.getfield 34, 3) := by decide +kernel
theorem dX6_gather_47 : decode cX6_gather 47 = .ok (.iload_n 3, 1) := by decide +kernel
theorem dX6_gather_48 : decode cX6_gather 48 = .ok (.iaload, 1) := by decide +kernel
theorem dX6_gather_49 : decode cX6_gather 49 = .ok (.iconst (-1), 1) := by decide +kernel
theorem dX6_gather_50 : decode cX6_gather 50 = .ok (.if_icmp .eq 74, 3) := by decide +kernel
theorem dX6_gather_53 : decode cX6_gather 53 = .ok (.aload_n 0, 1) := by decide +kernel
theorem dX6_gather_54 : decode cX6_gather 54 = .ok (.getfield 11, 3) := by decide +kernel
theorem dX6_gather_57 : decode cX6_gather 57 = .ok (.aload_n 0, 1) := by decide +kernel
theorem dX6_gather_58 : decode cX6_gather 58 = .ok (.getfield 18, 3) := by decide +kernel
theorem dX6_gather_61 : decode cX6_gather 61 = .ok (.aload_n 2, 1) := by decide +kernel
theorem dX6_gather_62 : decode cX6_gather 62 = .ok (.getfield 34, 3) := by decide +kernel
theorem dX6_gather_65 : decode cX6_gather 65 = .ok (.iload_n 3, 1) := by decide +kernel
theorem dX6_gather_66 : decode cX6_gather 66 = .ok (.iaload, 1) := by decide +kernel
theorem dX6_gather_67 : decode cX6_gather 67 = .ok (.iastore, 1) := by decide +kernel
theorem dX6_gather_68 : decode cX6_gather 68 = .ok (.aload_n 0, 1) := by decide +kernel
theorem dX6_gather_69 : decode cX6_gather 69 = .ok (.getfield 15, 3) := by decide +kernel
theorem dX6_gather_72 : decode cX6_gather 72 = .ok (.aload_n 0, 1) := by decide +kernel
theorem dX6_gather_73 : decode cX6_gather 73 = .ok (.getfield 18, 3) := by decide +kernel
theorem dX6_gather_76 : decode cX6_gather 76 = .ok (.aload_n 2, 1) := by decide +kernel
theorem dX6_gather_77 : decode cX6_gather 77 = .ok (.getfield 39, 3) := by decide +kernel
theorem dX6_gather_80 : decode cX6_gather 80 = .ok (.iload_n 3, 1) := by decide +kernel
theorem dX6_gather_81 : decode cX6_gather 81 = .ok (.iaload, 1) := by decide +kernel
theorem dX6_gather_82 : decode cX6_gather 82 = .ok (.iastore, 1) := by decide +kernel
theorem dX6_gather_83 : decode cX6_gather 83 = .ok (.aload_n 0, 1) := by decide +kernel
theorem dX6_gather_84 : decode cX6_gather 84 = .ok (.dup, 1) := by decide +kernel
theorem dX6_gather_85 : decode cX6_gather 85 = .ok (.getfield 22, 3) := by decide +kernel
theorem dX6_gather_88 : decode cX6_gather 88 = .ok (.aload_n 0, 1) := by decide +kernel
theorem dX6_gather_89 : decode cX6_gather 89 = .ok (.getfield 11, 3) := by decide +kernel
theorem dX6_gather_92 : decode cX6_gather 92 = .ok (.aload_n 0, 1) := by decide +kernel
theorem dX6_gather_93 : decode cX6_gather 93 = .ok (.getfield 18, 3) := by decide +kernel
theorem dX6_gather_96 : decode cX6_gather 96 = .ok (.iaload, 1) := by decide +kernel
theorem dX6_gather_97 : decode cX6_gather 97 = .ok (.aload_n 0, 1) := by decide +kernel
theorem dX6_gather_98 : decode cX6_gather 98 = .ok (.getfield 15, 3) := by decide +kernel
theorem dX6_gather_101 : decode cX6_gather 101 = .ok (.aload_n 0, 1) := by decide +kernel
theorem dX6_gather_102 : decode cX6_gather 102 = .ok (.getfield 18, 3) := by decide +kernel
theorem dX6_gather_105 : decode cX6_gather 105 = .ok (.iaload, 1) := by decide +kernel
theorem dX6_gather_106 : decode cX6_gather 106 = .ok (.isub, 1) := by decide +kernel
theorem dX6_gather_107 : decode cX6_gather 107 = .ok (.invokestatic 42, 3) := by decide +kernel
theorem dX6_gather_110 : decode cX6_gather 110 = .ok (.iadd, 1) := by decide +kernel
theorem dX6_gather_111 : decode cX6_gather 111 = .ok (.putfield 22, 3) := by decide +kernel
theorem dX6_gather_114 : decode cX6_gather 114 = .ok (.aload_n 0, 1) := by decide +kernel
theorem dX6_gather_115 : decode cX6_gather 115 = .ok (.dup, 1) := by decide +kernel
theorem dX6_gather_116 : decode cX6_gather 116 = .ok (.getfield 18, 3) := by decide +kernel
theorem dX6_gather_119 : decode cX6_gather 119 = .ok (.iconst 1, 1) := by decide +kernel
theorem dX6_gather_120 : decode cX6_gather 120 = .ok (.iadd, 1) := by decide +kernel
theorem dX6_gather_121 : decode cX6_gather 121 = .ok (.putfield 18, 3) := by decide +kernel
theorem dX6_gather_124 : decode cX6_gather 124 = .ok (.iinc 3 1, 3) := by decide +kernel
theorem dX6_gather_127 : decode cX6_gather 127 = .ok (.goto (-115), 3) := by decide +kernel
theorem dX6_gather_130 : decode cX6_gather 130 = .ok (.return_, 1) := by decide +kernel
set_option maxRecDepth 100000 in
theorem sgX6_gather_0 {d : Nat} {I : st_I} {L : st_L} {F : st_I → st_L → Prop}  (h : TV (d + 1) mX6_gather 12 [.ref 40, .ref 1, .ref 30, .int 0] [] (u_I (u_I I 40 0 0) 40 1 0) L F) : EV (d + 1) mX6_gather [.ref 40, .ref 1, .ref 30] I L F := by
  refine Ev_of (ls0 := 1) (by decide +kernel) rfl rfl rfl ?_
  refine T_aload_n dX6_gather_0 rfl ?_
  refine T_iconst (v := 0) dX6_gather_1 (by decide +kernel) ?_
  refine T_puti dX6_gather_2 fl_RX6_18 pf_6_0 shp_40 rfl rfl rfl ?_
  refine T_aload_n dX6_gather_5 rfl ?_
  refine T_iconst (v := 0) dX6_gather_6 (by decide +kernel) ?_
  refine T_puti dX6_gather_7 fl_RX6_22 pf_6_1 shp_40 rfl rfl rfl ?_
  refine T_iconst (v := 0) dX6_gather_10 (by decide +kernel) ?_
  refine T_istore_n (lv' := [.ref 40, .ref 1, .ref 30, .int 0]) dX6_gather_11 rfl (by decide) rfl ?_
  exact h

set_option maxRecDepth 100000 in
theorem sgX6_gather_12 {d : Nat} {I : st_I} {L : st_L} {F : st_I → st_L → Prop} {x3 : Int32} (h : (if ((I 1 1) * 8) ≤ x3 then F I L else (if 7 ≤ (I 40 0) then F I L else EI d mX8_isPlayer [.ref 1, .int (x3 / 8)] I L (fun r1 I1 L1 => (if r1 = 0 then TV (d + 1) mX6_gather 12 [.ref 40, .ref 1, .ref 30, .int (x3 + 1)] [] I1 L1 F else vp_in x3 80 ∧ (if (I1 33 (x3.toNatClampNeg)) = (-1) then TV (d + 1) mX6_gather 12 [.ref 40, .ref 1, .ref 30, .int (x3 + 1)] [] I1 L1 F else vp_in x3 80 ∧ vp_in (I1 40 0) 7 ∧ vp_in x3 80 ∧ vp_in (I1 40 0) 7 ∧ vp_in (I1 40 0) 7 ∧ vp_in (I1 40 0) 7 ∧ TV (d + 1) mX6_gather 12 [.ref 40, .ref 1, .ref 30, .int (x3 + 1)] [] (u_I (u_I (u_I (u_I I1 41 ((I1 40 0).toNatClampNeg) (I1 33 (x3.toNatClampNeg))) 42 ((I1 40 0).toNatClampNeg) (I1 32 (x3.toNatClampNeg))) 40 1 ((I1 40 1) + (if 0 ≤ (((u_I I1 41 ((I1 40 0).toNatClampNeg) (I1 33 (x3.toNatClampNeg))) 41 ((I1 40 0).toNatClampNeg)) - ((u_I (u_I I1 41 ((I1 40 0).toNatClampNeg) (I1 33 (x3.toNatClampNeg))) 42 ((I1 40 0).toNatClampNeg) (I1 32 (x3.toNatClampNeg))) 42 ((I1 40 0).toNatClampNeg))) then (((u_I I1 41 ((I1 40 0).toNatClampNeg) (I1 33 (x3.toNatClampNeg))) 41 ((I1 40 0).toNatClampNeg)) - ((u_I (u_I I1 41 ((I1 40 0).toNatClampNeg) (I1 33 (x3.toNatClampNeg))) 42 ((I1 40 0).toNatClampNeg) (I1 32 (x3.toNatClampNeg))) 42 ((I1 40 0).toNatClampNeg))) else 0 - (((u_I I1 41 ((I1 40 0).toNatClampNeg) (I1 33 (x3.toNatClampNeg))) 41 ((I1 40 0).toNatClampNeg)) - ((u_I (u_I I1 41 ((I1 40 0).toNatClampNeg) (I1 33 (x3.toNatClampNeg))) 42 ((I1 40 0).toNatClampNeg) (I1 32 (x3.toNatClampNeg))) 42 ((I1 40 0).toNatClampNeg)))))) 40 0 ((I1 40 0) + 1)) L1 F)))))) : TV (d + 1) mX6_gather 12 [.ref 40, .ref 1, .ref 30, .int x3] [] I L F := by
  refine T_iload_n dX6_gather_12 rfl ?_
  refine T_aload_n dX6_gather_13 rfl ?_
  refine T_getv (v := (I 1 1)) dX6_gather_14 fl_RX6_25 shp_1 rfl rfl ?_
  refine T_bipush (v := 8) dX6_gather_17 (by decide +kernel) ?_
  refine T_imul dX6_gather_19 ?_
  refine T_icmp_ge (tgt := 130) dX6_gather_20 (by decide) (tq_ite h (fun h => ?_) (fun h => ?_))
  ·
    exact S_vret rfl dX6_gather_130 h
  ·
    refine T_aload_n dX6_gather_23 rfl ?_
    refine T_getv (v := (I 40 0)) dX6_gather_24 fl_RX6_18 shp_40 rfl rfl ?_
    refine T_bipush (v := 7) dX6_gather_27 (by decide +kernel) ?_
    refine T_icmp_ge (tgt := 130) dX6_gather_29 (by decide) (tq_ite h (fun h => ?_) (fun h => ?_))
    ·
      exact S_vret rfl dX6_gather_130 h
    ·
      refine T_aload_n dX6_gather_32 rfl ?_
      refine T_iload_n dX6_gather_33 rfl ?_
      refine T_bipush (v := 8) dX6_gather_34 (by decide +kernel) ?_
      refine T_idiv dX6_gather_36 (by decide) ?_
      refine S_callVI (M' := mX8_isPlayer) [.int (x3 / 8)] [] dX6_gather_37 ml_RX6_30 mkX8_isPlayer rfl shp_1 rfl rfl rfl (Nat.le_of_ble_eq_true rfl) h (fun r1 I1 L1 h => ?_)
      refine T_if_eq (tgt := 124) dX6_gather_40 (by decide) (tq_ite h (fun h => ?_) (fun h => ?_))
      ·
        refine T_iinc (lv' := [.ref 40, .ref 1, .ref 30, .int (x3 + 1)]) dX6_gather_124 rfl (by decide) rfl ?_
        refine T_goto (tgt := 12) dX6_gather_127 (by decide) ?_
        exact h
      ·
        refine T_aload_n dX6_gather_43 rfl ?_
        refine T_getr dX6_gather_44 fl_RX6_34 shp_30 rfl ?_
        refine T_iload_n dX6_gather_47 rfl ?_
        refine T_ialdv (v := (I1 33 (x3.toNatClampNeg))) (j := x3.toNatClampNeg) dX6_gather_48 shp_33 h.1 rfl rfl ?_
        replace h := h.2
        refine T_iconst (v := (-1)) dX6_gather_49 (by decide +kernel) ?_
        refine T_icmp_eq (tgt := 124) dX6_gather_50 (by decide) (tq_ite h (fun h => ?_) (fun h => ?_))
        ·
          refine T_iinc (lv' := [.ref 40, .ref 1, .ref 30, .int (x3 + 1)]) dX6_gather_124 rfl (by decide) rfl ?_
          refine T_goto (tgt := 12) dX6_gather_127 (by decide) ?_
          exact h
        ·
          refine T_aload_n dX6_gather_53 rfl ?_
          refine T_getr dX6_gather_54 fl_RX6_11 shp_40 rfl ?_
          refine T_aload_n dX6_gather_57 rfl ?_
          refine T_getv (v := (I1 40 0)) dX6_gather_58 fl_RX6_18 shp_40 rfl rfl ?_
          refine T_aload_n dX6_gather_61 rfl ?_
          refine T_getr dX6_gather_62 fl_RX6_34 shp_30 rfl ?_
          refine T_iload_n dX6_gather_65 rfl ?_
          refine T_ialdv (v := (I1 33 (x3.toNatClampNeg))) (j := x3.toNatClampNeg) dX6_gather_66 shp_33 h.1 rfl rfl ?_
          replace h := h.2
          refine T_iastv (j := (I1 40 0).toNatClampNeg) dX6_gather_67 shp_41 h.1 rfl ?_
          replace h := h.2
          refine T_aload_n dX6_gather_68 rfl ?_
          refine T_getr dX6_gather_69 fl_RX6_15 shp_40 rfl ?_
          refine T_aload_n dX6_gather_72 rfl ?_
          refine T_getv (v := (I1 40 0)) dX6_gather_73 fl_RX6_18 shp_40 rfl rfl ?_
          refine T_aload_n dX6_gather_76 rfl ?_
          refine T_getr dX6_gather_77 fl_RX6_39 shp_30 rfl ?_
          refine T_iload_n dX6_gather_80 rfl ?_
          refine T_ialdv (v := (I1 32 (x3.toNatClampNeg))) (j := x3.toNatClampNeg) dX6_gather_81 shp_32 h.1 rfl rfl ?_
          replace h := h.2
          refine T_iastv (j := (I1 40 0).toNatClampNeg) dX6_gather_82 shp_42 h.1 rfl ?_
          replace h := h.2
          refine T_aload_n dX6_gather_83 rfl ?_
          refine T_dup dX6_gather_84 rfl ?_
          refine T_getv (v := (I1 40 1)) dX6_gather_85 fl_RX6_22 shp_40 rfl rfl ?_
          refine T_aload_n dX6_gather_88 rfl ?_
          refine T_getr dX6_gather_89 fl_RX6_11 shp_40 rfl ?_
          refine T_aload_n dX6_gather_92 rfl ?_
          refine T_getv (v := (I1 40 0)) dX6_gather_93 fl_RX6_18 shp_40 rfl rfl ?_
          refine T_ialdv (v := ((u_I I1 41 ((I1 40 0).toNatClampNeg) (I1 33 (x3.toNatClampNeg))) 41 ((I1 40 0).toNatClampNeg))) (j := (I1 40 0).toNatClampNeg) dX6_gather_96 shp_41 h.1 rfl rfl ?_
          replace h := h.2
          refine T_aload_n dX6_gather_97 rfl ?_
          refine T_getr dX6_gather_98 fl_RX6_15 shp_40 rfl ?_
          refine T_aload_n dX6_gather_101 rfl ?_
          refine T_getv (v := (I1 40 0)) dX6_gather_102 fl_RX6_18 shp_40 rfl rfl ?_
          refine T_ialdv (v := ((u_I (u_I I1 41 ((I1 40 0).toNatClampNeg) (I1 33 (x3.toNatClampNeg))) 42 ((I1 40 0).toNatClampNeg) (I1 32 (x3.toNatClampNeg))) 42 ((I1 40 0).toNatClampNeg))) (j := (I1 40 0).toNatClampNeg) dX6_gather_105 shp_42 h.1 rfl rfl ?_
          replace h := h.2
          refine T_isub dX6_gather_106 ?_
          refine T_mabs dX6_gather_107 ml_RX6_42 (Nat.le_of_ble_eq_true rfl) ?_
          refine T_iadd dX6_gather_110 ?_
          refine T_puti dX6_gather_111 fl_RX6_22 pf_6_1 shp_40 rfl rfl rfl ?_
          refine T_aload_n dX6_gather_114 rfl ?_
          refine T_dup dX6_gather_115 rfl ?_
          refine T_getv (v := (I1 40 0)) dX6_gather_116 fl_RX6_18 shp_40 rfl rfl ?_
          refine T_iconst (v := 1) dX6_gather_119 (by decide +kernel) ?_
          refine T_iadd dX6_gather_120 ?_
          refine T_puti dX6_gather_121 fl_RX6_18 pf_6_0 shp_40 rfl rfl rfl ?_
          refine T_iinc (lv' := [.ref 40, .ref 1, .ref 30, .int (x3 + 1)]) dX6_gather_124 rfl (by decide) rfl ?_
          refine T_goto (tgt := 12) dX6_gather_127 (by decide) ?_
          exact h

theorem dX6_ways_0 : decode cX6_ways 0 = .ok (.aload_n 0, 1) := by decide +kernel
theorem dX6_ways_1 : decode cX6_ways 1 = .ok (.iconst 0, 1) := by decide +kernel
theorem dX6_ways_2 : decode cX6_ways 2 = .ok (.iconst 0, 1) := by decide +kernel
theorem dX6_ways_3 : decode cX6_ways 3 = .ok (.aload_n 0, 1) := by decide +kernel
theorem dX6_ways_4 : decode cX6_ways 4 = .ok (.getfield 22, 3) := by decide +kernel
theorem dX6_ways_7 : decode cX6_ways 7 = .ok (.invokestatic 48, 3) := by decide +kernel
theorem dX6_ways_10 : decode cX6_ways 10 = .ok (.ireturn, 1) := by decide +kernel
set_option maxRecDepth 100000 in
theorem sgX6_ways_0 {d : Nat} {I : st_I} {L : st_L} {F : Int32 → st_I → st_L → Prop}  (h : EI d mX6_waysFrom [.ref 40, .int 0, .int 0, .int (I 40 1)] I L (fun r1 I1 L1 => F r1 I1 L1)) : EI (d + 1) mX6_ways [.ref 40] I L F := by
  refine Ev_of (ls0 := 0) (by decide +kernel) rfl rfl rfl ?_
  refine T_aload_n dX6_ways_0 rfl ?_
  refine T_iconst (v := 0) dX6_ways_1 (by decide +kernel) ?_
  refine T_iconst (v := 0) dX6_ways_2 (by decide +kernel) ?_
  refine T_aload_n dX6_ways_3 rfl ?_
  refine T_getv (v := (I 40 1)) dX6_ways_4 fl_RX6_22 shp_40 rfl rfl ?_
  refine S_callSI (M' := mX6_waysFrom) [.ref 40, .int 0, .int 0, .int (I 40 1)] [] dX6_ways_7 ml_RX6_48 mkX6_waysFrom rfl rfl (Nat.le_of_ble_eq_true rfl) h (fun r1 I1 L1 h => ?_)
  exact S_iret rfl dX6_ways_10 h

theorem dX6_waysFrom_0 : decode cX6_waysFrom 0 = .ok (.iload_n 3, 1) := by decide +kernel
theorem dX6_waysFrom_1 : decode cX6_waysFrom 1 = .ok (.ifCond .ge 5, 3) := by decide +kernel
theorem dX6_waysFrom_4 : decode cX6_waysFrom 4 = .ok (.iconst 0, 1) := by decide +kernel
theorem dX6_waysFrom_5 : decode cX6_waysFrom 5 = .ok (.ireturn, 1) := by decide +kernel
theorem dX6_waysFrom_6 : decode cX6_waysFrom 6 = .ok (.iload_n 1, 1) := by decide +kernel
theorem dX6_waysFrom_7 : decode cX6_waysFrom 7 = .ok (.aload_n 0, 1) := by decide +kernel
theorem dX6_waysFrom_8 : decode cX6_waysFrom 8 = .ok (.getfield 18, 3) := by decide +kernel
theorem dX6_waysFrom_11 : decode cX6_waysFrom 11 = .ok (.if_icmp .lt 5, 3) := by decide +kernel
theorem dX6_waysFrom_14 : decode cX6_waysFrom 14 = .ok (.iconst 1, 1) := by decide +kernel
theorem dX6_waysFrom_15 : decode cX6_waysFrom 15 = .ok (.ireturn, 1) := by decide +kernel
theorem dX6_waysFrom_16 : decode cX6_waysFrom 16 = .ok (.iconst 0, 1) := by decide +kernel
theorem dX6_waysFrom_17 : decode cX6_waysFrom 17 = .ok (.istore 4, 2) := by decide +kernel
theorem dX6_waysFrom_19 : decode cX6_waysFrom 19 = .ok (.iconst 0, 1) := by decide +kernel
theorem dX6_waysFrom_20 : decode cX6_waysFrom 20 = .ok (.istore 5, 2) := by decide +kernel
theorem dX6_waysFrom_22 : decode cX6_waysFrom 22 = .ok (.iload 5, 2) := by decide +kernel
theorem dX6_waysFrom_24 : decode cX6_waysFrom 24 = .ok (.aload_n 0, 1) := by decide +kernel
theorem dX6_waysFrom_25 : decode cX6_waysFrom 25 = .ok (.getfield 18, 3) := by decide +kernel
theorem dX6_waysFrom_28 : decode cX6_waysFrom 28 = .ok (.if_icmp .ge 55, 3) := by decide +kernel
theorem dX6_waysFrom_31 : decode cX6_waysFrom 31 = .ok (.iload_n 2, 1) := by decide +kernel
theorem dX6_waysFrom_32 : decode cX6_waysFrom 32 = .ok (.iconst 1, 1) := by decide +kernel
theorem dX6_waysFrom_33 : decode cX6_waysFrom 33 = .ok (.iload 5, 2) := by decide +kernel
theorem dX6_waysFrom_35 : decode cX6_waysFrom 35 = .ok (.ishl, 1) := by decide +kernel
theorem dX6_waysFrom_36 : decode cX6_waysFrom 36 = .ok (.iand, 1) := by decide +kernel
theorem dX6_waysFrom_37 : decode cX6_waysFrom 37 = .ok (.ifCond .ne 40, 3) := by decide +kernel
theorem dX6_waysFrom_40 : decode cX6_waysFrom 40 = .ok (.iload 4, 2) := by decide +kernel
theorem dX6_waysFrom_42 : decode cX6_waysFrom 42 = .ok (.aload_n 0, 1) := by decide +kernel
theorem dX6_waysFrom_43 : decode cX6_waysFrom 43 = .ok (.iload_n 1, 1) := by decide +kernel
theorem dX6_waysFrom_44 : decode cX6_waysFrom 44 = .ok (.iconst 1, 1) := by decide +kernel
theorem dX6_waysFrom_45 : decode cX6_waysFrom 45 = .ok (.iadd, 1) := by decide +kernel
theorem dX6_waysFrom_46 : decode cX6_waysFrom 46 = .ok (.iload_n 2, 1) := by decide +kernel
theorem dX6_waysFrom_47 : decode cX6_waysFrom 47 = .ok (.iconst 1, 1) := by decide +kernel
theorem dX6_waysFrom_48 : decode cX6_waysFrom 48 = .ok (.iload 5, 2) := by decide +kernel
theorem dX6_waysFrom_50 : decode cX6_waysFrom 50 = .ok (.ishl, 1) := by decide +kernel
theorem dX6_waysFrom_51 : decode cX6_waysFrom 51 = .ok (.ior, 1) := by decide +kernel
theorem dX6_waysFrom_52 : decode cX6_waysFrom 52 = .ok (.iload_n 3, 1) := by decide +kernel
theorem dX6_waysFrom_53 : decode cX6_waysFrom 53 = .ok (.aload_n 0, 1) := by decide +kernel
theorem dX6_waysFrom_54 : decode cX6_waysFrom 54 = .ok (.getfield 11, 3) := by decide +kernel
theorem dX6_waysFrom_57 : decode cX6_waysFrom 57 = .ok (.iload_n 1, 1) := by decide +kernel
theorem dX6_waysFrom_58 : decode cX6_waysFrom 58 = .ok (.iaload, 1) := by decide +kernel
theorem dX6_waysFrom_59 : decode cX6_waysFrom 59 = .ok (.aload_n 0, 1) := by decide +kernel
theorem dX6_waysFrom_60 : decode cX6_waysFrom 60 = .ok (.getfield 15, 3) := by decide +kernel
theorem dX6_waysFrom_63 : decode cX6_waysFrom 63 = .ok (.iload 5, 2) := by decide +kernel
theorem dX6_waysFrom_65 : decode cX6_waysFrom 65 = .ok (.iaload, 1) := by decide +kernel
theorem dX6_waysFrom_66 : decode cX6_waysFrom 66 = .ok (.isub, 1) := by decide +kernel
theorem dX6_waysFrom_67 : decode cX6_waysFrom 67 = .ok (.invokestatic 42, 3) := by decide +kernel
theorem dX6_waysFrom_70 : decode cX6_waysFrom 70 = .ok (.isub, 1) := by decide +kernel
theorem dX6_waysFrom_71 : decode cX6_waysFrom 71 = .ok (.invokestatic 48, 3) := by decide +kernel
theorem dX6_waysFrom_74 : decode cX6_waysFrom 74 = .ok (.iadd, 1) := by decide +kernel
theorem dX6_waysFrom_75 : decode cX6_waysFrom 75 = .ok (.istore 4, 2) := by decide +kernel
theorem dX6_waysFrom_77 : decode cX6_waysFrom 77 = .ok (.iinc 5 1, 3) := by decide +kernel
theorem dX6_waysFrom_80 : decode cX6_waysFrom 80 = .ok (.goto (-58), 3) := by decide +kernel
theorem dX6_waysFrom_83 : decode cX6_waysFrom 83 = .ok (.iload 4, 2) := by decide +kernel
theorem dX6_waysFrom_85 : decode cX6_waysFrom 85 = .ok (.ireturn, 1) := by decide +kernel
set_option maxRecDepth 100000 in
theorem sgX6_waysFrom_0 {d : Nat} {I : st_I} {L : st_L} {F : Int32 → st_I → st_L → Prop} {a2 : Int32} {a3 : Int32} {a4 : Int32} (h : (if 0 ≤ a4 then (if a2 < (I 40 0) then TI (d + 1) mX6_waysFrom 22 [.ref 40, .int a2, .int a3, .int a4, .int 0, .int 0] [] I L F else F 1 I L) else F 0 I L)) : EI (d + 1) mX6_waysFrom [.ref 40, .int a2, .int a3, .int a4] I L F := by
  refine Ev_of (ls0 := 2) (by decide +kernel) rfl rfl rfl ?_
  refine T_iload_n dX6_waysFrom_0 rfl ?_
  refine T_if_ge (tgt := 6) dX6_waysFrom_1 (by decide) (tq_ite h (fun h => ?_) (fun h => ?_))
  ·
    refine T_iload_n dX6_waysFrom_6 rfl ?_
    refine T_aload_n dX6_waysFrom_7 rfl ?_
    refine T_getv (v := (I 40 0)) dX6_waysFrom_8 fl_RX6_18 shp_40 rfl rfl ?_
    refine T_icmp_lt (tgt := 16) dX6_waysFrom_11 (by decide) (tq_ite h (fun h => ?_) (fun h => ?_))
    ·
      refine T_iconst (v := 0) dX6_waysFrom_16 (by decide +kernel) ?_
      refine T_istore (lv' := [.ref 40, .int a2, .int a3, .int a4, .int 0, .null]) dX6_waysFrom_17 (by decide) rfl ?_
      refine T_iconst (v := 0) dX6_waysFrom_19 (by decide +kernel) ?_
      refine T_istore (lv' := [.ref 40, .int a2, .int a3, .int a4, .int 0, .int 0]) dX6_waysFrom_20 (by decide) rfl ?_
      exact h
    ·
      refine T_iconst (v := 1) dX6_waysFrom_14 (by decide +kernel) ?_
      exact S_iret rfl dX6_waysFrom_15 h
  ·
    refine T_iconst (v := 0) dX6_waysFrom_4 (by decide +kernel) ?_
    exact S_iret rfl dX6_waysFrom_5 h

set_option maxRecDepth 100000 in
theorem sgX6_waysFrom_22 {d : Nat} {I : st_I} {L : st_L} {F : Int32 → st_I → st_L → Prop} {x1 : Int32} {x2 : Int32} {x3 : Int32} {x4 : Int32} {x5 : Int32} (h : (if (I 40 0) ≤ x5 then F x4 I L else (if (x2 &&& (1 <<< (x5 &&& 31))) = 0 then vp_in x1 7 ∧ vp_in x5 7 ∧ EI d mX6_waysFrom [.ref 40, .int (x1 + 1), .int (x2 ||| (1 <<< (x5 &&& 31))), .int (x3 - (if 0 ≤ ((I 41 (x1.toNatClampNeg)) - (I 42 (x5.toNatClampNeg))) then ((I 41 (x1.toNatClampNeg)) - (I 42 (x5.toNatClampNeg))) else 0 - ((I 41 (x1.toNatClampNeg)) - (I 42 (x5.toNatClampNeg)))))] I L (fun r1 I1 L1 => TI (d + 1) mX6_waysFrom 22 [.ref 40, .int x1, .int x2, .int x3, .int (x4 + r1), .int (x5 + 1)] [] I1 L1 F) else TI (d + 1) mX6_waysFrom 22 [.ref 40, .int x1, .int x2, .int x3, .int x4, .int (x5 + 1)] [] I L F))) : TI (d + 1) mX6_waysFrom 22 [.ref 40, .int x1, .int x2, .int x3, .int x4, .int x5] [] I L F := by
  refine T_iload dX6_waysFrom_22 rfl ?_
  refine T_aload_n dX6_waysFrom_24 rfl ?_
  refine T_getv (v := (I 40 0)) dX6_waysFrom_25 fl_RX6_18 shp_40 rfl rfl ?_
  refine T_icmp_ge (tgt := 83) dX6_waysFrom_28 (by decide) (tq_ite h (fun h => ?_) (fun h => ?_))
  ·
    refine T_iload dX6_waysFrom_83 rfl ?_
    exact S_iret rfl dX6_waysFrom_85 h
  ·
    refine T_iload_n dX6_waysFrom_31 rfl ?_
    refine T_iconst (v := 1) dX6_waysFrom_32 (by decide +kernel) ?_
    refine T_iload dX6_waysFrom_33 rfl ?_
    refine T_ishl dX6_waysFrom_35 ?_
    refine T_iand dX6_waysFrom_36 ?_
    refine T_if_ne (tgt := 77) dX6_waysFrom_37 (by decide) (tq_ite h (fun h => ?_) (fun h => ?_))
    ·
      refine T_iload dX6_waysFrom_40 rfl ?_
      refine T_aload_n dX6_waysFrom_42 rfl ?_
      refine T_iload_n dX6_waysFrom_43 rfl ?_
      refine T_iconst (v := 1) dX6_waysFrom_44 (by decide +kernel) ?_
      refine T_iadd dX6_waysFrom_45 ?_
      refine T_iload_n dX6_waysFrom_46 rfl ?_
      refine T_iconst (v := 1) dX6_waysFrom_47 (by decide +kernel) ?_
      refine T_iload dX6_waysFrom_48 rfl ?_
      refine T_ishl dX6_waysFrom_50 ?_
      refine T_ior dX6_waysFrom_51 ?_
      refine T_iload_n dX6_waysFrom_52 rfl ?_
      refine T_aload_n dX6_waysFrom_53 rfl ?_
      refine T_getr dX6_waysFrom_54 fl_RX6_11 shp_40 rfl ?_
      refine T_iload_n dX6_waysFrom_57 rfl ?_
      refine T_ialdv (v := (I 41 (x1.toNatClampNeg))) (j := x1.toNatClampNeg) dX6_waysFrom_58 shp_41 h.1 rfl rfl ?_
      replace h := h.2
      refine T_aload_n dX6_waysFrom_59 rfl ?_
      refine T_getr dX6_waysFrom_60 fl_RX6_15 shp_40 rfl ?_
      refine T_iload dX6_waysFrom_63 rfl ?_
      refine T_ialdv (v := (I 42 (x5.toNatClampNeg))) (j := x5.toNatClampNeg) dX6_waysFrom_65 shp_42 h.1 rfl rfl ?_
      replace h := h.2
      refine T_isub dX6_waysFrom_66 ?_
      refine T_mabs dX6_waysFrom_67 ml_RX6_42 (Nat.le_of_ble_eq_true rfl) ?_
      refine T_isub dX6_waysFrom_70 ?_
      refine S_callSI (M' := mX6_waysFrom) [.ref 40, .int (x1 + 1), .int (x2 ||| (1 <<< (x5 &&& 31))), .int (x3 - (if 0 ≤ ((I 41 (x1.toNatClampNeg)) - (I 42 (x5.toNatClampNeg))) then ((I 41 (x1.toNatClampNeg)) - (I 42 (x5.toNatClampNeg))) else 0 - ((I 41 (x1.toNatClampNeg)) - (I 42 (x5.toNatClampNeg)))))] [.int x4] dX6_waysFrom_71 ml_RX6_48 mkX6_waysFrom rfl rfl (Nat.le_of_ble_eq_true rfl) h (fun r1 I1 L1 h => ?_)
      refine T_iadd dX6_waysFrom_74 ?_
      refine T_istore (lv' := [.ref 40, .int x1, .int x2, .int x3, .int (x4 + r1), .int x5]) dX6_waysFrom_75 (by decide) rfl ?_
      refine T_iinc (lv' := [.ref 40, .int x1, .int x2, .int x3, .int (x4 + r1), .int (x5 + 1)]) dX6_waysFrom_77 rfl (by decide) rfl ?_
      refine T_goto (tgt := 22) dX6_waysFrom_80 (by decide) ?_
      exact h
    ·
      refine T_iinc (lv' := [.ref 40, .int x1, .int x2, .int x3, .int x4, .int (x5 + 1)]) dX6_waysFrom_77 rfl (by decide) rfl ?_
      refine T_goto (tgt := 22) dX6_waysFrom_80 (by decide) ?_
      exact h

theorem dX1_gather_0 : decode cX1_gather 0 = .ok (.aload_n 0, 1) := by decide +kernel
theorem dX1_gather_1 : decode cX1_gather 1 = .ok (.iconst 0, 1) := by decide +kernel
theorem dX1_gather_2 : decode cX1_gather 2 = .ok (.putfield 21, 3) := by decide +kernel
theorem dX1_gather_5 : decode cX1_gather 5 = .ok (.aload_n 0, 1) := by decide +kernel
theorem dX1_gather_6 : decode cX1_gather 6 = .ok (.iconst 0, 1) := by decide +kernel
theorem dX1_gather_7 : decode cX1_gather 7 = .ok (.putfield 25, 3) := by decide +kernel
theorem dX1_gather_10 : decode cX1_gather 10 = .ok (.aload_n 0, 1) := by decide +kernel
theorem dX1_gather_11 : decode cX1_gather 11 = .ok (.iconst 1, 1) := by decide +kernel
theorem dX1_gather_12 : decode cX1_gather 12 = .ok (.putfield 28, 3) := by decide +kernel
theorem dX1_gather_15 : decode cX1_gather 15 = .ok (.iconst 0, 1) := by decide +kernel
theorem dX1_gather_16 : decode cX1_gather 16 = .ok (.istore_n 3, 1) := by decide +kernel
theorem dX1_gather_17 : decode cX1_gather 17 = .ok (.iload_n 3, 1) := by decide +kernel
theorem dX1_gather_18 : decode cX1_gather 18 = .ok (.aload_n 1, 1) := by decide +kernel
theorem dX1_gather_19 : decode cX1_gather 19 = .ok (.getfield 31, 3) := by decide +kernel
theorem dX1_gather_22 : decode cX1_gather 22 = .ok (.if_icmp .ge 35, 3) := by decide +kernel
theorem dX1_gather_25 : decode cX1_gather 25 = .ok (.aload_n 2, 1) := by decide +kernel
theorem dX1_gather_26 : decode cX1_gather 26 = .ok (.getfield 36, 3) := by decide +kernel
theorem dX1_gather_29 : decode cX1_gather 29 = .ok (.iload_n 3, 1) := by decide +kernel
theorem dX1_gather_30 : decode cX1_gather 30 = .ok (.iaload, 1) := by decide +kernel
theorem dX1_gather_31 : decode cX1_gather 31 = .ok (.ifCond .le 20, 3) := by decide +kernel
theorem dX1_gather_34 : decode cX1_gather 34 = .ok (.aload_n 0, 1) := by decide +kernel
theorem dX1_gather_35 : decode cX1_gather 35 = .ok (.aload_n 0, 1) := by decide +kernel
theorem dX1_gather_36 : decode cX1_gather 36 = .ok (.getfield 28, 3) := by decide +kernel
theorem dX1_gather_39 : decode cX1_gather 39 = .ok (.aload_n 2, 1) := by decide +kernel
theorem dX1_gather_40 : decode cX1_gather 40 = .ok (.getfield 36, 3) := by decide +kernel
theorem dX1_gather_43 : decode cX1_gather 43 = .ok (.iload_n 3, 1) := by decide +kernel
theorem dX1_gather_44 : decode cX1_gather 44 = .ok (.iaload, 1) := by decide +kernel
theorem dX1_gather_45 : decode cX1_gather 45 = .ok (.invokestatic 41, 3) := by decide +kernel
theorem dX1_gather_48 : decode cX1_gather 48 = .ok (.putfield 28, 3) := by decide +kernel
theorem dX1_gather_51 : decode cX1_gather 51 = .ok (.iinc 3 1, 3) := by decide +kernel
theorem dX1_gather_54 : decode cX1_gather 54 = .ok (.goto (-37), 3) := by decide +kernel
theorem dX1_gather_57 : decode cX1_gather 57 = .ok (.iconst 0, 1) := by decide +kernel
theorem dX1_gather_58 : decode cX1_gather 58 = .ok (.istore_n 3, 1) := by decide +kernel
theorem dX1_gather_59 : decode cX1_gather 59 = .ok (.iload_n 3, 1) := by decide +kernel
theorem dX1_gather_60 : decode cX1_gather 60 = .ok (.aload_n 1, 1) := by decide +kernel
theorem dX1_gather_61 : decode cX1_gather 61 = .ok (.getfield 31, 3) := by decide +kernel
theorem dX1_gather_64 : decode cX1_gather 64 = .ok (.if_icmp .ge 95, 3) := by decide +kernel
theorem dX1_gather_67 : decode cX1_gather 67 = .ok (.aload_n 2, 1) := by decide +kernel
theorem dX1_gather_68 : decode cX1_gather 68 = .ok (.getfield 36, 3) := by decide +kernel
theorem dX1_gather_71 : decode cX1_gather 71 = .ok (.iload_n 3, 1) := by decide +kernel
theorem dX1_gather_72 : decode cX1_gather 72 = .ok (.iaload, 1) := by decide +kernel
theorem dX1_gather_73 : decode cX1_gather 73 = .ok (.istore 4, 2) := by decide +kernel
theorem dX1_gather_75 : decode cX1_gather 75 = .ok (.iload 4, 2) := by decide +kernel
theorem dX1_gather_77 : decode cX1_gather 77 = .ok (.ifCond .le 76, 3) := by decide +kernel
theorem dX1_gather_80 : decode cX1_gather 80 = .ok (.aload_n 0, 1) := by decide +kernel
theorem dX1_gather_81 : decode cX1_gather 81 = .ok (.getfield 9, 3) := by decide +kernel
theorem dX1_gather_84 : decode cX1_gather 84 = .ok (.aload_n 0, 1) := by decide +kernel
theorem dX1_gather_85 : decode cX1_gather 85 = .ok (.getfield 25, 3) := by decide +kernel
theorem dX1_gather_88 : decode cX1_gather 88 = .ok (.aload_n 2, 1) := by decide +kernel
theorem dX1_gather_89 : decode cX1_gather 89 = .ok (.getfield 47, 3) := by decide +kernel
theorem dX1_gather_92 : decode cX1_gather 92 = .ok (.iload_n 3, 1) := by decide +kernel
theorem dX1_gather_93 : decode cX1_gather 93 = .ok (.iaload, 1) := by decide +kernel
theorem dX1_gather_94 : decode cX1_gather 94 = .ok (.aload_n 0, 1) := by decide +kernel
theorem dX1_gather_95 : decode cX1_gather 95 = .ok (.getfield 28, 3) := by decide +kernel
theorem dX1_gather_98 : decode cX1_gather 98 = .ok (.iload 4, 2) := by decide +kernel
theorem dX1_gather_100 : decode cX1_gather 100 = .ok (.idiv, 1) := by decide +kernel
theorem dX1_gather_101 : decode cX1_gather 101 = .ok (.imul, 1) := by decide +kernel
theorem dX1_gather_102 : decode cX1_gather 102 = .ok (.iastore, 1) := by decide +kernel
theorem dX1_gather_103 : decode cX1_gather 103 = .ok (.aload_n 0, 1) := by decide +kernel
theorem dX1_gather_104 : decode cX1_gather 104 = .ok (.getfield 15, 3) := by decide +kernel
theorem dX1_gather_107 : decode cX1_gather 107 = .ok (.aload_n 0, 1) := by decide +kernel
theorem dX1_gather_108 : decode cX1_gather 108 = .ok (.getfield 25, 3) := by decide +kernel
theorem dX1_gather_111 : decode cX1_gather 111 = .ok (.aload_n 1, 1) := by decide +kernel
theorem dX1_gather_112 : decode cX1_gather 112 = .ok (.iload_n 3, 1) := by decide +kernel
theorem dX1_gather_113 : decode cX1_gather 113 = .ok (.invokevirtual 50, 3) := by decide +kernel
theorem dX1_gather_116 : decode cX1_gather 116 = .ok (.ifCond .eq 7, 3) := by decide +kernel
theorem dX1_gather_119 : decode cX1_gather 119 = .ok (.iconst 1, 1) := by decide +kernel
theorem dX1_gather_120 : decode cX1_gather 120 = .ok (.goto 4, 3) := by decide +kernel
theorem dX1_gather_123 : decode cX1_gather 123 = .ok (.iconst 0, 1) := by decide +kernel
theorem dX1_gather_124 : decode cX1_gather 124 = .ok (.iastore, 1) := by decide +kernel
theorem dX1_gather_125 : decode cX1_gather 125 = .ok (.aload_n 0, 1) := by decide +kernel
theorem dX1_gather_126 : decode cX1_gather 126 = .ok (.dup, 1) := by decide +kernel
theorem dX1_gather_127 : decode cX1_gather 127 = .ok (.getfield 21, 3) := by decide +kernel
theorem dX1_gather_130 : decode cX1_gather 130 = .ok (.aload_n 0, 1) := by decide +kernel
theorem dX1_gather_131 : decode cX1_gather 131 = .ok (.getfield 15, 3) := by decide +kernel
theorem dX1_gather_134 : decode cX1_gather 134 = .ok (.aload_n 0, 1) := by decide +kernel
theorem dX1_gather_135 : decode cX1_gather 135 = .ok (.getfield 25, 3) := by decide +kernel
theorem dX1_gather_138 : decode cX1_gather 138 = .ok (.iaload, 1) := by decide +kernel
theorem dX1_gather_139 : decode cX1_gather 139 = .ok (.iadd, 1) := by decide +kernel
theorem dX1_gather_140 : decode cX1_gather 140 = .ok (.putfield 21, 3) := by decide +kernel
theorem dX1_gather_143 : decode cX1_gather 143 = .ok (.aload_n 0, 1) := by decide +kernel
theorem dX1_gather_144 : decode cX1_gather 144 = .ok (.dup, 1) := by decide +kernel
theorem dX1_gather_145 : decode cX1_gather 145 = .ok (.getfield 25, 3) := by decide +kernel
theorem dX1_gather_148 : decode cX1_gather 148 = .ok (.iconst 1, 1) := by decide +kernel
theorem dX1_gather_149 : decode cX1_gather 149 = .ok (.iadd, 1) := by decide +kernel
theorem dX1_gather_150 : decode cX1_gather 150 = .ok (.putfield 25, 3) := by decide +kernel
theorem dX1_gather_153 : decode cX1_gather 153 = .ok (.iinc 3 1, 3) := by decide +kernel
theorem dX1_gather_156 : decode cX1_gather 156 = .ok (.goto (-97), 3) := by decide +kernel
theorem dX1_gather_159 : decode cX1_gather 159 = .ok (.aload_n 0, 1) := by decide +kernel
theorem dX1_gather_160 : decode cX1_gather 160 = .ok (.aload_n 0, 1) := by decide +kernel
theorem dX1_gather_161 : decode cX1_gather 161 = .ok (.getfield 25, 3) := by decide +kernel
theorem dX1_gather_164 : decode cX1_gather 164 = .ok (.aload_n 0, 1) := by decide +kernel
theorem dX1_gather_165 : decode cX1_gather 165 = .ok (.getfield 21, 3) := by decide +kernel
theorem dX1_gather_168 : decode cX1_gather 168 = .ok (.isub, 1) := by decide +kernel
theorem dX1_gather_169 : decode cX1_gather 169 = .ok (.putfield 53, 3) := by decide +kernel
theorem dX1_gather_172 : decode cX1_gather 172 = .ok (.return_, 1) := by decide +kernel
set_option maxRecDepth 100000 in
theorem sgX1_gather_0 {d : Nat} {I : st_I} {L : st_L} {F : st_I → st_L → Prop}  (h : TV (d + 1) mX1_gather 17 [.ref 43, .ref 1, .ref 30, .int 0, .null] [] (u_I (u_I (u_I I 43 0 0) 43 3 0) 43 2 1) L F) : EV (d + 1) mX1_gather [.ref 43, .ref 1, .ref 30] I L F := by
  refine Ev_of (ls0 := 2) (by decide +kernel) rfl rfl rfl ?_
  refine T_aload_n dX1_gather_0 rfl ?_
  refine T_iconst (v := 0) dX1_gather_1 (by decide +kernel) ?_
  refine T_puti dX1_gather_2 fl_RX1_21 pf_1_0 shp_43 rfl rfl rfl ?_
  refine T_aload_n dX1_gather_5 rfl ?_
  refine T_iconst (v := 0) dX1_gather_6 (by decide +kernel) ?_
  refine T_puti dX1_gather_7 fl_RX1_25 pf_1_3 shp_43 rfl rfl rfl ?_
  refine T_aload_n dX1_gather_10 rfl ?_
  refine T_iconst (v := 1) dX1_gather_11 (by decide +kernel) ?_
  refine T_puti dX1_gather_12 fl_RX1_28 pf_1_2 shp_43 rfl rfl rfl ?_
  refine T_iconst (v := 0) dX1_gather_15 (by decide +kernel) ?_
  refine T_istore_n (lv' := [.ref 43, .ref 1, .ref 30, .int 0, .null]) dX1_gather_16 rfl (by decide) rfl ?_
  exact h

set_option maxRecDepth 100000 in
theorem sgX1_gather_17 {d : Nat} {I : st_I} {L : st_L} {F : st_I → st_L → Prop} {x3 : Int32} (h : (if (I 1 0) ≤ x3 then TV (d + 1) mX1_gather 59 [.ref 43, .ref 1, .ref 30, .int 0, .null] [] I L F else vp_in x3 16 ∧ (if (I 36 (x3.toNatClampNeg)) ≤ 0 then TV (d + 1) mX1_gather 17 [.ref 43, .ref 1, .ref 30, .int (x3 + 1), .null] [] I L F else vp_in x3 16 ∧ EI d mX10_commonMultiple [.int (I 43 2), .int (I 36 (x3.toNatClampNeg))] I L (fun r1 I1 L1 => TV (d + 1) mX1_gather 17 [.ref 43, .ref 1, .ref 30, .int (x3 + 1), .null] [] (u_I I1 43 2 r1) L1 F)))) : TV (d + 1) mX1_gather 17 [.ref 43, .ref 1, .ref 30, .int x3, .null] [] I L F := by
  refine T_iload_n dX1_gather_17 rfl ?_
  refine T_aload_n dX1_gather_18 rfl ?_
  refine T_getv (v := (I 1 0)) dX1_gather_19 fl_RX1_31 shp_1 rfl rfl ?_
  refine T_icmp_ge (tgt := 57) dX1_gather_22 (by decide) (tq_ite h (fun h => ?_) (fun h => ?_))
  ·
    refine T_iconst (v := 0) dX1_gather_57 (by decide +kernel) ?_
    refine T_istore_n (lv' := [.ref 43, .ref 1, .ref 30, .int 0, .null]) dX1_gather_58 rfl (by decide) rfl ?_
    exact h
  ·
    refine T_aload_n dX1_gather_25 rfl ?_
    refine T_getr dX1_gather_26 fl_RX1_36 shp_30 rfl ?_
    refine T_iload_n dX1_gather_29 rfl ?_
    refine T_ialdv (v := (I 36 (x3.toNatClampNeg))) (j := x3.toNatClampNeg) dX1_gather_30 shp_36 h.1 rfl rfl ?_
    replace h := h.2
    refine T_if_le (tgt := 51) dX1_gather_31 (by decide) (tq_ite h (fun h => ?_) (fun h => ?_))
    ·
      refine T_iinc (lv' := [.ref 43, .ref 1, .ref 30, .int (x3 + 1), .null]) dX1_gather_51 rfl (by decide) rfl ?_
      refine T_goto (tgt := 17) dX1_gather_54 (by decide) ?_
      exact h
    ·
      refine T_aload_n dX1_gather_34 rfl ?_
      refine T_aload_n dX1_gather_35 rfl ?_
      refine T_getv (v := (I 43 2)) dX1_gather_36 fl_RX1_28 shp_43 rfl rfl ?_
      refine T_aload_n dX1_gather_39 rfl ?_
      refine T_getr dX1_gather_40 fl_RX1_36 shp_30 rfl ?_
      refine T_iload_n dX1_gather_43 rfl ?_
      refine T_ialdv (v := (I 36 (x3.toNatClampNeg))) (j := x3.toNatClampNeg) dX1_gather_44 shp_36 h.1 rfl rfl ?_
      replace h := h.2
      refine S_callSI (M' := mX10_commonMultiple) [.int (I 43 2), .int (I 36 (x3.toNatClampNeg))] [.ref 43] dX1_gather_45 ml_RX1_41 mkX10_commonMultiple rfl rfl (Nat.le_of_ble_eq_true rfl) h (fun r1 I1 L1 h => ?_)
      refine T_puti dX1_gather_48 fl_RX1_28 pf_1_2 shp_43 rfl rfl rfl ?_
      refine T_iinc (lv' := [.ref 43, .ref 1, .ref 30, .int (x3 + 1), .null]) dX1_gather_51 rfl (by decide) rfl ?_
      refine T_goto (tgt := 17) dX1_gather_54 (by decide) ?_
      exact h

set_option maxRecDepth 100000 in
theorem sgX1_gather_59 {d : Nat} {I : st_I} {L : st_L} {F : st_I → st_L → Prop} {x3 : Int32} (h : (if (I 1 0) ≤ x3 then F (u_I I 43 1 ((I 43 3) - (I 43 0))) L else vp_in x3 16 ∧ (if (I 36 (x3.toNatClampNeg)) ≤ 0 then TV (d + 1) mX1_gather 59 [.ref 43, .ref 1, .ref 30, .int (x3 + 1), .null] [] I L F else vp_in x3 16 ∧ ¬ (I 36 (x3.toNatClampNeg)) = 0 ∧ vp_in (I 43 3) 8 ∧ EI d mX8_isOld [.ref 1, .int x3] (u_I I 44 ((I 43 3).toNatClampNeg) ((I 35 (x3.toNatClampNeg)) * ((I 43 2) / (I 36 (x3.toNatClampNeg))))) L (fun r1 I1 L1 => vp_in (I 43 3) 8 ∧ vp_in (I1 43 3) 8 ∧ TV (d + 1) mX1_gather 59 [.ref 43, .ref 1, .ref 30, .int (x3 + 1), .null] [] (u_I (u_I (u_I I1 45 ((I 43 3).toNatClampNeg) (if r1 = 0 then (0 : Int32) else 1)) 43 0 ((I1 43 0) + ((u_I I1 45 ((I 43 3).toNatClampNeg) (if r1 = 0 then (0 : Int32) else 1)) 45 ((I1 43 3).toNatClampNeg)))) 43 3 ((I1 43 3) + 1)) L1 F)))) : TV (d + 1) mX1_gather 59 [.ref 43, .ref 1, .ref 30, .int x3, .null] [] I L F := by
  refine T_iload_n dX1_gather_59 rfl ?_
  refine T_aload_n dX1_gather_60 rfl ?_
  refine T_getv (v := (I 1 0)) dX1_gather_61 fl_RX1_31 shp_1 rfl rfl ?_
  refine T_icmp_ge (tgt := 159) dX1_gather_64 (by decide) (tq_ite h (fun h => ?_) (fun h => ?_))
  ·
    refine T_aload_n dX1_gather_159 rfl ?_
    refine T_aload_n dX1_gather_160 rfl ?_
    refine T_getv (v := (I 43 3)) dX1_gather_161 fl_RX1_25 shp_43 rfl rfl ?_
    refine T_aload_n dX1_gather_164 rfl ?_
    refine T_getv (v := (I 43 0)) dX1_gather_165 fl_RX1_21 shp_43 rfl rfl ?_
    refine T_isub dX1_gather_168 ?_
    refine T_puti dX1_gather_169 fl_RX1_53 pf_1_1 shp_43 rfl rfl rfl ?_
    exact S_vret rfl dX1_gather_172 h
  ·
    refine T_aload_n dX1_gather_67 rfl ?_
    refine T_getr dX1_gather_68 fl_RX1_36 shp_30 rfl ?_
    refine T_iload_n dX1_gather_71 rfl ?_
    refine T_ialdv (v := (I 36 (x3.toNatClampNeg))) (j := x3.toNatClampNeg) dX1_gather_72 shp_36 h.1 rfl rfl ?_
    replace h := h.2
    refine T_istore (lv' := [.ref 43, .ref 1, .ref 30, .int x3, .int (I 36 (x3.toNatClampNeg))]) dX1_gather_73 (by decide) rfl ?_
    refine T_iload dX1_gather_75 rfl ?_
    refine T_if_le (tgt := 153) dX1_gather_77 (by decide) (tq_ite h (fun h => ?_) (fun h => ?_))
    ·
      refine T_iinc (lv' := [.ref 43, .ref 1, .ref 30, .int (x3 + 1), .int (I 36 (x3.toNatClampNeg))]) dX1_gather_153 rfl (by decide) rfl ?_
      refine T_goto (tgt := 59) dX1_gather_156 (by decide) ?_
      exact T_wk (lv' := [.ref 43, .ref 1, .ref 30, .int (x3 + 1), .null]) ⟨Or.inr rfl, Or.inr rfl, Or.inr rfl, Or.inr rfl, Or.inl rfl, trivial⟩ h
    ·
      refine T_aload_n dX1_gather_80 rfl ?_
      refine T_getr dX1_gather_81 fl_RX1_9 shp_43 rfl ?_
      refine T_aload_n dX1_gather_84 rfl ?_
      refine T_getv (v := (I 43 3)) dX1_gather_85 fl_RX1_25 shp_43 rfl rfl ?_
      refine T_aload_n dX1_gather_88 rfl ?_
      refine T_getr dX1_gather_89 fl_RX1_47 shp_30 rfl ?_
      refine T_iload_n dX1_gather_92 rfl ?_
      refine T_ialdv (v := (I 35 (x3.toNatClampNeg))) (j := x3.toNatClampNeg) dX1_gather_93 shp_35 h.1 rfl rfl ?_
      replace h := h.2
      refine T_aload_n dX1_gather_94 rfl ?_
      refine T_getv (v := (I 43 2)) dX1_gather_95 fl_RX1_28 shp_43 rfl rfl ?_
      refine T_iload dX1_gather_98 rfl ?_
      refine T_idiv dX1_gather_100 h.1 ?_
      replace h := h.2
      refine T_imul dX1_gather_101 ?_
      refine T_iastv (j := (I 43 3).toNatClampNeg) dX1_gather_102 shp_44 h.1 rfl ?_
      replace h := h.2
      refine T_aload_n dX1_gather_103 rfl ?_
      refine T_getr dX1_gather_104 fl_RX1_15 shp_43 rfl ?_
      refine T_aload_n dX1_gather_107 rfl ?_
      refine T_getv (v := (I 43 3)) dX1_gather_108 fl_RX1_25 shp_43 rfl rfl ?_
      refine T_aload_n dX1_gather_111 rfl ?_
      refine T_iload_n dX1_gather_112 rfl ?_
      refine S_callVI (M' := mX8_isOld) [.int x3] [.int (I 43 3), .ref 45] dX1_gather_113 ml_RX1_50 mkX8_isOld rfl shp_1 rfl rfl rfl (Nat.le_of_ble_eq_true rfl) h (fun r1 I1 L1 h => ?_)
      refine T_if_eq (tgt := 123) dX1_gather_116 (by decide) (tq_itv (fun v => T shp (d + 1) mX1_gather 124 [.ref 43, .ref 1, .ref 30, .int x3, .int (I 36 (x3.toNatClampNeg))] (.int v :: [.int (I 43 3), .ref 45]) I1 L1 (kV F)) 0 1 (fun hJ => ?_) (fun hJ => ?_) ?_)
      ·
          refine T_iconst (v := 0) dX1_gather_123 (by decide +kernel) ?_
          exact hJ
      ·
          refine T_iconst (v := 1) dX1_gather_119 (by decide +kernel) ?_
          refine T_goto (tgt := 124) dX1_gather_120 (by decide) ?_
          exact hJ
      refine T_iastv (j := (I 43 3).toNatClampNeg) dX1_gather_124 shp_45 h.1 rfl ?_
      replace h := h.2
      refine T_aload_n dX1_gather_125 rfl ?_
      refine T_dup dX1_gather_126 rfl ?_
      refine T_getv (v := (I1 43 0)) dX1_gather_127 fl_RX1_21 shp_43 rfl rfl ?_
      refine T_aload_n dX1_gather_130 rfl ?_
      refine T_getr dX1_gather_131 fl_RX1_15 shp_43 rfl ?_
      refine T_aload_n dX1_gather_134 rfl ?_
      refine T_getv (v := (I1 43 3)) dX1_gather_135 fl_RX1_25 shp_43 rfl rfl ?_
      refine T_ialdv (v := ((u_I I1 45 ((I 43 3).toNatClampNeg) (if r1 = 0 then (0 : Int32) else 1)) 45 ((I1 43 3).toNatClampNeg))) (j := (I1 43 3).toNatClampNeg) dX1_gather_138 shp_45 h.1 rfl rfl ?_
      replace h := h.2
      refine T_iadd dX1_gather_139 ?_
      refine T_puti dX1_gather_140 fl_RX1_21 pf_1_0 shp_43 rfl rfl rfl ?_
      refine T_aload_n dX1_gather_143 rfl ?_
      refine T_dup dX1_gather_144 rfl ?_
      refine T_getv (v := (I1 43 3)) dX1_gather_145 fl_RX1_25 shp_43 rfl rfl ?_
      refine T_iconst (v := 1) dX1_gather_148 (by decide +kernel) ?_
      refine T_iadd dX1_gather_149 ?_
      refine T_puti dX1_gather_150 fl_RX1_25 pf_1_3 shp_43 rfl rfl rfl ?_
      refine T_iinc (lv' := [.ref 43, .ref 1, .ref 30, .int (x3 + 1), .int (I 36 (x3.toNatClampNeg))]) dX1_gather_153 rfl (by decide) rfl ?_
      refine T_goto (tgt := 59) dX1_gather_156 (by decide) ?_
      exact T_wk (lv' := [.ref 43, .ref 1, .ref 30, .int (x3 + 1), .null]) ⟨Or.inr rfl, Or.inr rfl, Or.inr rfl, Or.inr rfl, Or.inl rfl, trivial⟩ h

theorem dX1_apart_0 : decode cX1_apart 0 = .ok (.iconst 0, 1) := by decide +kernel
theorem dX1_apart_1 : decode cX1_apart 1 = .ok (.istore_n 1, 1) := by decide +kernel
theorem dX1_apart_2 : decode cX1_apart 2 = .ok (.iconst 0, 1) := by decide +kernel
theorem dX1_apart_3 : decode cX1_apart 3 = .ok (.istore_n 2, 1) := by decide +kernel
theorem dX1_apart_4 : decode cX1_apart 4 = .ok (.iload_n 2, 1) := by decide +kernel
theorem dX1_apart_5 : decode cX1_apart 5 = .ok (.aload_n 0, 1) := by decide +kernel
theorem dX1_apart_6 : decode cX1_apart 6 = .ok (.getfield 25, 3) := by decide +kernel
theorem dX1_apart_9 : decode cX1_apart 9 = .ok (.if_icmp .ge 48, 3) := by decide +kernel
theorem dX1_apart_12 : decode cX1_apart 12 = .ok (.iload_n 1, 1) := by decide +kernel
theorem dX1_apart_13 : decode cX1_apart 13 = .ok (.aload_n 0, 1) := by decide +kernel
theorem dX1_apart_14 : decode cX1_apart 14 = .ok (.getfield 15, 3) := by decide +kernel
theorem dX1_apart_17 : decode cX1_apart 17 = .ok (.iload_n 2, 1) := by decide +kernel
theorem dX1_apart_18 : decode cX1_apart 18 = .ok (.iaload, 1) := by decide +kernel
theorem dX1_apart_19 : decode cX1_apart 19 = .ok (.iconst 1, 1) := by decide +kernel
theorem dX1_apart_20 : decode cX1_apart 20 = .ok (.if_icmp .ne 17, 3) := by decide +kernel
theorem dX1_apart_23 : decode cX1_apart 23 = .ok (.aload_n 0, 1) := by decide +kernel
theorem dX1_apart_24 : decode cX1_apart 24 = .ok (.getfield 53, 3) := by decide +kernel
theorem dX1_apart_27 : decode cX1_apart 27 = .ok (.aload_n 0, 1) := by decide +kernel
theorem dX1_apart_28 : decode cX1_apart 28 = .ok (.getfield 9, 3) := by decide +kernel
theorem dX1_apart_31 : decode cX1_apart 31 = .ok (.iload_n 2, 1) := by decide +kernel
theorem dX1_apart_32 : decode cX1_apart 32 = .ok (.iaload, 1) := by decide +kernel
theorem dX1_apart_33 : decode cX1_apart 33 = .ok (.imul, 1) := by decide +kernel
theorem dX1_apart_34 : decode cX1_apart 34 = .ok (.goto 15, 3) := by decide +kernel
theorem dX1_apart_37 : decode cX1_apart 37 = .ok (.aload_n 0, 1) := by decide +kernel
theorem dX1_apart_38 : decode cX1_apart 38 = .ok (.getfield 21, 3) := by decide +kernel
theorem dX1_apart_41 : decode cX1_apart 41 = .ok (.ineg, 1) := by decide +kernel
theorem dX1_apart_42 : decode cX1_apart 42 = .ok (.aload_n 0, 1) := by decide +kernel
theorem dX1_apart_43 : decode cX1_apart 43 = .ok (.getfield 9, 3) := by decide +kernel
theorem dX1_apart_46 : decode cX1_apart 46 = .ok (.iload_n 2, 1) := by decide +kernel
theorem dX1_apart_47 : decode cX1_apart 47 = .ok (.iaload, 1) := by decide +kernel
theorem dX1_apart_48 : decode cX1_apart 48 = .ok (.imul, 1) := by decide +kernel
theorem dX1_apart_49 : decode cX1_apart 49 = .ok (.iadd, 1) := by decide +kernel
theorem dX1_apart_50 : decode cX1_apart 50 = .ok (.istore_n 1, 1) := by decide +kernel
theorem dX1_apart_51 : decode cX1_apart 51 = .ok (.iinc 2 1, 3) := by decide +kernel
theorem dX1_apart_54 : decode cX1_apart 54 = .ok (.goto (-50), 3) := by decide +kernel
theorem dX1_apart_57 : decode cX1_apart 57 = .ok (.iload_n 1, 1) := by decide +kernel
theorem dX1_apart_58 : decode cX1_apart 58 = .ok (.ireturn, 1) := by decide +kernel
set_option maxRecDepth 100000 in
theorem sgX1_apart_0 {d : Nat} {I : st_I} {L : st_L} {F : Int32 → st_I → st_L → Prop}  (h : TI d mX1_apart 4 [.ref 43, .int 0, .int 0] [] I L F) : EI d mX1_apart [.ref 43] I L F := by
  refine Ev_of (ls0 := 2) (by decide +kernel) rfl rfl rfl ?_
  refine T_iconst (v := 0) dX1_apart_0 (by decide +kernel) ?_
  refine T_istore_n (lv' := [.ref 43, .int 0, .null]) dX1_apart_1 rfl (by decide) rfl ?_
  refine T_iconst (v := 0) dX1_apart_2 (by decide +kernel) ?_
  refine T_istore_n (lv' := [.ref 43, .int 0, .int 0]) dX1_apart_3 rfl (by decide) rfl ?_
  exact h

set_option maxRecDepth 100000 in
theorem sgX1_apart_4 {d : Nat} {I : st_I} {L : st_L} {F : Int32 → st_I → st_L → Prop} {x1 : Int32} {x2 : Int32} (h : (if (I 43 3) ≤ x2 then F x1 I L else vp_in x2 8 ∧ (if (I 45 (x2.toNatClampNeg)) = 1 then vp_in x2 8 ∧ TI d mX1_apart 4 [.ref 43, .int (x1 + ((I 43 1) * (I 44 (x2.toNatClampNeg)))), .int (x2 + 1)] [] I L F else vp_in x2 8 ∧ TI d mX1_apart 4 [.ref 43, .int (x1 + ((-(I 43 0)) * (I 44 (x2.toNatClampNeg)))), .int (x2 + 1)] [] I L F))) : TI d mX1_apart 4 [.ref 43, .int x1, .int x2] [] I L F := by
  refine T_iload_n dX1_apart_4 rfl ?_
  refine T_aload_n dX1_apart_5 rfl ?_
  refine T_getv (v := (I 43 3)) dX1_apart_6 fl_RX1_25 shp_43 rfl rfl ?_
  refine T_icmp_ge (tgt := 57) dX1_apart_9 (by decide) (tq_ite h (fun h => ?_) (fun h => ?_))
  ·
    refine T_iload_n dX1_apart_57 rfl ?_
    exact S_iret rfl dX1_apart_58 h
  ·
    refine T_iload_n dX1_apart_12 rfl ?_
    refine T_aload_n dX1_apart_13 rfl ?_
    refine T_getr dX1_apart_14 fl_RX1_15 shp_43 rfl ?_
    refine T_iload_n dX1_apart_17 rfl ?_
    refine T_ialdv (v := (I 45 (x2.toNatClampNeg))) (j := x2.toNatClampNeg) dX1_apart_18 shp_45 h.1 rfl rfl ?_
    replace h := h.2
    refine T_iconst (v := 1) dX1_apart_19 (by decide +kernel) ?_
    refine T_icmp_ne (tgt := 37) dX1_apart_20 (by decide) (tq_ite h (fun h => ?_) (fun h => ?_))
    ·
      refine T_aload_n dX1_apart_23 rfl ?_
      refine T_getv (v := (I 43 1)) dX1_apart_24 fl_RX1_53 shp_43 rfl rfl ?_
      refine T_aload_n dX1_apart_27 rfl ?_
      refine T_getr dX1_apart_28 fl_RX1_9 shp_43 rfl ?_
      refine T_iload_n dX1_apart_31 rfl ?_
      refine T_ialdv (v := (I 44 (x2.toNatClampNeg))) (j := x2.toNatClampNeg) dX1_apart_32 shp_44 h.1 rfl rfl ?_
      replace h := h.2
      refine T_imul dX1_apart_33 ?_
      refine T_goto (tgt := 49) dX1_apart_34 (by decide) ?_
      refine T_iadd dX1_apart_49 ?_
      refine T_istore_n (lv' := [.ref 43, .int (x1 + ((I 43 1) * (I 44 (x2.toNatClampNeg)))), .int x2]) dX1_apart_50 rfl (by decide) rfl ?_
      refine T_iinc (lv' := [.ref 43, .int (x1 + ((I 43 1) * (I 44 (x2.toNatClampNeg)))), .int (x2 + 1)]) dX1_apart_51 rfl (by decide) rfl ?_
      refine T_goto (tgt := 4) dX1_apart_54 (by decide) ?_
      exact h
    ·
      refine T_aload_n dX1_apart_37 rfl ?_
      refine T_getv (v := (I 43 0)) dX1_apart_38 fl_RX1_21 shp_43 rfl rfl ?_
      refine T_ineg dX1_apart_41 ?_
      refine T_aload_n dX1_apart_42 rfl ?_
      refine T_getr dX1_apart_43 fl_RX1_9 shp_43 rfl ?_
      refine T_iload_n dX1_apart_46 rfl ?_
      refine T_ialdv (v := (I 44 (x2.toNatClampNeg))) (j := x2.toNatClampNeg) dX1_apart_47 shp_44 h.1 rfl rfl ?_
      replace h := h.2
      refine T_imul dX1_apart_48 ?_
      refine T_iadd dX1_apart_49 ?_
      refine T_istore_n (lv' := [.ref 43, .int (x1 + ((-(I 43 0)) * (I 44 (x2.toNatClampNeg)))), .int x2]) dX1_apart_50 rfl (by decide) rfl ?_
      refine T_iinc (lv' := [.ref 43, .int (x1 + ((-(I 43 0)) * (I 44 (x2.toNatClampNeg)))), .int (x2 + 1)]) dX1_apart_51 rfl (by decide) rfl ?_
      refine T_goto (tgt := 4) dX1_apart_54 (by decide) ?_
      exact h

theorem dX1_all_0 : decode cX1_all 0 = .ok (.aload_n 0, 1) := by decide +kernel
theorem dX1_all_1 : decode cX1_all 1 = .ok (.getfield 25, 3) := by decide +kernel
theorem dX1_all_4 : decode cX1_all 4 = .ok (.aload_n 0, 1) := by decide +kernel
theorem dX1_all_5 : decode cX1_all 5 = .ok (.getfield 21, 3) := by decide +kernel
theorem dX1_all_8 : decode cX1_all 8 = .ok (.invokestatic 56, 3) := by decide +kernel
theorem dX1_all_11 : decode cX1_all 11 = .ok (.l2i, 1) := by decide +kernel
theorem dX1_all_12 : decode cX1_all 12 = .ok (.ireturn, 1) := by decide +kernel
set_option maxRecDepth 100000 in
theorem sgX1_all_0 {d : Nat} {I : st_I} {L : st_L} {F : Int32 → st_I → st_L → Prop}  (h : EL d mX10_choose [.int (I 43 3), .int (I 43 0)] I L (fun r1 I1 L1 => F ((r1 : Int64).toInt32) I1 L1)) : EI (d + 1) mX1_all [.ref 43] I L F := by
  refine Ev_of (ls0 := 0) (by decide +kernel) rfl rfl rfl ?_
  refine T_aload_n dX1_all_0 rfl ?_
  refine T_getv (v := (I 43 3)) dX1_all_1 fl_RX1_25 shp_43 rfl rfl ?_
  refine T_aload_n dX1_all_4 rfl ?_
  refine T_getv (v := (I 43 0)) dX1_all_5 fl_RX1_21 shp_43 rfl rfl ?_
  refine S_callSL (M' := mX10_choose) [.int (I 43 3), .int (I 43 0)] [] dX1_all_8 ml_RX1_56 mkX10_choose rfl rfl (Nat.le_of_ble_eq_true rfl) h (fun r1 I1 L1 h => ?_)
  refine T_l2i dX1_all_11 ?_
  exact S_iret rfl dX1_all_12 h

theorem dX1_waysWith_0 : decode cX1_waysWith 0 = .ok (.iconst 0, 1) := by decide +kernel
theorem dX1_waysWith_1 : decode cX1_waysWith 1 = .ok (.istore_n 2, 1) := by decide +kernel
theorem dX1_waysWith_2 : decode cX1_waysWith 2 = .ok (.iconst 0, 1) := by decide +kernel
theorem dX1_waysWith_3 : decode cX1_waysWith 3 = .ok (.istore_n 3, 1) := by decide +kernel
theorem dX1_waysWith_4 : decode cX1_waysWith 4 = .ok (.iload_n 3, 1) := by decide +kernel
theorem dX1_waysWith_5 : decode cX1_waysWith 5 = .ok (.aload_n 0, 1) := by decide +kernel
theorem dX1_waysWith_6 : decode cX1_waysWith 6 = .ok (.getfield 25, 3) := by decide +kernel
theorem dX1_waysWith_9 : decode cX1_waysWith 9 = .ok (.if_icmp .ge 51, 3) := by decide +kernel
theorem dX1_waysWith_12 : decode cX1_waysWith 12 = .ok (.aload_n 0, 1) := by decide +kernel
theorem dX1_waysWith_13 : decode cX1_waysWith 13 = .ok (.getfield 18, 3) := by decide +kernel
theorem dX1_waysWith_16 : decode cX1_waysWith 16 = .ok (.iload_n 3, 1) := by decide +kernel
theorem dX1_waysWith_17 : decode cX1_waysWith 17 = .ok (.aload_n 0, 1) := by decide +kernel
theorem dX1_waysWith_18 : decode cX1_waysWith 18 = .ok (.getfield 9, 3) := by decide +kernel
theorem dX1_waysWith_21 : decode cX1_waysWith 21 = .ok (.iload_n 3, 1) := by decide +kernel
theorem dX1_waysWith_22 : decode cX1_waysWith 22 = .ok (.iaload, 1) := by decide +kernel
theorem dX1_waysWith_23 : decode cX1_waysWith 23 = .ok (.aload_n 0, 1) := by decide +kernel
theorem dX1_waysWith_24 : decode cX1_waysWith 24 = .ok (.getfield 15, 3) := by decide +kernel
theorem dX1_waysWith_27 : decode cX1_waysWith 27 = .ok (.iload_n 3, 1) := by decide +kernel
theorem dX1_waysWith_28 : decode cX1_waysWith 28 = .ok (.iaload, 1) := by decide +kernel
theorem dX1_waysWith_29 : decode cX1_waysWith 29 = .ok (.iload_n 1, 1) := by decide +kernel
theorem dX1_waysWith_30 : decode cX1_waysWith 30 = .ok (.imul, 1) := by decide +kernel
theorem dX1_waysWith_31 : decode cX1_waysWith 31 = .ok (.aload_n 0, 1) := by decide +kernel
theorem dX1_waysWith_32 : decode cX1_waysWith 32 = .ok (.getfield 28, 3) := by decide +kernel
theorem dX1_waysWith_35 : decode cX1_waysWith 35 = .ok (.imul, 1) := by decide +kernel
theorem dX1_waysWith_36 : decode cX1_waysWith 36 = .ok (.iadd, 1) := by decide +kernel
theorem dX1_waysWith_37 : decode cX1_waysWith 37 = .ok (.iastore, 1) := by decide +kernel
theorem dX1_waysWith_38 : decode cX1_waysWith 38 = .ok (.iload_n 2, 1) := by decide +kernel
theorem dX1_waysWith_39 : decode cX1_waysWith 39 = .ok (.aload_n 0, 1) := by decide +kernel
theorem dX1_waysWith_40 : decode cX1_waysWith 40 = .ok (.getfield 15, 3) := by decide +kernel
theorem dX1_waysWith_43 : decode cX1_waysWith 43 = .ok (.iload_n 3, 1) := by decide +kernel
theorem dX1_waysWith_44 : decode cX1_waysWith 44 = .ok (.iaload, 1) := by decide +kernel
theorem dX1_waysWith_45 : decode cX1_waysWith 45 = .ok (.aload_n 0, 1) := by decide +kernel
theorem dX1_waysWith_46 : decode cX1_waysWith 46 = .ok (.getfield 18, 3) := by decide +kernel
theorem dX1_waysWith_49 : decode cX1_waysWith 49 = .ok (.iload_n 3, 1) := by decide +kernel
theorem dX1_waysWith_50 : decode cX1_waysWith 50 = .ok (.iaload, 1) := by decide +kernel
theorem dX1_waysWith_51 : decode cX1_waysWith 51 = .ok (.imul, 1) := by decide +kernel
theorem dX1_waysWith_52 : decode cX1_waysWith 52 = .ok (.iadd, 1) := by decide +kernel
theorem dX1_waysWith_53 : decode cX1_waysWith 53 = .ok (.istore_n 2, 1) := by decide +kernel
theorem dX1_waysWith_54 : decode cX1_waysWith 54 = .ok (.iinc 3 1, 3) := by decide +kernel
theorem dX1_waysWith_57 : decode cX1_waysWith 57 = .ok (.goto (-53), 3) := by decide +kernel
theorem dX1_waysWith_60 : decode cX1_waysWith 60 = .ok (.aload_n 0, 1) := by decide +kernel
theorem dX1_waysWith_61 : decode cX1_waysWith 61 = .ok (.iconst 0, 1) := by decide +kernel
theorem dX1_waysWith_62 : decode cX1_waysWith 62 = .ok (.aload_n 0, 1) := by decide +kernel
theorem dX1_waysWith_63 : decode cX1_waysWith 63 = .ok (.getfield 21, 3) := by decide +kernel
theorem dX1_waysWith_66 : decode cX1_waysWith 66 = .ok (.iload_n 2, 1) := by decide +kernel
theorem dX1_waysWith_67 : decode cX1_waysWith 67 = .ok (.invokestatic 60, 3) := by decide +kernel
theorem dX1_waysWith_70 : decode cX1_waysWith 70 = .ok (.ireturn, 1) := by decide +kernel
set_option maxRecDepth 100000 in
theorem sgX1_waysWith_0 {d : Nat} {I : st_I} {L : st_L} {F : Int32 → st_I → st_L → Prop} {a1 : Int32} (h : TI (d + 1) mX1_waysWith 4 [.ref 43, .int a1, .int 0, .int 0] [] I L F) : EI (d + 1) mX1_waysWith [.ref 43, .int a1] I L F := by
  refine Ev_of (ls0 := 2) (by decide +kernel) rfl rfl rfl ?_
  refine T_iconst (v := 0) dX1_waysWith_0 (by decide +kernel) ?_
  refine T_istore_n (lv' := [.ref 43, .int a1, .int 0, .null]) dX1_waysWith_1 rfl (by decide) rfl ?_
  refine T_iconst (v := 0) dX1_waysWith_2 (by decide +kernel) ?_
  refine T_istore_n (lv' := [.ref 43, .int a1, .int 0, .int 0]) dX1_waysWith_3 rfl (by decide) rfl ?_
  exact h

set_option maxRecDepth 100000 in
theorem sgX1_waysWith_4 {d : Nat} {I : st_I} {L : st_L} {F : Int32 → st_I → st_L → Prop} {x1 : Int32} {x2 : Int32} {x3 : Int32} (h : (if (I 43 3) ≤ x3 then EI d mX1_waysFrom [.ref 43, .int 0, .int (I 43 0), .int x2] I L (fun r1 I1 L1 => F r1 I1 L1) else vp_in x3 8 ∧ vp_in x3 8 ∧ vp_in x3 8 ∧ vp_in x3 8 ∧ vp_in x3 8 ∧ TI (d + 1) mX1_waysWith 4 [.ref 43, .int x1, .int (x2 + ((I 45 (x3.toNatClampNeg)) * ((u_I I 46 (x3.toNatClampNeg) ((I 44 (x3.toNatClampNeg)) + (((I 45 (x3.toNatClampNeg)) * x1) * (I 43 2)))) 46 (x3.toNatClampNeg)))), .int (x3 + 1)] [] (u_I I 46 (x3.toNatClampNeg) ((I 44 (x3.toNatClampNeg)) + (((I 45 (x3.toNatClampNeg)) * x1) * (I 43 2)))) L F)) : TI (d + 1) mX1_waysWith 4 [.ref 43, .int x1, .int x2, .int x3] [] I L F := by
  refine T_iload_n dX1_waysWith_4 rfl ?_
  refine T_aload_n dX1_waysWith_5 rfl ?_
  refine T_getv (v := (I 43 3)) dX1_waysWith_6 fl_RX1_25 shp_43 rfl rfl ?_
  refine T_icmp_ge (tgt := 60) dX1_waysWith_9 (by decide) (tq_ite h (fun h => ?_) (fun h => ?_))
  ·
    refine T_aload_n dX1_waysWith_60 rfl ?_
    refine T_iconst (v := 0) dX1_waysWith_61 (by decide +kernel) ?_
    refine T_aload_n dX1_waysWith_62 rfl ?_
    refine T_getv (v := (I 43 0)) dX1_waysWith_63 fl_RX1_21 shp_43 rfl rfl ?_
    refine T_iload_n dX1_waysWith_66 rfl ?_
    refine S_callSI (M' := mX1_waysFrom) [.ref 43, .int 0, .int (I 43 0), .int x2] [] dX1_waysWith_67 ml_RX1_60 mkX1_waysFrom rfl rfl (Nat.le_of_ble_eq_true rfl) h (fun r1 I1 L1 h => ?_)
    exact S_iret rfl dX1_waysWith_70 h
  ·
    refine T_aload_n dX1_waysWith_12 rfl ?_
    refine T_getr dX1_waysWith_13 fl_RX1_18 shp_43 rfl ?_
    refine T_iload_n dX1_waysWith_16 rfl ?_
    refine T_aload_n dX1_waysWith_17 rfl ?_
    refine T_getr dX1_waysWith_18 fl_RX1_9 shp_43 rfl ?_
    refine T_iload_n dX1_waysWith_21 rfl ?_
    refine T_ialdv (v := (I 44 (x3.toNatClampNeg))) (j := x3.toNatClampNeg) dX1_waysWith_22 shp_44 h.1 rfl rfl ?_
    replace h := h.2
    refine T_aload_n dX1_waysWith_23 rfl ?_
    refine T_getr dX1_waysWith_24 fl_RX1_15 shp_43 rfl ?_
    refine T_iload_n dX1_waysWith_27 rfl ?_
    refine T_ialdv (v := (I 45 (x3.toNatClampNeg))) (j := x3.toNatClampNeg) dX1_waysWith_28 shp_45 h.1 rfl rfl ?_
    replace h := h.2
    refine T_iload_n dX1_waysWith_29 rfl ?_
    refine T_imul dX1_waysWith_30 ?_
    refine T_aload_n dX1_waysWith_31 rfl ?_
    refine T_getv (v := (I 43 2)) dX1_waysWith_32 fl_RX1_28 shp_43 rfl rfl ?_
    refine T_imul dX1_waysWith_35 ?_
    refine T_iadd dX1_waysWith_36 ?_
    refine T_iastv (j := x3.toNatClampNeg) dX1_waysWith_37 shp_46 h.1 rfl ?_
    replace h := h.2
    refine T_iload_n dX1_waysWith_38 rfl ?_
    refine T_aload_n dX1_waysWith_39 rfl ?_
    refine T_getr dX1_waysWith_40 fl_RX1_15 shp_43 rfl ?_
    refine T_iload_n dX1_waysWith_43 rfl ?_
    refine T_ialdv (v := (I 45 (x3.toNatClampNeg))) (j := x3.toNatClampNeg) dX1_waysWith_44 shp_45 h.1 rfl rfl ?_
    replace h := h.2
    refine T_aload_n dX1_waysWith_45 rfl ?_
    refine T_getr dX1_waysWith_46 fl_RX1_18 shp_43 rfl ?_
    refine T_iload_n dX1_waysWith_49 rfl ?_
    refine T_ialdv (v := ((u_I I 46 (x3.toNatClampNeg) ((I 44 (x3.toNatClampNeg)) + (((I 45 (x3.toNatClampNeg)) * x1) * (I 43 2)))) 46 (x3.toNatClampNeg))) (j := x3.toNatClampNeg) dX1_waysWith_50 shp_46 h.1 rfl rfl ?_
    replace h := h.2
    refine T_imul dX1_waysWith_51 ?_
    refine T_iadd dX1_waysWith_52 ?_
    refine T_istore_n (lv' := [.ref 43, .int x1, .int (x2 + ((I 45 (x3.toNatClampNeg)) * ((u_I I 46 (x3.toNatClampNeg) ((I 44 (x3.toNatClampNeg)) + (((I 45 (x3.toNatClampNeg)) * x1) * (I 43 2)))) 46 (x3.toNatClampNeg)))), .int x3]) dX1_waysWith_53 rfl (by decide) rfl ?_
    refine T_iinc (lv' := [.ref 43, .int x1, .int (x2 + ((I 45 (x3.toNatClampNeg)) * ((u_I I 46 (x3.toNatClampNeg) ((I 44 (x3.toNatClampNeg)) + (((I 45 (x3.toNatClampNeg)) * x1) * (I 43 2)))) 46 (x3.toNatClampNeg)))), .int (x3 + 1)]) dX1_waysWith_54 rfl (by decide) rfl ?_
    refine T_goto (tgt := 4) dX1_waysWith_57 (by decide) ?_
    exact h

theorem dX1_waysFrom_0 : decode cX1_waysFrom 0 = .ok (.iload_n 2, 1) := by decide +kernel
theorem dX1_waysFrom_1 : decode cX1_waysFrom 1 = .ok (.ifCond .ne 13, 3) := by decide +kernel
theorem dX1_waysFrom_4 : decode cX1_waysFrom 4 = .ok (.iload_n 3, 1) := by decide +kernel
theorem dX1_waysFrom_5 : decode cX1_waysFrom 5 = .ok (.ifCond .gt 7, 3) := by decide +kernel
theorem dX1_waysFrom_8 : decode cX1_waysFrom 8 = .ok (.iconst 1, 1) := by decide +kernel
theorem dX1_waysFrom_9 : decode cX1_waysFrom 9 = .ok (.goto 4, 3) := by decide +kernel
theorem dX1_waysFrom_12 : decode cX1_waysFrom 12 = .ok (.iconst 0, 1) := by decide +kernel
theorem dX1_waysFrom_13 : decode cX1_waysFrom 13 = .ok (.ireturn, 1) := by decide +kernel
theorem dX1_waysFrom_14 : decode cX1_waysFrom 14 = .ok (.aload_n 0, 1) := by decide +kernel
theorem dX1_waysFrom_15 : decode cX1_waysFrom 15 = .ok (.getfield 25, 3) := by decide +kernel
theorem dX1_waysFrom_18 : decode cX1_waysFrom 18 = .ok (.iload_n 1, 1) := by decide +kernel
theorem dX1_waysFrom_19 : decode cX1_waysFrom 19 = .ok (.isub, 1) := by decide +kernel
theorem dX1_waysFrom_20 : decode cX1_waysFrom 20 = .ok (.iload_n 2, 1) := by decide +kernel
theorem dX1_waysFrom_21 : decode cX1_waysFrom 21 = .ok (.if_icmp .ge 5, 3) := by decide +kernel
theorem dX1_waysFrom_24 : decode cX1_waysFrom 24 = .ok (.iconst 0, 1) := by decide +kernel
theorem dX1_waysFrom_25 : decode cX1_waysFrom 25 = .ok (.ireturn, 1) := by decide +kernel
theorem dX1_waysFrom_26 : decode cX1_waysFrom 26 = .ok (.aload_n 0, 1) := by decide +kernel
theorem dX1_waysFrom_27 : decode cX1_waysFrom 27 = .ok (.iload_n 1, 1) := by decide +kernel
theorem dX1_waysFrom_28 : decode cX1_waysFrom 28 = .ok (.iconst 1, 1) := by decide +kernel
theorem dX1_waysFrom_29 : decode cX1_waysFrom 29 = .ok (.iadd, 1) := by decide +kernel
theorem dX1_waysFrom_30 : decode cX1_waysFrom 30 = .ok (.iload_n 2, 1) := by decide +kernel
theorem dX1_waysFrom_31 : decode cX1_waysFrom 31 = .ok (.iconst 1, 1) := by decide +kernel
theorem dX1_waysFrom_32 : decode cX1_waysFrom 32 = .ok (.isub, 1) := by decide +kernel
theorem dX1_waysFrom_33 : decode cX1_waysFrom 33 = .ok (.iload_n 3, 1) := by decide +kernel
theorem dX1_waysFrom_34 : decode cX1_waysFrom 34 = .ok (.aload_n 0, 1) := by decide +kernel
theorem dX1_waysFrom_35 : decode cX1_waysFrom 35 = .ok (.getfield 18, 3) := by decide +kernel
theorem dX1_waysFrom_38 : decode cX1_waysFrom 38 = .ok (.iload_n 1, 1) := by decide +kernel
theorem dX1_waysFrom_39 : decode cX1_waysFrom 39 = .ok (.iaload, 1) := by decide +kernel
theorem dX1_waysFrom_40 : decode cX1_waysFrom 40 = .ok (.isub, 1) := by decide +kernel
theorem dX1_waysFrom_41 : decode cX1_waysFrom 41 = .ok (.invokestatic 60, 3) := by decide +kernel
theorem dX1_waysFrom_44 : decode cX1_waysFrom 44 = .ok (.aload_n 0, 1) := by decide +kernel
theorem dX1_waysFrom_45 : decode cX1_waysFrom 45 = .ok (.iload_n 1, 1) := by decide +kernel
theorem dX1_waysFrom_46 : decode cX1_waysFrom 46 = .ok (.iconst 1, 1) := by decide +kernel
theorem dX1_waysFrom_47 : decode cX1_waysFrom 47 = .ok (.iadd, 1) := by decide +kernel
theorem dX1_waysFrom_48 : decode cX1_waysFrom 48 = .ok (.iload_n 2, 1) := by decide +kernel
theorem dX1_waysFrom_49 : decode cX1_waysFrom 49 = .ok (.iload_n 3, 1) := by decide +kernel
theorem dX1_waysFrom_50 : decode cX1_waysFrom 50 = .ok (.invokestatic 60, 3) := by decide +kernel
theorem dX1_waysFrom_53 : decode cX1_waysFrom 53 = .ok (.iadd, 1) := by decide +kernel
theorem dX1_waysFrom_54 : decode cX1_waysFrom 54 = .ok (.ireturn, 1) := by decide +kernel
set_option maxRecDepth 100000 in
theorem sgX1_waysFrom_0 {d : Nat} {I : st_I} {L : st_L} {F : Int32 → st_I → st_L → Prop} {a2 : Int32} {a3 : Int32} {a4 : Int32} (h : (if a3 = 0 then F (if 0 < a4 then (0 : Int32) else 1) I L else (if a3 ≤ ((I 43 3) - a2) then vp_in a2 8 ∧ EI d mX1_waysFrom [.ref 43, .int (a2 + 1), .int (a3 - 1), .int (a4 - (I 46 (a2.toNatClampNeg)))] I L (fun r1 I1 L1 => EI d mX1_waysFrom [.ref 43, .int (a2 + 1), .int a3, .int a4] I1 L1 (fun r2 I2 L2 => F (r1 + r2) I2 L2)) else F 0 I L))) : EI (d + 1) mX1_waysFrom [.ref 43, .int a2, .int a3, .int a4] I L F := by
  refine Ev_of (ls0 := 0) (by decide +kernel) rfl rfl rfl ?_
  refine T_iload_n dX1_waysFrom_0 rfl ?_
  refine T_if_ne (tgt := 14) dX1_waysFrom_1 (by decide) (tq_ite h (fun h => ?_) (fun h => ?_))
  ·
    refine T_iload_n dX1_waysFrom_4 rfl ?_
    refine T_if_gt (tgt := 12) dX1_waysFrom_5 (by decide) (tq_itv (fun v => T shp (d + 1) mX1_waysFrom 13 [.ref 43, .int a2, .int a3, .int a4] (.int v :: []) I L (kI F)) 0 1 (fun hJ => ?_) (fun hJ => ?_) ?_)
    ·
        refine T_iconst (v := 0) dX1_waysFrom_12 (by decide +kernel) ?_
        exact hJ
    ·
        refine T_iconst (v := 1) dX1_waysFrom_8 (by decide +kernel) ?_
        refine T_goto (tgt := 13) dX1_waysFrom_9 (by decide) ?_
        exact hJ
    exact S_iret rfl dX1_waysFrom_13 h
  ·
    refine T_aload_n dX1_waysFrom_14 rfl ?_
    refine T_getv (v := (I 43 3)) dX1_waysFrom_15 fl_RX1_25 shp_43 rfl rfl ?_
    refine T_iload_n dX1_waysFrom_18 rfl ?_
    refine T_isub dX1_waysFrom_19 ?_
    refine T_iload_n dX1_waysFrom_20 rfl ?_
    refine T_icmp_ge (tgt := 26) dX1_waysFrom_21 (by decide) (tq_ite h (fun h => ?_) (fun h => ?_))
    ·
      refine T_aload_n dX1_waysFrom_26 rfl ?_
      refine T_iload_n dX1_waysFrom_27 rfl ?_
      refine T_iconst (v := 1) dX1_waysFrom_28 (by decide +kernel) ?_
      refine T_iadd dX1_waysFrom_29 ?_
      refine T_iload_n dX1_waysFrom_30 rfl ?_
      refine T_iconst (v := 1) dX1_waysFrom_31 (by decide +kernel) ?_
      refine T_isub dX1_waysFrom_32 ?_
      refine T_iload_n dX1_waysFrom_33 rfl ?_
      refine T_aload_n dX1_waysFrom_34 rfl ?_
      refine T_getr dX1_waysFrom_35 fl_RX1_18 shp_43 rfl ?_
      refine T_iload_n dX1_waysFrom_38 rfl ?_
      refine T_ialdv (v := (I 46 (a2.toNatClampNeg))) (j := a2.toNatClampNeg) dX1_waysFrom_39 shp_46 h.1 rfl rfl ?_
      replace h := h.2
      refine T_isub dX1_waysFrom_40 ?_
      refine S_callSI (M' := mX1_waysFrom) [.ref 43, .int (a2 + 1), .int (a3 - 1), .int (a4 - (I 46 (a2.toNatClampNeg)))] [] dX1_waysFrom_41 ml_RX1_60 mkX1_waysFrom rfl rfl (Nat.le_of_ble_eq_true rfl) h (fun r1 I1 L1 h => ?_)
      refine T_aload_n dX1_waysFrom_44 rfl ?_
      refine T_iload_n dX1_waysFrom_45 rfl ?_
      refine T_iconst (v := 1) dX1_waysFrom_46 (by decide +kernel) ?_
      refine T_iadd dX1_waysFrom_47 ?_
      refine T_iload_n dX1_waysFrom_48 rfl ?_
      refine T_iload_n dX1_waysFrom_49 rfl ?_
      refine S_callSI (M' := mX1_waysFrom) [.ref 43, .int (a2 + 1), .int a3, .int a4] [.int r1] dX1_waysFrom_50 ml_RX1_60 mkX1_waysFrom rfl rfl (Nat.le_of_ble_eq_true rfl) h (fun r2 I2 L2 h => ?_)
      refine T_iadd dX1_waysFrom_53 ?_
      exact S_iret rfl dX1_waysFrom_54 h
    ·
      refine T_iconst (v := 0) dX1_waysFrom_24 (by decide +kernel) ?_
      exact S_iret rfl dX1_waysFrom_25 h

theorem dX1_smallest_0 : decode cX1_smallest 0 = .ok (.aload_n 0, 1) := by decide +kernel
theorem dX1_smallest_1 : decode cX1_smallest 1 = .ok (.invokevirtual 64, 3) := by decide +kernel
theorem dX1_smallest_4 : decode cX1_smallest 4 = .ok (.istore_n 1, 1) := by decide +kernel
theorem dX1_smallest_5 : decode cX1_smallest 5 = .ok (.iconst 0, 1) := by decide +kernel
theorem dX1_smallest_6 : decode cX1_smallest 6 = .ok (.istore_n 2, 1) := by decide +kernel
theorem dX1_smallest_7 : decode cX1_smallest 7 = .ok (.iload_n 2, 1) := by decide +kernel
theorem dX1_smallest_8 : decode cX1_smallest 8 = .ok (.bipush 100, 2) := by decide +kernel
theorem dX1_smallest_10 : decode cX1_smallest 10 = .ok (.if_icmp .gt 31, 3) := by decide +kernel
theorem dX1_smallest_13 : decode cX1_smallest 13 = .ok (.iload_n 1, 1) := by decide +kernel
theorem dX1_smallest_14 : decode cX1_smallest 14 = .ok (.bipush 20, 2) := by decide +kernel
theorem dX1_smallest_16 : decode cX1_smallest 16 = .ok (.if_icmp .lt 25, 3) := by decide +kernel
theorem dX1_smallest_19 : decode cX1_smallest 19 = .ok (.aload_n 0, 1) := by decide +kernel
theorem dX1_smallest_20 : decode cX1_smallest 20 = .ok (.iload_n 2, 1) := by decide +kernel
theorem dX1_smallest_21 : decode cX1_smallest 21 = .ok (.invokevirtual 68, 3) := by decide +kernel
theorem dX1_smallest_24 : decode cX1_smallest 24 = .ok (.i2l, 1) := by decide +kernel
theorem dX1_smallest_25 : decode cX1_smallest 25 = .ok (.iload_n 1, 1) := by decide +kernel
theorem dX1_smallest_26 : decode cX1_smallest 26 = .ok (.i2l, 1) := by decide +kernel
theorem dX1_smallest_27 : decode cX1_smallest 27 = .ok (.invokestatic 72, 3) := by decide +kernel
theorem dX1_smallest_30 : decode cX1_smallest 30 = .ok (.ifCond .eq 5, 3) := by decide +kernel
theorem dX1_smallest_33 : decode cX1_smallest 33 = .ok (.iload_n 2, 1) := by decide +kernel
theorem dX1_smallest_34 : decode cX1_smallest 34 = .ok (.ireturn, 1) := by decide +kernel
theorem dX1_smallest_35 : decode cX1_smallest 35 = .ok (.iinc 2 1, 3) := by decide +kernel
theorem dX1_smallest_38 : decode cX1_smallest 38 = .ok (.goto (-31), 3) := by decide +kernel
theorem dX1_smallest_41 : decode cX1_smallest 41 = .ok (.bipush (-2), 2) := by decide +kernel
theorem dX1_smallest_43 : decode cX1_smallest 43 = .ok (.ireturn, 1) := by decide +kernel
set_option maxRecDepth 100000 in
theorem sgX1_smallest_0 {d : Nat} {I : st_I} {L : st_L} {F : Int32 → st_I → st_L → Prop}  (h : EI d mX1_all [.ref 43] I L (fun r1 I1 L1 => TI (d + 1) mX1_smallest 7 [.ref 43, .int r1, .int 0] [] I1 L1 F)) : EI (d + 1) mX1_smallest [.ref 43] I L F := by
  refine Ev_of (ls0 := 2) (by decide +kernel) rfl rfl rfl ?_
  refine T_aload_n dX1_smallest_0 rfl ?_
  refine S_callVI (M' := mX1_all) [] [] dX1_smallest_1 ml_RX1_64 mkX1_all rfl shp_43 rfl rfl rfl (Nat.le_of_ble_eq_true rfl) h (fun r1 I1 L1 h => ?_)
  refine T_istore_n (lv' := [.ref 43, .int r1, .null]) dX1_smallest_4 rfl (by decide) rfl ?_
  refine T_iconst (v := 0) dX1_smallest_5 (by decide +kernel) ?_
  refine T_istore_n (lv' := [.ref 43, .int r1, .int 0]) dX1_smallest_6 rfl (by decide) rfl ?_
  exact h

set_option maxRecDepth 100000 in
theorem sgX1_smallest_7 {d : Nat} {I : st_I} {L : st_L} {F : Int32 → st_I → st_L → Prop} {x1 : Int32} {x2 : Int32} (h : (if 100 < x2 then F (-2) I L else (if x1 < 20 then F (-2) I L else EI d mX1_waysWith [.ref 43, .int x2] I L (fun r1 I1 L1 => EI d mX10_isRare [.long ((r1 : Int32).toInt64), .long ((x1 : Int32).toInt64)] I1 L1 (fun r2 I2 L2 => (if r2 = 0 then TI (d + 1) mX1_smallest 7 [.ref 43, .int x1, .int (x2 + 1)] [] I2 L2 F else F x2 I2 L2)))))) : TI (d + 1) mX1_smallest 7 [.ref 43, .int x1, .int x2] [] I L F := by
  refine T_iload_n dX1_smallest_7 rfl ?_
  refine T_bipush (v := 100) dX1_smallest_8 (by decide +kernel) ?_
  refine T_icmp_gt (tgt := 41) dX1_smallest_10 (by decide) (tq_ite h (fun h => ?_) (fun h => ?_))
  ·
    refine T_bipush (v := (-2)) dX1_smallest_41 (by decide +kernel) ?_
    exact S_iret rfl dX1_smallest_43 h
  ·
    refine T_iload_n dX1_smallest_13 rfl ?_
    refine T_bipush (v := 20) dX1_smallest_14 (by decide +kernel) ?_
    refine T_icmp_lt (tgt := 41) dX1_smallest_16 (by decide) (tq_ite h (fun h => ?_) (fun h => ?_))
    ·
      refine T_bipush (v := (-2)) dX1_smallest_41 (by decide +kernel) ?_
      exact S_iret rfl dX1_smallest_43 h
    ·
      refine T_aload_n dX1_smallest_19 rfl ?_
      refine T_iload_n dX1_smallest_20 rfl ?_
      refine S_callVI (M' := mX1_waysWith) [.int x2] [] dX1_smallest_21 ml_RX1_68 mkX1_waysWith rfl shp_43 rfl rfl rfl (Nat.le_of_ble_eq_true rfl) h (fun r1 I1 L1 h => ?_)
      refine T_i2l dX1_smallest_24 ?_
      refine T_iload_n dX1_smallest_25 rfl ?_
      refine T_i2l dX1_smallest_26 ?_
      refine S_callSI (M' := mX10_isRare) [.long ((r1 : Int32).toInt64), .long ((x1 : Int32).toInt64)] [] dX1_smallest_27 ml_RX1_72 mkX10_isRare rfl rfl (Nat.le_of_ble_eq_true rfl) h (fun r2 I2 L2 h => ?_)
      refine T_if_eq (tgt := 35) dX1_smallest_30 (by decide) (tq_ite h (fun h => ?_) (fun h => ?_))
      ·
        refine T_iinc (lv' := [.ref 43, .int x1, .int (x2 + 1)]) dX1_smallest_35 rfl (by decide) rfl ?_
        refine T_goto (tgt := 7) dX1_smallest_38 (by decide) ?_
        exact h
      ·
        refine T_iload_n dX1_smallest_33 rfl ?_
        exact S_iret rfl dX1_smallest_34 h

theorem dX9_clear_0 : decode cX9_clear 0 = .ok (.aload_n 0, 1) := by decide +kernel
theorem dX9_clear_1 : decode cX9_clear 1 = .ok (.iconst 0, 1) := by decide +kernel
theorem dX9_clear_2 : decode cX9_clear 2 = .ok (.putfield 15, 3) := by decide +kernel
theorem dX9_clear_5 : decode cX9_clear 5 = .ok (.aload_n 0, 1) := by decide +kernel
theorem dX9_clear_6 : decode cX9_clear 6 = .ok (.iconst 0, 1) := by decide +kernel
theorem dX9_clear_7 : decode cX9_clear 7 = .ok (.putfield 19, 3) := by decide +kernel
theorem dX9_clear_10 : decode cX9_clear 10 = .ok (.aload_n 0, 1) := by decide +kernel
theorem dX9_clear_11 : decode cX9_clear 11 = .ok (.iconst 0, 1) := by decide +kernel
theorem dX9_clear_12 : decode cX9_clear 12 = .ok (.putfield 22, 3) := by decide +kernel
theorem dX9_clear_15 : decode cX9_clear 15 = .ok (.return_, 1) := by decide +kernel
set_option maxRecDepth 100000 in
theorem sgX9_clear_0 {d : Nat} {I : st_I} {L : st_L} {F : st_I → st_L → Prop}  (h : F (u_I (u_I (u_I I 47 0 0) 47 1 0) 47 2 0) L) : EV d mX9_clear [.ref 47] I L F := by
  refine Ev_of (ls0 := 0) (by decide +kernel) rfl rfl rfl ?_
  refine T_aload_n dX9_clear_0 rfl ?_
  refine T_iconst (v := 0) dX9_clear_1 (by decide +kernel) ?_
  refine T_puti dX9_clear_2 fl_RX9_15 pf_9_0 shp_47 rfl rfl rfl ?_
  refine T_aload_n dX9_clear_5 rfl ?_
  refine T_iconst (v := 0) dX9_clear_6 (by decide +kernel) ?_
  refine T_puti dX9_clear_7 fl_RX9_19 pf_9_1 shp_47 rfl rfl rfl ?_
  refine T_aload_n dX9_clear_10 rfl ?_
  refine T_iconst (v := 0) dX9_clear_11 (by decide +kernel) ?_
  refine T_puti dX9_clear_12 fl_RX9_22 pf_9_2 shp_47 rfl rfl rfl ?_
  exact S_vret rfl dX9_clear_15 h

theorem dX9_add_0 : decode cX9_add 0 = .ok (.aload_n 0, 1) := by decide +kernel
theorem dX9_add_1 : decode cX9_add 1 = .ok (.getfield 15, 3) := by decide +kernel
theorem dX9_add_4 : decode cX9_add 4 = .ok (.bipush 12, 2) := by decide +kernel
theorem dX9_add_6 : decode cX9_add 6 = .ok (.if_icmp .ge 23, 3) := by decide +kernel
theorem dX9_add_9 : decode cX9_add 9 = .ok (.aload_n 0, 1) := by decide +kernel
theorem dX9_add_10 : decode cX9_add 10 = .ok (.getfield 11, 3) := by decide +kernel
theorem dX9_add_13 : decode cX9_add 13 = .ok (.aload_n 0, 1) := by decide +kernel
theorem dX9_add_14 : decode cX9_add 14 = .ok (.getfield 15, 3) := by decide +kernel
theorem dX9_add_17 : decode cX9_add 17 = .ok (.iload_n 1, 1) := by decide +kernel
theorem dX9_add_18 : decode cX9_add 18 = .ok (.iastore, 1) := by decide +kernel
theorem dX9_add_19 : decode cX9_add 19 = .ok (.aload_n 0, 1) := by decide +kernel
theorem dX9_add_20 : decode cX9_add 20 = .ok (.dup, 1) := by decide +kernel
theorem dX9_add_21 : decode cX9_add 21 = .ok (.getfield 15, 3) := by decide +kernel
theorem dX9_add_24 : decode cX9_add 24 = .ok (.iconst 1, 1) := by decide +kernel
theorem dX9_add_25 : decode cX9_add 25 = .ok (.iadd, 1) := by decide +kernel
theorem dX9_add_26 : decode cX9_add 26 = .ok (.putfield 15, 3) := by decide +kernel
theorem dX9_add_29 : decode cX9_add 29 = .ok (.return_, 1) := by decide +kernel
set_option maxRecDepth 100000 in
theorem sgX9_add_0 {d : Nat} {I : st_I} {L : st_L} {F : st_I → st_L → Prop} {a1 : Int32} (h : (if 12 ≤ (I 47 0) then F I L else vp_in (I 47 0) 12 ∧ F (u_I (u_I I 48 ((I 47 0).toNatClampNeg) a1) 47 0 ((I 47 0) + 1)) L)) : EV d mX9_add [.ref 47, .int a1] I L F := by
  refine Ev_of (ls0 := 0) (by decide +kernel) rfl rfl rfl ?_
  refine T_aload_n dX9_add_0 rfl ?_
  refine T_getv (v := (I 47 0)) dX9_add_1 fl_RX9_15 shp_47 rfl rfl ?_
  refine T_bipush (v := 12) dX9_add_4 (by decide +kernel) ?_
  refine T_icmp_ge (tgt := 29) dX9_add_6 (by decide) (tq_ite h (fun h => ?_) (fun h => ?_))
  ·
    exact S_vret rfl dX9_add_29 h
  ·
    refine T_aload_n dX9_add_9 rfl ?_
    refine T_getr dX9_add_10 fl_RX9_11 shp_47 rfl ?_
    refine T_aload_n dX9_add_13 rfl ?_
    refine T_getv (v := (I 47 0)) dX9_add_14 fl_RX9_15 shp_47 rfl rfl ?_
    refine T_iload_n dX9_add_17 rfl ?_
    refine T_iastv (j := (I 47 0).toNatClampNeg) dX9_add_18 shp_48 h.1 rfl ?_
    replace h := h.2
    refine T_aload_n dX9_add_19 rfl ?_
    refine T_dup dX9_add_20 rfl ?_
    refine T_getv (v := (I 47 0)) dX9_add_21 fl_RX9_15 shp_47 rfl rfl ?_
    refine T_iconst (v := 1) dX9_add_24 (by decide +kernel) ?_
    refine T_iadd dX9_add_25 ?_
    refine T_puti dX9_add_26 fl_RX9_15 pf_9_0 shp_47 rfl rfl rfl ?_
    exact S_vret rfl dX9_add_29 h

theorem dX9_gatherPlayers_0 : decode cX9_gatherPlayers 0 = .ok (.aload_n 0, 1) := by decide +kernel
theorem dX9_gatherPlayers_1 : decode cX9_gatherPlayers 1 = .ok (.invokevirtual 25, 3) := by decide +kernel
theorem dX9_gatherPlayers_4 : decode cX9_gatherPlayers 4 = .ok (.iconst 0, 1) := by decide +kernel
theorem dX9_gatherPlayers_5 : decode cX9_gatherPlayers 5 = .ok (.istore_n 3, 1) := by decide +kernel
theorem dX9_gatherPlayers_6 : decode cX9_gatherPlayers 6 = .ok (.iload_n 3, 1) := by decide +kernel
theorem dX9_gatherPlayers_7 : decode cX9_gatherPlayers 7 = .ok (.aload_n 1, 1) := by decide +kernel
theorem dX9_gatherPlayers_8 : decode cX9_gatherPlayers 8 = .ok (.getfield 28, 3) := by decide +kernel
theorem dX9_gatherPlayers_11 : decode cX9_gatherPlayers 11 = .ok (.if_icmp .ge 24, 3) := by decide +kernel
theorem dX9_gatherPlayers_14 : decode cX9_gatherPlayers 14 = .ok (.aload_n 1, 1) := by decide +kernel
theorem dX9_gatherPlayers_15 : decode cX9_gatherPlayers 15 = .ok (.iload_n 3, 1) := by decide +kernel
theorem dX9_gatherPlayers_16 : decode cX9_gatherPlayers 16 = .ok (.invokevirtual 33, 3) := by decide +kernel
theorem dX9_gatherPlayers_19 : decode cX9_gatherPlayers 19 = .ok (.ifCond .eq 10, 3) := by decide +kernel
theorem dX9_gatherPlayers_22 : decode cX9_gatherPlayers 22 = .ok (.aload_n 0, 1) := by decide +kernel
theorem dX9_gatherPlayers_23 : decode cX9_gatherPlayers 23 = .ok (.aload_n 1, 1) := by decide +kernel
theorem dX9_gatherPlayers_24 : decode cX9_gatherPlayers 24 = .ok (.aload_n 2, 1) := by decide +kernel
theorem dX9_gatherPlayers_25 : decode cX9_gatherPlayers 25 = .ok (.iload_n 3, 1) := by decide +kernel
theorem dX9_gatherPlayers_26 : decode cX9_gatherPlayers 26 = .ok (.invokevirtual 37, 3) := by decide +kernel
theorem dX9_gatherPlayers_29 : decode cX9_gatherPlayers 29 = .ok (.iinc 3 1, 3) := by decide +kernel
theorem dX9_gatherPlayers_32 : decode cX9_gatherPlayers 32 = .ok (.goto (-26), 3) := by decide +kernel
theorem dX9_gatherPlayers_35 : decode cX9_gatherPlayers 35 = .ok (.return_, 1) := by decide +kernel
set_option maxRecDepth 100000 in
theorem sgX9_gatherPlayers_0 {d : Nat} {I : st_I} {L : st_L} {F : st_I → st_L → Prop}  (h : EV d mX9_clear [.ref 47] I L (fun I1 L1 => TV (d + 1) mX9_gatherPlayers 6 [.ref 47, .ref 1, .ref 30, .int 0] [] I1 L1 F)) : EV (d + 1) mX9_gatherPlayers [.ref 47, .ref 1, .ref 30] I L F := by
  refine Ev_of (ls0 := 1) (by decide +kernel) rfl rfl rfl ?_
  refine T_aload_n dX9_gatherPlayers_0 rfl ?_
  refine S_callVV (M' := mX9_clear) [] [] dX9_gatherPlayers_1 ml_RX9_25 mkX9_clear rfl shp_47 rfl rfl rfl (Nat.le_of_ble_eq_true rfl) h (fun I1 L1 h => ?_)
  refine T_iconst (v := 0) dX9_gatherPlayers_4 (by decide +kernel) ?_
  refine T_istore_n (lv' := [.ref 47, .ref 1, .ref 30, .int 0]) dX9_gatherPlayers_5 rfl (by decide) rfl ?_
  exact h

set_option maxRecDepth 100000 in
theorem sgX9_gatherPlayers_6 {d : Nat} {I : st_I} {L : st_L} {F : st_I → st_L → Prop} {x3 : Int32} (h : (if (I 1 1) ≤ x3 then F I L else EI d mX8_isPlayer [.ref 1, .int x3] I L (fun r1 I1 L1 => (if r1 = 0 then TV (d + 1) mX9_gatherPlayers 6 [.ref 47, .ref 1, .ref 30, .int (x3 + 1)] [] I1 L1 F else EV d mX9_gatherPlayer [.ref 47, .ref 1, .ref 30, .int x3] I1 L1 (fun I2 L2 => TV (d + 1) mX9_gatherPlayers 6 [.ref 47, .ref 1, .ref 30, .int (x3 + 1)] [] I2 L2 F))))) : TV (d + 1) mX9_gatherPlayers 6 [.ref 47, .ref 1, .ref 30, .int x3] [] I L F := by
  refine T_iload_n dX9_gatherPlayers_6 rfl ?_
  refine T_aload_n dX9_gatherPlayers_7 rfl ?_
  refine T_getv (v := (I 1 1)) dX9_gatherPlayers_8 fl_RX9_28 shp_1 rfl rfl ?_
  refine T_icmp_ge (tgt := 35) dX9_gatherPlayers_11 (by decide) (tq_ite h (fun h => ?_) (fun h => ?_))
  ·
    exact S_vret rfl dX9_gatherPlayers_35 h
  ·
    refine T_aload_n dX9_gatherPlayers_14 rfl ?_
    refine T_iload_n dX9_gatherPlayers_15 rfl ?_
    refine S_callVI (M' := mX8_isPlayer) [.int x3] [] dX9_gatherPlayers_16 ml_RX9_33 mkX8_isPlayer rfl shp_1 rfl rfl rfl (Nat.le_of_ble_eq_true rfl) h (fun r1 I1 L1 h => ?_)
    refine T_if_eq (tgt := 29) dX9_gatherPlayers_19 (by decide) (tq_ite h (fun h => ?_) (fun h => ?_))
    ·
      refine T_iinc (lv' := [.ref 47, .ref 1, .ref 30, .int (x3 + 1)]) dX9_gatherPlayers_29 rfl (by decide) rfl ?_
      refine T_goto (tgt := 6) dX9_gatherPlayers_32 (by decide) ?_
      exact h
    ·
      refine T_aload_n dX9_gatherPlayers_22 rfl ?_
      refine T_aload_n dX9_gatherPlayers_23 rfl ?_
      refine T_aload_n dX9_gatherPlayers_24 rfl ?_
      refine T_iload_n dX9_gatherPlayers_25 rfl ?_
      refine S_callVV (M' := mX9_gatherPlayer) [.ref 1, .ref 30, .int x3] [] dX9_gatherPlayers_26 ml_RX9_37 mkX9_gatherPlayer rfl shp_47 rfl rfl rfl (Nat.le_of_ble_eq_true rfl) h (fun I2 L2 h => ?_)
      refine T_iinc (lv' := [.ref 47, .ref 1, .ref 30, .int (x3 + 1)]) dX9_gatherPlayers_29 rfl (by decide) rfl ?_
      refine T_goto (tgt := 6) dX9_gatherPlayers_32 (by decide) ?_
      exact h

theorem dX9_gatherPlayer_0 : decode cX9_gatherPlayer 0 = .ok (.iconst 0, 1) := by decide +kernel
theorem dX9_gatherPlayer_1 : decode cX9_gatherPlayer 1 = .ok (.istore 4, 2) := by decide +kernel
theorem dX9_gatherPlayer_3 : decode cX9_gatherPlayer 3 = .ok (.iconst 0, 1) := by decide +kernel
theorem dX9_gatherPlayer_4 : decode cX9_gatherPlayer 4 = .ok (.istore 5, 2) := by decide +kernel
theorem dX9_gatherPlayer_6 : decode cX9_gatherPlayer 6 = .ok (.iconst 0, 1) := by decide +kernel
theorem dX9_gatherPlayer_7 : decode cX9_gatherPlayer 7 = .ok (.istore 6, 2) := by decide +kernel
theorem dX9_gatherPlayer_9 : decode cX9_gatherPlayer 9 = .ok (.iconst 0, 1) := by decide +kernel
theorem dX9_gatherPlayer_10 : decode cX9_gatherPlayer 10 = .ok (.istore 7, 2) := by decide +kernel
theorem dX9_gatherPlayer_12 : decode cX9_gatherPlayer 12 = .ok (.iconst 0, 1) := by decide +kernel
theorem dX9_gatherPlayer_13 : decode cX9_gatherPlayer 13 = .ok (.istore 8, 2) := by decide +kernel
theorem dX9_gatherPlayer_15 : decode cX9_gatherPlayer 15 = .ok (.iload 8, 2) := by decide +kernel
theorem dX9_gatherPlayer_17 : decode cX9_gatherPlayer 17 = .ok (.aload_n 1, 1) := by decide +kernel
theorem dX9_gatherPlayer_18 : decode cX9_gatherPlayer 18 = .ok (.getfield 41, 3) := by decide +kernel
theorem dX9_gatherPlayer_21 : decode cX9_gatherPlayer 21 = .ok (.if_icmp .ge 67, 3) := by decide +kernel
theorem dX9_gatherPlayer_24 : decode cX9_gatherPlayer 24 = .ok (.aload_n 2, 1) := by decide +kernel
theorem dX9_gatherPlayer_25 : decode cX9_gatherPlayer 25 = .ok (.getfield 44, 3) := by decide +kernel
theorem dX9_gatherPlayer_28 : decode cX9_gatherPlayer 28 = .ok (.iload_n 3, 1) := by decide +kernel
theorem dX9_gatherPlayer_29 : decode cX9_gatherPlayer 29 = .ok (.bipush 8, 2) := by decide +kernel
theorem dX9_gatherPlayer_31 : decode cX9_gatherPlayer 31 = .ok (.imul, 1) := by decide +kernel
theorem dX9_gatherPlayer_32 : decode cX9_gatherPlayer 32 = .ok (.iload 8, 2) := by decide +kernel
theorem dX9_gatherPlayer_34 : decode cX9_gatherPlayer 34 = .ok (.iadd, 1) := by decide +kernel
theorem dX9_gatherPlayer_35 : decode cX9_gatherPlayer 35 = .ok (.iaload, 1) := by decide +kernel
theorem dX9_gatherPlayer_36 : decode cX9_gatherPlayer 36 = .ok (.istore 9, 2) := by decide +kernel
theorem dX9_gatherPlayer_38 : decode cX9_gatherPlayer 38 = .ok (.iload 9, 2) := by decide +kernel
theorem dX9_gatherPlayer_40 : decode cX9_gatherPlayer 40 = .ok (.iconst (-1), 1) := by decide +kernel
theorem dX9_gatherPlayer_41 : decode cX9_gatherPlayer 41 = .ok (.if_icmp .eq 25, 3) := by decide +kernel
theorem dX9_gatherPlayer_44 : decode cX9_gatherPlayer 44 = .ok (.aload_n 1, 1) := by decide +kernel
theorem dX9_gatherPlayer_45 : decode cX9_gatherPlayer 45 = .ok (.iload 8, 2) := by decide +kernel
theorem dX9_gatherPlayer_47 : decode cX9_gatherPlayer 47 = .ok (.invokevirtual 49, 3) := by decide +kernel
theorem dX9_gatherPlayer_50 : decode cX9_gatherPlayer 50 = .ok (.ifCond .eq 16, 3) := by decide +kernel
theorem dX9_gatherPlayer_53 : decode cX9_gatherPlayer 53 = .ok (.iinc 4 1, 3) := by decide +kernel
theorem dX9_gatherPlayer_56 : decode cX9_gatherPlayer 56 = .ok (.iload 6, 2) := by decide +kernel
theorem dX9_gatherPlayer_58 : decode cX9_gatherPlayer 58 = .ok (.iload 9, 2) := by decide +kernel
theorem dX9_gatherPlayer_60 : decode cX9_gatherPlayer 60 = .ok (.iadd, 1) := by decide +kernel
theorem dX9_gatherPlayer_61 : decode cX9_gatherPlayer 61 = .ok (.istore 6, 2) := by decide +kernel
theorem dX9_gatherPlayer_63 : decode cX9_gatherPlayer 63 = .ok (.goto 19, 3) := by decide +kernel
theorem dX9_gatherPlayer_66 : decode cX9_gatherPlayer 66 = .ok (.iload 9, 2) := by decide +kernel
theorem dX9_gatherPlayer_68 : decode cX9_gatherPlayer 68 = .ok (.iconst (-1), 1) := by decide +kernel
theorem dX9_gatherPlayer_69 : decode cX9_gatherPlayer 69 = .ok (.if_icmp .eq 13, 3) := by decide +kernel
theorem dX9_gatherPlayer_72 : decode cX9_gatherPlayer 72 = .ok (.iinc 5 1, 3) := by decide +kernel
theorem dX9_gatherPlayer_75 : decode cX9_gatherPlayer 75 = .ok (.iload 7, 2) := by decide +kernel
theorem dX9_gatherPlayer_77 : decode cX9_gatherPlayer 77 = .ok (.iload 9, 2) := by decide +kernel
theorem dX9_gatherPlayer_79 : decode cX9_gatherPlayer 79 = .ok (.iadd, 1) := by decide +kernel
theorem dX9_gatherPlayer_80 : decode cX9_gatherPlayer 80 = .ok (.istore 7, 2) := by decide +kernel
theorem dX9_gatherPlayer_82 : decode cX9_gatherPlayer 82 = .ok (.iinc 8 1, 3) := by decide +kernel
theorem dX9_gatherPlayer_85 : decode cX9_gatherPlayer 85 = .ok (.goto (-70), 3) := by decide +kernel
theorem dX9_gatherPlayer_88 : decode cX9_gatherPlayer 88 = .ok (.iload 4, 2) := by decide +kernel
theorem dX9_gatherPlayer_90 : decode cX9_gatherPlayer 90 = .ok (.ifCond .le 23, 3) := by decide +kernel
theorem dX9_gatherPlayer_93 : decode cX9_gatherPlayer 93 = .ok (.iload 5, 2) := by decide +kernel
theorem dX9_gatherPlayer_95 : decode cX9_gatherPlayer 95 = .ok (.ifCond .le 18, 3) := by decide +kernel
theorem dX9_gatherPlayer_98 : decode cX9_gatherPlayer 98 = .ok (.aload_n 0, 1) := by decide +kernel
theorem dX9_gatherPlayer_99 : decode cX9_gatherPlayer 99 = .ok (.iload 6, 2) := by decide +kernel
theorem dX9_gatherPlayer_101 : decode cX9_gatherPlayer 101 = .ok (.iload 5, 2) := by decide +kernel
theorem dX9_gatherPlayer_103 : decode cX9_gatherPlayer 103 = .ok (.imul, 1) := by decide +kernel
theorem dX9_gatherPlayer_104 : decode cX9_gatherPlayer 104 = .ok (.iload 7, 2) := by decide +kernel
theorem dX9_gatherPlayer_106 : decode cX9_gatherPlayer 106 = .ok (.iload 4, 2) := by decide +kernel
theorem dX9_gatherPlayer_108 : decode cX9_gatherPlayer 108 = .ok (.imul, 1) := by decide +kernel
theorem dX9_gatherPlayer_109 : decode cX9_gatherPlayer 109 = .ok (.isub, 1) := by decide +kernel
theorem dX9_gatherPlayer_110 : decode cX9_gatherPlayer 110 = .ok (.invokevirtual 52, 3) := by decide +kernel
theorem dX9_gatherPlayer_113 : decode cX9_gatherPlayer 113 = .ok (.return_, 1) := by decide +kernel
set_option maxRecDepth 100000 in
theorem sgX9_gatherPlayer_0 {d : Nat} {I : st_I} {L : st_L} {F : st_I → st_L → Prop} {a3 : Int32} (h : TV (d + 1) mX9_gatherPlayer 15 [.ref 47, .ref 1, .ref 30, .int a3, .int 0, .int 0, .int 0, .int 0, .int 0, .null] [] I L F) : EV (d + 1) mX9_gatherPlayer [.ref 47, .ref 1, .ref 30, .int a3] I L F := by
  refine Ev_of (ls0 := 6) (by decide +kernel) rfl rfl rfl ?_
  refine T_iconst (v := 0) dX9_gatherPlayer_0 (by decide +kernel) ?_
  refine T_istore (lv' := [.ref 47, .ref 1, .ref 30, .int a3, .int 0, .null, .null, .null, .null, .null]) dX9_gatherPlayer_1 (by decide) rfl ?_
  refine T_iconst (v := 0) dX9_gatherPlayer_3 (by decide +kernel) ?_
  refine T_istore (lv' := [.ref 47, .ref 1, .ref 30, .int a3, .int 0, .int 0, .null, .null, .null, .null]) dX9_gatherPlayer_4 (by decide) rfl ?_
  refine T_iconst (v := 0) dX9_gatherPlayer_6 (by decide +kernel) ?_
  refine T_istore (lv' := [.ref 47, .ref 1, .ref 30, .int a3, .int 0, .int 0, .int 0, .null, .null, .null]) dX9_gatherPlayer_7 (by decide) rfl ?_
  refine T_iconst (v := 0) dX9_gatherPlayer_9 (by decide +kernel) ?_
  refine T_istore (lv' := [.ref 47, .ref 1, .ref 30, .int a3, .int 0, .int 0, .int 0, .int 0, .null, .null]) dX9_gatherPlayer_10 (by decide) rfl ?_
  refine T_iconst (v := 0) dX9_gatherPlayer_12 (by decide +kernel) ?_
  refine T_istore (lv' := [.ref 47, .ref 1, .ref 30, .int a3, .int 0, .int 0, .int 0, .int 0, .int 0, .null]) dX9_gatherPlayer_13 (by decide) rfl ?_
  exact h

set_option maxRecDepth 100000 in
theorem sgX9_gatherPlayer_15 {d : Nat} {I : st_I} {L : st_L} {F : st_I → st_L → Prop} {x3 : Int32} {x4 : Int32} {x5 : Int32} {x6 : Int32} {x7 : Int32} {x8 : Int32} (h : (if (I 1 0) ≤ x8 then (if x4 ≤ 0 then F I L else (if x5 ≤ 0 then F I L else EV d mX9_add [.ref 47, .int ((x6 * x5) - (x7 * x4))] I L (fun I1 L1 => F I1 L1))) else vp_in ((x3 * 8) + x8) 80 ∧ (if (I 32 (((x3 * 8) + x8).toNatClampNeg)) = (-1) then TV (d + 1) mX9_gatherPlayer 66 [.ref 47, .ref 1, .ref 30, .int x3, .int x4, .int x5, .int x6, .int x7, .int x8, .int (I 32 (((x3 * 8) + x8).toNatClampNeg))] [] I L F else EI d mX8_isOld [.ref 1, .int x8] I L (fun r2 I2 L2 => (if r2 = 0 then TV (d + 1) mX9_gatherPlayer 66 [.ref 47, .ref 1, .ref 30, .int x3, .int x4, .int x5, .int x6, .int x7, .int x8, .int (I 32 (((x3 * 8) + x8).toNatClampNeg))] [] I2 L2 F else TV (d + 1) mX9_gatherPlayer 15 [.ref 47, .ref 1, .ref 30, .int x3, .int (x4 + 1), .int x5, .int (x6 + (I 32 (((x3 * 8) + x8).toNatClampNeg))), .int x7, .int (x8 + 1), .null] [] I2 L2 F))))) : TV (d + 1) mX9_gatherPlayer 15 [.ref 47, .ref 1, .ref 30, .int x3, .int x4, .int x5, .int x6, .int x7, .int x8, .null] [] I L F := by
  refine T_iload dX9_gatherPlayer_15 rfl ?_
  refine T_aload_n dX9_gatherPlayer_17 rfl ?_
  refine T_getv (v := (I 1 0)) dX9_gatherPlayer_18 fl_RX9_41 shp_1 rfl rfl ?_
  refine T_icmp_ge (tgt := 88) dX9_gatherPlayer_21 (by decide) (tq_ite h (fun h => ?_) (fun h => ?_))
  ·
    refine T_iload dX9_gatherPlayer_88 rfl ?_
    refine T_if_le (tgt := 113) dX9_gatherPlayer_90 (by decide) (tq_ite h (fun h => ?_) (fun h => ?_))
    ·
      exact S_vret rfl dX9_gatherPlayer_113 h
    ·
      refine T_iload dX9_gatherPlayer_93 rfl ?_
      refine T_if_le (tgt := 113) dX9_gatherPlayer_95 (by decide) (tq_ite h (fun h => ?_) (fun h => ?_))
      ·
        exact S_vret rfl dX9_gatherPlayer_113 h
      ·
        refine T_aload_n dX9_gatherPlayer_98 rfl ?_
        refine T_iload dX9_gatherPlayer_99 rfl ?_
        refine T_iload dX9_gatherPlayer_101 rfl ?_
        refine T_imul dX9_gatherPlayer_103 ?_
        refine T_iload dX9_gatherPlayer_104 rfl ?_
        refine T_iload dX9_gatherPlayer_106 rfl ?_
        refine T_imul dX9_gatherPlayer_108 ?_
        refine T_isub dX9_gatherPlayer_109 ?_
        refine S_callVV (M' := mX9_add) [.int ((x6 * x5) - (x7 * x4))] [] dX9_gatherPlayer_110 ml_RX9_52 mkX9_add rfl shp_47 rfl rfl rfl (Nat.le_of_ble_eq_true rfl) h (fun I1 L1 h => ?_)
        exact S_vret rfl dX9_gatherPlayer_113 h
  ·
    refine T_aload_n dX9_gatherPlayer_24 rfl ?_
    refine T_getr dX9_gatherPlayer_25 fl_RX9_44 shp_30 rfl ?_
    refine T_iload_n dX9_gatherPlayer_28 rfl ?_
    refine T_bipush (v := 8) dX9_gatherPlayer_29 (by decide +kernel) ?_
    refine T_imul dX9_gatherPlayer_31 ?_
    refine T_iload dX9_gatherPlayer_32 rfl ?_
    refine T_iadd dX9_gatherPlayer_34 ?_
    refine T_ialdv (v := (I 32 (((x3 * 8) + x8).toNatClampNeg))) (j := ((x3 * 8) + x8).toNatClampNeg) dX9_gatherPlayer_35 shp_32 h.1 rfl rfl ?_
    replace h := h.2
    refine T_istore (lv' := [.ref 47, .ref 1, .ref 30, .int x3, .int x4, .int x5, .int x6, .int x7, .int x8, .int (I 32 (((x3 * 8) + x8).toNatClampNeg))]) dX9_gatherPlayer_36 (by decide) rfl ?_
    refine T_iload dX9_gatherPlayer_38 rfl ?_
    refine T_iconst (v := (-1)) dX9_gatherPlayer_40 (by decide +kernel) ?_
    refine T_icmp_eq (tgt := 66) dX9_gatherPlayer_41 (by decide) (tq_ite h (fun h => ?_) (fun h => ?_))
    ·
      exact h
    ·
      refine T_aload_n dX9_gatherPlayer_44 rfl ?_
      refine T_iload dX9_gatherPlayer_45 rfl ?_
      refine S_callVI (M' := mX8_isOld) [.int x8] [] dX9_gatherPlayer_47 ml_RX9_49 mkX8_isOld rfl shp_1 rfl rfl rfl (Nat.le_of_ble_eq_true rfl) h (fun r2 I2 L2 h => ?_)
      refine T_if_eq (tgt := 66) dX9_gatherPlayer_50 (by decide) (tq_ite h (fun h => ?_) (fun h => ?_))
      ·
        exact h
      ·
        refine T_iinc (lv' := [.ref 47, .ref 1, .ref 30, .int x3, .int (x4 + 1), .int x5, .int x6, .int x7, .int x8, .int (I 32 (((x3 * 8) + x8).toNatClampNeg))]) dX9_gatherPlayer_53 rfl (by decide) rfl ?_
        refine T_iload dX9_gatherPlayer_56 rfl ?_
        refine T_iload dX9_gatherPlayer_58 rfl ?_
        refine T_iadd dX9_gatherPlayer_60 ?_
        refine T_istore (lv' := [.ref 47, .ref 1, .ref 30, .int x3, .int (x4 + 1), .int x5, .int (x6 + (I 32 (((x3 * 8) + x8).toNatClampNeg))), .int x7, .int x8, .int (I 32 (((x3 * 8) + x8).toNatClampNeg))]) dX9_gatherPlayer_61 (by decide) rfl ?_
        refine T_goto (tgt := 82) dX9_gatherPlayer_63 (by decide) ?_
        refine T_iinc (lv' := [.ref 47, .ref 1, .ref 30, .int x3, .int (x4 + 1), .int x5, .int (x6 + (I 32 (((x3 * 8) + x8).toNatClampNeg))), .int x7, .int (x8 + 1), .int (I 32 (((x3 * 8) + x8).toNatClampNeg))]) dX9_gatherPlayer_82 rfl (by decide) rfl ?_
        refine T_goto (tgt := 15) dX9_gatherPlayer_85 (by decide) ?_
        exact T_wk (lv' := [.ref 47, .ref 1, .ref 30, .int x3, .int (x4 + 1), .int x5, .int (x6 + (I 32 (((x3 * 8) + x8).toNatClampNeg))), .int x7, .int (x8 + 1), .null]) ⟨Or.inr rfl, Or.inr rfl, Or.inr rfl, Or.inr rfl, Or.inr rfl, Or.inr rfl, Or.inr rfl, Or.inr rfl, Or.inr rfl, Or.inl rfl, trivial⟩ h

set_option maxRecDepth 100000 in
theorem sgX9_gatherPlayer_66 {d : Nat} {I : st_I} {L : st_L} {F : st_I → st_L → Prop} {x3 : Int32} {x4 : Int32} {x5 : Int32} {x6 : Int32} {x7 : Int32} {x8 : Int32} {x9 : Int32} (h : (if x9 = (-1) then TV (d + 1) mX9_gatherPlayer 15 [.ref 47, .ref 1, .ref 30, .int x3, .int x4, .int x5, .int x6, .int x7, .int (x8 + 1), .null] [] I L F else TV (d + 1) mX9_gatherPlayer 15 [.ref 47, .ref 1, .ref 30, .int x3, .int x4, .int (x5 + 1), .int x6, .int (x7 + x9), .int (x8 + 1), .null] [] I L F)) : TV (d + 1) mX9_gatherPlayer 66 [.ref 47, .ref 1, .ref 30, .int x3, .int x4, .int x5, .int x6, .int x7, .int x8, .int x9] [] I L F := by
  refine T_iload dX9_gatherPlayer_66 rfl ?_
  refine T_iconst (v := (-1)) dX9_gatherPlayer_68 (by decide +kernel) ?_
  refine T_icmp_eq (tgt := 82) dX9_gatherPlayer_69 (by decide) (tq_ite h (fun h => ?_) (fun h => ?_))
  ·
    refine T_iinc (lv' := [.ref 47, .ref 1, .ref 30, .int x3, .int x4, .int x5, .int x6, .int x7, .int (x8 + 1), .int x9]) dX9_gatherPlayer_82 rfl (by decide) rfl ?_
    refine T_goto (tgt := 15) dX9_gatherPlayer_85 (by decide) ?_
    exact T_wk (lv' := [.ref 47, .ref 1, .ref 30, .int x3, .int x4, .int x5, .int x6, .int x7, .int (x8 + 1), .null]) ⟨Or.inr rfl, Or.inr rfl, Or.inr rfl, Or.inr rfl, Or.inr rfl, Or.inr rfl, Or.inr rfl, Or.inr rfl, Or.inr rfl, Or.inl rfl, trivial⟩ h
  ·
    refine T_iinc (lv' := [.ref 47, .ref 1, .ref 30, .int x3, .int x4, .int (x5 + 1), .int x6, .int x7, .int x8, .int x9]) dX9_gatherPlayer_72 rfl (by decide) rfl ?_
    refine T_iload dX9_gatherPlayer_75 rfl ?_
    refine T_iload dX9_gatherPlayer_77 rfl ?_
    refine T_iadd dX9_gatherPlayer_79 ?_
    refine T_istore (lv' := [.ref 47, .ref 1, .ref 30, .int x3, .int x4, .int (x5 + 1), .int x6, .int (x7 + x9), .int x8, .int x9]) dX9_gatherPlayer_80 (by decide) rfl ?_
    refine T_iinc (lv' := [.ref 47, .ref 1, .ref 30, .int x3, .int x4, .int (x5 + 1), .int x6, .int (x7 + x9), .int (x8 + 1), .int x9]) dX9_gatherPlayer_82 rfl (by decide) rfl ?_
    refine T_goto (tgt := 15) dX9_gatherPlayer_85 (by decide) ?_
    exact T_wk (lv' := [.ref 47, .ref 1, .ref 30, .int x3, .int x4, .int (x5 + 1), .int x6, .int (x7 + x9), .int (x8 + 1), .null]) ⟨Or.inr rfl, Or.inr rfl, Or.inr rfl, Or.inr rfl, Or.inr rfl, Or.inr rfl, Or.inr rfl, Or.inr rfl, Or.inr rfl, Or.inl rfl, trivial⟩ h

theorem dX9_gatherKnowing_0 : decode cX9_gatherKnowing 0 = .ok (.aload_n 0, 1) := by decide +kernel
theorem dX9_gatherKnowing_1 : decode cX9_gatherKnowing 1 = .ok (.invokevirtual 25, 3) := by decide +kernel
theorem dX9_gatherKnowing_4 : decode cX9_gatherKnowing 4 = .ok (.iconst 0, 1) := by decide +kernel
theorem dX9_gatherKnowing_5 : decode cX9_gatherKnowing 5 = .ok (.istore_n 3, 1) := by decide +kernel
theorem dX9_gatherKnowing_6 : decode cX9_gatherKnowing 6 = .ok (.iload_n 3, 1) := by decide +kernel
theorem dX9_gatherKnowing_7 : decode cX9_gatherKnowing 7 = .ok (.aload_n 1, 1) := by decide +kernel
theorem dX9_gatherKnowing_8 : decode cX9_gatherKnowing 8 = .ok (.getfield 28, 3) := by decide +kernel
theorem dX9_gatherKnowing_11 : decode cX9_gatherKnowing 11 = .ok (.bipush 8, 2) := by decide +kernel
theorem dX9_gatherKnowing_13 : decode cX9_gatherKnowing 13 = .ok (.imul, 1) := by decide +kernel
theorem dX9_gatherKnowing_14 : decode cX9_gatherKnowing 14 = .ok (.if_icmp .ge 118, 3) := by decide +kernel
theorem dX9_gatherKnowing_17 : decode cX9_gatherKnowing 17 = .ok (.aload_n 0, 1) := by decide +kernel
theorem dX9_gatherKnowing_18 : decode cX9_gatherKnowing 18 = .ok (.getfield 15, 3) := by decide +kernel
theorem dX9_gatherKnowing_21 : decode cX9_gatherKnowing 21 = .ok (.bipush 12, 2) := by decide +kernel
theorem dX9_gatherKnowing_23 : decode cX9_gatherKnowing 23 = .ok (.if_icmp .ge 109, 3) := by decide +kernel
theorem dX9_gatherKnowing_26 : decode cX9_gatherKnowing 26 = .ok (.aload_n 2, 1) := by decide +kernel
theorem dX9_gatherKnowing_27 : decode cX9_gatherKnowing 27 = .ok (.getfield 44, 3) := by decide +kernel
theorem dX9_gatherKnowing_30 : decode cX9_gatherKnowing 30 = .ok (.iload_n 3, 1) := by decide +kernel
theorem dX9_gatherKnowing_31 : decode cX9_gatherKnowing 31 = .ok (.iaload, 1) := by decide +kernel
theorem dX9_gatherKnowing_32 : decode cX9_gatherKnowing 32 = .ok (.iconst (-1), 1) := by decide +kernel
theorem dX9_gatherKnowing_33 : decode cX9_gatherKnowing 33 = .ok (.if_icmp .eq 17, 3) := by decide +kernel
theorem dX9_gatherKnowing_36 : decode cX9_gatherKnowing 36 = .ok (.aload_n 2, 1) := by decide +kernel
theorem dX9_gatherKnowing_37 : decode cX9_gatherKnowing 37 = .ok (.getfield 56, 3) := by decide +kernel
theorem dX9_gatherKnowing_40 : decode cX9_gatherKnowing 40 = .ok (.iload_n 3, 1) := by decide +kernel
theorem dX9_gatherKnowing_41 : decode cX9_gatherKnowing 41 = .ok (.iaload, 1) := by decide +kernel
theorem dX9_gatherKnowing_42 : decode cX9_gatherKnowing 42 = .ok (.iconst (-1), 1) := by decide +kernel
theorem dX9_gatherKnowing_43 : decode cX9_gatherKnowing 43 = .ok (.if_icmp .eq 7, 3) := by decide +kernel
theorem dX9_gatherKnowing_46 : decode cX9_gatherKnowing 46 = .ok (.iconst 1, 1) := by decide +kernel
theorem dX9_gatherKnowing_47 : decode cX9_gatherKnowing 47 = .ok (.goto 4, 3) := by decide +kernel
theorem dX9_gatherKnowing_50 : decode cX9_gatherKnowing 50 = .ok (.iconst 0, 1) := by decide +kernel
theorem dX9_gatherKnowing_51 : decode cX9_gatherKnowing 51 = .ok (.istore 4, 2) := by decide +kernel
theorem dX9_gatherKnowing_53 : decode cX9_gatherKnowing 53 = .ok (.iload 4, 2) := by decide +kernel
theorem dX9_gatherKnowing_55 : decode cX9_gatherKnowing 55 = .ok (.ifCond .eq 71, 3) := by decide +kernel
theorem dX9_gatherKnowing_58 : decode cX9_gatherKnowing 58 = .ok (.aload_n 1, 1) := by decide +kernel
theorem dX9_gatherKnowing_59 : decode cX9_gatherKnowing 59 = .ok (.iload_n 3, 1) := by decide +kernel
theorem dX9_gatherKnowing_60 : decode cX9_gatherKnowing 60 = .ok (.bipush 8, 2) := by decide +kernel
theorem dX9_gatherKnowing_62 : decode cX9_gatherKnowing 62 = .ok (.idiv, 1) := by decide +kernel
theorem dX9_gatherKnowing_63 : decode cX9_gatherKnowing 63 = .ok (.invokevirtual 33, 3) := by decide +kernel
theorem dX9_gatherKnowing_66 : decode cX9_gatherKnowing 66 = .ok (.ifCond .eq 60, 3) := by decide +kernel
theorem dX9_gatherKnowing_69 : decode cX9_gatherKnowing 69 = .ok (.aload_n 2, 1) := by decide +kernel
theorem dX9_gatherKnowing_70 : decode cX9_gatherKnowing 70 = .ok (.getfield 56, 3) := by decide +kernel
theorem dX9_gatherKnowing_73 : decode cX9_gatherKnowing 73 = .ok (.iload_n 3, 1) := by decide +kernel
theorem dX9_gatherKnowing_74 : decode cX9_gatherKnowing 74 = .ok (.iaload, 1) := by decide +kernel
theorem dX9_gatherKnowing_75 : decode cX9_gatherKnowing 75 = .ok (.aload_n 2, 1) := by decide +kernel
theorem dX9_gatherKnowing_76 : decode cX9_gatherKnowing 76 = .ok (.getfield 44, 3) := by decide +kernel
theorem dX9_gatherKnowing_79 : decode cX9_gatherKnowing 79 = .ok (.iload_n 3, 1) := by decide +kernel
theorem dX9_gatherKnowing_80 : decode cX9_gatherKnowing 80 = .ok (.iaload, 1) := by decide +kernel
theorem dX9_gatherKnowing_81 : decode cX9_gatherKnowing 81 = .ok (.isub, 1) := by decide +kernel
theorem dX9_gatherKnowing_82 : decode cX9_gatherKnowing 82 = .ok (.istore 5, 2) := by decide +kernel
theorem dX9_gatherKnowing_84 : decode cX9_gatherKnowing 84 = .ok (.aload_n 0, 1) := by decide +kernel
theorem dX9_gatherKnowing_85 : decode cX9_gatherKnowing 85 = .ok (.iload 5, 2) := by decide +kernel
theorem dX9_gatherKnowing_87 : decode cX9_gatherKnowing 87 = .ok (.invokevirtual 52, 3) := by decide +kernel
theorem dX9_gatherKnowing_90 : decode cX9_gatherKnowing 90 = .ok (.aload_n 1, 1) := by decide +kernel
theorem dX9_gatherKnowing_91 : decode cX9_gatherKnowing 91 = .ok (.iload_n 3, 1) := by decide +kernel
theorem dX9_gatherKnowing_92 : decode cX9_gatherKnowing 92 = .ok (.bipush 8, 2) := by decide +kernel
theorem dX9_gatherKnowing_94 : decode cX9_gatherKnowing 94 = .ok (.irem, 1) := by decide +kernel
theorem dX9_gatherKnowing_95 : decode cX9_gatherKnowing 95 = .ok (.invokevirtual 49, 3) := by decide +kernel
theorem dX9_gatherKnowing_98 : decode cX9_gatherKnowing 98 = .ok (.ifCond .eq 17, 3) := by decide +kernel
theorem dX9_gatherKnowing_101 : decode cX9_gatherKnowing 101 = .ok (.aload_n 0, 1) := by decide +kernel
theorem dX9_gatherKnowing_102 : decode cX9_gatherKnowing 102 = .ok (.dup, 1) := by decide +kernel
theorem dX9_gatherKnowing_103 : decode cX9_gatherKnowing 103 = .ok (.getfield 19, 3) := by decide +kernel
theorem dX9_gatherKnowing_106 : decode cX9_gatherKnowing 106 = .ok (.iload 5, 2) := by decide +kernel
theorem dX9_gatherKnowing_108 : decode cX9_gatherKnowing 108 = .ok (.iadd, 1) := by decide +kernel
theorem dX9_gatherKnowing_109 : decode cX9_gatherKnowing 109 = .ok (.putfield 19, 3) := by decide +kernel
theorem dX9_gatherKnowing_112 : decode cX9_gatherKnowing 112 = .ok (.goto 14, 3) := by decide +kernel
theorem dX9_gatherKnowing_115 : decode cX9_gatherKnowing 115 = .ok (.aload_n 0, 1) := by decide +kernel
theorem dX9_gatherKnowing_116 : decode cX9_gatherKnowing 116 = .ok (.dup, 1) := by decide +kernel
theorem dX9_gatherKnowing_117 : decode cX9_gatherKnowing 117 = .ok (.getfield 22, 3) := by decide +kernel
theorem dX9_gatherKnowing_120 : decode cX9_gatherKnowing 120 = .ok (.iload 5, 2) := by decide +kernel
theorem dX9_gatherKnowing_122 : decode cX9_gatherKnowing 122 = .ok (.iadd, 1) := by decide +kernel
theorem dX9_gatherKnowing_123 : decode cX9_gatherKnowing 123 = .ok (.putfield 22, 3) := by decide +kernel
theorem dX9_gatherKnowing_126 : decode cX9_gatherKnowing 126 = .ok (.iinc 3 1, 3) := by decide +kernel
theorem dX9_gatherKnowing_129 : decode cX9_gatherKnowing 129 = .ok (.goto (-123), 3) := by decide +kernel
theorem dX9_gatherKnowing_132 : decode cX9_gatherKnowing 132 = .ok (.return_, 1) := by decide +kernel
set_option maxRecDepth 100000 in
theorem sgX9_gatherKnowing_0 {d : Nat} {I : st_I} {L : st_L} {F : st_I → st_L → Prop}  (h : EV d mX9_clear [.ref 47] I L (fun I1 L1 => TV (d + 1) mX9_gatherKnowing 6 [.ref 47, .ref 1, .ref 30, .int 0, .null, .null] [] I1 L1 F)) : EV (d + 1) mX9_gatherKnowing [.ref 47, .ref 1, .ref 30] I L F := by
  refine Ev_of (ls0 := 3) (by decide +kernel) rfl rfl rfl ?_
  refine T_aload_n dX9_gatherKnowing_0 rfl ?_
  refine S_callVV (M' := mX9_clear) [] [] dX9_gatherKnowing_1 ml_RX9_25 mkX9_clear rfl shp_47 rfl rfl rfl (Nat.le_of_ble_eq_true rfl) h (fun I1 L1 h => ?_)
  refine T_iconst (v := 0) dX9_gatherKnowing_4 (by decide +kernel) ?_
  refine T_istore_n (lv' := [.ref 47, .ref 1, .ref 30, .int 0, .null, .null]) dX9_gatherKnowing_5 rfl (by decide) rfl ?_
  exact h

set_option maxRecDepth 100000 in
theorem sgX9_gatherKnowing_6 {d : Nat} {I : st_I} {L : st_L} {F : st_I → st_L → Prop} {x3 : Int32} (h : (if ((I 1 1) * 8) ≤ x3 then F I L else (if 12 ≤ (I 47 0) then F I L else vp_in x3 80 ∧ (if (I 32 (x3.toNatClampNeg)) = (-1) then TV (d + 1) mX9_gatherKnowing 51 [.ref 47, .ref 1, .ref 30, .int x3, .null, .null] [.int 0] I L F else vp_in x3 80 ∧ (if (I 34 (x3.toNatClampNeg)) = (-1) then TV (d + 1) mX9_gatherKnowing 51 [.ref 47, .ref 1, .ref 30, .int x3, .null, .null] [.int 0] I L F else TV (d + 1) mX9_gatherKnowing 51 [.ref 47, .ref 1, .ref 30, .int x3, .null, .null] [.int 1] I L F))))) : TV (d + 1) mX9_gatherKnowing 6 [.ref 47, .ref 1, .ref 30, .int x3, .null, .null] [] I L F := by
  refine T_iload_n dX9_gatherKnowing_6 rfl ?_
  refine T_aload_n dX9_gatherKnowing_7 rfl ?_
  refine T_getv (v := (I 1 1)) dX9_gatherKnowing_8 fl_RX9_28 shp_1 rfl rfl ?_
  refine T_bipush (v := 8) dX9_gatherKnowing_11 (by decide +kernel) ?_
  refine T_imul dX9_gatherKnowing_13 ?_
  refine T_icmp_ge (tgt := 132) dX9_gatherKnowing_14 (by decide) (tq_ite h (fun h => ?_) (fun h => ?_))
  ·
    exact S_vret rfl dX9_gatherKnowing_132 h
  ·
    refine T_aload_n dX9_gatherKnowing_17 rfl ?_
    refine T_getv (v := (I 47 0)) dX9_gatherKnowing_18 fl_RX9_15 shp_47 rfl rfl ?_
    refine T_bipush (v := 12) dX9_gatherKnowing_21 (by decide +kernel) ?_
    refine T_icmp_ge (tgt := 132) dX9_gatherKnowing_23 (by decide) (tq_ite h (fun h => ?_) (fun h => ?_))
    ·
      exact S_vret rfl dX9_gatherKnowing_132 h
    ·
      refine T_aload_n dX9_gatherKnowing_26 rfl ?_
      refine T_getr dX9_gatherKnowing_27 fl_RX9_44 shp_30 rfl ?_
      refine T_iload_n dX9_gatherKnowing_30 rfl ?_
      refine T_ialdv (v := (I 32 (x3.toNatClampNeg))) (j := x3.toNatClampNeg) dX9_gatherKnowing_31 shp_32 h.1 rfl rfl ?_
      replace h := h.2
      refine T_iconst (v := (-1)) dX9_gatherKnowing_32 (by decide +kernel) ?_
      refine T_icmp_eq (tgt := 50) dX9_gatherKnowing_33 (by decide) (tq_ite h (fun h => ?_) (fun h => ?_))
      ·
        refine T_iconst (v := 0) dX9_gatherKnowing_50 (by decide +kernel) ?_
        exact h
      ·
        refine T_aload_n dX9_gatherKnowing_36 rfl ?_
        refine T_getr dX9_gatherKnowing_37 fl_RX9_56 shp_30 rfl ?_
        refine T_iload_n dX9_gatherKnowing_40 rfl ?_
        refine T_ialdv (v := (I 34 (x3.toNatClampNeg))) (j := x3.toNatClampNeg) dX9_gatherKnowing_41 shp_34 h.1 rfl rfl ?_
        replace h := h.2
        refine T_iconst (v := (-1)) dX9_gatherKnowing_42 (by decide +kernel) ?_
        refine T_icmp_eq (tgt := 50) dX9_gatherKnowing_43 (by decide) (tq_ite h (fun h => ?_) (fun h => ?_))
        ·
          refine T_iconst (v := 0) dX9_gatherKnowing_50 (by decide +kernel) ?_
          exact h
        ·
          refine T_iconst (v := 1) dX9_gatherKnowing_46 (by decide +kernel) ?_
          refine T_goto (tgt := 51) dX9_gatherKnowing_47 (by decide) ?_
          exact h

set_option maxRecDepth 100000 in
theorem sgX9_gatherKnowing_51 {d : Nat} {I : st_I} {L : st_L} {F : st_I → st_L → Prop} {x3 : Int32} {s0 : Int32} (h : (if s0 = 0 then TV (d + 1) mX9_gatherKnowing 6 [.ref 47, .ref 1, .ref 30, .int (x3 + 1), .null, .null] [] I L F else EI d mX8_isPlayer [.ref 1, .int (x3 / 8)] I L (fun r1 I1 L1 => (if r1 = 0 then TV (d + 1) mX9_gatherKnowing 6 [.ref 47, .ref 1, .ref 30, .int (x3 + 1), .null, .null] [] I1 L1 F else vp_in x3 80 ∧ vp_in x3 80 ∧ EV d mX9_add [.ref 47, .int ((I1 34 (x3.toNatClampNeg)) - (I1 32 (x3.toNatClampNeg)))] I1 L1 (fun I2 L2 => EI d mX8_isOld [.ref 1, .int (x3 - x3 / 8 * 8)] I2 L2 (fun r3 I3 L3 => (if r3 = 0 then TV (d + 1) mX9_gatherKnowing 6 [.ref 47, .ref 1, .ref 30, .int (x3 + 1), .null, .null] [] (u_I I3 47 2 ((I3 47 2) + ((I1 34 (x3.toNatClampNeg)) - (I1 32 (x3.toNatClampNeg))))) L3 F else TV (d + 1) mX9_gatherKnowing 6 [.ref 47, .ref 1, .ref 30, .int (x3 + 1), .null, .null] [] (u_I I3 47 1 ((I3 47 1) + ((I1 34 (x3.toNatClampNeg)) - (I1 32 (x3.toNatClampNeg))))) L3 F))))))) : TV (d + 1) mX9_gatherKnowing 51 [.ref 47, .ref 1, .ref 30, .int x3, .null, .null] [.int s0] I L F := by
  refine T_istore (lv' := [.ref 47, .ref 1, .ref 30, .int x3, .int s0, .null]) dX9_gatherKnowing_51 (by decide) rfl ?_
  refine T_iload dX9_gatherKnowing_53 rfl ?_
  refine T_if_eq (tgt := 126) dX9_gatherKnowing_55 (by decide) (tq_ite h (fun h => ?_) (fun h => ?_))
  ·
    refine T_iinc (lv' := [.ref 47, .ref 1, .ref 30, .int (x3 + 1), .int s0, .null]) dX9_gatherKnowing_126 rfl (by decide) rfl ?_
    refine T_goto (tgt := 6) dX9_gatherKnowing_129 (by decide) ?_
    exact T_wk (lv' := [.ref 47, .ref 1, .ref 30, .int (x3 + 1), .null, .null]) ⟨Or.inr rfl, Or.inr rfl, Or.inr rfl, Or.inr rfl, Or.inl rfl, Or.inr rfl, trivial⟩ h
  ·
    refine T_aload_n dX9_gatherKnowing_58 rfl ?_
    refine T_iload_n dX9_gatherKnowing_59 rfl ?_
    refine T_bipush (v := 8) dX9_gatherKnowing_60 (by decide +kernel) ?_
    refine T_idiv dX9_gatherKnowing_62 (by decide) ?_
    refine S_callVI (M' := mX8_isPlayer) [.int (x3 / 8)] [] dX9_gatherKnowing_63 ml_RX9_33 mkX8_isPlayer rfl shp_1 rfl rfl rfl (Nat.le_of_ble_eq_true rfl) h (fun r1 I1 L1 h => ?_)
    refine T_if_eq (tgt := 126) dX9_gatherKnowing_66 (by decide) (tq_ite h (fun h => ?_) (fun h => ?_))
    ·
      refine T_iinc (lv' := [.ref 47, .ref 1, .ref 30, .int (x3 + 1), .int s0, .null]) dX9_gatherKnowing_126 rfl (by decide) rfl ?_
      refine T_goto (tgt := 6) dX9_gatherKnowing_129 (by decide) ?_
      exact T_wk (lv' := [.ref 47, .ref 1, .ref 30, .int (x3 + 1), .null, .null]) ⟨Or.inr rfl, Or.inr rfl, Or.inr rfl, Or.inr rfl, Or.inl rfl, Or.inr rfl, trivial⟩ h
    ·
      refine T_aload_n dX9_gatherKnowing_69 rfl ?_
      refine T_getr dX9_gatherKnowing_70 fl_RX9_56 shp_30 rfl ?_
      refine T_iload_n dX9_gatherKnowing_73 rfl ?_
      refine T_ialdv (v := (I1 34 (x3.toNatClampNeg))) (j := x3.toNatClampNeg) dX9_gatherKnowing_74 shp_34 h.1 rfl rfl ?_
      replace h := h.2
      refine T_aload_n dX9_gatherKnowing_75 rfl ?_
      refine T_getr dX9_gatherKnowing_76 fl_RX9_44 shp_30 rfl ?_
      refine T_iload_n dX9_gatherKnowing_79 rfl ?_
      refine T_ialdv (v := (I1 32 (x3.toNatClampNeg))) (j := x3.toNatClampNeg) dX9_gatherKnowing_80 shp_32 h.1 rfl rfl ?_
      replace h := h.2
      refine T_isub dX9_gatherKnowing_81 ?_
      refine T_istore (lv' := [.ref 47, .ref 1, .ref 30, .int x3, .int s0, .int ((I1 34 (x3.toNatClampNeg)) - (I1 32 (x3.toNatClampNeg)))]) dX9_gatherKnowing_82 (by decide) rfl ?_
      refine T_aload_n dX9_gatherKnowing_84 rfl ?_
      refine T_iload dX9_gatherKnowing_85 rfl ?_
      refine S_callVV (M' := mX9_add) [.int ((I1 34 (x3.toNatClampNeg)) - (I1 32 (x3.toNatClampNeg)))] [] dX9_gatherKnowing_87 ml_RX9_52 mkX9_add rfl shp_47 rfl rfl rfl (Nat.le_of_ble_eq_true rfl) h (fun I2 L2 h => ?_)
      refine T_aload_n dX9_gatherKnowing_90 rfl ?_
      refine T_iload_n dX9_gatherKnowing_91 rfl ?_
      refine T_bipush (v := 8) dX9_gatherKnowing_92 (by decide +kernel) ?_
      refine T_irem dX9_gatherKnowing_94 (by decide) ?_
      refine S_callVI (M' := mX8_isOld) [.int (x3 - x3 / 8 * 8)] [] dX9_gatherKnowing_95 ml_RX9_49 mkX8_isOld rfl shp_1 rfl rfl rfl (Nat.le_of_ble_eq_true rfl) h (fun r3 I3 L3 h => ?_)
      refine T_if_eq (tgt := 115) dX9_gatherKnowing_98 (by decide) (tq_ite h (fun h => ?_) (fun h => ?_))
      ·
        refine T_aload_n dX9_gatherKnowing_115 rfl ?_
        refine T_dup dX9_gatherKnowing_116 rfl ?_
        refine T_getv (v := (I3 47 2)) dX9_gatherKnowing_117 fl_RX9_22 shp_47 rfl rfl ?_
        refine T_iload dX9_gatherKnowing_120 rfl ?_
        refine T_iadd dX9_gatherKnowing_122 ?_
        refine T_puti dX9_gatherKnowing_123 fl_RX9_22 pf_9_2 shp_47 rfl rfl rfl ?_
        refine T_iinc (lv' := [.ref 47, .ref 1, .ref 30, .int (x3 + 1), .int s0, .int ((I1 34 (x3.toNatClampNeg)) - (I1 32 (x3.toNatClampNeg)))]) dX9_gatherKnowing_126 rfl (by decide) rfl ?_
        refine T_goto (tgt := 6) dX9_gatherKnowing_129 (by decide) ?_
        exact T_wk (lv' := [.ref 47, .ref 1, .ref 30, .int (x3 + 1), .null, .null]) ⟨Or.inr rfl, Or.inr rfl, Or.inr rfl, Or.inr rfl, Or.inl rfl, Or.inl rfl, trivial⟩ h
      ·
        refine T_aload_n dX9_gatherKnowing_101 rfl ?_
        refine T_dup dX9_gatherKnowing_102 rfl ?_
        refine T_getv (v := (I3 47 1)) dX9_gatherKnowing_103 fl_RX9_19 shp_47 rfl rfl ?_
        refine T_iload dX9_gatherKnowing_106 rfl ?_
        refine T_iadd dX9_gatherKnowing_108 ?_
        refine T_puti dX9_gatherKnowing_109 fl_RX9_19 pf_9_1 shp_47 rfl rfl rfl ?_
        refine T_goto (tgt := 126) dX9_gatherKnowing_112 (by decide) ?_
        refine T_iinc (lv' := [.ref 47, .ref 1, .ref 30, .int (x3 + 1), .int s0, .int ((I1 34 (x3.toNatClampNeg)) - (I1 32 (x3.toNatClampNeg)))]) dX9_gatherKnowing_126 rfl (by decide) rfl ?_
        refine T_goto (tgt := 6) dX9_gatherKnowing_129 (by decide) ?_
        exact T_wk (lv' := [.ref 47, .ref 1, .ref 30, .int (x3 + 1), .null, .null]) ⟨Or.inr rfl, Or.inr rfl, Or.inr rfl, Or.inr rfl, Or.inl rfl, Or.inl rfl, trivial⟩ h

theorem dX9_sum_0 : decode cX9_sum 0 = .ok (.iconst 0, 1) := by decide +kernel
theorem dX9_sum_1 : decode cX9_sum 1 = .ok (.istore_n 1, 1) := by decide +kernel
theorem dX9_sum_2 : decode cX9_sum 2 = .ok (.iconst 0, 1) := by decide +kernel
theorem dX9_sum_3 : decode cX9_sum 3 = .ok (.istore_n 2, 1) := by decide +kernel
theorem dX9_sum_4 : decode cX9_sum 4 = .ok (.iload_n 2, 1) := by decide +kernel
theorem dX9_sum_5 : decode cX9_sum 5 = .ok (.aload_n 0, 1) := by decide +kernel
theorem dX9_sum_6 : decode cX9_sum 6 = .ok (.getfield 15, 3) := by decide +kernel
theorem dX9_sum_9 : decode cX9_sum 9 = .ok (.if_icmp .ge 18, 3) := by decide +kernel
theorem dX9_sum_12 : decode cX9_sum 12 = .ok (.iload_n 1, 1) := by decide +kernel
theorem dX9_sum_13 : decode cX9_sum 13 = .ok (.aload_n 0, 1) := by decide +kernel
theorem dX9_sum_14 : decode cX9_sum 14 = .ok (.getfield 11, 3) := by decide +kernel
theorem dX9_sum_17 : decode cX9_sum 17 = .ok (.iload_n 2, 1) := by decide +kernel
theorem dX9_sum_18 : decode cX9_sum 18 = .ok (.iaload, 1) := by decide +kernel
theorem dX9_sum_19 : decode cX9_sum 19 = .ok (.iadd, 1) := by decide +kernel
theorem dX9_sum_20 : decode cX9_sum 20 = .ok (.istore_n 1, 1) := by decide +kernel
theorem dX9_sum_21 : decode cX9_sum 21 = .ok (.iinc 2 1, 3) := by decide +kernel
theorem dX9_sum_24 : decode cX9_sum 24 = .ok (.goto (-20), 3) := by decide +kernel
theorem dX9_sum_27 : decode cX9_sum 27 = .ok (.iload_n 1, 1) := by decide +kernel
theorem dX9_sum_28 : decode cX9_sum 28 = .ok (.ireturn, 1) := by decide +kernel
set_option maxRecDepth 100000 in
theorem sgX9_sum_0 {d : Nat} {I : st_I} {L : st_L} {F : Int32 → st_I → st_L → Prop}  (h : TI d mX9_sum 4 [.ref 47, .int 0, .int 0] [] I L F) : EI d mX9_sum [.ref 47] I L F := by
  refine Ev_of (ls0 := 2) (by decide +kernel) rfl rfl rfl ?_
  refine T_iconst (v := 0) dX9_sum_0 (by decide +kernel) ?_
  refine T_istore_n (lv' := [.ref 47, .int 0, .null]) dX9_sum_1 rfl (by decide) rfl ?_
  refine T_iconst (v := 0) dX9_sum_2 (by decide +kernel) ?_
  refine T_istore_n (lv' := [.ref 47, .int 0, .int 0]) dX9_sum_3 rfl (by decide) rfl ?_
  exact h

set_option maxRecDepth 100000 in
theorem sgX9_sum_4 {d : Nat} {I : st_I} {L : st_L} {F : Int32 → st_I → st_L → Prop} {x1 : Int32} {x2 : Int32} (h : (if (I 47 0) ≤ x2 then F x1 I L else vp_in x2 12 ∧ TI d mX9_sum 4 [.ref 47, .int (x1 + (I 48 (x2.toNatClampNeg))), .int (x2 + 1)] [] I L F)) : TI d mX9_sum 4 [.ref 47, .int x1, .int x2] [] I L F := by
  refine T_iload_n dX9_sum_4 rfl ?_
  refine T_aload_n dX9_sum_5 rfl ?_
  refine T_getv (v := (I 47 0)) dX9_sum_6 fl_RX9_15 shp_47 rfl rfl ?_
  refine T_icmp_ge (tgt := 27) dX9_sum_9 (by decide) (tq_ite h (fun h => ?_) (fun h => ?_))
  ·
    refine T_iload_n dX9_sum_27 rfl ?_
    exact S_iret rfl dX9_sum_28 h
  ·
    refine T_iload_n dX9_sum_12 rfl ?_
    refine T_aload_n dX9_sum_13 rfl ?_
    refine T_getr dX9_sum_14 fl_RX9_11 shp_47 rfl ?_
    refine T_iload_n dX9_sum_17 rfl ?_
    refine T_ialdv (v := (I 48 (x2.toNatClampNeg))) (j := x2.toNatClampNeg) dX9_sum_18 shp_48 h.1 rfl rfl ?_
    replace h := h.2
    refine T_iadd dX9_sum_19 ?_
    refine T_istore_n (lv' := [.ref 47, .int (x1 + (I 48 (x2.toNatClampNeg))), .int x2]) dX9_sum_20 rfl (by decide) rfl ?_
    refine T_iinc (lv' := [.ref 47, .int (x1 + (I 48 (x2.toNatClampNeg))), .int (x2 + 1)]) dX9_sum_21 rfl (by decide) rfl ?_
    refine T_goto (tgt := 4) dX9_sum_24 (by decide) ?_
    exact h

theorem dX9_ways_0 : decode cX9_ways 0 = .ok (.iconst 0, 1) := by decide +kernel
theorem dX9_ways_1 : decode cX9_ways 1 = .ok (.istore_n 1, 1) := by decide +kernel
theorem dX9_ways_2 : decode cX9_ways 2 = .ok (.iconst 0, 1) := by decide +kernel
theorem dX9_ways_3 : decode cX9_ways 3 = .ok (.istore_n 2, 1) := by decide +kernel
theorem dX9_ways_4 : decode cX9_ways 4 = .ok (.iconst 0, 1) := by decide +kernel
theorem dX9_ways_5 : decode cX9_ways 5 = .ok (.istore_n 3, 1) := by decide +kernel
theorem dX9_ways_6 : decode cX9_ways 6 = .ok (.iload_n 3, 1) := by decide +kernel
theorem dX9_ways_7 : decode cX9_ways 7 = .ok (.aload_n 0, 1) := by decide +kernel
theorem dX9_ways_8 : decode cX9_ways 8 = .ok (.getfield 15, 3) := by decide +kernel
theorem dX9_ways_11 : decode cX9_ways 11 = .ok (.if_icmp .ge 35, 3) := by decide +kernel
theorem dX9_ways_14 : decode cX9_ways 14 = .ok (.iload_n 1, 1) := by decide +kernel
theorem dX9_ways_15 : decode cX9_ways 15 = .ok (.iconst 0, 1) := by decide +kernel
theorem dX9_ways_16 : decode cX9_ways 16 = .ok (.aload_n 0, 1) := by decide +kernel
theorem dX9_ways_17 : decode cX9_ways 17 = .ok (.getfield 11, 3) := by decide +kernel
theorem dX9_ways_20 : decode cX9_ways 20 = .ok (.iload_n 3, 1) := by decide +kernel
theorem dX9_ways_21 : decode cX9_ways 21 = .ok (.iaload, 1) := by decide +kernel
theorem dX9_ways_22 : decode cX9_ways 22 = .ok (.invokestatic 59, 3) := by decide +kernel
theorem dX9_ways_25 : decode cX9_ways 25 = .ok (.iadd, 1) := by decide +kernel
theorem dX9_ways_26 : decode cX9_ways 26 = .ok (.istore_n 1, 1) := by decide +kernel
theorem dX9_ways_27 : decode cX9_ways 27 = .ok (.iload_n 2, 1) := by decide +kernel
theorem dX9_ways_28 : decode cX9_ways 28 = .ok (.iconst 0, 1) := by decide +kernel
theorem dX9_ways_29 : decode cX9_ways 29 = .ok (.aload_n 0, 1) := by decide +kernel
theorem dX9_ways_30 : decode cX9_ways 30 = .ok (.getfield 11, 3) := by decide +kernel
theorem dX9_ways_33 : decode cX9_ways 33 = .ok (.iload_n 3, 1) := by decide +kernel
theorem dX9_ways_34 : decode cX9_ways 34 = .ok (.iaload, 1) := by decide +kernel
theorem dX9_ways_35 : decode cX9_ways 35 = .ok (.invokestatic 65, 3) := by decide +kernel
theorem dX9_ways_38 : decode cX9_ways 38 = .ok (.iadd, 1) := by decide +kernel
theorem dX9_ways_39 : decode cX9_ways 39 = .ok (.istore_n 2, 1) := by decide +kernel
theorem dX9_ways_40 : decode cX9_ways 40 = .ok (.iinc 3 1, 3) := by decide +kernel
theorem dX9_ways_43 : decode cX9_ways 43 = .ok (.goto (-37), 3) := by decide +kernel
theorem dX9_ways_46 : decode cX9_ways 46 = .ok (.aload_n 0, 1) := by decide +kernel
theorem dX9_ways_47 : decode cX9_ways 47 = .ok (.iconst 0, 1) := by decide +kernel
theorem dX9_ways_48 : decode cX9_ways 48 = .ok (.iconst 0, 1) := by decide +kernel
theorem dX9_ways_49 : decode cX9_ways 49 = .ok (.iload_n 1, 1) := by decide +kernel
theorem dX9_ways_50 : decode cX9_ways 50 = .ok (.iload_n 2, 1) := by decide +kernel
theorem dX9_ways_51 : decode cX9_ways 51 = .ok (.invokestatic 68, 3) := by decide +kernel
theorem dX9_ways_54 : decode cX9_ways 54 = .ok (.ireturn, 1) := by decide +kernel
set_option maxRecDepth 100000 in
theorem sgX9_ways_0 {d : Nat} {I : st_I} {L : st_L} {F : Int32 → st_I → st_L → Prop}  (h : TI (d + 1) mX9_ways 6 [.ref 47, .int 0, .int 0, .int 0] [] I L F) : EI (d + 1) mX9_ways [.ref 47] I L F := by
  refine Ev_of (ls0 := 3) (by decide +kernel) rfl rfl rfl ?_
  refine T_iconst (v := 0) dX9_ways_0 (by decide +kernel) ?_
  refine T_istore_n (lv' := [.ref 47, .int 0, .null, .null]) dX9_ways_1 rfl (by decide) rfl ?_
  refine T_iconst (v := 0) dX9_ways_2 (by decide +kernel) ?_
  refine T_istore_n (lv' := [.ref 47, .int 0, .int 0, .null]) dX9_ways_3 rfl (by decide) rfl ?_
  refine T_iconst (v := 0) dX9_ways_4 (by decide +kernel) ?_
  refine T_istore_n (lv' := [.ref 47, .int 0, .int 0, .int 0]) dX9_ways_5 rfl (by decide) rfl ?_
  exact h

set_option maxRecDepth 100000 in
theorem sgX9_ways_6 {d : Nat} {I : st_I} {L : st_L} {F : Int32 → st_I → st_L → Prop} {x1 : Int32} {x2 : Int32} {x3 : Int32} (h : (if (I 47 0) ≤ x3 then EI d mX9_waysFrom [.ref 47, .int 0, .int 0, .int x1, .int x2] I L (fun r1 I1 L1 => F r1 I1 L1) else vp_in x3 12 ∧ vp_in x3 12 ∧ TI (d + 1) mX9_ways 6 [.ref 47, .int (x1 + (if (I 48 (x3.toNatClampNeg)) < 0 then (I 48 (x3.toNatClampNeg)) else 0)), .int (x2 + (if 0 < (I 48 (x3.toNatClampNeg)) then (I 48 (x3.toNatClampNeg)) else 0)), .int (x3 + 1)] [] I L F)) : TI (d + 1) mX9_ways 6 [.ref 47, .int x1, .int x2, .int x3] [] I L F := by
  refine T_iload_n dX9_ways_6 rfl ?_
  refine T_aload_n dX9_ways_7 rfl ?_
  refine T_getv (v := (I 47 0)) dX9_ways_8 fl_RX9_15 shp_47 rfl rfl ?_
  refine T_icmp_ge (tgt := 46) dX9_ways_11 (by decide) (tq_ite h (fun h => ?_) (fun h => ?_))
  ·
    refine T_aload_n dX9_ways_46 rfl ?_
    refine T_iconst (v := 0) dX9_ways_47 (by decide +kernel) ?_
    refine T_iconst (v := 0) dX9_ways_48 (by decide +kernel) ?_
    refine T_iload_n dX9_ways_49 rfl ?_
    refine T_iload_n dX9_ways_50 rfl ?_
    refine S_callSI (M' := mX9_waysFrom) [.ref 47, .int 0, .int 0, .int x1, .int x2] [] dX9_ways_51 ml_RX9_68 mkX9_waysFrom rfl rfl (Nat.le_of_ble_eq_true rfl) h (fun r1 I1 L1 h => ?_)
    exact S_iret rfl dX9_ways_54 h
  ·
    refine T_iload_n dX9_ways_14 rfl ?_
    refine T_iconst (v := 0) dX9_ways_15 (by decide +kernel) ?_
    refine T_aload_n dX9_ways_16 rfl ?_
    refine T_getr dX9_ways_17 fl_RX9_11 shp_47 rfl ?_
    refine T_iload_n dX9_ways_20 rfl ?_
    refine T_ialdv (v := (I 48 (x3.toNatClampNeg))) (j := x3.toNatClampNeg) dX9_ways_21 shp_48 h.1 rfl rfl ?_
    replace h := h.2
    refine T_mmin dX9_ways_22 ml_RX9_59 (Nat.le_of_ble_eq_true rfl) ?_
    refine T_iadd dX9_ways_25 ?_
    refine T_istore_n (lv' := [.ref 47, .int (x1 + (if (I 48 (x3.toNatClampNeg)) < 0 then (I 48 (x3.toNatClampNeg)) else 0)), .int x2, .int x3]) dX9_ways_26 rfl (by decide) rfl ?_
    refine T_iload_n dX9_ways_27 rfl ?_
    refine T_iconst (v := 0) dX9_ways_28 (by decide +kernel) ?_
    refine T_aload_n dX9_ways_29 rfl ?_
    refine T_getr dX9_ways_30 fl_RX9_11 shp_47 rfl ?_
    refine T_iload_n dX9_ways_33 rfl ?_
    refine T_ialdv (v := (I 48 (x3.toNatClampNeg))) (j := x3.toNatClampNeg) dX9_ways_34 shp_48 h.1 rfl rfl ?_
    replace h := h.2
    refine T_mmax dX9_ways_35 ml_RX9_65 (Nat.le_of_ble_eq_true rfl) ?_
    refine T_iadd dX9_ways_38 ?_
    refine T_istore_n (lv' := [.ref 47, .int (x1 + (if (I 48 (x3.toNatClampNeg)) < 0 then (I 48 (x3.toNatClampNeg)) else 0)), .int (x2 + (if 0 < (I 48 (x3.toNatClampNeg)) then (I 48 (x3.toNatClampNeg)) else 0)), .int x3]) dX9_ways_39 rfl (by decide) rfl ?_
    refine T_iinc (lv' := [.ref 47, .int (x1 + (if (I 48 (x3.toNatClampNeg)) < 0 then (I 48 (x3.toNatClampNeg)) else 0)), .int (x2 + (if 0 < (I 48 (x3.toNatClampNeg)) then (I 48 (x3.toNatClampNeg)) else 0)), .int (x3 + 1)]) dX9_ways_40 rfl (by decide) rfl ?_
    refine T_goto (tgt := 6) dX9_ways_43 (by decide) ?_
    exact h

theorem dX9_waysFrom_0 : decode cX9_waysFrom 0 = .ok (.iload_n 2, 1) := by decide +kernel
theorem dX9_waysFrom_1 : decode cX9_waysFrom 1 = .ok (.iload_n 3, 1) := by decide +kernel
theorem dX9_waysFrom_2 : decode cX9_waysFrom 2 = .ok (.iadd, 1) := by decide +kernel
theorem dX9_waysFrom_3 : decode cX9_waysFrom 3 = .ok (.ifCond .le 5, 3) := by decide +kernel
theorem dX9_waysFrom_6 : decode cX9_waysFrom 6 = .ok (.iconst 0, 1) := by decide +kernel
theorem dX9_waysFrom_7 : decode cX9_waysFrom 7 = .ok (.ireturn, 1) := by decide +kernel
theorem dX9_waysFrom_8 : decode cX9_waysFrom 8 = .ok (.iload_n 2, 1) := by decide +kernel
theorem dX9_waysFrom_9 : decode cX9_waysFrom 9 = .ok (.iload 4, 2) := by decide +kernel
theorem dX9_waysFrom_11 : decode cX9_waysFrom 11 = .ok (.iadd, 1) := by decide +kernel
theorem dX9_waysFrom_12 : decode cX9_waysFrom 12 = .ok (.ifCond .le 11, 3) := by decide +kernel
theorem dX9_waysFrom_15 : decode cX9_waysFrom 15 = .ok (.iload_n 1, 1) := by decide +kernel
theorem dX9_waysFrom_16 : decode cX9_waysFrom 16 = .ok (.aload_n 0, 1) := by decide +kernel
theorem dX9_waysFrom_17 : decode cX9_waysFrom 17 = .ok (.getfield 15, 3) := by decide +kernel
theorem dX9_waysFrom_20 : decode cX9_waysFrom 20 = .ok (.if_icmp .lt 12, 3) := by decide +kernel
theorem dX9_waysFrom_23 : decode cX9_waysFrom 23 = .ok (.iconst 1, 1) := by decide +kernel
theorem dX9_waysFrom_24 : decode cX9_waysFrom 24 = .ok (.aload_n 0, 1) := by decide +kernel
theorem dX9_waysFrom_25 : decode cX9_waysFrom 25 = .ok (.getfield 15, 3) := by decide +kernel
theorem dX9_waysFrom_28 : decode cX9_waysFrom 28 = .ok (.iload_n 1, 1) := by decide +kernel
theorem dX9_waysFrom_29 : decode cX9_waysFrom 29 = .ok (.isub, 1) := by decide +kernel
theorem dX9_waysFrom_30 : decode cX9_waysFrom 30 = .ok (.ishl, 1) := by decide +kernel
theorem dX9_waysFrom_31 : decode cX9_waysFrom 31 = .ok (.ireturn, 1) := by decide +kernel
theorem dX9_waysFrom_32 : decode cX9_waysFrom 32 = .ok (.aload_n 0, 1) := by decide +kernel
theorem dX9_waysFrom_33 : decode cX9_waysFrom 33 = .ok (.getfield 11, 3) := by decide +kernel
theorem dX9_waysFrom_36 : decode cX9_waysFrom 36 = .ok (.iload_n 1, 1) := by decide +kernel
theorem dX9_waysFrom_37 : decode cX9_waysFrom 37 = .ok (.iaload, 1) := by decide +kernel
theorem dX9_waysFrom_38 : decode cX9_waysFrom 38 = .ok (.istore 5, 2) := by decide +kernel
theorem dX9_waysFrom_40 : decode cX9_waysFrom 40 = .ok (.iload_n 3, 1) := by decide +kernel
theorem dX9_waysFrom_41 : decode cX9_waysFrom 41 = .ok (.iconst 0, 1) := by decide +kernel
theorem dX9_waysFrom_42 : decode cX9_waysFrom 42 = .ok (.iload 5, 2) := by decide +kernel
theorem dX9_waysFrom_44 : decode cX9_waysFrom 44 = .ok (.invokestatic 59, 3) := by decide +kernel
theorem dX9_waysFrom_47 : decode cX9_waysFrom 47 = .ok (.isub, 1) := by decide +kernel
theorem dX9_waysFrom_48 : decode cX9_waysFrom 48 = .ok (.istore 6, 2) := by decide +kernel
theorem dX9_waysFrom_50 : decode cX9_waysFrom 50 = .ok (.iload 4, 2) := by decide +kernel
theorem dX9_waysFrom_52 : decode cX9_waysFrom 52 = .ok (.iconst 0, 1) := by decide +kernel
theorem dX9_waysFrom_53 : decode cX9_waysFrom 53 = .ok (.iload 5, 2) := by decide +kernel
theorem dX9_waysFrom_55 : decode cX9_waysFrom 55 = .ok (.invokestatic 65, 3) := by decide +kernel
theorem dX9_waysFrom_58 : decode cX9_waysFrom 58 = .ok (.isub, 1) := by decide +kernel
theorem dX9_waysFrom_59 : decode cX9_waysFrom 59 = .ok (.istore 7, 2) := by decide +kernel
theorem dX9_waysFrom_61 : decode cX9_waysFrom 61 = .ok (.aload_n 0, 1) := by decide +kernel
theorem dX9_waysFrom_62 : decode cX9_waysFrom 62 = .ok (.iload_n 1, 1) := by decide +kernel
theorem dX9_waysFrom_63 : decode cX9_waysFrom 63 = .ok (.iconst 1, 1) := by decide +kernel
theorem dX9_waysFrom_64 : decode cX9_waysFrom 64 = .ok (.iadd, 1) := by decide +kernel
theorem dX9_waysFrom_65 : decode cX9_waysFrom 65 = .ok (.iload_n 2, 1) := by decide +kernel
theorem dX9_waysFrom_66 : decode cX9_waysFrom 66 = .ok (.iload 6, 2) := by decide +kernel
theorem dX9_waysFrom_68 : decode cX9_waysFrom 68 = .ok (.iload 7, 2) := by decide +kernel
theorem dX9_waysFrom_70 : decode cX9_waysFrom 70 = .ok (.invokestatic 68, 3) := by decide +kernel
theorem dX9_waysFrom_73 : decode cX9_waysFrom 73 = .ok (.aload_n 0, 1) := by decide +kernel
theorem dX9_waysFrom_74 : decode cX9_waysFrom 74 = .ok (.iload_n 1, 1) := by decide +kernel
theorem dX9_waysFrom_75 : decode cX9_waysFrom 75 = .ok (.iconst 1, 1) := by decide +kernel
theorem dX9_waysFrom_76 : decode cX9_waysFrom 76 = .ok (.iadd, 1) := by decide +kernel
theorem dX9_waysFrom_77 : decode cX9_waysFrom 77 = .ok (.iload_n 2, 1) := by decide +kernel
theorem dX9_waysFrom_78 : decode cX9_waysFrom 78 = .ok (.iload 5, 2) := by decide +kernel
theorem dX9_waysFrom_80 : decode cX9_waysFrom 80 = .ok (.iadd, 1) := by decide +kernel
theorem dX9_waysFrom_81 : decode cX9_waysFrom 81 = .ok (.iload 6, 2) := by decide +kernel
theorem dX9_waysFrom_83 : decode cX9_waysFrom 83 = .ok (.iload 7, 2) := by decide +kernel
theorem dX9_waysFrom_85 : decode cX9_waysFrom 85 = .ok (.invokestatic 68, 3) := by decide +kernel
theorem dX9_waysFrom_88 : decode cX9_waysFrom 88 = .ok (.iadd, 1) := by decide +kernel
theorem dX9_waysFrom_89 : decode cX9_waysFrom 89 = .ok (.ireturn, 1) := by decide +kernel
set_option maxRecDepth 100000 in
theorem sgX9_waysFrom_0 {d : Nat} {I : st_I} {L : st_L} {F : Int32 → st_I → st_L → Prop} {a2 : Int32} {a3 : Int32} {a4 : Int32} {a5 : Int32} (h : (if (a3 + a4) ≤ 0 then (if (a3 + a5) ≤ 0 then F (1 <<< (((I 47 0) - a2) &&& 31)) I L else (if a2 < (I 47 0) then vp_in a2 12 ∧ EI d mX9_waysFrom [.ref 47, .int (a2 + 1), .int a3, .int (a4 - (if (I 48 (a2.toNatClampNeg)) < 0 then (I 48 (a2.toNatClampNeg)) else 0)), .int (a5 - (if 0 < (I 48 (a2.toNatClampNeg)) then (I 48 (a2.toNatClampNeg)) else 0))] I L (fun r1 I1 L1 => EI d mX9_waysFrom [.ref 47, .int (a2 + 1), .int (a3 + (I 48 (a2.toNatClampNeg))), .int (a4 - (if (I 48 (a2.toNatClampNeg)) < 0 then (I 48 (a2.toNatClampNeg)) else 0)), .int (a5 - (if 0 < (I 48 (a2.toNatClampNeg)) then (I 48 (a2.toNatClampNeg)) else 0))] I1 L1 (fun r2 I2 L2 => F (r1 + r2) I2 L2)) else F (1 <<< (((I 47 0) - a2) &&& 31)) I L)) else F 0 I L)) : EI (d + 1) mX9_waysFrom [.ref 47, .int a2, .int a3, .int a4, .int a5] I L F := by
  refine Ev_of (ls0 := 3) (by decide +kernel) rfl rfl rfl ?_
  refine T_iload_n dX9_waysFrom_0 rfl ?_
  refine T_iload_n dX9_waysFrom_1 rfl ?_
  refine T_iadd dX9_waysFrom_2 ?_
  refine T_if_le (tgt := 8) dX9_waysFrom_3 (by decide) (tq_ite h (fun h => ?_) (fun h => ?_))
  ·
    refine T_iload_n dX9_waysFrom_8 rfl ?_
    refine T_iload dX9_waysFrom_9 rfl ?_
    refine T_iadd dX9_waysFrom_11 ?_
    refine T_if_le (tgt := 23) dX9_waysFrom_12 (by decide) (tq_ite h (fun h => ?_) (fun h => ?_))
    ·
      refine T_iconst (v := 1) dX9_waysFrom_23 (by decide +kernel) ?_
      refine T_aload_n dX9_waysFrom_24 rfl ?_
      refine T_getv (v := (I 47 0)) dX9_waysFrom_25 fl_RX9_15 shp_47 rfl rfl ?_
      refine T_iload_n dX9_waysFrom_28 rfl ?_
      refine T_isub dX9_waysFrom_29 ?_
      refine T_ishl dX9_waysFrom_30 ?_
      exact S_iret rfl dX9_waysFrom_31 h
    ·
      refine T_iload_n dX9_waysFrom_15 rfl ?_
      refine T_aload_n dX9_waysFrom_16 rfl ?_
      refine T_getv (v := (I 47 0)) dX9_waysFrom_17 fl_RX9_15 shp_47 rfl rfl ?_
      refine T_icmp_lt (tgt := 32) dX9_waysFrom_20 (by decide) (tq_ite h (fun h => ?_) (fun h => ?_))
      ·
        refine T_aload_n dX9_waysFrom_32 rfl ?_
        refine T_getr dX9_waysFrom_33 fl_RX9_11 shp_47 rfl ?_
        refine T_iload_n dX9_waysFrom_36 rfl ?_
        refine T_ialdv (v := (I 48 (a2.toNatClampNeg))) (j := a2.toNatClampNeg) dX9_waysFrom_37 shp_48 h.1 rfl rfl ?_
        replace h := h.2
        refine T_istore (lv' := [.ref 47, .int a2, .int a3, .int a4, .int a5, .int (I 48 (a2.toNatClampNeg)), .null, .null]) dX9_waysFrom_38 (by decide) rfl ?_
        refine T_iload_n dX9_waysFrom_40 rfl ?_
        refine T_iconst (v := 0) dX9_waysFrom_41 (by decide +kernel) ?_
        refine T_iload dX9_waysFrom_42 rfl ?_
        refine T_mmin dX9_waysFrom_44 ml_RX9_59 (Nat.le_of_ble_eq_true rfl) ?_
        refine T_isub dX9_waysFrom_47 ?_
        refine T_istore (lv' := [.ref 47, .int a2, .int a3, .int a4, .int a5, .int (I 48 (a2.toNatClampNeg)), .int (a4 - (if (I 48 (a2.toNatClampNeg)) < 0 then (I 48 (a2.toNatClampNeg)) else 0)), .null]) dX9_waysFrom_48 (by decide) rfl ?_
        refine T_iload dX9_waysFrom_50 rfl ?_
        refine T_iconst (v := 0) dX9_waysFrom_52 (by decide +kernel) ?_
        refine T_iload dX9_waysFrom_53 rfl ?_
        refine T_mmax dX9_waysFrom_55 ml_RX9_65 (Nat.le_of_ble_eq_true rfl) ?_
        refine T_isub dX9_waysFrom_58 ?_
        refine T_istore (lv' := [.ref 47, .int a2, .int a3, .int a4, .int a5, .int (I 48 (a2.toNatClampNeg)), .int (a4 - (if (I 48 (a2.toNatClampNeg)) < 0 then (I 48 (a2.toNatClampNeg)) else 0)), .int (a5 - (if 0 < (I 48 (a2.toNatClampNeg)) then (I 48 (a2.toNatClampNeg)) else 0))]) dX9_waysFrom_59 (by decide) rfl ?_
        refine T_aload_n dX9_waysFrom_61 rfl ?_
        refine T_iload_n dX9_waysFrom_62 rfl ?_
        refine T_iconst (v := 1) dX9_waysFrom_63 (by decide +kernel) ?_
        refine T_iadd dX9_waysFrom_64 ?_
        refine T_iload_n dX9_waysFrom_65 rfl ?_
        refine T_iload dX9_waysFrom_66 rfl ?_
        refine T_iload dX9_waysFrom_68 rfl ?_
        refine S_callSI (M' := mX9_waysFrom) [.ref 47, .int (a2 + 1), .int a3, .int (a4 - (if (I 48 (a2.toNatClampNeg)) < 0 then (I 48 (a2.toNatClampNeg)) else 0)), .int (a5 - (if 0 < (I 48 (a2.toNatClampNeg)) then (I 48 (a2.toNatClampNeg)) else 0))] [] dX9_waysFrom_70 ml_RX9_68 mkX9_waysFrom rfl rfl (Nat.le_of_ble_eq_true rfl) h (fun r1 I1 L1 h => ?_)
        refine T_aload_n dX9_waysFrom_73 rfl ?_
        refine T_iload_n dX9_waysFrom_74 rfl ?_
        refine T_iconst (v := 1) dX9_waysFrom_75 (by decide +kernel) ?_
        refine T_iadd dX9_waysFrom_76 ?_
        refine T_iload_n dX9_waysFrom_77 rfl ?_
        refine T_iload dX9_waysFrom_78 rfl ?_
        refine T_iadd dX9_waysFrom_80 ?_
        refine T_iload dX9_waysFrom_81 rfl ?_
        refine T_iload dX9_waysFrom_83 rfl ?_
        refine S_callSI (M' := mX9_waysFrom) [.ref 47, .int (a2 + 1), .int (a3 + (I 48 (a2.toNatClampNeg))), .int (a4 - (if (I 48 (a2.toNatClampNeg)) < 0 then (I 48 (a2.toNatClampNeg)) else 0)), .int (a5 - (if 0 < (I 48 (a2.toNatClampNeg)) then (I 48 (a2.toNatClampNeg)) else 0))] [.int r1] dX9_waysFrom_85 ml_RX9_68 mkX9_waysFrom rfl rfl (Nat.le_of_ble_eq_true rfl) h (fun r2 I2 L2 h => ?_)
        refine T_iadd dX9_waysFrom_88 ?_
        exact S_iret rfl dX9_waysFrom_89 h
      ·
        refine T_iconst (v := 1) dX9_waysFrom_23 (by decide +kernel) ?_
        refine T_aload_n dX9_waysFrom_24 rfl ?_
        refine T_getv (v := (I 47 0)) dX9_waysFrom_25 fl_RX9_15 shp_47 rfl rfl ?_
        refine T_iload_n dX9_waysFrom_28 rfl ?_
        refine T_isub dX9_waysFrom_29 ?_
        refine T_ishl dX9_waysFrom_30 ?_
        exact S_iret rfl dX9_waysFrom_31 h
  ·
    refine T_iconst (v := 0) dX9_waysFrom_6 (by decide +kernel) ?_
    exact S_iret rfl dX9_waysFrom_7 h

theorem dX3_gather_0 : decode cX3_gather 0 = .ok (.aload_n 0, 1) := by decide +kernel
theorem dX3_gather_1 : decode cX3_gather 1 = .ok (.iconst 0, 1) := by decide +kernel
theorem dX3_gather_2 : decode cX3_gather 2 = .ok (.putfield 24, 3) := by decide +kernel
theorem dX3_gather_5 : decode cX3_gather 5 = .ok (.aload_n 0, 1) := by decide +kernel
theorem dX3_gather_6 : decode cX3_gather 6 = .ok (.iconst 0, 1) := by decide +kernel
theorem dX3_gather_7 : decode cX3_gather 7 = .ok (.putfield 28, 3) := by decide +kernel
theorem dX3_gather_10 : decode cX3_gather 10 = .ok (.aload_n 0, 1) := by decide +kernel
theorem dX3_gather_11 : decode cX3_gather 11 = .ok (.iconst 0, 1) := by decide +kernel
theorem dX3_gather_12 : decode cX3_gather 12 = .ok (.putfield 31, 3) := by decide +kernel
theorem dX3_gather_15 : decode cX3_gather 15 = .ok (.iconst 0, 1) := by decide +kernel
theorem dX3_gather_16 : decode cX3_gather 16 = .ok (.istore_n 3, 1) := by decide +kernel
theorem dX3_gather_17 : decode cX3_gather 17 = .ok (.iload_n 3, 1) := by decide +kernel
theorem dX3_gather_18 : decode cX3_gather 18 = .ok (.aload_n 1, 1) := by decide +kernel
theorem dX3_gather_19 : decode cX3_gather 19 = .ok (.getfield 34, 3) := by decide +kernel
theorem dX3_gather_22 : decode cX3_gather 22 = .ok (.if_icmp .ge 57, 3) := by decide +kernel
theorem dX3_gather_25 : decode cX3_gather 25 = .ok (.aload_n 0, 1) := by decide +kernel
theorem dX3_gather_26 : decode cX3_gather 26 = .ok (.getfield 24, 3) := by decide +kernel
theorem dX3_gather_29 : decode cX3_gather 29 = .ok (.bipush 6, 2) := by decide +kernel
theorem dX3_gather_31 : decode cX3_gather 31 = .ok (.if_icmp .ge 48, 3) := by decide +kernel
theorem dX3_gather_34 : decode cX3_gather 34 = .ok (.aload_n 2, 1) := by decide +kernel
theorem dX3_gather_35 : decode cX3_gather 35 = .ok (.iload_n 3, 1) := by decide +kernel
theorem dX3_gather_36 : decode cX3_gather 36 = .ok (.invokevirtual 39, 3) := by decide +kernel
theorem dX3_gather_39 : decode cX3_gather 39 = .ok (.ifCond .eq 34, 3) := by decide +kernel
theorem dX3_gather_42 : decode cX3_gather 42 = .ok (.aload_n 2, 1) := by decide +kernel
theorem dX3_gather_43 : decode cX3_gather 43 = .ok (.bipush 8, 2) := by decide +kernel
theorem dX3_gather_45 : decode cX3_gather 45 = .ok (.iload_n 3, 1) := by decide +kernel
theorem dX3_gather_46 : decode cX3_gather 46 = .ok (.iadd, 1) := by decide +kernel
theorem dX3_gather_47 : decode cX3_gather 47 = .ok (.invokevirtual 39, 3) := by decide +kernel
theorem dX3_gather_50 : decode cX3_gather 50 = .ok (.ifCond .eq 23, 3) := by decide +kernel
theorem dX3_gather_53 : decode cX3_gather 53 = .ok (.aload_n 0, 1) := by decide +kernel
theorem dX3_gather_54 : decode cX3_gather 54 = .ok (.getfield 11, 3) := by decide +kernel
theorem dX3_gather_57 : decode cX3_gather 57 = .ok (.aload_n 0, 1) := by decide +kernel
theorem dX3_gather_58 : decode cX3_gather 58 = .ok (.getfield 24, 3) := by decide +kernel
theorem dX3_gather_61 : decode cX3_gather 61 = .ok (.iload_n 3, 1) := by decide +kernel
theorem dX3_gather_62 : decode cX3_gather 62 = .ok (.iastore, 1) := by decide +kernel
theorem dX3_gather_63 : decode cX3_gather 63 = .ok (.aload_n 0, 1) := by decide +kernel
theorem dX3_gather_64 : decode cX3_gather 64 = .ok (.dup, 1) := by decide +kernel
theorem dX3_gather_65 : decode cX3_gather 65 = .ok (.getfield 24, 3) := by decide +kernel
theorem dX3_gather_68 : decode cX3_gather 68 = .ok (.iconst 1, 1) := by decide +kernel
theorem dX3_gather_69 : decode cX3_gather 69 = .ok (.iadd, 1) := by decide +kernel
theorem dX3_gather_70 : decode cX3_gather 70 = .ok (.putfield 24, 3) := by decide +kernel
theorem dX3_gather_73 : decode cX3_gather 73 = .ok (.iinc 3 1, 3) := by decide +kernel
theorem dX3_gather_76 : decode cX3_gather 76 = .ok (.goto (-59), 3) := by decide +kernel
theorem dX3_gather_79 : decode cX3_gather 79 = .ok (.iconst 0, 1) := by decide +kernel
theorem dX3_gather_80 : decode cX3_gather 80 = .ok (.istore_n 3, 1) := by decide +kernel
theorem dX3_gather_81 : decode cX3_gather 81 = .ok (.iload_n 3, 1) := by decide +kernel
theorem dX3_gather_82 : decode cX3_gather 82 = .ok (.aload_n 0, 1) := by decide +kernel
theorem dX3_gather_83 : decode cX3_gather 83 = .ok (.getfield 24, 3) := by decide +kernel
theorem dX3_gather_86 : decode cX3_gather 86 = .ok (.if_icmp .ge 35, 3) := by decide +kernel
theorem dX3_gather_89 : decode cX3_gather 89 = .ok (.iconst 0, 1) := by decide +kernel
theorem dX3_gather_90 : decode cX3_gather 90 = .ok (.istore 4, 2) := by decide +kernel
theorem dX3_gather_92 : decode cX3_gather 92 = .ok (.iload 4, 2) := by decide +kernel
theorem dX3_gather_94 : decode cX3_gather 94 = .ok (.aload_n 0, 1) := by decide +kernel
theorem dX3_gather_95 : decode cX3_gather 95 = .ok (.getfield 24, 3) := by decide +kernel
theorem dX3_gather_98 : decode cX3_gather 98 = .ok (.if_icmp .ge 17, 3) := by decide +kernel
theorem dX3_gather_101 : decode cX3_gather 101 = .ok (.aload_n 0, 1) := by decide +kernel
theorem dX3_gather_102 : decode cX3_gather 102 = .ok (.aload_n 2, 1) := by decide +kernel
theorem dX3_gather_103 : decode cX3_gather 103 = .ok (.iload_n 3, 1) := by decide +kernel
theorem dX3_gather_104 : decode cX3_gather 104 = .ok (.iload 4, 2) := by decide +kernel
theorem dX3_gather_106 : decode cX3_gather 106 = .ok (.invokevirtual 45, 3) := by decide +kernel
theorem dX3_gather_109 : decode cX3_gather 109 = .ok (.iinc 4 1, 3) := by decide +kernel
theorem dX3_gather_112 : decode cX3_gather 112 = .ok (.goto (-20), 3) := by decide +kernel
theorem dX3_gather_115 : decode cX3_gather 115 = .ok (.iinc 3 1, 3) := by decide +kernel
theorem dX3_gather_118 : decode cX3_gather 118 = .ok (.goto (-37), 3) := by decide +kernel
theorem dX3_gather_121 : decode cX3_gather 121 = .ok (.return_, 1) := by decide +kernel
set_option maxRecDepth 100000 in
theorem sgX3_gather_0 {d : Nat} {I : st_I} {L : st_L} {F : st_I → st_L → Prop}  (h : TV (d + 1) mX3_gather 17 [.ref 49, .ref 1, .ref 30, .int 0, .null] [] (u_I (u_I (u_I I 49 0 0) 49 1 0) 49 2 0) L F) : EV (d + 1) mX3_gather [.ref 49, .ref 1, .ref 30] I L F := by
  refine Ev_of (ls0 := 2) (by decide +kernel) rfl rfl rfl ?_
  refine T_aload_n dX3_gather_0 rfl ?_
  refine T_iconst (v := 0) dX3_gather_1 (by decide +kernel) ?_
  refine T_puti dX3_gather_2 fl_RX3_24 pf_3_0 shp_49 rfl rfl rfl ?_
  refine T_aload_n dX3_gather_5 rfl ?_
  refine T_iconst (v := 0) dX3_gather_6 (by decide +kernel) ?_
  refine T_puti dX3_gather_7 fl_RX3_28 pf_3_1 shp_49 rfl rfl rfl ?_
  refine T_aload_n dX3_gather_10 rfl ?_
  refine T_iconst (v := 0) dX3_gather_11 (by decide +kernel) ?_
  refine T_puti dX3_gather_12 fl_RX3_31 pf_3_2 shp_49 rfl rfl rfl ?_
  refine T_iconst (v := 0) dX3_gather_15 (by decide +kernel) ?_
  refine T_istore_n (lv' := [.ref 49, .ref 1, .ref 30, .int 0, .null]) dX3_gather_16 rfl (by decide) rfl ?_
  exact h

set_option maxRecDepth 100000 in
theorem sgX3_gather_17 {d : Nat} {I : st_I} {L : st_L} {F : st_I → st_L → Prop} {x3 : Int32} (h : (if (I 1 0) ≤ x3 then TV (d + 1) mX3_gather 81 [.ref 49, .null, .ref 30, .int 0, .null] [] I L F else (if 6 ≤ (I 49 0) then TV (d + 1) mX3_gather 81 [.ref 49, .null, .ref 30, .int 0, .null] [] I L F else EI d mX2_hasMean [.ref 30, .int x3] I L (fun r1 I1 L1 => (if r1 = 0 then TV (d + 1) mX3_gather 17 [.ref 49, .ref 1, .ref 30, .int (x3 + 1), .null] [] I1 L1 F else EI d mX2_hasMean [.ref 30, .int (8 + x3)] I1 L1 (fun r2 I2 L2 => (if r2 = 0 then TV (d + 1) mX3_gather 17 [.ref 49, .ref 1, .ref 30, .int (x3 + 1), .null] [] I2 L2 F else vp_in (I2 49 0) 6 ∧ TV (d + 1) mX3_gather 17 [.ref 49, .ref 1, .ref 30, .int (x3 + 1), .null] [] (u_I (u_I I2 50 ((I2 49 0).toNatClampNeg) x3) 49 0 ((I2 49 0) + 1)) L2 F))))))) : TV (d + 1) mX3_gather 17 [.ref 49, .ref 1, .ref 30, .int x3, .null] [] I L F := by
  refine T_iload_n dX3_gather_17 rfl ?_
  refine T_aload_n dX3_gather_18 rfl ?_
  refine T_getv (v := (I 1 0)) dX3_gather_19 fl_RX3_34 shp_1 rfl rfl ?_
  refine T_icmp_ge (tgt := 79) dX3_gather_22 (by decide) (tq_ite h (fun h => ?_) (fun h => ?_))
  ·
    refine T_iconst (v := 0) dX3_gather_79 (by decide +kernel) ?_
    refine T_istore_n (lv' := [.ref 49, .ref 1, .ref 30, .int 0, .null]) dX3_gather_80 rfl (by decide) rfl ?_
    exact T_wk (lv' := [.ref 49, .null, .ref 30, .int 0, .null]) ⟨Or.inr rfl, Or.inl rfl, Or.inr rfl, Or.inr rfl, Or.inr rfl, trivial⟩ h
  ·
    refine T_aload_n dX3_gather_25 rfl ?_
    refine T_getv (v := (I 49 0)) dX3_gather_26 fl_RX3_24 shp_49 rfl rfl ?_
    refine T_bipush (v := 6) dX3_gather_29 (by decide +kernel) ?_
    refine T_icmp_ge (tgt := 79) dX3_gather_31 (by decide) (tq_ite h (fun h => ?_) (fun h => ?_))
    ·
      refine T_iconst (v := 0) dX3_gather_79 (by decide +kernel) ?_
      refine T_istore_n (lv' := [.ref 49, .ref 1, .ref 30, .int 0, .null]) dX3_gather_80 rfl (by decide) rfl ?_
      exact T_wk (lv' := [.ref 49, .null, .ref 30, .int 0, .null]) ⟨Or.inr rfl, Or.inl rfl, Or.inr rfl, Or.inr rfl, Or.inr rfl, trivial⟩ h
    ·
      refine T_aload_n dX3_gather_34 rfl ?_
      refine T_iload_n dX3_gather_35 rfl ?_
      refine S_callVI (M' := mX2_hasMean) [.int x3] [] dX3_gather_36 ml_RX3_39 mkX2_hasMean rfl shp_30 rfl rfl rfl (Nat.le_of_ble_eq_true rfl) h (fun r1 I1 L1 h => ?_)
      refine T_if_eq (tgt := 73) dX3_gather_39 (by decide) (tq_ite h (fun h => ?_) (fun h => ?_))
      ·
        refine T_iinc (lv' := [.ref 49, .ref 1, .ref 30, .int (x3 + 1), .null]) dX3_gather_73 rfl (by decide) rfl ?_
        refine T_goto (tgt := 17) dX3_gather_76 (by decide) ?_
        exact h
      ·
        refine T_aload_n dX3_gather_42 rfl ?_
        refine T_bipush (v := 8) dX3_gather_43 (by decide +kernel) ?_
        refine T_iload_n dX3_gather_45 rfl ?_
        refine T_iadd dX3_gather_46 ?_
        refine S_callVI (M' := mX2_hasMean) [.int (8 + x3)] [] dX3_gather_47 ml_RX3_39 mkX2_hasMean rfl shp_30 rfl rfl rfl (Nat.le_of_ble_eq_true rfl) h (fun r2 I2 L2 h => ?_)
        refine T_if_eq (tgt := 73) dX3_gather_50 (by decide) (tq_ite h (fun h => ?_) (fun h => ?_))
        ·
          refine T_iinc (lv' := [.ref 49, .ref 1, .ref 30, .int (x3 + 1), .null]) dX3_gather_73 rfl (by decide) rfl ?_
          refine T_goto (tgt := 17) dX3_gather_76 (by decide) ?_
          exact h
        ·
          refine T_aload_n dX3_gather_53 rfl ?_
          refine T_getr dX3_gather_54 fl_RX3_11 shp_49 rfl ?_
          refine T_aload_n dX3_gather_57 rfl ?_
          refine T_getv (v := (I2 49 0)) dX3_gather_58 fl_RX3_24 shp_49 rfl rfl ?_
          refine T_iload_n dX3_gather_61 rfl ?_
          refine T_iastv (j := (I2 49 0).toNatClampNeg) dX3_gather_62 shp_50 h.1 rfl ?_
          replace h := h.2
          refine T_aload_n dX3_gather_63 rfl ?_
          refine T_dup dX3_gather_64 rfl ?_
          refine T_getv (v := (I2 49 0)) dX3_gather_65 fl_RX3_24 shp_49 rfl rfl ?_
          refine T_iconst (v := 1) dX3_gather_68 (by decide +kernel) ?_
          refine T_iadd dX3_gather_69 ?_
          refine T_puti dX3_gather_70 fl_RX3_24 pf_3_0 shp_49 rfl rfl rfl ?_
          refine T_iinc (lv' := [.ref 49, .ref 1, .ref 30, .int (x3 + 1), .null]) dX3_gather_73 rfl (by decide) rfl ?_
          refine T_goto (tgt := 17) dX3_gather_76 (by decide) ?_
          exact h

set_option maxRecDepth 100000 in
theorem sgX3_gather_81 {d : Nat} {I : st_I} {L : st_L} {F : st_I → st_L → Prop} {x3 : Int32} (h : (if (I 49 0) ≤ x3 then F I L else TV (d + 1) mX3_gather 92 [.ref 49, .null, .ref 30, .int x3, .int 0] [] I L F)) : TV (d + 1) mX3_gather 81 [.ref 49, .null, .ref 30, .int x3, .null] [] I L F := by
  refine T_iload_n dX3_gather_81 rfl ?_
  refine T_aload_n dX3_gather_82 rfl ?_
  refine T_getv (v := (I 49 0)) dX3_gather_83 fl_RX3_24 shp_49 rfl rfl ?_
  refine T_icmp_ge (tgt := 121) dX3_gather_86 (by decide) (tq_ite h (fun h => ?_) (fun h => ?_))
  ·
    exact S_vret rfl dX3_gather_121 h
  ·
    refine T_iconst (v := 0) dX3_gather_89 (by decide +kernel) ?_
    refine T_istore (lv' := [.ref 49, .null, .ref 30, .int x3, .int 0]) dX3_gather_90 (by decide) rfl ?_
    exact h

set_option maxRecDepth 100000 in
theorem sgX3_gather_92 {d : Nat} {I : st_I} {L : st_L} {F : st_I → st_L → Prop} {x3 : Int32} {x4 : Int32} (h : (if (I 49 0) ≤ x4 then TV (d + 1) mX3_gather 81 [.ref 49, .null, .ref 30, .int (x3 + 1), .null] [] I L F else EV d mX3_gatherTwo [.ref 49, .ref 30, .int x3, .int x4] I L (fun I1 L1 => TV (d + 1) mX3_gather 92 [.ref 49, .null, .ref 30, .int x3, .int (x4 + 1)] [] I1 L1 F))) : TV (d + 1) mX3_gather 92 [.ref 49, .null, .ref 30, .int x3, .int x4] [] I L F := by
  refine T_iload dX3_gather_92 rfl ?_
  refine T_aload_n dX3_gather_94 rfl ?_
  refine T_getv (v := (I 49 0)) dX3_gather_95 fl_RX3_24 shp_49 rfl rfl ?_
  refine T_icmp_ge (tgt := 115) dX3_gather_98 (by decide) (tq_ite h (fun h => ?_) (fun h => ?_))
  ·
    refine T_iinc (lv' := [.ref 49, .null, .ref 30, .int (x3 + 1), .int x4]) dX3_gather_115 rfl (by decide) rfl ?_
    refine T_goto (tgt := 81) dX3_gather_118 (by decide) ?_
    exact T_wk (lv' := [.ref 49, .null, .ref 30, .int (x3 + 1), .null]) ⟨Or.inr rfl, Or.inr rfl, Or.inr rfl, Or.inr rfl, Or.inl rfl, trivial⟩ h
  ·
    refine T_aload_n dX3_gather_101 rfl ?_
    refine T_aload_n dX3_gather_102 rfl ?_
    refine T_iload_n dX3_gather_103 rfl ?_
    refine T_iload dX3_gather_104 rfl ?_
    refine S_callVV (M' := mX3_gatherTwo) [.ref 30, .int x3, .int x4] [] dX3_gather_106 ml_RX3_45 mkX3_gatherTwo rfl shp_49 rfl rfl rfl (Nat.le_of_ble_eq_true rfl) h (fun I1 L1 h => ?_)
    refine T_iinc (lv' := [.ref 49, .null, .ref 30, .int x3, .int (x4 + 1)]) dX3_gather_109 rfl (by decide) rfl ?_
    refine T_goto (tgt := 92) dX3_gather_112 (by decide) ?_
    exact h

theorem dX3_gatherTwo_0 : decode cX3_gatherTwo 0 = .ok (.aload_n 1, 1) := by decide +kernel
theorem dX3_gatherTwo_1 : decode cX3_gatherTwo 1 = .ok (.aload_n 0, 1) := by decide +kernel
theorem dX3_gatherTwo_2 : decode cX3_gatherTwo 2 = .ok (.getfield 11, 3) := by decide +kernel
theorem dX3_gatherTwo_5 : decode cX3_gatherTwo 5 = .ok (.iload_n 2, 1) := by decide +kernel
theorem dX3_gatherTwo_6 : decode cX3_gatherTwo 6 = .ok (.iaload, 1) := by decide +kernel
theorem dX3_gatherTwo_7 : decode cX3_gatherTwo 7 = .ok (.aload_n 0, 1) := by decide +kernel
theorem dX3_gatherTwo_8 : decode cX3_gatherTwo 8 = .ok (.getfield 11, 3) := by decide +kernel
theorem dX3_gatherTwo_11 : decode cX3_gatherTwo 11 = .ok (.iload_n 3, 1) := by decide +kernel
theorem dX3_gatherTwo_12 : decode cX3_gatherTwo 12 = .ok (.iaload, 1) := by decide +kernel
theorem dX3_gatherTwo_13 : decode cX3_gatherTwo 13 = .ok (.invokevirtual 49, 3) := by decide +kernel
theorem dX3_gatherTwo_16 : decode cX3_gatherTwo 16 = .ok (.istore 4, 2) := by decide +kernel
theorem dX3_gatherTwo_18 : decode cX3_gatherTwo 18 = .ok (.aload_n 1, 1) := by decide +kernel
theorem dX3_gatherTwo_19 : decode cX3_gatherTwo 19 = .ok (.bipush 8, 2) := by decide +kernel
theorem dX3_gatherTwo_21 : decode cX3_gatherTwo 21 = .ok (.aload_n 0, 1) := by decide +kernel
theorem dX3_gatherTwo_22 : decode cX3_gatherTwo 22 = .ok (.getfield 11, 3) := by decide +kernel
theorem dX3_gatherTwo_25 : decode cX3_gatherTwo 25 = .ok (.iload_n 2, 1) := by decide +kernel
theorem dX3_gatherTwo_26 : decode cX3_gatherTwo 26 = .ok (.iaload, 1) := by decide +kernel
theorem dX3_gatherTwo_27 : decode cX3_gatherTwo 27 = .ok (.iadd, 1) := by decide +kernel
theorem dX3_gatherTwo_28 : decode cX3_gatherTwo 28 = .ok (.bipush 8, 2) := by decide +kernel
theorem dX3_gatherTwo_30 : decode cX3_gatherTwo 30 = .ok (.aload_n 0, 1) := by decide +kernel
theorem dX3_gatherTwo_31 : decode cX3_gatherTwo 31 = .ok (.getfield 11, 3) := by decide +kernel
theorem dX3_gatherTwo_34 : decode cX3_gatherTwo 34 = .ok (.iload_n 3, 1) := by decide +kernel
theorem dX3_gatherTwo_35 : decode cX3_gatherTwo 35 = .ok (.iaload, 1) := by decide +kernel
theorem dX3_gatherTwo_36 : decode cX3_gatherTwo 36 = .ok (.iadd, 1) := by decide +kernel
theorem dX3_gatherTwo_37 : decode cX3_gatherTwo 37 = .ok (.invokevirtual 49, 3) := by decide +kernel
theorem dX3_gatherTwo_40 : decode cX3_gatherTwo 40 = .ok (.istore 5, 2) := by decide +kernel
theorem dX3_gatherTwo_42 : decode cX3_gatherTwo 42 = .ok (.aload_n 0, 1) := by decide +kernel
theorem dX3_gatherTwo_43 : decode cX3_gatherTwo 43 = .ok (.getfield 15, 3) := by decide +kernel
theorem dX3_gatherTwo_46 : decode cX3_gatherTwo 46 = .ok (.iload_n 2, 1) := by decide +kernel
theorem dX3_gatherTwo_47 : decode cX3_gatherTwo 47 = .ok (.bipush 6, 2) := by decide +kernel
theorem dX3_gatherTwo_49 : decode cX3_gatherTwo 49 = .ok (.imul, 1) := by decide +kernel
theorem dX3_gatherTwo_50 : decode cX3_gatherTwo 50 = .ok (.iload_n 3, 1) := by decide +kernel
theorem dX3_gatherTwo_51 : decode cX3_gatherTwo 51 = .ok (.iadd, 1) := by decide +kernel
theorem dX3_gatherTwo_52 : decode cX3_gatherTwo 52 = .ok (.iload 4, 2) := by decide +kernel
theorem dX3_gatherTwo_54 : decode cX3_gatherTwo 54 = .ok (.iastore, 1) := by decide +kernel
theorem dX3_gatherTwo_55 : decode cX3_gatherTwo 55 = .ok (.aload_n 0, 1) := by decide +kernel
theorem dX3_gatherTwo_56 : decode cX3_gatherTwo 56 = .ok (.getfield 18, 3) := by decide +kernel
theorem dX3_gatherTwo_59 : decode cX3_gatherTwo 59 = .ok (.iload_n 2, 1) := by decide +kernel
theorem dX3_gatherTwo_60 : decode cX3_gatherTwo 60 = .ok (.bipush 6, 2) := by decide +kernel
theorem dX3_gatherTwo_62 : decode cX3_gatherTwo 62 = .ok (.imul, 1) := by decide +kernel
theorem dX3_gatherTwo_63 : decode cX3_gatherTwo 63 = .ok (.iload_n 3, 1) := by decide +kernel
theorem dX3_gatherTwo_64 : decode cX3_gatherTwo 64 = .ok (.iadd, 1) := by decide +kernel
theorem dX3_gatherTwo_65 : decode cX3_gatherTwo 65 = .ok (.iload 5, 2) := by decide +kernel
theorem dX3_gatherTwo_67 : decode cX3_gatherTwo 67 = .ok (.iastore, 1) := by decide +kernel
theorem dX3_gatherTwo_68 : decode cX3_gatherTwo 68 = .ok (.iload_n 2, 1) := by decide +kernel
theorem dX3_gatherTwo_69 : decode cX3_gatherTwo 69 = .ok (.iload_n 3, 1) := by decide +kernel
theorem dX3_gatherTwo_70 : decode cX3_gatherTwo 70 = .ok (.if_icmp .ge 22, 3) := by decide +kernel
theorem dX3_gatherTwo_73 : decode cX3_gatherTwo 73 = .ok (.iload 4, 2) := by decide +kernel
theorem dX3_gatherTwo_75 : decode cX3_gatherTwo 75 = .ok (.iload 5, 2) := by decide +kernel
theorem dX3_gatherTwo_77 : decode cX3_gatherTwo 77 = .ok (.imul, 1) := by decide +kernel
theorem dX3_gatherTwo_78 : decode cX3_gatherTwo 78 = .ok (.iconst 1, 1) := by decide +kernel
theorem dX3_gatherTwo_79 : decode cX3_gatherTwo 79 = .ok (.if_icmp .ne 13, 3) := by decide +kernel
theorem dX3_gatherTwo_82 : decode cX3_gatherTwo 82 = .ok (.aload_n 0, 1) := by decide +kernel
theorem dX3_gatherTwo_83 : decode cX3_gatherTwo 83 = .ok (.dup, 1) := by decide +kernel
theorem dX3_gatherTwo_84 : decode cX3_gatherTwo 84 = .ok (.getfield 28, 3) := by decide +kernel
theorem dX3_gatherTwo_87 : decode cX3_gatherTwo 87 = .ok (.iconst 1, 1) := by decide +kernel
theorem dX3_gatherTwo_88 : decode cX3_gatherTwo 88 = .ok (.iadd, 1) := by decide +kernel
theorem dX3_gatherTwo_89 : decode cX3_gatherTwo 89 = .ok (.putfield 28, 3) := by decide +kernel
theorem dX3_gatherTwo_92 : decode cX3_gatherTwo 92 = .ok (.iload_n 2, 1) := by decide +kernel
theorem dX3_gatherTwo_93 : decode cX3_gatherTwo 93 = .ok (.iload_n 3, 1) := by decide +kernel
theorem dX3_gatherTwo_94 : decode cX3_gatherTwo 94 = .ok (.if_icmp .ge 22, 3) := by decide +kernel
theorem dX3_gatherTwo_97 : decode cX3_gatherTwo 97 = .ok (.iload 4, 2) := by decide +kernel
theorem dX3_gatherTwo_99 : decode cX3_gatherTwo 99 = .ok (.iload 5, 2) := by decide +kernel
theorem dX3_gatherTwo_101 : decode cX3_gatherTwo 101 = .ok (.imul, 1) := by decide +kernel
theorem dX3_gatherTwo_102 : decode cX3_gatherTwo 102 = .ok (.iconst (-1), 1) := by decide +kernel
theorem dX3_gatherTwo_103 : decode cX3_gatherTwo 103 = .ok (.if_icmp .ne 13, 3) := by decide +kernel
theorem dX3_gatherTwo_106 : decode cX3_gatherTwo 106 = .ok (.aload_n 0, 1) := by decide +kernel
theorem dX3_gatherTwo_107 : decode cX3_gatherTwo 107 = .ok (.dup, 1) := by decide +kernel
theorem dX3_gatherTwo_108 : decode cX3_gatherTwo 108 = .ok (.getfield 31, 3) := by decide +kernel
theorem dX3_gatherTwo_111 : decode cX3_gatherTwo 111 = .ok (.iconst 1, 1) := by decide +kernel
theorem dX3_gatherTwo_112 : decode cX3_gatherTwo 112 = .ok (.iadd, 1) := by decide +kernel
theorem dX3_gatherTwo_113 : decode cX3_gatherTwo 113 = .ok (.putfield 31, 3) := by decide +kernel
theorem dX3_gatherTwo_116 : decode cX3_gatherTwo 116 = .ok (.return_, 1) := by decide +kernel
set_option maxRecDepth 100000 in
theorem sgX3_gatherTwo_0 {d : Nat} {I : st_I} {L : st_L} {F : st_I → st_L → Prop} {a2 : Int32} {a3 : Int32} (h : vp_in a2 6 ∧ vp_in a3 6 ∧ EI d mX2_parted [.ref 30, .int (I 50 (a2.toNatClampNeg)), .int (I 50 (a3.toNatClampNeg))] I L (fun r1 I1 L1 => vp_in a2 6 ∧ vp_in a3 6 ∧ EI d mX2_parted [.ref 30, .int (8 + (I1 50 (a2.toNatClampNeg))), .int (8 + (I1 50 (a3.toNatClampNeg)))] I1 L1 (fun r2 I2 L2 => vp_in ((a2 * 6) + a3) 36 ∧ vp_in ((a2 * 6) + a3) 36 ∧ (if a3 ≤ a2 then TV (d + 1) mX3_gatherTwo 92 [.ref 49, .null, .int a2, .int a3, .int r1, .int r2] [] (u_I (u_I I2 51 (((a2 * 6) + a3).toNatClampNeg) r1) 52 (((a2 * 6) + a3).toNatClampNeg) r2) L2 F else (if (r1 * r2) = 1 then TV (d + 1) mX3_gatherTwo 92 [.ref 49, .null, .int a2, .int a3, .int r1, .int r2] [] (u_I (u_I (u_I I2 51 (((a2 * 6) + a3).toNatClampNeg) r1) 52 (((a2 * 6) + a3).toNatClampNeg) r2) 49 1 ((I2 49 1) + 1)) L2 F else TV (d + 1) mX3_gatherTwo 92 [.ref 49, .null, .int a2, .int a3, .int r1, .int r2] [] (u_I (u_I I2 51 (((a2 * 6) + a3).toNatClampNeg) r1) 52 (((a2 * 6) + a3).toNatClampNeg) r2) L2 F))))) : EV (d + 1) mX3_gatherTwo [.ref 49, .ref 30, .int a2, .int a3] I L F := by
  refine Ev_of (ls0 := 2) (by decide +kernel) rfl rfl rfl ?_
  refine T_aload_n dX3_gatherTwo_0 rfl ?_
  refine T_aload_n dX3_gatherTwo_1 rfl ?_
  refine T_getr dX3_gatherTwo_2 fl_RX3_11 shp_49 rfl ?_
  refine T_iload_n dX3_gatherTwo_5 rfl ?_
  refine T_ialdv (v := (I 50 (a2.toNatClampNeg))) (j := a2.toNatClampNeg) dX3_gatherTwo_6 shp_50 h.1 rfl rfl ?_
  replace h := h.2
  refine T_aload_n dX3_gatherTwo_7 rfl ?_
  refine T_getr dX3_gatherTwo_8 fl_RX3_11 shp_49 rfl ?_
  refine T_iload_n dX3_gatherTwo_11 rfl ?_
  refine T_ialdv (v := (I 50 (a3.toNatClampNeg))) (j := a3.toNatClampNeg) dX3_gatherTwo_12 shp_50 h.1 rfl rfl ?_
  replace h := h.2
  refine S_callVI (M' := mX2_parted) [.int (I 50 (a2.toNatClampNeg)), .int (I 50 (a3.toNatClampNeg))] [] dX3_gatherTwo_13 ml_RX3_49 mkX2_parted rfl shp_30 rfl rfl rfl (Nat.le_of_ble_eq_true rfl) h (fun r1 I1 L1 h => ?_)
  refine T_istore (lv' := [.ref 49, .ref 30, .int a2, .int a3, .int r1, .null]) dX3_gatherTwo_16 (by decide) rfl ?_
  refine T_aload_n dX3_gatherTwo_18 rfl ?_
  refine T_bipush (v := 8) dX3_gatherTwo_19 (by decide +kernel) ?_
  refine T_aload_n dX3_gatherTwo_21 rfl ?_
  refine T_getr dX3_gatherTwo_22 fl_RX3_11 shp_49 rfl ?_
  refine T_iload_n dX3_gatherTwo_25 rfl ?_
  refine T_ialdv (v := (I1 50 (a2.toNatClampNeg))) (j := a2.toNatClampNeg) dX3_gatherTwo_26 shp_50 h.1 rfl rfl ?_
  replace h := h.2
  refine T_iadd dX3_gatherTwo_27 ?_
  refine T_bipush (v := 8) dX3_gatherTwo_28 (by decide +kernel) ?_
  refine T_aload_n dX3_gatherTwo_30 rfl ?_
  refine T_getr dX3_gatherTwo_31 fl_RX3_11 shp_49 rfl ?_
  refine T_iload_n dX3_gatherTwo_34 rfl ?_
  refine T_ialdv (v := (I1 50 (a3.toNatClampNeg))) (j := a3.toNatClampNeg) dX3_gatherTwo_35 shp_50 h.1 rfl rfl ?_
  replace h := h.2
  refine T_iadd dX3_gatherTwo_36 ?_
  refine S_callVI (M' := mX2_parted) [.int (8 + (I1 50 (a2.toNatClampNeg))), .int (8 + (I1 50 (a3.toNatClampNeg)))] [] dX3_gatherTwo_37 ml_RX3_49 mkX2_parted rfl shp_30 rfl rfl rfl (Nat.le_of_ble_eq_true rfl) h (fun r2 I2 L2 h => ?_)
  refine T_istore (lv' := [.ref 49, .ref 30, .int a2, .int a3, .int r1, .int r2]) dX3_gatherTwo_40 (by decide) rfl ?_
  refine T_aload_n dX3_gatherTwo_42 rfl ?_
  refine T_getr dX3_gatherTwo_43 fl_RX3_15 shp_49 rfl ?_
  refine T_iload_n dX3_gatherTwo_46 rfl ?_
  refine T_bipush (v := 6) dX3_gatherTwo_47 (by decide +kernel) ?_
  refine T_imul dX3_gatherTwo_49 ?_
  refine T_iload_n dX3_gatherTwo_50 rfl ?_
  refine T_iadd dX3_gatherTwo_51 ?_
  refine T_iload dX3_gatherTwo_52 rfl ?_
  refine T_iastv (j := ((a2 * 6) + a3).toNatClampNeg) dX3_gatherTwo_54 shp_51 h.1 rfl ?_
  replace h := h.2
  refine T_aload_n dX3_gatherTwo_55 rfl ?_
  refine T_getr dX3_gatherTwo_56 fl_RX3_18 shp_49 rfl ?_
  refine T_iload_n dX3_gatherTwo_59 rfl ?_
  refine T_bipush (v := 6) dX3_gatherTwo_60 (by decide +kernel) ?_
  refine T_imul dX3_gatherTwo_62 ?_
  refine T_iload_n dX3_gatherTwo_63 rfl ?_
  refine T_iadd dX3_gatherTwo_64 ?_
  refine T_iload dX3_gatherTwo_65 rfl ?_
  refine T_iastv (j := ((a2 * 6) + a3).toNatClampNeg) dX3_gatherTwo_67 shp_52 h.1 rfl ?_
  replace h := h.2
  refine T_iload_n dX3_gatherTwo_68 rfl ?_
  refine T_iload_n dX3_gatherTwo_69 rfl ?_
  refine T_icmp_ge (tgt := 92) dX3_gatherTwo_70 (by decide) (tq_ite h (fun h => ?_) (fun h => ?_))
  ·
    exact T_wk (lv' := [.ref 49, .null, .int a2, .int a3, .int r1, .int r2]) ⟨Or.inr rfl, Or.inl rfl, Or.inr rfl, Or.inr rfl, Or.inr rfl, Or.inr rfl, trivial⟩ h
  ·
    refine T_iload dX3_gatherTwo_73 rfl ?_
    refine T_iload dX3_gatherTwo_75 rfl ?_
    refine T_imul dX3_gatherTwo_77 ?_
    refine T_iconst (v := 1) dX3_gatherTwo_78 (by decide +kernel) ?_
    refine T_icmp_ne (tgt := 92) dX3_gatherTwo_79 (by decide) (tq_ite h (fun h => ?_) (fun h => ?_))
    ·
      refine T_aload_n dX3_gatherTwo_82 rfl ?_
      refine T_dup dX3_gatherTwo_83 rfl ?_
      refine T_getv (v := (I2 49 1)) dX3_gatherTwo_84 fl_RX3_28 shp_49 rfl rfl ?_
      refine T_iconst (v := 1) dX3_gatherTwo_87 (by decide +kernel) ?_
      refine T_iadd dX3_gatherTwo_88 ?_
      refine T_puti dX3_gatherTwo_89 fl_RX3_28 pf_3_1 shp_49 rfl rfl rfl ?_
      exact T_wk (lv' := [.ref 49, .null, .int a2, .int a3, .int r1, .int r2]) ⟨Or.inr rfl, Or.inl rfl, Or.inr rfl, Or.inr rfl, Or.inr rfl, Or.inr rfl, trivial⟩ h
    ·
      exact T_wk (lv' := [.ref 49, .null, .int a2, .int a3, .int r1, .int r2]) ⟨Or.inr rfl, Or.inl rfl, Or.inr rfl, Or.inr rfl, Or.inr rfl, Or.inr rfl, trivial⟩ h

set_option maxRecDepth 100000 in
theorem sgX3_gatherTwo_92 {d : Nat} {I : st_I} {L : st_L} {F : st_I → st_L → Prop} {x2 : Int32} {x3 : Int32} {x4 : Int32} {x5 : Int32} (h : (if x3 ≤ x2 then F I L else (if (x4 * x5) = (-1) then F (u_I I 49 2 ((I 49 2) + 1)) L else F I L))) : TV (d + 1) mX3_gatherTwo 92 [.ref 49, .null, .int x2, .int x3, .int x4, .int x5] [] I L F := by
  refine T_iload_n dX3_gatherTwo_92 rfl ?_
  refine T_iload_n dX3_gatherTwo_93 rfl ?_
  refine T_icmp_ge (tgt := 116) dX3_gatherTwo_94 (by decide) (tq_ite h (fun h => ?_) (fun h => ?_))
  ·
    exact S_vret rfl dX3_gatherTwo_116 h
  ·
    refine T_iload dX3_gatherTwo_97 rfl ?_
    refine T_iload dX3_gatherTwo_99 rfl ?_
    refine T_imul dX3_gatherTwo_101 ?_
    refine T_iconst (v := (-1)) dX3_gatherTwo_102 (by decide +kernel) ?_
    refine T_icmp_ne (tgt := 116) dX3_gatherTwo_103 (by decide) (tq_ite h (fun h => ?_) (fun h => ?_))
    ·
      refine T_aload_n dX3_gatherTwo_106 rfl ?_
      refine T_dup dX3_gatherTwo_107 rfl ?_
      refine T_getv (v := (I 49 2)) dX3_gatherTwo_108 fl_RX3_31 shp_49 rfl rfl ?_
      refine T_iconst (v := 1) dX3_gatherTwo_111 (by decide +kernel) ?_
      refine T_iadd dX3_gatherTwo_112 ?_
      refine T_puti dX3_gatherTwo_113 fl_RX3_31 pf_3_2 shp_49 rfl rfl rfl ?_
      exact S_vret rfl dX3_gatherTwo_116 h
    ·
      exact S_vret rfl dX3_gatherTwo_116 h

theorem dX3_ways_0 : decode cX3_ways 0 = .ok (.aload_n 0, 1) := by decide +kernel
theorem dX3_ways_1 : decode cX3_ways 1 = .ok (.iconst 0, 1) := by decide +kernel
theorem dX3_ways_2 : decode cX3_ways 2 = .ok (.iconst 0, 1) := by decide +kernel
theorem dX3_ways_3 : decode cX3_ways 3 = .ok (.aload_n 0, 1) := by decide +kernel
theorem dX3_ways_4 : decode cX3_ways 4 = .ok (.getfield 28, 3) := by decide +kernel
theorem dX3_ways_7 : decode cX3_ways 7 = .ok (.aload_n 0, 1) := by decide +kernel
theorem dX3_ways_8 : decode cX3_ways 8 = .ok (.getfield 31, 3) := by decide +kernel
theorem dX3_ways_11 : decode cX3_ways 11 = .ok (.isub, 1) := by decide +kernel
theorem dX3_ways_12 : decode cX3_ways 12 = .ok (.invokestatic 53, 3) := by decide +kernel
theorem dX3_ways_15 : decode cX3_ways 15 = .ok (.ireturn, 1) := by decide +kernel
set_option maxRecDepth 100000 in
theorem sgX3_ways_0 {d : Nat} {I : st_I} {L : st_L} {F : Int32 → st_I → st_L → Prop}  (h : EI d mX3_waysFrom [.ref 49, .int 0, .int 0, .int ((I 49 1) - (I 49 2))] I L (fun r1 I1 L1 => F r1 I1 L1)) : EI (d + 1) mX3_ways [.ref 49] I L F := by
  refine Ev_of (ls0 := 0) (by decide +kernel) rfl rfl rfl ?_
  refine T_aload_n dX3_ways_0 rfl ?_
  refine T_iconst (v := 0) dX3_ways_1 (by decide +kernel) ?_
  refine T_iconst (v := 0) dX3_ways_2 (by decide +kernel) ?_
  refine T_aload_n dX3_ways_3 rfl ?_
  refine T_getv (v := (I 49 1)) dX3_ways_4 fl_RX3_28 shp_49 rfl rfl ?_
  refine T_aload_n dX3_ways_7 rfl ?_
  refine T_getv (v := (I 49 2)) dX3_ways_8 fl_RX3_31 shp_49 rfl rfl ?_
  refine T_isub dX3_ways_11 ?_
  refine S_callSI (M' := mX3_waysFrom) [.ref 49, .int 0, .int 0, .int ((I 49 1) - (I 49 2))] [] dX3_ways_12 ml_RX3_53 mkX3_waysFrom rfl rfl (Nat.le_of_ble_eq_true rfl) h (fun r1 I1 L1 h => ?_)
  exact S_iret rfl dX3_ways_15 h

theorem dX3_waysFrom_0 : decode cX3_waysFrom 0 = .ok (.iload_n 1, 1) := by decide +kernel
theorem dX3_waysFrom_1 : decode cX3_waysFrom 1 = .ok (.aload_n 0, 1) := by decide +kernel
theorem dX3_waysFrom_2 : decode cX3_waysFrom 2 = .ok (.getfield 24, 3) := by decide +kernel
theorem dX3_waysFrom_5 : decode cX3_waysFrom 5 = .ok (.if_icmp .lt 13, 3) := by decide +kernel
theorem dX3_waysFrom_8 : decode cX3_waysFrom 8 = .ok (.iload_n 3, 1) := by decide +kernel
theorem dX3_waysFrom_9 : decode cX3_waysFrom 9 = .ok (.ifCond .gt 7, 3) := by decide +kernel
theorem dX3_waysFrom_12 : decode cX3_waysFrom 12 = .ok (.iconst 1, 1) := by decide +kernel
theorem dX3_waysFrom_13 : decode cX3_waysFrom 13 = .ok (.goto 4, 3) := by decide +kernel
theorem dX3_waysFrom_16 : decode cX3_waysFrom 16 = .ok (.iconst 0, 1) := by decide +kernel
theorem dX3_waysFrom_17 : decode cX3_waysFrom 17 = .ok (.ireturn, 1) := by decide +kernel
theorem dX3_waysFrom_18 : decode cX3_waysFrom 18 = .ok (.iconst 0, 1) := by decide +kernel
theorem dX3_waysFrom_19 : decode cX3_waysFrom 19 = .ok (.istore 4, 2) := by decide +kernel
theorem dX3_waysFrom_21 : decode cX3_waysFrom 21 = .ok (.iconst 0, 1) := by decide +kernel
theorem dX3_waysFrom_22 : decode cX3_waysFrom 22 = .ok (.istore 5, 2) := by decide +kernel
theorem dX3_waysFrom_24 : decode cX3_waysFrom 24 = .ok (.iload 5, 2) := by decide +kernel
theorem dX3_waysFrom_26 : decode cX3_waysFrom 26 = .ok (.aload_n 0, 1) := by decide +kernel
theorem dX3_waysFrom_27 : decode cX3_waysFrom 27 = .ok (.getfield 24, 3) := by decide +kernel
theorem dX3_waysFrom_30 : decode cX3_waysFrom 30 = .ok (.if_icmp .ge 51, 3) := by decide +kernel
theorem dX3_waysFrom_33 : decode cX3_waysFrom 33 = .ok (.iload_n 2, 1) := by decide +kernel
theorem dX3_waysFrom_34 : decode cX3_waysFrom 34 = .ok (.iconst 1, 1) := by decide +kernel
theorem dX3_waysFrom_35 : decode cX3_waysFrom 35 = .ok (.iload 5, 2) := by decide +kernel
theorem dX3_waysFrom_37 : decode cX3_waysFrom 37 = .ok (.ishl, 1) := by decide +kernel
theorem dX3_waysFrom_38 : decode cX3_waysFrom 38 = .ok (.iand, 1) := by decide +kernel
theorem dX3_waysFrom_39 : decode cX3_waysFrom 39 = .ok (.ifCond .ne 36, 3) := by decide +kernel
theorem dX3_waysFrom_42 : decode cX3_waysFrom 42 = .ok (.aload_n 0, 1) := by decide +kernel
theorem dX3_waysFrom_43 : decode cX3_waysFrom 43 = .ok (.getfield 21, 3) := by decide +kernel
theorem dX3_waysFrom_46 : decode cX3_waysFrom 46 = .ok (.iload_n 1, 1) := by decide +kernel
theorem dX3_waysFrom_47 : decode cX3_waysFrom 47 = .ok (.iload 5, 2) := by decide +kernel
theorem dX3_waysFrom_49 : decode cX3_waysFrom 49 = .ok (.iastore, 1) := by decide +kernel
theorem dX3_waysFrom_50 : decode cX3_waysFrom 50 = .ok (.iload 4, 2) := by decide +kernel
theorem dX3_waysFrom_52 : decode cX3_waysFrom 52 = .ok (.aload_n 0, 1) := by decide +kernel
theorem dX3_waysFrom_53 : decode cX3_waysFrom 53 = .ok (.iload_n 1, 1) := by decide +kernel
theorem dX3_waysFrom_54 : decode cX3_waysFrom 54 = .ok (.iconst 1, 1) := by decide +kernel
theorem dX3_waysFrom_55 : decode cX3_waysFrom 55 = .ok (.iadd, 1) := by decide +kernel
theorem dX3_waysFrom_56 : decode cX3_waysFrom 56 = .ok (.iload_n 2, 1) := by decide +kernel
theorem dX3_waysFrom_57 : decode cX3_waysFrom 57 = .ok (.iconst 1, 1) := by decide +kernel
theorem dX3_waysFrom_58 : decode cX3_waysFrom 58 = .ok (.iload 5, 2) := by decide +kernel
theorem dX3_waysFrom_60 : decode cX3_waysFrom 60 = .ok (.ishl, 1) := by decide +kernel
theorem dX3_waysFrom_61 : decode cX3_waysFrom 61 = .ok (.ior, 1) := by decide +kernel
theorem dX3_waysFrom_62 : decode cX3_waysFrom 62 = .ok (.iload_n 3, 1) := by decide +kernel
theorem dX3_waysFrom_63 : decode cX3_waysFrom 63 = .ok (.aload_n 0, 1) := by decide +kernel
theorem dX3_waysFrom_64 : decode cX3_waysFrom 64 = .ok (.iload_n 1, 1) := by decide +kernel
theorem dX3_waysFrom_65 : decode cX3_waysFrom 65 = .ok (.invokevirtual 57, 3) := by decide +kernel
theorem dX3_waysFrom_68 : decode cX3_waysFrom 68 = .ok (.isub, 1) := by decide +kernel
theorem dX3_waysFrom_69 : decode cX3_waysFrom 69 = .ok (.invokestatic 53, 3) := by decide +kernel
theorem dX3_waysFrom_72 : decode cX3_waysFrom 72 = .ok (.iadd, 1) := by decide +kernel
theorem dX3_waysFrom_73 : decode cX3_waysFrom 73 = .ok (.istore 4, 2) := by decide +kernel
theorem dX3_waysFrom_75 : decode cX3_waysFrom 75 = .ok (.iinc 5 1, 3) := by decide +kernel
theorem dX3_waysFrom_78 : decode cX3_waysFrom 78 = .ok (.goto (-54), 3) := by decide +kernel
theorem dX3_waysFrom_81 : decode cX3_waysFrom 81 = .ok (.iload 4, 2) := by decide +kernel
theorem dX3_waysFrom_83 : decode cX3_waysFrom 83 = .ok (.ireturn, 1) := by decide +kernel
set_option maxRecDepth 100000 in
theorem sgX3_waysFrom_0 {d : Nat} {I : st_I} {L : st_L} {F : Int32 → st_I → st_L → Prop} {a2 : Int32} {a3 : Int32} {a4 : Int32} (h : (if a2 < (I 49 0) then TI (d + 1) mX3_waysFrom 24 [.ref 49, .int a2, .int a3, .int a4, .int 0, .int 0] [] I L F else F (if 0 < a4 then (0 : Int32) else 1) I L)) : EI (d + 1) mX3_waysFrom [.ref 49, .int a2, .int a3, .int a4] I L F := by
  refine Ev_of (ls0 := 2) (by decide +kernel) rfl rfl rfl ?_
  refine T_iload_n dX3_waysFrom_0 rfl ?_
  refine T_aload_n dX3_waysFrom_1 rfl ?_
  refine T_getv (v := (I 49 0)) dX3_waysFrom_2 fl_RX3_24 shp_49 rfl rfl ?_
  refine T_icmp_lt (tgt := 18) dX3_waysFrom_5 (by decide) (tq_ite h (fun h => ?_) (fun h => ?_))
  ·
    refine T_iconst (v := 0) dX3_waysFrom_18 (by decide +kernel) ?_
    refine T_istore (lv' := [.ref 49, .int a2, .int a3, .int a4, .int 0, .null]) dX3_waysFrom_19 (by decide) rfl ?_
    refine T_iconst (v := 0) dX3_waysFrom_21 (by decide +kernel) ?_
    refine T_istore (lv' := [.ref 49, .int a2, .int a3, .int a4, .int 0, .int 0]) dX3_waysFrom_22 (by decide) rfl ?_
    exact h
  ·
    refine T_iload_n dX3_waysFrom_8 rfl ?_
    refine T_if_gt (tgt := 16) dX3_waysFrom_9 (by decide) (tq_itv (fun v => T shp (d + 1) mX3_waysFrom 17 [.ref 49, .int a2, .int a3, .int a4, .null, .null] (.int v :: []) I L (kI F)) 0 1 (fun hJ => ?_) (fun hJ => ?_) ?_)
    ·
        refine T_iconst (v := 0) dX3_waysFrom_16 (by decide +kernel) ?_
        exact hJ
    ·
        refine T_iconst (v := 1) dX3_waysFrom_12 (by decide +kernel) ?_
        refine T_goto (tgt := 17) dX3_waysFrom_13 (by decide) ?_
        exact hJ
    exact S_iret rfl dX3_waysFrom_17 h

set_option maxRecDepth 100000 in
theorem sgX3_waysFrom_24 {d : Nat} {I : st_I} {L : st_L} {F : Int32 → st_I → st_L → Prop} {x1 : Int32} {x2 : Int32} {x3 : Int32} {x4 : Int32} {x5 : Int32} (h : (if (I 49 0) ≤ x5 then F x4 I L else (if (x2 &&& (1 <<< (x5 &&& 31))) = 0 then vp_in x1 6 ∧ EI d mX3_alikeWithThoseAhead [.ref 49, .int x1] (u_I I 53 (x1.toNatClampNeg) x5) L (fun r1 I1 L1 => EI d mX3_waysFrom [.ref 49, .int (x1 + 1), .int (x2 ||| (1 <<< (x5 &&& 31))), .int (x3 - r1)] I1 L1 (fun r2 I2 L2 => TI (d + 1) mX3_waysFrom 24 [.ref 49, .int x1, .int x2, .int x3, .int (x4 + r2), .int (x5 + 1)] [] I2 L2 F)) else TI (d + 1) mX3_waysFrom 24 [.ref 49, .int x1, .int x2, .int x3, .int x4, .int (x5 + 1)] [] I L F))) : TI (d + 1) mX3_waysFrom 24 [.ref 49, .int x1, .int x2, .int x3, .int x4, .int x5] [] I L F := by
  refine T_iload dX3_waysFrom_24 rfl ?_
  refine T_aload_n dX3_waysFrom_26 rfl ?_
  refine T_getv (v := (I 49 0)) dX3_waysFrom_27 fl_RX3_24 shp_49 rfl rfl ?_
  refine T_icmp_ge (tgt := 81) dX3_waysFrom_30 (by decide) (tq_ite h (fun h => ?_) (fun h => ?_))
  ·
    refine T_iload dX3_waysFrom_81 rfl ?_
    exact S_iret rfl dX3_waysFrom_83 h
  ·
    refine T_iload_n dX3_waysFrom_33 rfl ?_
    refine T_iconst (v := 1) dX3_waysFrom_34 (by decide +kernel) ?_
    refine T_iload dX3_waysFrom_35 rfl ?_
    refine T_ishl dX3_waysFrom_37 ?_
    refine T_iand dX3_waysFrom_38 ?_
    refine T_if_ne (tgt := 75) dX3_waysFrom_39 (by decide) (tq_ite h (fun h => ?_) (fun h => ?_))
    ·
      refine T_aload_n dX3_waysFrom_42 rfl ?_
      refine T_getr dX3_waysFrom_43 fl_RX3_21 shp_49 rfl ?_
      refine T_iload_n dX3_waysFrom_46 rfl ?_
      refine T_iload dX3_waysFrom_47 rfl ?_
      refine T_iastv (j := x1.toNatClampNeg) dX3_waysFrom_49 shp_53 h.1 rfl ?_
      replace h := h.2
      refine T_iload dX3_waysFrom_50 rfl ?_
      refine T_aload_n dX3_waysFrom_52 rfl ?_
      refine T_iload_n dX3_waysFrom_53 rfl ?_
      refine T_iconst (v := 1) dX3_waysFrom_54 (by decide +kernel) ?_
      refine T_iadd dX3_waysFrom_55 ?_
      refine T_iload_n dX3_waysFrom_56 rfl ?_
      refine T_iconst (v := 1) dX3_waysFrom_57 (by decide +kernel) ?_
      refine T_iload dX3_waysFrom_58 rfl ?_
      refine T_ishl dX3_waysFrom_60 ?_
      refine T_ior dX3_waysFrom_61 ?_
      refine T_iload_n dX3_waysFrom_62 rfl ?_
      refine T_aload_n dX3_waysFrom_63 rfl ?_
      refine T_iload_n dX3_waysFrom_64 rfl ?_
      refine S_callVI (M' := mX3_alikeWithThoseAhead) [.int x1] [.int x3, .int (x2 ||| (1 <<< (x5 &&& 31))), .int (x1 + 1), .ref 49, .int x4] dX3_waysFrom_65 ml_RX3_57 mkX3_alikeWithThoseAhead rfl shp_49 rfl rfl rfl (Nat.le_of_ble_eq_true rfl) h (fun r1 I1 L1 h => ?_)
      refine T_isub dX3_waysFrom_68 ?_
      refine S_callSI (M' := mX3_waysFrom) [.ref 49, .int (x1 + 1), .int (x2 ||| (1 <<< (x5 &&& 31))), .int (x3 - r1)] [.int x4] dX3_waysFrom_69 ml_RX3_53 mkX3_waysFrom rfl rfl (Nat.le_of_ble_eq_true rfl) h (fun r2 I2 L2 h => ?_)
      refine T_iadd dX3_waysFrom_72 ?_
      refine T_istore (lv' := [.ref 49, .int x1, .int x2, .int x3, .int (x4 + r2), .int x5]) dX3_waysFrom_73 (by decide) rfl ?_
      refine T_iinc (lv' := [.ref 49, .int x1, .int x2, .int x3, .int (x4 + r2), .int (x5 + 1)]) dX3_waysFrom_75 rfl (by decide) rfl ?_
      refine T_goto (tgt := 24) dX3_waysFrom_78 (by decide) ?_
      exact h
    ·
      refine T_iinc (lv' := [.ref 49, .int x1, .int x2, .int x3, .int x4, .int (x5 + 1)]) dX3_waysFrom_75 rfl (by decide) rfl ?_
      refine T_goto (tgt := 24) dX3_waysFrom_78 (by decide) ?_
      exact h

theorem dX3_alikeWithThoseAhead_0 : decode cX3_alikeWithThoseAhead 0 = .ok (.iconst 0, 1) := by decide +kernel
theorem dX3_alikeWithThoseAhead_1 : decode cX3_alikeWithThoseAhead 1 = .ok (.istore_n 2, 1) := by decide +kernel
theorem dX3_alikeWithThoseAhead_2 : decode cX3_alikeWithThoseAhead 2 = .ok (.iconst 0, 1) := by decide +kernel
theorem dX3_alikeWithThoseAhead_3 : decode cX3_alikeWithThoseAhead 3 = .ok (.istore_n 3, 1) := by decide +kernel
theorem dX3_alikeWithThoseAhead_4 : decode cX3_alikeWithThoseAhead 4 = .ok (.iload_n 3, 1) := by decide +kernel
theorem dX3_alikeWithThoseAhead_5 : decode cX3_alikeWithThoseAhead 5 = .ok (.iload_n 1, 1) := by decide +kernel
theorem dX3_alikeWithThoseAhead_6 : decode cX3_alikeWithThoseAhead 6 = .ok (.if_icmp .ge 45, 3) := by decide +kernel
theorem dX3_alikeWithThoseAhead_9 : decode cX3_alikeWithThoseAhead 9 = .ok (.iload_n 2, 1) := by decide +kernel
theorem dX3_alikeWithThoseAhead_10 : decode cX3_alikeWithThoseAhead 10 = .ok (.aload_n 0, 1) := by decide +kernel
theorem dX3_alikeWithThoseAhead_11 : decode cX3_alikeWithThoseAhead 11 = .ok (.getfield 15, 3) := by decide +kernel
theorem dX3_alikeWithThoseAhead_14 : decode cX3_alikeWithThoseAhead 14 = .ok (.iload_n 3, 1) := by decide +kernel
theorem dX3_alikeWithThoseAhead_15 : decode cX3_alikeWithThoseAhead 15 = .ok (.bipush 6, 2) := by decide +kernel
theorem dX3_alikeWithThoseAhead_17 : decode cX3_alikeWithThoseAhead 17 = .ok (.imul, 1) := by decide +kernel
theorem dX3_alikeWithThoseAhead_18 : decode cX3_alikeWithThoseAhead 18 = .ok (.iload_n 1, 1) := by decide +kernel
theorem dX3_alikeWithThoseAhead_19 : decode cX3_alikeWithThoseAhead 19 = .ok (.iadd, 1) := by decide +kernel
theorem dX3_alikeWithThoseAhead_20 : decode cX3_alikeWithThoseAhead 20 = .ok (.iaload, 1) := by decide +kernel
theorem dX3_alikeWithThoseAhead_21 : decode cX3_alikeWithThoseAhead 21 = .ok (.aload_n 0, 1) := by decide +kernel
theorem dX3_alikeWithThoseAhead_22 : decode cX3_alikeWithThoseAhead 22 = .ok (.getfield 18, 3) := by decide +kernel
theorem dX3_alikeWithThoseAhead_25 : decode cX3_alikeWithThoseAhead 25 = .ok (.aload_n 0, 1) := by decide +kernel
theorem dX3_alikeWithThoseAhead_26 : decode cX3_alikeWithThoseAhead 26 = .ok (.getfield 21, 3) := by decide +kernel
theorem dX3_alikeWithThoseAhead_29 : decode cX3_alikeWithThoseAhead 29 = .ok (.iload_n 3, 1) := by decide +kernel
theorem dX3_alikeWithThoseAhead_30 : decode cX3_alikeWithThoseAhead 30 = .ok (.iaload, 1) := by decide +kernel
theorem dX3_alikeWithThoseAhead_31 : decode cX3_alikeWithThoseAhead 31 = .ok (.bipush 6, 2) := by decide +kernel
theorem dX3_alikeWithThoseAhead_33 : decode cX3_alikeWithThoseAhead 33 = .ok (.imul, 1) := by decide +kernel
theorem dX3_alikeWithThoseAhead_34 : decode cX3_alikeWithThoseAhead 34 = .ok (.aload_n 0, 1) := by decide +kernel
theorem dX3_alikeWithThoseAhead_35 : decode cX3_alikeWithThoseAhead 35 = .ok (.getfield 21, 3) := by decide +kernel
theorem dX3_alikeWithThoseAhead_38 : decode cX3_alikeWithThoseAhead 38 = .ok (.iload_n 1, 1) := by decide +kernel
theorem dX3_alikeWithThoseAhead_39 : decode cX3_alikeWithThoseAhead 39 = .ok (.iaload, 1) := by decide +kernel
theorem dX3_alikeWithThoseAhead_40 : decode cX3_alikeWithThoseAhead 40 = .ok (.iadd, 1) := by decide +kernel
theorem dX3_alikeWithThoseAhead_41 : decode cX3_alikeWithThoseAhead 41 = .ok (.iaload, 1) := by decide +kernel
theorem dX3_alikeWithThoseAhead_42 : decode cX3_alikeWithThoseAhead 42 = .ok (.imul, 1) := by decide +kernel
theorem dX3_alikeWithThoseAhead_43 : decode cX3_alikeWithThoseAhead 43 = .ok (.iadd, 1) := by decide +kernel
theorem dX3_alikeWithThoseAhead_44 : decode cX3_alikeWithThoseAhead 44 = .ok (.istore_n 2, 1) := by decide +kernel
theorem dX3_alikeWithThoseAhead_45 : decode cX3_alikeWithThoseAhead 45 = .ok (.iinc 3 1, 3) := by decide +kernel
theorem dX3_alikeWithThoseAhead_48 : decode cX3_alikeWithThoseAhead 48 = .ok (.goto (-44), 3) := by decide +kernel
theorem dX3_alikeWithThoseAhead_51 : decode cX3_alikeWithThoseAhead 51 = .ok (.iload_n 2, 1) := by decide +kernel
theorem dX3_alikeWithThoseAhead_52 : decode cX3_alikeWithThoseAhead 52 = .ok (.ireturn, 1) := by decide +kernel
set_option maxRecDepth 100000 in
theorem sgX3_alikeWithThoseAhead_0 {d : Nat} {I : st_I} {L : st_L} {F : Int32 → st_I → st_L → Prop} {a1 : Int32} (h : TI d mX3_alikeWithThoseAhead 4 [.ref 49, .int a1, .int 0, .int 0] [] I L F) : EI d mX3_alikeWithThoseAhead [.ref 49, .int a1] I L F := by
  refine Ev_of (ls0 := 2) (by decide +kernel) rfl rfl rfl ?_
  refine T_iconst (v := 0) dX3_alikeWithThoseAhead_0 (by decide +kernel) ?_
  refine T_istore_n (lv' := [.ref 49, .int a1, .int 0, .null]) dX3_alikeWithThoseAhead_1 rfl (by decide) rfl ?_
  refine T_iconst (v := 0) dX3_alikeWithThoseAhead_2 (by decide +kernel) ?_
  refine T_istore_n (lv' := [.ref 49, .int a1, .int 0, .int 0]) dX3_alikeWithThoseAhead_3 rfl (by decide) rfl ?_
  exact h

set_option maxRecDepth 100000 in
theorem sgX3_alikeWithThoseAhead_4 {d : Nat} {I : st_I} {L : st_L} {F : Int32 → st_I → st_L → Prop} {x1 : Int32} {x2 : Int32} {x3 : Int32} (h : (if x1 ≤ x3 then F x2 I L else vp_in ((x3 * 6) + x1) 36 ∧ vp_in x3 6 ∧ vp_in x1 6 ∧ vp_in (((I 53 (x3.toNatClampNeg)) * 6) + (I 53 (x1.toNatClampNeg))) 36 ∧ TI d mX3_alikeWithThoseAhead 4 [.ref 49, .int x1, .int (x2 + ((I 51 (((x3 * 6) + x1).toNatClampNeg)) * (I 52 ((((I 53 (x3.toNatClampNeg)) * 6) + (I 53 (x1.toNatClampNeg))).toNatClampNeg)))), .int (x3 + 1)] [] I L F)) : TI d mX3_alikeWithThoseAhead 4 [.ref 49, .int x1, .int x2, .int x3] [] I L F := by
  refine T_iload_n dX3_alikeWithThoseAhead_4 rfl ?_
  refine T_iload_n dX3_alikeWithThoseAhead_5 rfl ?_
  refine T_icmp_ge (tgt := 51) dX3_alikeWithThoseAhead_6 (by decide) (tq_ite h (fun h => ?_) (fun h => ?_))
  ·
    refine T_iload_n dX3_alikeWithThoseAhead_51 rfl ?_
    exact S_iret rfl dX3_alikeWithThoseAhead_52 h
  ·
    refine T_iload_n dX3_alikeWithThoseAhead_9 rfl ?_
    refine T_aload_n dX3_alikeWithThoseAhead_10 rfl ?_
    refine T_getr dX3_alikeWithThoseAhead_11 fl_RX3_15 shp_49 rfl ?_
    refine T_iload_n dX3_alikeWithThoseAhead_14 rfl ?_
    refine T_bipush (v := 6) dX3_alikeWithThoseAhead_15 (by decide +kernel) ?_
    refine T_imul dX3_alikeWithThoseAhead_17 ?_
    refine T_iload_n dX3_alikeWithThoseAhead_18 rfl ?_
    refine T_iadd dX3_alikeWithThoseAhead_19 ?_
    refine T_ialdv (v := (I 51 (((x3 * 6) + x1).toNatClampNeg))) (j := ((x3 * 6) + x1).toNatClampNeg) dX3_alikeWithThoseAhead_20 shp_51 h.1 rfl rfl ?_
    replace h := h.2
    refine T_aload_n dX3_alikeWithThoseAhead_21 rfl ?_
    refine T_getr dX3_alikeWithThoseAhead_22 fl_RX3_18 shp_49 rfl ?_
    refine T_aload_n dX3_alikeWithThoseAhead_25 rfl ?_
    refine T_getr dX3_alikeWithThoseAhead_26 fl_RX3_21 shp_49 rfl ?_
    refine T_iload_n dX3_alikeWithThoseAhead_29 rfl ?_
    refine T_ialdv (v := (I 53 (x3.toNatClampNeg))) (j := x3.toNatClampNeg) dX3_alikeWithThoseAhead_30 shp_53 h.1 rfl rfl ?_
    replace h := h.2
    refine T_bipush (v := 6) dX3_alikeWithThoseAhead_31 (by decide +kernel) ?_
    refine T_imul dX3_alikeWithThoseAhead_33 ?_
    refine T_aload_n dX3_alikeWithThoseAhead_34 rfl ?_
    refine T_getr dX3_alikeWithThoseAhead_35 fl_RX3_21 shp_49 rfl ?_
    refine T_iload_n dX3_alikeWithThoseAhead_38 rfl ?_
    refine T_ialdv (v := (I 53 (x1.toNatClampNeg))) (j := x1.toNatClampNeg) dX3_alikeWithThoseAhead_39 shp_53 h.1 rfl rfl ?_
    replace h := h.2
    refine T_iadd dX3_alikeWithThoseAhead_40 ?_
    refine T_ialdv (v := (I 52 ((((I 53 (x3.toNatClampNeg)) * 6) + (I 53 (x1.toNatClampNeg))).toNatClampNeg))) (j := (((I 53 (x3.toNatClampNeg)) * 6) + (I 53 (x1.toNatClampNeg))).toNatClampNeg) dX3_alikeWithThoseAhead_41 shp_52 h.1 rfl rfl ?_
    replace h := h.2
    refine T_imul dX3_alikeWithThoseAhead_42 ?_
    refine T_iadd dX3_alikeWithThoseAhead_43 ?_
    refine T_istore_n (lv' := [.ref 49, .int x1, .int (x2 + ((I 51 (((x3 * 6) + x1).toNatClampNeg)) * (I 52 ((((I 53 (x3.toNatClampNeg)) * 6) + (I 53 (x1.toNatClampNeg))).toNatClampNeg)))), .int x3]) dX3_alikeWithThoseAhead_44 rfl (by decide) rfl ?_
    refine T_iinc (lv' := [.ref 49, .int x1, .int (x2 + ((I 51 (((x3 * 6) + x1).toNatClampNeg)) * (I 52 ((((I 53 (x3.toNatClampNeg)) * 6) + (I 53 (x1.toNatClampNeg))).toNatClampNeg)))), .int (x3 + 1)]) dX3_alikeWithThoseAhead_45 rfl (by decide) rfl ?_
    refine T_goto (tgt := 4) dX3_alikeWithThoseAhead_48 (by decide) ?_
    exact h

theorem dX4_find_0 : decode cX4_find 0 = .ok (.aload_n 0, 1) := by decide +kernel
theorem dX4_find_1 : decode cX4_find 1 = .ok (.getfield 11, 3) := by decide +kernel
theorem dX4_find_4 : decode cX4_find 4 = .ok (.lconst 0, 1) := by decide +kernel
theorem dX4_find_5 : decode cX4_find 5 = .ok (.invokestatic 18, 3) := by decide +kernel
theorem dX4_find_8 : decode cX4_find 8 = .ok (.aload_n 0, 1) := by decide +kernel
theorem dX4_find_9 : decode cX4_find 9 = .ok (.getfield 15, 3) := by decide +kernel
theorem dX4_find_12 : decode cX4_find 12 = .ok (.lconst 0, 1) := by decide +kernel
theorem dX4_find_13 : decode cX4_find 13 = .ok (.invokestatic 18, 3) := by decide +kernel
theorem dX4_find_16 : decode cX4_find 16 = .ok (.aload_n 0, 1) := by decide +kernel
theorem dX4_find_17 : decode cX4_find 17 = .ok (.getfield 11, 3) := by decide +kernel
theorem dX4_find_20 : decode cX4_find 20 = .ok (.iconst 0, 1) := by decide +kernel
theorem dX4_find_21 : decode cX4_find 21 = .ok (.lconst 1, 1) := by decide +kernel
theorem dX4_find_22 : decode cX4_find 22 = .ok (.lastore, 1) := by decide +kernel
theorem dX4_find_23 : decode cX4_find 23 = .ok (.aload_n 0, 1) := by decide +kernel
theorem dX4_find_24 : decode cX4_find 24 = .ok (.getfield 15, 3) := by decide +kernel
theorem dX4_find_27 : decode cX4_find 27 = .ok (.iconst 0, 1) := by decide +kernel
theorem dX4_find_28 : decode cX4_find 28 = .ok (.lconst 1, 1) := by decide +kernel
theorem dX4_find_29 : decode cX4_find 29 = .ok (.lastore, 1) := by decide +kernel
theorem dX4_find_30 : decode cX4_find 30 = .ok (.lconst 1, 1) := by decide +kernel
theorem dX4_find_31 : decode cX4_find 31 = .ok (.lstore 5, 2) := by decide +kernel
theorem dX4_find_33 : decode cX4_find 33 = .ok (.lconst 1, 1) := by decide +kernel
theorem dX4_find_34 : decode cX4_find 34 = .ok (.lstore 7, 2) := by decide +kernel
theorem dX4_find_36 : decode cX4_find 36 = .ok (.iconst 1, 1) := by decide +kernel
theorem dX4_find_37 : decode cX4_find 37 = .ok (.istore 9, 2) := by decide +kernel
theorem dX4_find_39 : decode cX4_find 39 = .ok (.iload 9, 2) := by decide +kernel
theorem dX4_find_41 : decode cX4_find 41 = .ok (.bipush 30, 2) := by decide +kernel
theorem dX4_find_43 : decode cX4_find 43 = .ok (.if_icmp .gt 100, 3) := by decide +kernel
theorem dX4_find_46 : decode cX4_find 46 = .ok (.aload_n 0, 1) := by decide +kernel
theorem dX4_find_47 : decode cX4_find 47 = .ok (.getfield 11, 3) := by decide +kernel
theorem dX4_find_50 : decode cX4_find 50 = .ok (.iload 9, 2) := by decide +kernel
theorem dX4_find_52 : decode cX4_find 52 = .ok (.lconst 1, 1) := by decide +kernel
theorem dX4_find_53 : decode cX4_find 53 = .ok (.lconst 1, 1) := by decide +kernel
theorem dX4_find_54 : decode cX4_find 54 = .ok (.invokestatic 24, 3) := by decide +kernel
theorem dX4_find_57 : decode cX4_find 57 = .ok (.aload_n 0, 1) := by decide +kernel
theorem dX4_find_58 : decode cX4_find 58 = .ok (.getfield 15, 3) := by decide +kernel
theorem dX4_find_61 : decode cX4_find 61 = .ok (.iload 9, 2) := by decide +kernel
theorem dX4_find_63 : decode cX4_find 63 = .ok (.iload_n 3, 1) := by decide +kernel
theorem dX4_find_64 : decode cX4_find 64 = .ok (.i2l, 1) := by decide +kernel
theorem dX4_find_65 : decode cX4_find 65 = .ok (.iload 4, 2) := by decide +kernel
theorem dX4_find_67 : decode cX4_find 67 = .ok (.iload_n 3, 1) := by decide +kernel
theorem dX4_find_68 : decode cX4_find 68 = .ok (.isub, 1) := by decide +kernel
theorem dX4_find_69 : decode cX4_find 69 = .ok (.i2l, 1) := by decide +kernel
theorem dX4_find_70 : decode cX4_find 70 = .ok (.invokestatic 24, 3) := by decide +kernel
theorem dX4_find_73 : decode cX4_find 73 = .ok (.lload 5, 2) := by decide +kernel
theorem dX4_find_75 : decode cX4_find 75 = .ok (.ldc2_w 28, 3) := by decide +kernel
theorem dX4_find_78 : decode cX4_find 78 = .ok (.lmul, 1) := by decide +kernel
theorem dX4_find_79 : decode cX4_find 79 = .ok (.lstore 5, 2) := by decide +kernel
theorem dX4_find_81 : decode cX4_find 81 = .ok (.lload 7, 2) := by decide +kernel
theorem dX4_find_83 : decode cX4_find 83 = .ok (.iload 4, 2) := by decide +kernel
theorem dX4_find_85 : decode cX4_find 85 = .ok (.i2l, 1) := by decide +kernel
theorem dX4_find_86 : decode cX4_find 86 = .ok (.lmul, 1) := by decide +kernel
theorem dX4_find_87 : decode cX4_find 87 = .ok (.lstore 7, 2) := by decide +kernel
theorem dX4_find_89 : decode cX4_find 89 = .ok (.aload_n 0, 1) := by decide +kernel
theorem dX4_find_90 : decode cX4_find 90 = .ok (.iload 9, 2) := by decide +kernel
theorem dX4_find_92 : decode cX4_find 92 = .ok (.lload 5, 2) := by decide +kernel
theorem dX4_find_94 : decode cX4_find 94 = .ok (.lload 5, 2) := by decide +kernel
theorem dX4_find_96 : decode cX4_find 96 = .ok (.iconst 1, 1) := by decide +kernel
theorem dX4_find_97 : decode cX4_find 97 = .ok (.iload_n 1, 1) := by decide +kernel
theorem dX4_find_98 : decode cX4_find 98 = .ok (.invokestatic 30, 3) := by decide +kernel
theorem dX4_find_101 : decode cX4_find 101 = .ok (.i2l, 1) := by decide +kernel
theorem dX4_find_102 : decode cX4_find 102 = .ok (.ldiv, 1) := by decide +kernel
theorem dX4_find_103 : decode cX4_find 103 = .ok (.lload 7, 2) := by decide +kernel
theorem dX4_find_105 : decode cX4_find 105 = .ok (.iconst 1, 1) := by decide +kernel
theorem dX4_find_106 : decode cX4_find 106 = .ok (.iload_n 2, 1) := by decide +kernel
theorem dX4_find_107 : decode cX4_find 107 = .ok (.invokestatic 30, 3) := by decide +kernel
theorem dX4_find_110 : decode cX4_find 110 = .ok (.i2l, 1) := by decide +kernel
theorem dX4_find_111 : decode cX4_find 111 = .ok (.ldiv, 1) := by decide +kernel
theorem dX4_find_112 : decode cX4_find 112 = .ok (.invokevirtual 36, 3) := by decide +kernel
theorem dX4_find_115 : decode cX4_find 115 = .ok (.istore 10, 2) := by decide +kernel
theorem dX4_find_117 : decode cX4_find 117 = .ok (.iload 10, 2) := by decide +kernel
theorem dX4_find_119 : decode cX4_find 119 = .ok (.iconst (-1), 1) := by decide +kernel
theorem dX4_find_120 : decode cX4_find 120 = .ok (.if_icmp .eq 17, 3) := by decide +kernel
theorem dX4_find_123 : decode cX4_find 123 = .ok (.aload_n 0, 1) := by decide +kernel
theorem dX4_find_124 : decode cX4_find 124 = .ok (.iload 9, 2) := by decide +kernel
theorem dX4_find_126 : decode cX4_find 126 = .ok (.putfield 40, 3) := by decide +kernel
theorem dX4_find_129 : decode cX4_find 129 = .ok (.aload_n 0, 1) := by decide +kernel
theorem dX4_find_130 : decode cX4_find 130 = .ok (.iload 10, 2) := by decide +kernel
theorem dX4_find_132 : decode cX4_find 132 = .ok (.putfield 44, 3) := by decide +kernel
theorem dX4_find_135 : decode cX4_find 135 = .ok (.iconst 1, 1) := by decide +kernel
theorem dX4_find_136 : decode cX4_find 136 = .ok (.ireturn, 1) := by decide +kernel
theorem dX4_find_137 : decode cX4_find 137 = .ok (.iinc 9 1, 3) := by decide +kernel
theorem dX4_find_140 : decode cX4_find 140 = .ok (.goto (-101), 3) := by decide +kernel
theorem dX4_find_143 : decode cX4_find 143 = .ok (.iconst 0, 1) := by decide +kernel
theorem dX4_find_144 : decode cX4_find 144 = .ok (.ireturn, 1) := by decide +kernel
set_option maxRecDepth 100000 in
theorem sgX4_find_0 {d : Nat} {I : st_I} {L : st_L} {F : Int32 → st_I → st_L → Prop} {a1 : Int32} {a2 : Int32} {a3 : Int32} {a4 : Int32} (h : EV d mJ7_fill_d0a16 [.ref 55, .long 0] I L (fun I1 L1 => EV d mJ7_fill_d0a16 [.ref 56, .long 0] I1 L1 (fun I2 L2 => TI (d + 1) mX4_find 39 [.ref 54, .int a1, .int a2, .int a3, .int a4, .long 1, .null, .long 1, .null, .int 1, .null] [] I2 (u_L (u_L L2 55 0 1) 56 0 1) F))) : EI (d + 1) mX4_find [.ref 54, .int a1, .int a2, .int a3, .int a4] I L F := by
  refine Ev_of (ls0 := 6) (by decide +kernel) rfl rfl rfl ?_
  refine T_aload_n dX4_find_0 rfl ?_
  refine T_getr dX4_find_1 fl_RX4_11 shp_54 rfl ?_
  refine T_lconst (v := 0) dX4_find_4 (by decide +kernel) ?_
  refine S_callSV (M' := mJ7_fill_d0a16) [.ref 55, .long 0] [] dX4_find_5 ml_RX4_18 mkJ7_fill_d0a16 rfl rfl (Nat.le_of_ble_eq_true rfl) h (fun I1 L1 h => ?_)
  refine T_aload_n dX4_find_8 rfl ?_
  refine T_getr dX4_find_9 fl_RX4_15 shp_54 rfl ?_
  refine T_lconst (v := 0) dX4_find_12 (by decide +kernel) ?_
  refine S_callSV (M' := mJ7_fill_d0a16) [.ref 56, .long 0] [] dX4_find_13 ml_RX4_18 mkJ7_fill_d0a16 rfl rfl (Nat.le_of_ble_eq_true rfl) h (fun I2 L2 h => ?_)
  refine T_aload_n dX4_find_16 rfl ?_
  refine T_getr dX4_find_17 fl_RX4_11 shp_54 rfl ?_
  refine T_iconst (v := 0) dX4_find_20 (by decide +kernel) ?_
  refine T_lconst (v := 1) dX4_find_21 (by decide +kernel) ?_
  refine T_lastv (j := 0) dX4_find_22 shp_55 (tq_inl (by decide +kernel)) (by decide +kernel) ?_
  refine T_aload_n dX4_find_23 rfl ?_
  refine T_getr dX4_find_24 fl_RX4_15 shp_54 rfl ?_
  refine T_iconst (v := 0) dX4_find_27 (by decide +kernel) ?_
  refine T_lconst (v := 1) dX4_find_28 (by decide +kernel) ?_
  refine T_lastv (j := 0) dX4_find_29 shp_56 (tq_inl (by decide +kernel)) (by decide +kernel) ?_
  refine T_lconst (v := 1) dX4_find_30 (by decide +kernel) ?_
  refine T_lstore (lv' := [.ref 54, .int a1, .int a2, .int a3, .int a4, .long 1, .null, .null, .null, .null, .null]) dX4_find_31 (by decide) rfl ?_
  refine T_lconst (v := 1) dX4_find_33 (by decide +kernel) ?_
  refine T_lstore (lv' := [.ref 54, .int a1, .int a2, .int a3, .int a4, .long 1, .null, .long 1, .null, .null, .null]) dX4_find_34 (by decide) rfl ?_
  refine T_iconst (v := 1) dX4_find_36 (by decide +kernel) ?_
  refine T_istore (lv' := [.ref 54, .int a1, .int a2, .int a3, .int a4, .long 1, .null, .long 1, .null, .int 1, .null]) dX4_find_37 (by decide) rfl ?_
  exact h

set_option maxRecDepth 100000 in
theorem sgX4_find_39 {d : Nat} {I : st_I} {L : st_L} {F : Int32 → st_I → st_L → Prop} {x1 : Int32} {x2 : Int32} {x3 : Int32} {x4 : Int32} {x5 : Int64} {x7 : Int64} {x9 : Int32} (h : (if 30 < x9 then F 0 I L else EV d mX4_addTry [.ref 55, .int x9, .long 1, .long 1] I L (fun I1 L1 => EV d mX4_addTry [.ref 56, .int x9, .long ((x3 : Int32).toInt64), .long (((x4 - x3) : Int32).toInt64)] I1 L1 (fun I2 L2 => ¬ (((if 1 < x1 then x1 else 1) : Int32).toInt64) = 0 ∧ ¬ (((if 1 < x2 then x2 else 1) : Int32).toInt64) = 0 ∧ EI d mX4_leastBar [.ref 54, .int x9, .long (x5 * 2), .long ((x5 * 2) / (((if 1 < x1 then x1 else 1) : Int32).toInt64)), .long ((x7 * ((x4 : Int32).toInt64)) / (((if 1 < x2 then x2 else 1) : Int32).toInt64))] I2 L2 (fun r3 I3 L3 => (if r3 = (-1) then TI (d + 1) mX4_find 39 [.ref 54, .int x1, .int x2, .int x3, .int x4, .long (x5 * 2), .null, .long (x7 * ((x4 : Int32).toInt64)), .null, .int (x9 + 1), .null] [] I3 L3 F else F 1 (u_I (u_I I3 54 0 x9) 54 1 r3) L3)))))) : TI (d + 1) mX4_find 39 [.ref 54, .int x1, .int x2, .int x3, .int x4, .long x5, .null, .long x7, .null, .int x9, .null] [] I L F := by
  refine T_iload dX4_find_39 rfl ?_
  refine T_bipush (v := 30) dX4_find_41 (by decide +kernel) ?_
  refine T_icmp_gt (tgt := 143) dX4_find_43 (by decide) (tq_ite h (fun h => ?_) (fun h => ?_))
  ·
    refine T_iconst (v := 0) dX4_find_143 (by decide +kernel) ?_
    exact S_zret rfl dX4_find_144 (by decide) h
  ·
    refine T_aload_n dX4_find_46 rfl ?_
    refine T_getr dX4_find_47 fl_RX4_11 shp_54 rfl ?_
    refine T_iload dX4_find_50 rfl ?_
    refine T_lconst (v := 1) dX4_find_52 (by decide +kernel) ?_
    refine T_lconst (v := 1) dX4_find_53 (by decide +kernel) ?_
    refine S_callSV (M' := mX4_addTry) [.ref 55, .int x9, .long 1, .long 1] [] dX4_find_54 ml_RX4_24 mkX4_addTry rfl rfl (Nat.le_of_ble_eq_true rfl) h (fun I1 L1 h => ?_)
    refine T_aload_n dX4_find_57 rfl ?_
    refine T_getr dX4_find_58 fl_RX4_15 shp_54 rfl ?_
    refine T_iload dX4_find_61 rfl ?_
    refine T_iload_n dX4_find_63 rfl ?_
    refine T_i2l dX4_find_64 ?_
    refine T_iload dX4_find_65 rfl ?_
    refine T_iload_n dX4_find_67 rfl ?_
    refine T_isub dX4_find_68 ?_
    refine T_i2l dX4_find_69 ?_
    refine S_callSV (M' := mX4_addTry) [.ref 56, .int x9, .long ((x3 : Int32).toInt64), .long (((x4 - x3) : Int32).toInt64)] [] dX4_find_70 ml_RX4_24 mkX4_addTry rfl rfl (Nat.le_of_ble_eq_true rfl) h (fun I2 L2 h => ?_)
    refine T_lload dX4_find_73 rfl ?_
    refine T_ldc2 (v := 2) dX4_find_75 ki_RX4_28 ?_
    refine T_lmul dX4_find_78 ?_
    refine T_lstore (lv' := [.ref 54, .int x1, .int x2, .int x3, .int x4, .long (x5 * 2), .null, .long x7, .null, .int x9, .null]) dX4_find_79 (by decide) rfl ?_
    refine T_lload dX4_find_81 rfl ?_
    refine T_iload dX4_find_83 rfl ?_
    refine T_i2l dX4_find_85 ?_
    refine T_lmul dX4_find_86 ?_
    refine T_lstore (lv' := [.ref 54, .int x1, .int x2, .int x3, .int x4, .long (x5 * 2), .null, .long (x7 * ((x4 : Int32).toInt64)), .null, .int x9, .null]) dX4_find_87 (by decide) rfl ?_
    refine T_aload_n dX4_find_89 rfl ?_
    refine T_iload dX4_find_90 rfl ?_
    refine T_lload dX4_find_92 rfl ?_
    refine T_lload dX4_find_94 rfl ?_
    refine T_iconst (v := 1) dX4_find_96 (by decide +kernel) ?_
    refine T_iload_n dX4_find_97 rfl ?_
    refine T_mmax dX4_find_98 ml_RX4_30 (Nat.le_of_ble_eq_true rfl) ?_
    refine T_i2l dX4_find_101 ?_
    refine T_ldiv dX4_find_102 h.1 ?_
    replace h := h.2
    refine T_lload dX4_find_103 rfl ?_
    refine T_iconst (v := 1) dX4_find_105 (by decide +kernel) ?_
    refine T_iload_n dX4_find_106 rfl ?_
    refine T_mmax dX4_find_107 ml_RX4_30 (Nat.le_of_ble_eq_true rfl) ?_
    refine T_i2l dX4_find_110 ?_
    refine T_ldiv dX4_find_111 h.1 ?_
    replace h := h.2
    refine S_callVI (M' := mX4_leastBar) [.int x9, .long (x5 * 2), .long ((x5 * 2) / (((if 1 < x1 then x1 else 1) : Int32).toInt64)), .long ((x7 * ((x4 : Int32).toInt64)) / (((if 1 < x2 then x2 else 1) : Int32).toInt64))] [] dX4_find_112 ml_RX4_36 mkX4_leastBar rfl shp_54 rfl rfl rfl (Nat.le_of_ble_eq_true rfl) h (fun r3 I3 L3 h => ?_)
    refine T_istore (lv' := [.ref 54, .int x1, .int x2, .int x3, .int x4, .long (x5 * 2), .null, .long (x7 * ((x4 : Int32).toInt64)), .null, .int x9, .int r3]) dX4_find_115 (by decide) rfl ?_
    refine T_iload dX4_find_117 rfl ?_
    refine T_iconst (v := (-1)) dX4_find_119 (by decide +kernel) ?_
    refine T_icmp_eq (tgt := 137) dX4_find_120 (by decide) (tq_ite h (fun h => ?_) (fun h => ?_))
    ·
      refine T_iinc (lv' := [.ref 54, .int x1, .int x2, .int x3, .int x4, .long (x5 * 2), .null, .long (x7 * ((x4 : Int32).toInt64)), .null, .int (x9 + 1), .int r3]) dX4_find_137 rfl (by decide) rfl ?_
      refine T_goto (tgt := 39) dX4_find_140 (by decide) ?_
      exact T_wk (lv' := [.ref 54, .int x1, .int x2, .int x3, .int x4, .long (x5 * 2), .null, .long (x7 * ((x4 : Int32).toInt64)), .null, .int (x9 + 1), .null]) ⟨Or.inr rfl, Or.inr rfl, Or.inr rfl, Or.inr rfl, Or.inr rfl, Or.inr rfl, Or.inr rfl, Or.inr rfl, Or.inr rfl, Or.inr rfl, Or.inl rfl, trivial⟩ h
    ·
      refine T_aload_n dX4_find_123 rfl ?_
      refine T_iload dX4_find_124 rfl ?_
      refine T_puti dX4_find_126 fl_RX4_40 pf_4_0 shp_54 rfl rfl rfl ?_
      refine T_aload_n dX4_find_129 rfl ?_
      refine T_iload dX4_find_130 rfl ?_
      refine T_puti dX4_find_132 fl_RX4_44 pf_4_1 shp_54 rfl rfl rfl ?_
      refine T_iconst (v := 1) dX4_find_135 (by decide +kernel) ?_
      exact S_zret rfl dX4_find_136 (by decide) h

theorem dX4_addTry_0 : decode cX4_addTry 0 = .ok (.iload_n 1, 1) := by decide +kernel
theorem dX4_addTry_1 : decode cX4_addTry 1 = .ok (.istore 6, 2) := by decide +kernel
theorem dX4_addTry_3 : decode cX4_addTry 3 = .ok (.iload 6, 2) := by decide +kernel
theorem dX4_addTry_5 : decode cX4_addTry 5 = .ok (.ifCond .le 29, 3) := by decide +kernel
theorem dX4_addTry_8 : decode cX4_addTry 8 = .ok (.aload_n 0, 1) := by decide +kernel
theorem dX4_addTry_9 : decode cX4_addTry 9 = .ok (.iload 6, 2) := by decide +kernel
theorem dX4_addTry_11 : decode cX4_addTry 11 = .ok (.aload_n 0, 1) := by decide +kernel
theorem dX4_addTry_12 : decode cX4_addTry 12 = .ok (.iload 6, 2) := by decide +kernel
theorem dX4_addTry_14 : decode cX4_addTry 14 = .ok (.laload, 1) := by decide +kernel
theorem dX4_addTry_15 : decode cX4_addTry 15 = .ok (.lload 4, 2) := by decide +kernel
theorem dX4_addTry_17 : decode cX4_addTry 17 = .ok (.lmul, 1) := by decide +kernel
theorem dX4_addTry_18 : decode cX4_addTry 18 = .ok (.aload_n 0, 1) := by decide +kernel
theorem dX4_addTry_19 : decode cX4_addTry 19 = .ok (.iload 6, 2) := by decide +kernel
theorem dX4_addTry_21 : decode cX4_addTry 21 = .ok (.iconst 1, 1) := by decide +kernel
theorem dX4_addTry_22 : decode cX4_addTry 22 = .ok (.isub, 1) := by decide +kernel
theorem dX4_addTry_23 : decode cX4_addTry 23 = .ok (.laload, 1) := by decide +kernel
theorem dX4_addTry_24 : decode cX4_addTry 24 = .ok (.lload_n 2, 1) := by decide +kernel
theorem dX4_addTry_25 : decode cX4_addTry 25 = .ok (.lmul, 1) := by decide +kernel
theorem dX4_addTry_26 : decode cX4_addTry 26 = .ok (.ladd, 1) := by decide +kernel
theorem dX4_addTry_27 : decode cX4_addTry 27 = .ok (.lastore, 1) := by decide +kernel
theorem dX4_addTry_28 : decode cX4_addTry 28 = .ok (.iinc 6 (-1), 3) := by decide +kernel
theorem dX4_addTry_31 : decode cX4_addTry 31 = .ok (.goto (-28), 3) := by decide +kernel
theorem dX4_addTry_34 : decode cX4_addTry 34 = .ok (.aload_n 0, 1) := by decide +kernel
theorem dX4_addTry_35 : decode cX4_addTry 35 = .ok (.iconst 0, 1) := by decide +kernel
theorem dX4_addTry_36 : decode cX4_addTry 36 = .ok (.dup2, 1) := by decide +kernel
theorem dX4_addTry_37 : decode cX4_addTry 37 = .ok (.laload, 1) := by decide +kernel
theorem dX4_addTry_38 : decode cX4_addTry 38 = .ok (.lload 4, 2) := by decide +kernel
theorem dX4_addTry_40 : decode cX4_addTry 40 = .ok (.lmul, 1) := by decide +kernel
theorem dX4_addTry_41 : decode cX4_addTry 41 = .ok (.lastore, 1) := by decide +kernel
theorem dX4_addTry_42 : decode cX4_addTry 42 = .ok (.return_, 1) := by decide +kernel
set_option maxRecDepth 100000 in
theorem sgX4_addTry_55_0 {d : Nat} {I : st_I} {L : st_L} {F : st_I → st_L → Prop} {a2 : Int32} {a3 : Int64} {a4 : Int64} (h : TV d mX4_addTry 3 [.ref 55, .null, .long a3, .null, .long a4, .null, .int a2] [] I L F) : EV d mX4_addTry [.ref 55, .int a2, .long a3, .long a4] I L F := by
  refine Ev_of (ls0 := 1) (by decide +kernel) rfl rfl rfl ?_
  refine T_iload_n dX4_addTry_0 rfl ?_
  refine T_istore (lv' := [.ref 55, .int a2, .long a3, .null, .long a4, .null, .int a2]) dX4_addTry_1 (by decide) rfl ?_
  exact T_wk (lv' := [.ref 55, .null, .long a3, .null, .long a4, .null, .int a2]) ⟨Or.inr rfl, Or.inl rfl, Or.inr rfl, Or.inr rfl, Or.inr rfl, Or.inr rfl, Or.inr rfl, trivial⟩ h

set_option maxRecDepth 100000 in
theorem sgX4_addTry_55_3 {d : Nat} {I : st_I} {L : st_L} {F : st_I → st_L → Prop} {x2 : Int64} {x4 : Int64} {x6 : Int32} (h : (if x6 ≤ 0 then F I (u_L L 55 0 ((L 55 0) * x4)) else vp_in x6 31 ∧ vp_in (x6 - 1) 31 ∧ vp_in x6 31 ∧ TV d mX4_addTry 3 [.ref 55, .null, .long x2, .null, .long x4, .null, .int (x6 + (-1))] [] I (u_L L 55 (x6.toNatClampNeg) (((L 55 (x6.toNatClampNeg)) * x4) + ((L 55 ((x6 - 1).toNatClampNeg)) * x2))) F)) : TV d mX4_addTry 3 [.ref 55, .null, .long x2, .null, .long x4, .null, .int x6] [] I L F := by
  refine T_iload dX4_addTry_3 rfl ?_
  refine T_if_le (tgt := 34) dX4_addTry_5 (by decide) (tq_ite h (fun h => ?_) (fun h => ?_))
  ·
    refine T_aload_n dX4_addTry_34 rfl ?_
    refine T_iconst (v := 0) dX4_addTry_35 (by decide +kernel) ?_
    refine T_dup2 dX4_addTry_36 rfl rfl ?_
    refine T_laldv (v := (L 55 0)) (j := 0) dX4_addTry_37 shp_55 (tq_inl (by decide +kernel)) (by decide +kernel) rfl ?_
    refine T_lload dX4_addTry_38 rfl ?_
    refine T_lmul dX4_addTry_40 ?_
    refine T_lastv (j := 0) dX4_addTry_41 shp_55 (tq_inl (by decide +kernel)) (by decide +kernel) ?_
    exact S_vret rfl dX4_addTry_42 h
  ·
    refine T_aload_n dX4_addTry_8 rfl ?_
    refine T_iload dX4_addTry_9 rfl ?_
    refine T_aload_n dX4_addTry_11 rfl ?_
    refine T_iload dX4_addTry_12 rfl ?_
    refine T_laldv (v := (L 55 (x6.toNatClampNeg))) (j := x6.toNatClampNeg) dX4_addTry_14 shp_55 h.1 rfl rfl ?_
    replace h := h.2
    refine T_lload dX4_addTry_15 rfl ?_
    refine T_lmul dX4_addTry_17 ?_
    refine T_aload_n dX4_addTry_18 rfl ?_
    refine T_iload dX4_addTry_19 rfl ?_
    refine T_iconst (v := 1) dX4_addTry_21 (by decide +kernel) ?_
    refine T_isub dX4_addTry_22 ?_
    refine T_laldv (v := (L 55 ((x6 - 1).toNatClampNeg))) (j := (x6 - 1).toNatClampNeg) dX4_addTry_23 shp_55 h.1 rfl rfl ?_
    replace h := h.2
    refine T_lload_n dX4_addTry_24 rfl ?_
    refine T_lmul dX4_addTry_25 ?_
    refine T_ladd dX4_addTry_26 ?_
    refine T_lastv (j := x6.toNatClampNeg) dX4_addTry_27 shp_55 h.1 rfl ?_
    replace h := h.2
    refine T_iinc (lv' := [.ref 55, .null, .long x2, .null, .long x4, .null, .int (x6 + (-1))]) dX4_addTry_28 rfl (by decide) rfl ?_
    refine T_goto (tgt := 3) dX4_addTry_31 (by decide) ?_
    exact h

set_option maxRecDepth 100000 in
theorem sgX4_addTry_56_0 {d : Nat} {I : st_I} {L : st_L} {F : st_I → st_L → Prop} {a2 : Int32} {a3 : Int64} {a4 : Int64} (h : TV d mX4_addTry 3 [.ref 56, .null, .long a3, .null, .long a4, .null, .int a2] [] I L F) : EV d mX4_addTry [.ref 56, .int a2, .long a3, .long a4] I L F := by
  refine Ev_of (ls0 := 1) (by decide +kernel) rfl rfl rfl ?_
  refine T_iload_n dX4_addTry_0 rfl ?_
  refine T_istore (lv' := [.ref 56, .int a2, .long a3, .null, .long a4, .null, .int a2]) dX4_addTry_1 (by decide) rfl ?_
  exact T_wk (lv' := [.ref 56, .null, .long a3, .null, .long a4, .null, .int a2]) ⟨Or.inr rfl, Or.inl rfl, Or.inr rfl, Or.inr rfl, Or.inr rfl, Or.inr rfl, Or.inr rfl, trivial⟩ h

set_option maxRecDepth 100000 in
theorem sgX4_addTry_56_3 {d : Nat} {I : st_I} {L : st_L} {F : st_I → st_L → Prop} {x2 : Int64} {x4 : Int64} {x6 : Int32} (h : (if x6 ≤ 0 then F I (u_L L 56 0 ((L 56 0) * x4)) else vp_in x6 31 ∧ vp_in (x6 - 1) 31 ∧ vp_in x6 31 ∧ TV d mX4_addTry 3 [.ref 56, .null, .long x2, .null, .long x4, .null, .int (x6 + (-1))] [] I (u_L L 56 (x6.toNatClampNeg) (((L 56 (x6.toNatClampNeg)) * x4) + ((L 56 ((x6 - 1).toNatClampNeg)) * x2))) F)) : TV d mX4_addTry 3 [.ref 56, .null, .long x2, .null, .long x4, .null, .int x6] [] I L F := by
  refine T_iload dX4_addTry_3 rfl ?_
  refine T_if_le (tgt := 34) dX4_addTry_5 (by decide) (tq_ite h (fun h => ?_) (fun h => ?_))
  ·
    refine T_aload_n dX4_addTry_34 rfl ?_
    refine T_iconst (v := 0) dX4_addTry_35 (by decide +kernel) ?_
    refine T_dup2 dX4_addTry_36 rfl rfl ?_
    refine T_laldv (v := (L 56 0)) (j := 0) dX4_addTry_37 shp_56 (tq_inl (by decide +kernel)) (by decide +kernel) rfl ?_
    refine T_lload dX4_addTry_38 rfl ?_
    refine T_lmul dX4_addTry_40 ?_
    refine T_lastv (j := 0) dX4_addTry_41 shp_56 (tq_inl (by decide +kernel)) (by decide +kernel) ?_
    exact S_vret rfl dX4_addTry_42 h
  ·
    refine T_aload_n dX4_addTry_8 rfl ?_
    refine T_iload dX4_addTry_9 rfl ?_
    refine T_aload_n dX4_addTry_11 rfl ?_
    refine T_iload dX4_addTry_12 rfl ?_
    refine T_laldv (v := (L 56 (x6.toNatClampNeg))) (j := x6.toNatClampNeg) dX4_addTry_14 shp_56 h.1 rfl rfl ?_
    replace h := h.2
    refine T_lload dX4_addTry_15 rfl ?_
    refine T_lmul dX4_addTry_17 ?_
    refine T_aload_n dX4_addTry_18 rfl ?_
    refine T_iload dX4_addTry_19 rfl ?_
    refine T_iconst (v := 1) dX4_addTry_21 (by decide +kernel) ?_
    refine T_isub dX4_addTry_22 ?_
    refine T_laldv (v := (L 56 ((x6 - 1).toNatClampNeg))) (j := (x6 - 1).toNatClampNeg) dX4_addTry_23 shp_56 h.1 rfl rfl ?_
    replace h := h.2
    refine T_lload_n dX4_addTry_24 rfl ?_
    refine T_lmul dX4_addTry_25 ?_
    refine T_ladd dX4_addTry_26 ?_
    refine T_lastv (j := x6.toNatClampNeg) dX4_addTry_27 shp_56 h.1 rfl ?_
    replace h := h.2
    refine T_iinc (lv' := [.ref 56, .null, .long x2, .null, .long x4, .null, .int (x6 + (-1))]) dX4_addTry_28 rfl (by decide) rfl ?_
    refine T_goto (tgt := 3) dX4_addTry_31 (by decide) ?_
    exact h

theorem dX4_leastBar_0 : decode cX4_leastBar 0 = .ok (.lload_n 2, 1) := by decide +kernel
theorem dX4_leastBar_1 : decode cX4_leastBar 1 = .ok (.lstore 8, 2) := by decide +kernel
theorem dX4_leastBar_3 : decode cX4_leastBar 3 = .ok (.lconst 0, 1) := by decide +kernel
theorem dX4_leastBar_4 : decode cX4_leastBar 4 = .ok (.lstore 10, 2) := by decide +kernel
theorem dX4_leastBar_6 : decode cX4_leastBar 6 = .ok (.iconst 0, 1) := by decide +kernel
theorem dX4_leastBar_7 : decode cX4_leastBar 7 = .ok (.istore 12, 2) := by decide +kernel
theorem dX4_leastBar_9 : decode cX4_leastBar 9 = .ok (.iload 12, 2) := by decide +kernel
theorem dX4_leastBar_11 : decode cX4_leastBar 11 = .ok (.iload_n 1, 1) := by decide +kernel
theorem dX4_leastBar_12 : decode cX4_leastBar 12 = .ok (.if_icmp .gt 52, 3) := by decide +kernel
theorem dX4_leastBar_15 : decode cX4_leastBar 15 = .ok (.lload 8, 2) := by decide +kernel
theorem dX4_leastBar_17 : decode cX4_leastBar 17 = .ok (.lload 4, 2) := by decide +kernel
theorem dX4_leastBar_19 : decode cX4_leastBar 19 = .ok (.lcmp, 1) := by decide +kernel
theorem dX4_leastBar_20 : decode cX4_leastBar 20 = .ok (.ifCond .gt 14, 3) := by decide +kernel
theorem dX4_leastBar_23 : decode cX4_leastBar 23 = .ok (.lload 10, 2) := by decide +kernel
theorem dX4_leastBar_25 : decode cX4_leastBar 25 = .ok (.lload 6, 2) := by decide +kernel
theorem dX4_leastBar_27 : decode cX4_leastBar 27 = .ok (.lcmp, 1) := by decide +kernel
theorem dX4_leastBar_28 : decode cX4_leastBar 28 = .ok (.ifCond .gt 6, 3) := by decide +kernel
theorem dX4_leastBar_31 : decode cX4_leastBar 31 = .ok (.iload 12, 2) := by decide +kernel
theorem dX4_leastBar_33 : decode cX4_leastBar 33 = .ok (.ireturn, 1) := by decide +kernel
theorem dX4_leastBar_34 : decode cX4_leastBar 34 = .ok (.lload 8, 2) := by decide +kernel
theorem dX4_leastBar_36 : decode cX4_leastBar 36 = .ok (.aload_n 0, 1) := by decide +kernel
theorem dX4_leastBar_37 : decode cX4_leastBar 37 = .ok (.getfield 11, 3) := by decide +kernel
theorem dX4_leastBar_40 : decode cX4_leastBar 40 = .ok (.iload 12, 2) := by decide +kernel
theorem dX4_leastBar_42 : decode cX4_leastBar 42 = .ok (.laload, 1) := by decide +kernel
theorem dX4_leastBar_43 : decode cX4_leastBar 43 = .ok (.lsub, 1) := by decide +kernel
theorem dX4_leastBar_44 : decode cX4_leastBar 44 = .ok (.lstore 8, 2) := by decide +kernel
theorem dX4_leastBar_46 : decode cX4_leastBar 46 = .ok (.lload 10, 2) := by decide +kernel
theorem dX4_leastBar_48 : decode cX4_leastBar 48 = .ok (.aload_n 0, 1) := by decide +kernel
theorem dX4_leastBar_49 : decode cX4_leastBar 49 = .ok (.getfield 15, 3) := by decide +kernel
theorem dX4_leastBar_52 : decode cX4_leastBar 52 = .ok (.iload 12, 2) := by decide +kernel
theorem dX4_leastBar_54 : decode cX4_leastBar 54 = .ok (.laload, 1) := by decide +kernel
theorem dX4_leastBar_55 : decode cX4_leastBar 55 = .ok (.ladd, 1) := by decide +kernel
theorem dX4_leastBar_56 : decode cX4_leastBar 56 = .ok (.lstore 10, 2) := by decide +kernel
theorem dX4_leastBar_58 : decode cX4_leastBar 58 = .ok (.iinc 12 1, 3) := by decide +kernel
theorem dX4_leastBar_61 : decode cX4_leastBar 61 = .ok (.goto (-52), 3) := by decide +kernel
theorem dX4_leastBar_64 : decode cX4_leastBar 64 = .ok (.iconst (-1), 1) := by decide +kernel
theorem dX4_leastBar_65 : decode cX4_leastBar 65 = .ok (.ireturn, 1) := by decide +kernel
set_option maxRecDepth 100000 in
theorem sgX4_leastBar_0 {d : Nat} {I : st_I} {L : st_L} {F : Int32 → st_I → st_L → Prop} {a1 : Int32} {a2 : Int64} {a3 : Int64} {a4 : Int64} (h : TI d mX4_leastBar 9 [.ref 54, .int a1, .null, .null, .long a3, .null, .long a4, .null, .long a2, .null, .long 0, .null, .int 0] [] I L F) : EI d mX4_leastBar [.ref 54, .int a1, .long a2, .long a3, .long a4] I L F := by
  refine Ev_of (ls0 := 5) (by decide +kernel) rfl rfl rfl ?_
  refine T_lload_n dX4_leastBar_0 rfl ?_
  refine T_lstore (lv' := [.ref 54, .int a1, .long a2, .null, .long a3, .null, .long a4, .null, .long a2, .null, .null, .null, .null]) dX4_leastBar_1 (by decide) rfl ?_
  refine T_lconst (v := 0) dX4_leastBar_3 (by decide +kernel) ?_
  refine T_lstore (lv' := [.ref 54, .int a1, .long a2, .null, .long a3, .null, .long a4, .null, .long a2, .null, .long 0, .null, .null]) dX4_leastBar_4 (by decide) rfl ?_
  refine T_iconst (v := 0) dX4_leastBar_6 (by decide +kernel) ?_
  refine T_istore (lv' := [.ref 54, .int a1, .long a2, .null, .long a3, .null, .long a4, .null, .long a2, .null, .long 0, .null, .int 0]) dX4_leastBar_7 (by decide) rfl ?_
  exact T_wk (lv' := [.ref 54, .int a1, .null, .null, .long a3, .null, .long a4, .null, .long a2, .null, .long 0, .null, .int 0]) ⟨Or.inr rfl, Or.inr rfl, Or.inl rfl, Or.inr rfl, Or.inr rfl, Or.inr rfl, Or.inr rfl, Or.inr rfl, Or.inr rfl, Or.inr rfl, Or.inr rfl, Or.inr rfl, Or.inr rfl, trivial⟩ h

set_option maxRecDepth 100000 in
theorem sgX4_leastBar_9 {d : Nat} {I : st_I} {L : st_L} {F : Int32 → st_I → st_L → Prop} {x1 : Int32} {x4 : Int64} {x6 : Int64} {x8 : Int64} {x10 : Int64} {x12 : Int32} (h : (if x1 < x12 then F (-1) I L else (if 0 < (lg_cmp x8 x4) then TI d mX4_leastBar 34 [.ref 54, .int x1, .null, .null, .long x4, .null, .long x6, .null, .long x8, .null, .long x10, .null, .int x12] [] I L F else (if 0 < (lg_cmp x10 x6) then TI d mX4_leastBar 34 [.ref 54, .int x1, .null, .null, .long x4, .null, .long x6, .null, .long x8, .null, .long x10, .null, .int x12] [] I L F else F x12 I L)))) : TI d mX4_leastBar 9 [.ref 54, .int x1, .null, .null, .long x4, .null, .long x6, .null, .long x8, .null, .long x10, .null, .int x12] [] I L F := by
  refine T_iload dX4_leastBar_9 rfl ?_
  refine T_iload_n dX4_leastBar_11 rfl ?_
  refine T_icmp_gt (tgt := 64) dX4_leastBar_12 (by decide) (tq_ite h (fun h => ?_) (fun h => ?_))
  ·
    refine T_iconst (v := (-1)) dX4_leastBar_64 (by decide +kernel) ?_
    exact S_iret rfl dX4_leastBar_65 h
  ·
    refine T_lload dX4_leastBar_15 rfl ?_
    refine T_lload dX4_leastBar_17 rfl ?_
    refine T_lcmp dX4_leastBar_19 ?_
    refine T_if_gt (tgt := 34) dX4_leastBar_20 (by decide) (tq_ite h (fun h => ?_) (fun h => ?_))
    ·
      exact h
    ·
      refine T_lload dX4_leastBar_23 rfl ?_
      refine T_lload dX4_leastBar_25 rfl ?_
      refine T_lcmp dX4_leastBar_27 ?_
      refine T_if_gt (tgt := 34) dX4_leastBar_28 (by decide) (tq_ite h (fun h => ?_) (fun h => ?_))
      ·
        exact h
      ·
        refine T_iload dX4_leastBar_31 rfl ?_
        exact S_iret rfl dX4_leastBar_33 h

set_option maxRecDepth 100000 in
theorem sgX4_leastBar_34 {d : Nat} {I : st_I} {L : st_L} {F : Int32 → st_I → st_L → Prop} {x1 : Int32} {x4 : Int64} {x6 : Int64} {x8 : Int64} {x10 : Int64} {x12 : Int32} (h : vp_in x12 31 ∧ vp_in x12 31 ∧ TI d mX4_leastBar 9 [.ref 54, .int x1, .null, .null, .long x4, .null, .long x6, .null, .long (x8 - (L 55 (x12.toNatClampNeg))), .null, .long (x10 + (L 56 (x12.toNatClampNeg))), .null, .int (x12 + 1)] [] I L F) : TI d mX4_leastBar 34 [.ref 54, .int x1, .null, .null, .long x4, .null, .long x6, .null, .long x8, .null, .long x10, .null, .int x12] [] I L F := by
  refine T_lload dX4_leastBar_34 rfl ?_
  refine T_aload_n dX4_leastBar_36 rfl ?_
  refine T_getr dX4_leastBar_37 fl_RX4_11 shp_54 rfl ?_
  refine T_iload dX4_leastBar_40 rfl ?_
  refine T_laldv (v := (L 55 (x12.toNatClampNeg))) (j := x12.toNatClampNeg) dX4_leastBar_42 shp_55 h.1 rfl rfl ?_
  replace h := h.2
  refine T_lsub dX4_leastBar_43 ?_
  refine T_lstore (lv' := [.ref 54, .int x1, .null, .null, .long x4, .null, .long x6, .null, .long (x8 - (L 55 (x12.toNatClampNeg))), .null, .long x10, .null, .int x12]) dX4_leastBar_44 (by decide) rfl ?_
  refine T_lload dX4_leastBar_46 rfl ?_
  refine T_aload_n dX4_leastBar_48 rfl ?_
  refine T_getr dX4_leastBar_49 fl_RX4_15 shp_54 rfl ?_
  refine T_iload dX4_leastBar_52 rfl ?_
  refine T_laldv (v := (L 56 (x12.toNatClampNeg))) (j := x12.toNatClampNeg) dX4_leastBar_54 shp_56 h.1 rfl rfl ?_
  replace h := h.2
  refine T_ladd dX4_leastBar_55 ?_
  refine T_lstore (lv' := [.ref 54, .int x1, .null, .null, .long x4, .null, .long x6, .null, .long (x8 - (L 55 (x12.toNatClampNeg))), .null, .long (x10 + (L 56 (x12.toNatClampNeg))), .null, .int x12]) dX4_leastBar_56 (by decide) rfl ?_
  refine T_iinc (lv' := [.ref 54, .int x1, .null, .null, .long x4, .null, .long x6, .null, .long (x8 - (L 55 (x12.toNatClampNeg))), .null, .long (x10 + (L 56 (x12.toNatClampNeg))), .null, .int (x12 + 1)]) dX4_leastBar_58 rfl (by decide) rfl ?_
  refine T_goto (tgt := 9) dX4_leastBar_61 (by decide) ?_
  exact h

