theorem dX11_feed_0 : decode cX11_feed 0 = .ok (.aload_n 0, 1) := by decide +kernel
theorem dX11_feed_1 : decode cX11_feed 1 = .ok (.getfield 12, 3) := by decide +kernel
theorem dX11_feed_4 : decode cX11_feed 4 = .ok (.getfield 89, 3) := by decide +kernel
theorem dX11_feed_7 : decode cX11_feed 7 = .ok (.bipush 20, 2) := by decide +kernel
theorem dX11_feed_9 : decode cX11_feed 9 = .ok (.iadd, 1) := by decide +kernel
theorem dX11_feed_10 : decode cX11_feed 10 = .ok (.sipush 2000, 3) := by decide +kernel
theorem dX11_feed_13 : decode cX11_feed 13 = .ok (.if_icmp .le 5, 3) := by decide +kernel
theorem dX11_feed_16 : decode cX11_feed 16 = .ok (.iconst (-1), 1) := by decide +kernel
theorem dX11_feed_17 : decode cX11_feed 17 = .ok (.ireturn, 1) := by decide +kernel
theorem dX11_feed_18 : decode cX11_feed 18 = .ok (.aload_n 0, 1) := by decide +kernel
theorem dX11_feed_19 : decode cX11_feed 19 = .ok (.getfield 12, 3) := by decide +kernel
theorem dX11_feed_22 : decode cX11_feed 22 = .ok (.iload_n 1, 1) := by decide +kernel
theorem dX11_feed_23 : decode cX11_feed 23 = .ok (.invokevirtual 93, 3) := by decide +kernel
theorem dX11_feed_26 : decode cX11_feed 26 = .ok (.aload_n 0, 1) := by decide +kernel
theorem dX11_feed_27 : decode cX11_feed 27 = .ok (.getfield 12, 3) := by decide +kernel
theorem dX11_feed_30 : decode cX11_feed 30 = .ok (.iload_n 2, 1) := by decide +kernel
theorem dX11_feed_31 : decode cX11_feed 31 = .ok (.invokevirtual 93, 3) := by decide +kernel
theorem dX11_feed_34 : decode cX11_feed 34 = .ok (.aload_n 0, 1) := by decide +kernel
theorem dX11_feed_35 : decode cX11_feed 35 = .ok (.getfield 12, 3) := by decide +kernel
theorem dX11_feed_38 : decode cX11_feed 38 = .ok (.iload_n 3, 1) := by decide +kernel
theorem dX11_feed_39 : decode cX11_feed 39 = .ok (.invokevirtual 93, 3) := by decide +kernel
theorem dX11_feed_42 : decode cX11_feed 42 = .ok (.aload_n 0, 1) := by decide +kernel
theorem dX11_feed_43 : decode cX11_feed 43 = .ok (.getfield 12, 3) := by decide +kernel
theorem dX11_feed_46 : decode cX11_feed 46 = .ok (.iload 4, 2) := by decide +kernel
theorem dX11_feed_48 : decode cX11_feed 48 = .ok (.invokevirtual 93, 3) := by decide +kernel
theorem dX11_feed_51 : decode cX11_feed 51 = .ok (.aload_n 0, 1) := by decide +kernel
theorem dX11_feed_52 : decode cX11_feed 52 = .ok (.getfield 12, 3) := by decide +kernel
theorem dX11_feed_55 : decode cX11_feed 55 = .ok (.iload 5, 2) := by decide +kernel
theorem dX11_feed_57 : decode cX11_feed 57 = .ok (.invokevirtual 93, 3) := by decide +kernel
theorem dX11_feed_60 : decode cX11_feed 60 = .ok (.aload_n 0, 1) := by decide +kernel
theorem dX11_feed_61 : decode cX11_feed 61 = .ok (.getfield 12, 3) := by decide +kernel
theorem dX11_feed_64 : decode cX11_feed 64 = .ok (.getfield 89, 3) := by decide +kernel
theorem dX11_feed_67 : decode cX11_feed 67 = .ok (.ireturn, 1) := by decide +kernel
set_option maxRecDepth 100000 in
theorem sgX11_feed_0 {d : Nat} {I : st_I} {L : st_L} {F : Int32 → st_I → st_L → Prop} {a1 : Int32} {a2 : Int32} {a3 : Int32} {a4 : Int32} {a5 : Int32} (h : (if ((I 17 0) + 20) ≤ 2000 then EV d mX5_append [.ref 17, .int a1] I L (fun I1 L1 => EV d mX5_append [.ref 17, .int a2] I1 L1 (fun I2 L2 => EV d mX5_append [.ref 17, .int a3] I2 L2 (fun I3 L3 => EV d mX5_append [.ref 17, .int a4] I3 L3 (fun I4 L4 => EV d mX5_append [.ref 17, .int a5] I4 L4 (fun I5 L5 => F (I5 17 0) I5 L5))))) else F (-1) I L)) : EI (d + 1) mX11_feed [.ref 0, .int a1, .int a2, .int a3, .int a4, .int a5] I L F := by
  refine Ev_of (ls0 := 0) (by decide +kernel) rfl rfl rfl ?_
  refine T_aload_n dX11_feed_0 rfl ?_
  refine T_getr dX11_feed_1 fl_RX11_12 shp_0 rfl ?_
  refine T_getv (v := (I 17 0)) dX11_feed_4 fl_RX11_89 shp_17 rfl rfl ?_
  refine T_bipush (v := 20) dX11_feed_7 (by decide +kernel) ?_
  refine T_iadd dX11_feed_9 ?_
  refine T_sipush (v := 2000) dX11_feed_10 (by decide +kernel) ?_
  refine T_icmp_le (tgt := 18) dX11_feed_13 (by decide) (tq_ite h (fun h => ?_) (fun h => ?_))
  ·
    refine T_aload_n dX11_feed_18 rfl ?_
    refine T_getr dX11_feed_19 fl_RX11_12 shp_0 rfl ?_
    refine T_iload_n dX11_feed_22 rfl ?_
    refine S_callVV (M' := mX5_append) [.int a1] [] dX11_feed_23 ml_RX11_93 mkX5_append rfl shp_17 rfl rfl rfl (Nat.le_of_ble_eq_true rfl) h (fun I1 L1 h => ?_)
    refine T_aload_n dX11_feed_26 rfl ?_
    refine T_getr dX11_feed_27 fl_RX11_12 shp_0 rfl ?_
    refine T_iload_n dX11_feed_30 rfl ?_
    refine S_callVV (M' := mX5_append) [.int a2] [] dX11_feed_31 ml_RX11_93 mkX5_append rfl shp_17 rfl rfl rfl (Nat.le_of_ble_eq_true rfl) h (fun I2 L2 h => ?_)
    refine T_aload_n dX11_feed_34 rfl ?_
    refine T_getr dX11_feed_35 fl_RX11_12 shp_0 rfl ?_
    refine T_iload_n dX11_feed_38 rfl ?_
    refine S_callVV (M' := mX5_append) [.int a3] [] dX11_feed_39 ml_RX11_93 mkX5_append rfl shp_17 rfl rfl rfl (Nat.le_of_ble_eq_true rfl) h (fun I3 L3 h => ?_)
    refine T_aload_n dX11_feed_42 rfl ?_
    refine T_getr dX11_feed_43 fl_RX11_12 shp_0 rfl ?_
    refine T_iload dX11_feed_46 rfl ?_
    refine S_callVV (M' := mX5_append) [.int a4] [] dX11_feed_48 ml_RX11_93 mkX5_append rfl shp_17 rfl rfl rfl (Nat.le_of_ble_eq_true rfl) h (fun I4 L4 h => ?_)
    refine T_aload_n dX11_feed_51 rfl ?_
    refine T_getr dX11_feed_52 fl_RX11_12 shp_0 rfl ?_
    refine T_iload dX11_feed_55 rfl ?_
    refine S_callVV (M' := mX5_append) [.int a5] [] dX11_feed_57 ml_RX11_93 mkX5_append rfl shp_17 rfl rfl rfl (Nat.le_of_ble_eq_true rfl) h (fun I5 L5 h => ?_)
    refine T_aload_n dX11_feed_60 rfl ?_
    refine T_getr dX11_feed_61 fl_RX11_12 shp_0 rfl ?_
    refine T_getv (v := (I5 17 0)) dX11_feed_64 fl_RX11_89 shp_17 rfl rfl ?_
    exact S_iret rfl dX11_feed_67 h
  ·
    refine T_iconst (v := (-1)) dX11_feed_16 (by decide +kernel) ?_
    exact S_iret rfl dX11_feed_17 h

theorem dX11_back_0 : decode cX11_back 0 = .ok (.iload_n 1, 1) := by decide +kernel
theorem dX11_back_1 : decode cX11_back 1 = .ok (.ifCond .lt 14, 3) := by decide +kernel
theorem dX11_back_4 : decode cX11_back 4 = .ok (.iload_n 1, 1) := by decide +kernel
theorem dX11_back_5 : decode cX11_back 5 = .ok (.aload_n 0, 1) := by decide +kernel
theorem dX11_back_6 : decode cX11_back 6 = .ok (.getfield 12, 3) := by decide +kernel
theorem dX11_back_9 : decode cX11_back 9 = .ok (.getfield 89, 3) := by decide +kernel
theorem dX11_back_12 : decode cX11_back 12 = .ok (.if_icmp .le 5, 3) := by decide +kernel
theorem dX11_back_15 : decode cX11_back 15 = .ok (.iconst (-1), 1) := by decide +kernel
theorem dX11_back_16 : decode cX11_back 16 = .ok (.ireturn, 1) := by decide +kernel
theorem dX11_back_17 : decode cX11_back 17 = .ok (.aload_n 0, 1) := by decide +kernel
theorem dX11_back_18 : decode cX11_back 18 = .ok (.getfield 12, 3) := by decide +kernel
theorem dX11_back_21 : decode cX11_back 21 = .ok (.dup, 1) := by decide +kernel
theorem dX11_back_22 : decode cX11_back 22 = .ok (.getfield 89, 3) := by decide +kernel
theorem dX11_back_25 : decode cX11_back 25 = .ok (.iload_n 1, 1) := by decide +kernel
theorem dX11_back_26 : decode cX11_back 26 = .ok (.isub, 1) := by decide +kernel
theorem dX11_back_27 : decode cX11_back 27 = .ok (.putfield 89, 3) := by decide +kernel
theorem dX11_back_30 : decode cX11_back 30 = .ok (.aload_n 0, 1) := by decide +kernel
theorem dX11_back_31 : decode cX11_back 31 = .ok (.getfield 12, 3) := by decide +kernel
theorem dX11_back_34 : decode cX11_back 34 = .ok (.getfield 89, 3) := by decide +kernel
theorem dX11_back_37 : decode cX11_back 37 = .ok (.ireturn, 1) := by decide +kernel
set_option maxRecDepth 100000 in
theorem sgX11_back_0 {d : Nat} {I : st_I} {L : st_L} {F : Int32 → st_I → st_L → Prop} {a1 : Int32} (h : (if a1 < 0 then F (-1) I L else (if a1 ≤ (I 17 0) then F ((I 17 0) - a1) (u_I I 17 0 ((I 17 0) - a1)) L else F (-1) I L))) : EI d mX11_back [.ref 0, .int a1] I L F := by
  refine Ev_of (ls0 := 0) (by decide +kernel) rfl rfl rfl ?_
  refine T_iload_n dX11_back_0 rfl ?_
  refine T_if_lt (tgt := 15) dX11_back_1 (by decide) (tq_ite h (fun h => ?_) (fun h => ?_))
  ·
    refine T_iconst (v := (-1)) dX11_back_15 (by decide +kernel) ?_
    exact S_iret rfl dX11_back_16 h
  ·
    refine T_iload_n dX11_back_4 rfl ?_
    refine T_aload_n dX11_back_5 rfl ?_
    refine T_getr dX11_back_6 fl_RX11_12 shp_0 rfl ?_
    refine T_getv (v := (I 17 0)) dX11_back_9 fl_RX11_89 shp_17 rfl rfl ?_
    refine T_icmp_le (tgt := 17) dX11_back_12 (by decide) (tq_ite h (fun h => ?_) (fun h => ?_))
    ·
      refine T_aload_n dX11_back_17 rfl ?_
      refine T_getr dX11_back_18 fl_RX11_12 shp_0 rfl ?_
      refine T_dup dX11_back_21 rfl ?_
      refine T_getv (v := (I 17 0)) dX11_back_22 fl_RX11_89 shp_17 rfl rfl ?_
      refine T_iload_n dX11_back_25 rfl ?_
      refine T_isub dX11_back_26 ?_
      refine T_puti dX11_back_27 fl_RX11_89 pf_5_0 shp_17 rfl rfl rfl ?_
      refine T_aload_n dX11_back_30 rfl ?_
      refine T_getr dX11_back_31 fl_RX11_12 shp_0 rfl ?_
      refine T_getv (v := ((I 17 0) - a1)) dX11_back_34 fl_RX11_89 shp_17 rfl rfl ?_
      exact S_iret rfl dX11_back_37 h
    ·
      refine T_iconst (v := (-1)) dX11_back_15 (by decide +kernel) ?_
      exact S_iret rfl dX11_back_16 h

theorem dX11_read_0 : decode cX11_read 0 = .ok (.aload_n 0, 1) := by decide +kernel
theorem dX11_read_1 : decode cX11_read 1 = .ok (.getfield 12, 3) := by decide +kernel
theorem dX11_read_4 : decode cX11_read 4 = .ok (.invokevirtual 97, 3) := by decide +kernel
theorem dX11_read_7 : decode cX11_read 7 = .ok (.iconst 0, 1) := by decide +kernel
theorem dX11_read_8 : decode cX11_read 8 = .ok (.istore_n 1, 1) := by decide +kernel
theorem dX11_read_9 : decode cX11_read 9 = .ok (.iload_n 1, 1) := by decide +kernel
theorem dX11_read_10 : decode cX11_read 10 = .ok (.sipush 400, 3) := by decide +kernel
theorem dX11_read_13 : decode cX11_read 13 = .ok (.if_icmp .gt 26, 3) := by decide +kernel
theorem dX11_read_16 : decode cX11_read 16 = .ok (.aload_n 0, 1) := by decide +kernel
theorem dX11_read_17 : decode cX11_read 17 = .ok (.getfield 12, 3) := by decide +kernel
theorem dX11_read_20 : decode cX11_read 20 = .ok (.invokevirtual 100, 3) := by decide +kernel
theorem dX11_read_23 : decode cX11_read 23 = .ok (.ifCond .eq 16, 3) := by decide +kernel
theorem dX11_read_26 : decode cX11_read 26 = .ok (.aload_n 0, 1) := by decide +kernel
theorem dX11_read_27 : decode cX11_read 27 = .ok (.getfield 12, 3) := by decide +kernel
theorem dX11_read_30 : decode cX11_read 30 = .ok (.invokevirtual 104, 3) := by decide +kernel
theorem dX11_read_33 : decode cX11_read 33 = .ok (.iinc 1 1, 3) := by decide +kernel
theorem dX11_read_36 : decode cX11_read 36 = .ok (.goto (-27), 3) := by decide +kernel
theorem dX11_read_39 : decode cX11_read 39 = .ok (.aload_n 0, 1) := by decide +kernel
theorem dX11_read_40 : decode cX11_read 40 = .ok (.getfield 12, 3) := by decide +kernel
theorem dX11_read_43 : decode cX11_read 43 = .ok (.invokevirtual 107, 3) := by decide +kernel
theorem dX11_read_46 : decode cX11_read 46 = .ok (.istore_n 1, 1) := by decide +kernel
theorem dX11_read_47 : decode cX11_read 47 = .ok (.iload_n 1, 1) := by decide +kernel
theorem dX11_read_48 : decode cX11_read 48 = .ok (.ifCond .ne 43, 3) := by decide +kernel
theorem dX11_read_51 : decode cX11_read 51 = .ok (.aload_n 0, 1) := by decide +kernel
theorem dX11_read_52 : decode cX11_read 52 = .ok (.getfield 19, 3) := by decide +kernel
theorem dX11_read_55 : decode cX11_read 55 = .ok (.astore_n 2, 1) := by decide +kernel
theorem dX11_read_56 : decode cX11_read 56 = .ok (.aload_n 0, 1) := by decide +kernel
theorem dX11_read_57 : decode cX11_read 57 = .ok (.aload_n 0, 1) := by decide +kernel
theorem dX11_read_58 : decode cX11_read 58 = .ok (.getfield 12, 3) := by decide +kernel
theorem dX11_read_61 : decode cX11_read 61 = .ok (.getfield 111, 3) := by decide +kernel
theorem dX11_read_64 : decode cX11_read 64 = .ok (.putfield 19, 3) := by decide +kernel
theorem dX11_read_67 : decode cX11_read 67 = .ok (.aload_n 0, 1) := by decide +kernel
theorem dX11_read_68 : decode cX11_read 68 = .ok (.getfield 12, 3) := by decide +kernel
theorem dX11_read_71 : decode cX11_read 71 = .ok (.aload_n 2, 1) := by decide +kernel
theorem dX11_read_72 : decode cX11_read 72 = .ok (.putfield 111, 3) := by decide +kernel
theorem dX11_read_75 : decode cX11_read 75 = .ok (.aload_n 0, 1) := by decide +kernel
theorem dX11_read_76 : decode cX11_read 76 = .ok (.getfield 40, 3) := by decide +kernel
theorem dX11_read_79 : decode cX11_read 79 = .ok (.iconst (-1), 1) := by decide +kernel
theorem dX11_read_80 : decode cX11_read 80 = .ok (.putfield 112, 3) := by decide +kernel
theorem dX11_read_83 : decode cX11_read 83 = .ok (.aload_n 0, 1) := by decide +kernel
theorem dX11_read_84 : decode cX11_read 84 = .ok (.getfield 79, 3) := by decide +kernel
theorem dX11_read_87 : decode cX11_read 87 = .ok (.iconst (-1), 1) := by decide +kernel
theorem dX11_read_88 : decode cX11_read 88 = .ok (.invokestatic 83, 3) := by decide +kernel
theorem dX11_read_91 : decode cX11_read 91 = .ok (.iload_n 1, 1) := by decide +kernel
theorem dX11_read_92 : decode cX11_read 92 = .ok (.ireturn, 1) := by decide +kernel
set_option maxRecDepth 100000 in
theorem sgX11_read_0 {d : Nat} {I : st_I} {L : st_L} {Q : st_Q}  (h : EV d mX5_begin [.ref 17] I L (fun I1 L1 => T shp (d + 1) mX11_read 9 [.ref 0, .int 0, .null] [] I1 L1 Q)) : Ev shp (d + 1) mX11_read [.ref 0] I L Q := by
  refine Ev_of (ls0 := 2) (by decide +kernel) rfl rfl rfl ?_
  refine T_aload_n dX11_read_0 rfl ?_
  refine T_getr dX11_read_1 fl_RX11_12 shp_0 rfl ?_
  refine S_callVV (M' := mX5_begin) [] [] dX11_read_4 ml_RX11_97 mkX5_begin rfl shp_17 rfl rfl rfl (Nat.le_of_ble_eq_true rfl) h (fun I1 L1 h => ?_)
  refine T_iconst (v := 0) dX11_read_7 (by decide +kernel) ?_
  refine T_istore_n (lv' := [.ref 0, .int 0, .null]) dX11_read_8 rfl (by decide) rfl ?_
  exact h

set_option maxRecDepth 100000 in
theorem sgX11_read_9 {d : Nat} {I : st_I} {L : st_L} {Q : st_Q} {x1 : Int32} (h : (if 400 < x1 then T shp (d + 1) mX11_read 39 [.ref 0, .null, .null] [] I L Q else EI d mX5_hasMore [.ref 17] I L (fun r1 I1 L1 => (if r1 = 0 then T shp (d + 1) mX11_read 39 [.ref 0, .null, .null] [] I1 L1 Q else EV d mX5_takeTell [.ref 17] I1 L1 (fun I2 L2 => T shp (d + 1) mX11_read 9 [.ref 0, .int (x1 + 1), .null] [] I2 L2 Q))))) : T shp (d + 1) mX11_read 9 [.ref 0, .int x1, .null] [] I L Q := by
  refine T_iload_n dX11_read_9 rfl ?_
  refine T_sipush (v := 400) dX11_read_10 (by decide +kernel) ?_
  refine T_icmp_gt (tgt := 39) dX11_read_13 (by decide) (tq_ite h (fun h => ?_) (fun h => ?_))
  ·
    exact T_wk (lv' := [.ref 0, .null, .null]) ⟨Or.inr rfl, Or.inl rfl, Or.inr rfl, trivial⟩ h
  ·
    refine T_aload_n dX11_read_16 rfl ?_
    refine T_getr dX11_read_17 fl_RX11_12 shp_0 rfl ?_
    refine S_callVI (M' := mX5_hasMore) [] [] dX11_read_20 ml_RX11_100 mkX5_hasMore rfl shp_17 rfl rfl rfl (Nat.le_of_ble_eq_true rfl) h (fun r1 I1 L1 h => ?_)
    refine T_if_eq (tgt := 39) dX11_read_23 (by decide) (tq_ite h (fun h => ?_) (fun h => ?_))
    ·
      exact T_wk (lv' := [.ref 0, .null, .null]) ⟨Or.inr rfl, Or.inl rfl, Or.inr rfl, trivial⟩ h
    ·
      refine T_aload_n dX11_read_26 rfl ?_
      refine T_getr dX11_read_27 fl_RX11_12 shp_0 rfl ?_
      refine S_callVV (M' := mX5_takeTell) [] [] dX11_read_30 ml_RX11_104 mkX5_takeTell rfl shp_17 rfl rfl rfl (Nat.le_of_ble_eq_true rfl) h (fun I2 L2 h => ?_)
      refine T_iinc (lv' := [.ref 0, .int (x1 + 1), .null]) dX11_read_33 rfl (by decide) rfl ?_
      refine T_goto (tgt := 9) dX11_read_36 (by decide) ?_
      exact h

set_option maxRecDepth 100000 in
theorem sgX11_read_39 {d : Nat} {I : st_I} {L : st_L} {Q : st_Q}  (h : EI d mX5_end [.ref 17] I L (fun r1 I1 L1 => (if r1 = 0 then T shp (d + 1) mX11_read 51 [.ref 0, .int r1, .null] [] I1 L1 Q else Q (some (.int r1)) shp I1 L1))) : T shp (d + 1) mX11_read 39 [.ref 0, .null, .null] [] I L Q := by
  refine T_aload_n dX11_read_39 rfl ?_
  refine T_getr dX11_read_40 fl_RX11_12 shp_0 rfl ?_
  refine S_callVI (M' := mX5_end) [] [] dX11_read_43 ml_RX11_107 mkX5_end rfl shp_17 rfl rfl rfl (Nat.le_of_ble_eq_true rfl) h (fun r1 I1 L1 h => ?_)
  refine T_istore_n (lv' := [.ref 0, .int r1, .null]) dX11_read_46 rfl (by decide) rfl ?_
  refine T_iload_n dX11_read_47 rfl ?_
  refine T_if_ne (tgt := 91) dX11_read_48 (by decide) (tq_ite h (fun h => ?_) (fun h => ?_))
  ·
    exact h
  ·
    refine T_iload_n dX11_read_91 rfl ?_
    exact T_iret rfl dX11_read_92 h

theorem dX11_place_0 : decode cX11_place 0 = .ok (.aload_n 0, 1) := by decide +kernel
theorem dX11_place_1 : decode cX11_place 1 = .ok (.getfield 12, 3) := by decide +kernel
theorem dX11_place_4 : decode cX11_place 4 = .ok (.getfield 115, 3) := by decide +kernel
theorem dX11_place_7 : decode cX11_place 7 = .ok (.ireturn, 1) := by decide +kernel
set_option maxRecDepth 100000 in
theorem sgX11_place_0 {d : Nat} {I : st_I} {L : st_L} {F : Int32 → st_I → st_L → Prop}  (h : F (I 17 1) I L) : EI d mX11_place [.ref 0] I L F := by
  refine Ev_of (ls0 := 0) (by decide +kernel) rfl rfl rfl ?_
  refine T_aload_n dX11_place_0 rfl ?_
  refine T_getr dX11_place_1 fl_RX11_12 shp_0 rfl ?_
  refine T_getv (v := (I 17 1)) dX11_place_4 fl_RX11_115 shp_17 rfl rfl ?_
  exact S_iret rfl dX11_place_7 h

theorem dX11_fiddle_0 : decode cX11_fiddle 0 = .ok (.aload_n 0, 1) := by decide +kernel
theorem dX11_fiddle_1 : decode cX11_fiddle 1 = .ok (.getfield 19, 3) := by decide +kernel
theorem dX11_fiddle_4 : decode cX11_fiddle 4 = .ok (.iload_n 1, 1) := by decide +kernel
theorem dX11_fiddle_5 : decode cX11_fiddle 5 = .ok (.invokevirtual 118, 3) := by decide +kernel
theorem dX11_fiddle_8 : decode cX11_fiddle 8 = .ok (.ifCond .eq 12, 3) := by decide +kernel
theorem dX11_fiddle_11 : decode cX11_fiddle 11 = .ok (.iload_n 2, 1) := by decide +kernel
theorem dX11_fiddle_12 : decode cX11_fiddle 12 = .ok (.ifCond .lt 8, 3) := by decide +kernel
theorem dX11_fiddle_15 : decode cX11_fiddle 15 = .ok (.iload_n 2, 1) := by decide +kernel
theorem dX11_fiddle_16 : decode cX11_fiddle 16 = .ok (.iconst 5, 1) := by decide +kernel
theorem dX11_fiddle_17 : decode cX11_fiddle 17 = .ok (.if_icmp .lt 5, 3) := by decide +kernel
theorem dX11_fiddle_20 : decode cX11_fiddle 20 = .ok (.iconst (-1), 1) := by decide +kernel
theorem dX11_fiddle_21 : decode cX11_fiddle 21 = .ok (.ireturn, 1) := by decide +kernel
theorem dX11_fiddle_22 : decode cX11_fiddle 22 = .ok (.aload_n 0, 1) := by decide +kernel
theorem dX11_fiddle_23 : decode cX11_fiddle 23 = .ok (.getfield 19, 3) := by decide +kernel
theorem dX11_fiddle_26 : decode cX11_fiddle 26 = .ok (.getfield 122, 3) := by decide +kernel
theorem dX11_fiddle_29 : decode cX11_fiddle 29 = .ok (.iload_n 1, 1) := by decide +kernel
theorem dX11_fiddle_30 : decode cX11_fiddle 30 = .ok (.iconst 5, 1) := by decide +kernel
theorem dX11_fiddle_31 : decode cX11_fiddle 31 = .ok (.imul, 1) := by decide +kernel
theorem dX11_fiddle_32 : decode cX11_fiddle 32 = .ok (.iload_n 2, 1) := by decide +kernel
theorem dX11_fiddle_33 : decode cX11_fiddle 33 = .ok (.iadd, 1) := by decide +kernel
theorem dX11_fiddle_34 : decode cX11_fiddle 34 = .ok (.iaload, 1) := by decide +kernel
theorem dX11_fiddle_35 : decode cX11_fiddle 35 = .ok (.ireturn, 1) := by decide +kernel
set_option maxRecDepth 100000 in
theorem sgX11_fiddle_0 {d : Nat} {I : st_I} {L : st_L} {F : Int32 → st_I → st_L → Prop} {a1 : Int32} {a2 : Int32} (h : EI d mX8_hasFiddle [.ref 1, .int a1] I L (fun r1 I1 L1 => (if r1 = 0 then F (-1) I1 L1 else (if a2 < 0 then F (-1) I1 L1 else (if a2 < 5 then vp_in ((a1 * 5) + a2) 40 ∧ F (I1 2 (((a1 * 5) + a2).toNatClampNeg)) I1 L1 else F (-1) I1 L1))))) : EI (d + 1) mX11_fiddle [.ref 0, .int a1, .int a2] I L F := by
  refine Ev_of (ls0 := 0) (by decide +kernel) rfl rfl rfl ?_
  refine T_aload_n dX11_fiddle_0 rfl ?_
  refine T_getr dX11_fiddle_1 fl_RX11_19 shp_0 rfl ?_
  refine T_iload_n dX11_fiddle_4 rfl ?_
  refine S_callVI (M' := mX8_hasFiddle) [.int a1] [] dX11_fiddle_5 ml_RX11_118 mkX8_hasFiddle rfl shp_1 rfl rfl rfl (Nat.le_of_ble_eq_true rfl) h (fun r1 I1 L1 h => ?_)
  refine T_if_eq (tgt := 20) dX11_fiddle_8 (by decide) (tq_ite h (fun h => ?_) (fun h => ?_))
  ·
    refine T_iconst (v := (-1)) dX11_fiddle_20 (by decide +kernel) ?_
    exact S_iret rfl dX11_fiddle_21 h
  ·
    refine T_iload_n dX11_fiddle_11 rfl ?_
    refine T_if_lt (tgt := 20) dX11_fiddle_12 (by decide) (tq_ite h (fun h => ?_) (fun h => ?_))
    ·
      refine T_iconst (v := (-1)) dX11_fiddle_20 (by decide +kernel) ?_
      exact S_iret rfl dX11_fiddle_21 h
    ·
      refine T_iload_n dX11_fiddle_15 rfl ?_
      refine T_iconst (v := 5) dX11_fiddle_16 (by decide +kernel) ?_
      refine T_icmp_lt (tgt := 22) dX11_fiddle_17 (by decide) (tq_ite h (fun h => ?_) (fun h => ?_))
      ·
        refine T_aload_n dX11_fiddle_22 rfl ?_
        refine T_getr dX11_fiddle_23 fl_RX11_19 shp_0 rfl ?_
        refine T_getr dX11_fiddle_26 fl_RX11_122 shp_1 rfl ?_
        refine T_iload_n dX11_fiddle_29 rfl ?_
        refine T_iconst (v := 5) dX11_fiddle_30 (by decide +kernel) ?_
        refine T_imul dX11_fiddle_31 ?_
        refine T_iload_n dX11_fiddle_32 rfl ?_
        refine T_iadd dX11_fiddle_33 ?_
        refine T_ialdv (v := (I1 2 (((a1 * 5) + a2).toNatClampNeg))) (j := ((a1 * 5) + a2).toNatClampNeg) dX11_fiddle_34 shp_2 h.1 rfl rfl ?_
        replace h := h.2
        exact S_iret rfl dX11_fiddle_35 h
      ·
        refine T_iconst (v := (-1)) dX11_fiddle_20 (by decide +kernel) ?_
        exact S_iret rfl dX11_fiddle_21 h

theorem dX11_person_0 : decode cX11_person 0 = .ok (.aload_n 0, 1) := by decide +kernel
theorem dX11_person_1 : decode cX11_person 1 = .ok (.getfield 19, 3) := by decide +kernel
theorem dX11_person_4 : decode cX11_person 4 = .ok (.iload_n 1, 1) := by decide +kernel
theorem dX11_person_5 : decode cX11_person 5 = .ok (.invokevirtual 125, 3) := by decide +kernel
theorem dX11_person_8 : decode cX11_person 8 = .ok (.ifCond .eq 12, 3) := by decide +kernel
theorem dX11_person_11 : decode cX11_person 11 = .ok (.iload_n 2, 1) := by decide +kernel
theorem dX11_person_12 : decode cX11_person 12 = .ok (.ifCond .lt 8, 3) := by decide +kernel
theorem dX11_person_15 : decode cX11_person 15 = .ok (.iload_n 2, 1) := by decide +kernel
theorem dX11_person_16 : decode cX11_person 16 = .ok (.iconst 5, 1) := by decide +kernel
theorem dX11_person_17 : decode cX11_person 17 = .ok (.if_icmp .lt 5, 3) := by decide +kernel
theorem dX11_person_20 : decode cX11_person 20 = .ok (.iconst (-1), 1) := by decide +kernel
theorem dX11_person_21 : decode cX11_person 21 = .ok (.ireturn, 1) := by decide +kernel
theorem dX11_person_22 : decode cX11_person 22 = .ok (.aload_n 0, 1) := by decide +kernel
theorem dX11_person_23 : decode cX11_person 23 = .ok (.getfield 19, 3) := by decide +kernel
theorem dX11_person_26 : decode cX11_person 26 = .ok (.getfield 128, 3) := by decide +kernel
theorem dX11_person_29 : decode cX11_person 29 = .ok (.iload_n 1, 1) := by decide +kernel
theorem dX11_person_30 : decode cX11_person 30 = .ok (.iconst 5, 1) := by decide +kernel
theorem dX11_person_31 : decode cX11_person 31 = .ok (.imul, 1) := by decide +kernel
theorem dX11_person_32 : decode cX11_person 32 = .ok (.iload_n 2, 1) := by decide +kernel
theorem dX11_person_33 : decode cX11_person 33 = .ok (.iadd, 1) := by decide +kernel
theorem dX11_person_34 : decode cX11_person 34 = .ok (.iaload, 1) := by decide +kernel
theorem dX11_person_35 : decode cX11_person 35 = .ok (.ireturn, 1) := by decide +kernel
set_option maxRecDepth 100000 in
theorem sgX11_person_0 {d : Nat} {I : st_I} {L : st_L} {F : Int32 → st_I → st_L → Prop} {a1 : Int32} {a2 : Int32} (h : EI d mX8_hasPerson [.ref 1, .int a1] I L (fun r1 I1 L1 => (if r1 = 0 then F (-1) I1 L1 else (if a2 < 0 then F (-1) I1 L1 else (if a2 < 5 then vp_in ((a1 * 5) + a2) 50 ∧ F (I1 3 (((a1 * 5) + a2).toNatClampNeg)) I1 L1 else F (-1) I1 L1))))) : EI (d + 1) mX11_person [.ref 0, .int a1, .int a2] I L F := by
  refine Ev_of (ls0 := 0) (by decide +kernel) rfl rfl rfl ?_
  refine T_aload_n dX11_person_0 rfl ?_
  refine T_getr dX11_person_1 fl_RX11_19 shp_0 rfl ?_
  refine T_iload_n dX11_person_4 rfl ?_
  refine S_callVI (M' := mX8_hasPerson) [.int a1] [] dX11_person_5 ml_RX11_125 mkX8_hasPerson rfl shp_1 rfl rfl rfl (Nat.le_of_ble_eq_true rfl) h (fun r1 I1 L1 h => ?_)
  refine T_if_eq (tgt := 20) dX11_person_8 (by decide) (tq_ite h (fun h => ?_) (fun h => ?_))
  ·
    refine T_iconst (v := (-1)) dX11_person_20 (by decide +kernel) ?_
    exact S_iret rfl dX11_person_21 h
  ·
    refine T_iload_n dX11_person_11 rfl ?_
    refine T_if_lt (tgt := 20) dX11_person_12 (by decide) (tq_ite h (fun h => ?_) (fun h => ?_))
    ·
      refine T_iconst (v := (-1)) dX11_person_20 (by decide +kernel) ?_
      exact S_iret rfl dX11_person_21 h
    ·
      refine T_iload_n dX11_person_15 rfl ?_
      refine T_iconst (v := 5) dX11_person_16 (by decide +kernel) ?_
      refine T_icmp_lt (tgt := 22) dX11_person_17 (by decide) (tq_ite h (fun h => ?_) (fun h => ?_))
      ·
        refine T_aload_n dX11_person_22 rfl ?_
        refine T_getr dX11_person_23 fl_RX11_19 shp_0 rfl ?_
        refine T_getr dX11_person_26 fl_RX11_128 shp_1 rfl ?_
        refine T_iload_n dX11_person_29 rfl ?_
        refine T_iconst (v := 5) dX11_person_30 (by decide +kernel) ?_
        refine T_imul dX11_person_31 ?_
        refine T_iload_n dX11_person_32 rfl ?_
        refine T_iadd dX11_person_33 ?_
        refine T_ialdv (v := (I1 3 (((a1 * 5) + a2).toNatClampNeg))) (j := ((a1 * 5) + a2).toNatClampNeg) dX11_person_34 shp_3 h.1 rfl rfl ?_
        replace h := h.2
        exact S_iret rfl dX11_person_35 h
      ·
        refine T_iconst (v := (-1)) dX11_person_20 (by decide +kernel) ?_
        exact S_iret rfl dX11_person_21 h

theorem dX11_sitting_0 : decode cX11_sitting 0 = .ok (.aload_n 0, 1) := by decide +kernel
theorem dX11_sitting_1 : decode cX11_sitting 1 = .ok (.getfield 19, 3) := by decide +kernel
theorem dX11_sitting_4 : decode cX11_sitting 4 = .ok (.iload_n 1, 1) := by decide +kernel
theorem dX11_sitting_5 : decode cX11_sitting 5 = .ok (.iload_n 2, 1) := by decide +kernel
theorem dX11_sitting_6 : decode cX11_sitting 6 = .ok (.invokevirtual 131, 3) := by decide +kernel
theorem dX11_sitting_9 : decode cX11_sitting 9 = .ok (.ifCond .ne 5, 3) := by decide +kernel
theorem dX11_sitting_12 : decode cX11_sitting 12 = .ok (.iconst (-1), 1) := by decide +kernel
theorem dX11_sitting_13 : decode cX11_sitting 13 = .ok (.ireturn, 1) := by decide +kernel
theorem dX11_sitting_14 : decode cX11_sitting 14 = .ok (.iload_n 3, 1) := by decide +kernel
theorem dX11_sitting_15 : decode cX11_sitting 15 = .ok (.ifCond .lt 19, 3) := by decide +kernel
theorem dX11_sitting_18 : decode cX11_sitting 18 = .ok (.iload_n 3, 1) := by decide +kernel
theorem dX11_sitting_19 : decode cX11_sitting 19 = .ok (.iconst 3, 1) := by decide +kernel
theorem dX11_sitting_20 : decode cX11_sitting 20 = .ok (.if_icmp .gt 14, 3) := by decide +kernel
theorem dX11_sitting_23 : decode cX11_sitting 23 = .ok (.aload_n 0, 1) := by decide +kernel
theorem dX11_sitting_24 : decode cX11_sitting 24 = .ok (.getfield 19, 3) := by decide +kernel
theorem dX11_sitting_27 : decode cX11_sitting 27 = .ok (.iload_n 1, 1) := by decide +kernel
theorem dX11_sitting_28 : decode cX11_sitting 28 = .ok (.iload_n 2, 1) := by decide +kernel
theorem dX11_sitting_29 : decode cX11_sitting 29 = .ok (.iload_n 3, 1) := by decide +kernel
theorem dX11_sitting_30 : decode cX11_sitting 30 = .ok (.invokevirtual 135, 3) := by decide +kernel
theorem dX11_sitting_33 : decode cX11_sitting 33 = .ok (.ireturn, 1) := by decide +kernel
theorem dX11_sitting_34 : decode cX11_sitting 34 = .ok (.iload_n 3, 1) := by decide +kernel
theorem dX11_sitting_35 : decode cX11_sitting 35 = .ok (.bipush 10, 2) := by decide +kernel
theorem dX11_sitting_37 : decode cX11_sitting 37 = .ok (.if_icmp .lt 20, 3) := by decide +kernel
theorem dX11_sitting_40 : decode cX11_sitting 40 = .ok (.iload_n 3, 1) := by decide +kernel
theorem dX11_sitting_41 : decode cX11_sitting 41 = .ok (.bipush 10, 2) := by decide +kernel
theorem dX11_sitting_43 : decode cX11_sitting 43 = .ok (.isub, 1) := by decide +kernel
theorem dX11_sitting_44 : decode cX11_sitting 44 = .ok (.aload_n 0, 1) := by decide +kernel
theorem dX11_sitting_45 : decode cX11_sitting 45 = .ok (.getfield 19, 3) := by decide +kernel
theorem dX11_sitting_48 : decode cX11_sitting 48 = .ok (.iload_n 1, 1) := by decide +kernel
theorem dX11_sitting_49 : decode cX11_sitting 49 = .ok (.iload_n 2, 1) := by decide +kernel
theorem dX11_sitting_50 : decode cX11_sitting 50 = .ok (.iconst 3, 1) := by decide +kernel
theorem dX11_sitting_51 : decode cX11_sitting 51 = .ok (.invokevirtual 135, 3) := by decide +kernel
theorem dX11_sitting_54 : decode cX11_sitting 54 = .ok (.if_icmp .lt 5, 3) := by decide +kernel
theorem dX11_sitting_57 : decode cX11_sitting 57 = .ok (.iconst (-1), 1) := by decide +kernel
theorem dX11_sitting_58 : decode cX11_sitting 58 = .ok (.ireturn, 1) := by decide +kernel
theorem dX11_sitting_59 : decode cX11_sitting 59 = .ok (.aload_n 0, 1) := by decide +kernel
theorem dX11_sitting_60 : decode cX11_sitting 60 = .ok (.getfield 19, 3) := by decide +kernel
theorem dX11_sitting_63 : decode cX11_sitting 63 = .ok (.iload_n 1, 1) := by decide +kernel
theorem dX11_sitting_64 : decode cX11_sitting 64 = .ok (.iload_n 2, 1) := by decide +kernel
theorem dX11_sitting_65 : decode cX11_sitting 65 = .ok (.iconst 4, 1) := by decide +kernel
theorem dX11_sitting_66 : decode cX11_sitting 66 = .ok (.iload_n 3, 1) := by decide +kernel
theorem dX11_sitting_67 : decode cX11_sitting 67 = .ok (.iadd, 1) := by decide +kernel
theorem dX11_sitting_68 : decode cX11_sitting 68 = .ok (.bipush 10, 2) := by decide +kernel
theorem dX11_sitting_70 : decode cX11_sitting 70 = .ok (.isub, 1) := by decide +kernel
theorem dX11_sitting_71 : decode cX11_sitting 71 = .ok (.invokevirtual 135, 3) := by decide +kernel
theorem dX11_sitting_74 : decode cX11_sitting 74 = .ok (.ireturn, 1) := by decide +kernel
set_option maxRecDepth 100000 in
theorem sgX11_sitting_0 {d : Nat} {I : st_I} {L : st_L} {F : Int32 → st_I → st_L → Prop} {a1 : Int32} {a2 : Int32} {a3 : Int32} (h : EI d mX8_hasSitting [.ref 1, .int a1, .int a2] I L (fun r1 I1 L1 => (if r1 = 0 then F (-1) I1 L1 else (if a3 < 0 then TI (d + 1) mX11_sitting 34 [.ref 0, .int a1, .int a2, .int a3] [] I1 L1 F else (if 3 < a3 then TI (d + 1) mX11_sitting 34 [.ref 0, .int a1, .int a2, .int a3] [] I1 L1 F else EI d mX8_sat [.ref 1, .int a1, .int a2, .int a3] I1 L1 (fun r2 I2 L2 => F r2 I2 L2)))))) : EI (d + 1) mX11_sitting [.ref 0, .int a1, .int a2, .int a3] I L F := by
  refine Ev_of (ls0 := 0) (by decide +kernel) rfl rfl rfl ?_
  refine T_aload_n dX11_sitting_0 rfl ?_
  refine T_getr dX11_sitting_1 fl_RX11_19 shp_0 rfl ?_
  refine T_iload_n dX11_sitting_4 rfl ?_
  refine T_iload_n dX11_sitting_5 rfl ?_
  refine S_callVI (M' := mX8_hasSitting) [.int a1, .int a2] [] dX11_sitting_6 ml_RX11_131 mkX8_hasSitting rfl shp_1 rfl rfl rfl (Nat.le_of_ble_eq_true rfl) h (fun r1 I1 L1 h => ?_)
  refine T_if_ne (tgt := 14) dX11_sitting_9 (by decide) (tq_ite h (fun h => ?_) (fun h => ?_))
  ·
    refine T_iconst (v := (-1)) dX11_sitting_12 (by decide +kernel) ?_
    exact S_iret rfl dX11_sitting_13 h
  ·
    refine T_iload_n dX11_sitting_14 rfl ?_
    refine T_if_lt (tgt := 34) dX11_sitting_15 (by decide) (tq_ite h (fun h => ?_) (fun h => ?_))
    ·
      exact h
    ·
      refine T_iload_n dX11_sitting_18 rfl ?_
      refine T_iconst (v := 3) dX11_sitting_19 (by decide +kernel) ?_
      refine T_icmp_gt (tgt := 34) dX11_sitting_20 (by decide) (tq_ite h (fun h => ?_) (fun h => ?_))
      ·
        exact h
      ·
        refine T_aload_n dX11_sitting_23 rfl ?_
        refine T_getr dX11_sitting_24 fl_RX11_19 shp_0 rfl ?_
        refine T_iload_n dX11_sitting_27 rfl ?_
        refine T_iload_n dX11_sitting_28 rfl ?_
        refine T_iload_n dX11_sitting_29 rfl ?_
        refine S_callVI (M' := mX8_sat) [.int a1, .int a2, .int a3] [] dX11_sitting_30 ml_RX11_135 mkX8_sat rfl shp_1 rfl rfl rfl (Nat.le_of_ble_eq_true rfl) h (fun r2 I2 L2 h => ?_)
        exact S_iret rfl dX11_sitting_33 h

set_option maxRecDepth 100000 in
theorem sgX11_sitting_34 {d : Nat} {I : st_I} {L : st_L} {F : Int32 → st_I → st_L → Prop} {x1 : Int32} {x2 : Int32} {x3 : Int32} (h : (if x3 < 10 then F (-1) I L else EI d mX8_sat [.ref 1, .int x1, .int x2, .int 3] I L (fun r1 I1 L1 => (if (x3 - 10) < r1 then EI d mX8_sat [.ref 1, .int x1, .int x2, .int ((4 + x3) - 10)] I1 L1 (fun r2 I2 L2 => F r2 I2 L2) else F (-1) I1 L1)))) : TI (d + 1) mX11_sitting 34 [.ref 0, .int x1, .int x2, .int x3] [] I L F := by
  refine T_iload_n dX11_sitting_34 rfl ?_
  refine T_bipush (v := 10) dX11_sitting_35 (by decide +kernel) ?_
  refine T_icmp_lt (tgt := 57) dX11_sitting_37 (by decide) (tq_ite h (fun h => ?_) (fun h => ?_))
  ·
    refine T_iconst (v := (-1)) dX11_sitting_57 (by decide +kernel) ?_
    exact S_iret rfl dX11_sitting_58 h
  ·
    refine T_iload_n dX11_sitting_40 rfl ?_
    refine T_bipush (v := 10) dX11_sitting_41 (by decide +kernel) ?_
    refine T_isub dX11_sitting_43 ?_
    refine T_aload_n dX11_sitting_44 rfl ?_
    refine T_getr dX11_sitting_45 fl_RX11_19 shp_0 rfl ?_
    refine T_iload_n dX11_sitting_48 rfl ?_
    refine T_iload_n dX11_sitting_49 rfl ?_
    refine T_iconst (v := 3) dX11_sitting_50 (by decide +kernel) ?_
    refine S_callVI (M' := mX8_sat) [.int x1, .int x2, .int 3] [.int (x3 - 10)] dX11_sitting_51 ml_RX11_135 mkX8_sat rfl shp_1 rfl rfl rfl (Nat.le_of_ble_eq_true rfl) h (fun r1 I1 L1 h => ?_)
    refine T_icmp_lt (tgt := 59) dX11_sitting_54 (by decide) (tq_ite h (fun h => ?_) (fun h => ?_))
    ·
      refine T_aload_n dX11_sitting_59 rfl ?_
      refine T_getr dX11_sitting_60 fl_RX11_19 shp_0 rfl ?_
      refine T_iload_n dX11_sitting_63 rfl ?_
      refine T_iload_n dX11_sitting_64 rfl ?_
      refine T_iconst (v := 4) dX11_sitting_65 (by decide +kernel) ?_
      refine T_iload_n dX11_sitting_66 rfl ?_
      refine T_iadd dX11_sitting_67 ?_
      refine T_bipush (v := 10) dX11_sitting_68 (by decide +kernel) ?_
      refine T_isub dX11_sitting_70 ?_
      refine S_callVI (M' := mX8_sat) [.int x1, .int x2, .int ((4 + x3) - 10)] [] dX11_sitting_71 ml_RX11_135 mkX8_sat rfl shp_1 rfl rfl rfl (Nat.le_of_ble_eq_true rfl) h (fun r2 I2 L2 h => ?_)
      exact S_iret rfl dX11_sitting_74 h
    ·
      refine T_iconst (v := (-1)) dX11_sitting_57 (by decide +kernel) ?_
      exact S_iret rfl dX11_sitting_58 h

theorem dX11_liking_0 : decode cX11_liking 0 = .ok (.aload_n 0, 1) := by decide +kernel
theorem dX11_liking_1 : decode cX11_liking 1 = .ok (.getfield 19, 3) := by decide +kernel
theorem dX11_liking_4 : decode cX11_liking 4 = .ok (.iload_n 1, 1) := by decide +kernel
theorem dX11_liking_5 : decode cX11_liking 5 = .ok (.invokevirtual 139, 3) := by decide +kernel
theorem dX11_liking_8 : decode cX11_liking 8 = .ok (.ifCond .eq 17, 3) := by decide +kernel
theorem dX11_liking_11 : decode cX11_liking 11 = .ok (.aload_n 0, 1) := by decide +kernel
theorem dX11_liking_12 : decode cX11_liking 12 = .ok (.getfield 19, 3) := by decide +kernel
theorem dX11_liking_15 : decode cX11_liking 15 = .ok (.iload_n 2, 1) := by decide +kernel
theorem dX11_liking_16 : decode cX11_liking 16 = .ok (.iload_n 3, 1) := by decide +kernel
theorem dX11_liking_17 : decode cX11_liking 17 = .ok (.iload 4, 2) := by decide +kernel
theorem dX11_liking_19 : decode cX11_liking 19 = .ok (.invokevirtual 142, 3) := by decide +kernel
theorem dX11_liking_22 : decode cX11_liking 22 = .ok (.ifCond .ne 6, 3) := by decide +kernel
theorem dX11_liking_25 : decode cX11_liking 25 = .ok (.ldc 146, 2) := by decide +kernel
theorem dX11_liking_27 : decode cX11_liking 27 = .ok (.ireturn, 1) := by decide +kernel
theorem dX11_liking_28 : decode cX11_liking 28 = .ok (.iload 6, 2) := by decide +kernel
theorem dX11_liking_30 : decode cX11_liking 30 = .ok (.ifCond .lt 22, 3) := by decide +kernel
theorem dX11_liking_33 : decode cX11_liking 33 = .ok (.iload 6, 2) := by decide +kernel
theorem dX11_liking_35 : decode cX11_liking 35 = .ok (.bipush 10, 2) := by decide +kernel
theorem dX11_liking_37 : decode cX11_liking 37 = .ok (.if_icmp .ge 15, 3) := by decide +kernel
theorem dX11_liking_40 : decode cX11_liking 40 = .ok (.iload 7, 2) := by decide +kernel
theorem dX11_liking_42 : decode cX11_liking 42 = .ok (.ifCond .lt 10, 3) := by decide +kernel
theorem dX11_liking_45 : decode cX11_liking 45 = .ok (.iload 7, 2) := by decide +kernel
theorem dX11_liking_47 : decode cX11_liking 47 = .ok (.bipush 10, 2) := by decide +kernel
theorem dX11_liking_49 : decode cX11_liking 49 = .ok (.if_icmp .lt 6, 3) := by decide +kernel
theorem dX11_liking_52 : decode cX11_liking 52 = .ok (.ldc 146, 2) := by decide +kernel
theorem dX11_liking_54 : decode cX11_liking 54 = .ok (.ireturn, 1) := by decide +kernel
theorem dX11_liking_55 : decode cX11_liking 55 = .ok (.aload_n 0, 1) := by decide +kernel
theorem dX11_liking_56 : decode cX11_liking 56 = .ok (.getfield 26, 3) := by decide +kernel
theorem dX11_liking_59 : decode cX11_liking 59 = .ok (.aload_n 0, 1) := by decide +kernel
theorem dX11_liking_60 : decode cX11_liking 60 = .ok (.getfield 19, 3) := by decide +kernel
theorem dX11_liking_63 : decode cX11_liking 63 = .ok (.iload_n 2, 1) := by decide +kernel
theorem dX11_liking_64 : decode cX11_liking 64 = .ok (.iload_n 3, 1) := by decide +kernel
theorem dX11_liking_65 : decode cX11_liking 65 = .ok (.iload 4, 2) := by decide +kernel
theorem dX11_liking_67 : decode cX11_liking 67 = .ok (.invokevirtual 147, 3) := by decide +kernel
theorem dX11_liking_70 : decode cX11_liking 70 = .ok (.aload_n 0, 1) := by decide +kernel
theorem dX11_liking_71 : decode cX11_liking 71 = .ok (.getfield 26, 3) := by decide +kernel
theorem dX11_liking_74 : decode cX11_liking 74 = .ok (.iload 5, 2) := by decide +kernel
theorem dX11_liking_76 : decode cX11_liking 76 = .ok (.ifCond .eq 7, 3) := by decide +kernel
theorem dX11_liking_79 : decode cX11_liking 79 = .ok (.iconst 1, 1) := by decide +kernel
theorem dX11_liking_80 : decode cX11_liking 80 = .ok (.goto 4, 3) := by decide +kernel
theorem dX11_liking_83 : decode cX11_liking 83 = .ok (.iconst 0, 1) := by decide +kernel
theorem dX11_liking_84 : decode cX11_liking 84 = .ok (.iload 6, 2) := by decide +kernel
theorem dX11_liking_86 : decode cX11_liking 86 = .ok (.iload 7, 2) := by decide +kernel
theorem dX11_liking_88 : decode cX11_liking 88 = .ok (.invokevirtual 151, 3) := by decide +kernel
theorem dX11_liking_91 : decode cX11_liking 91 = .ok (.aload_n 0, 1) := by decide +kernel
theorem dX11_liking_92 : decode cX11_liking 92 = .ok (.getfield 26, 3) := by decide +kernel
theorem dX11_liking_95 : decode cX11_liking 95 = .ok (.aload_n 0, 1) := by decide +kernel
theorem dX11_liking_96 : decode cX11_liking 96 = .ok (.getfield 19, 3) := by decide +kernel
theorem dX11_liking_99 : decode cX11_liking 99 = .ok (.iload_n 1, 1) := by decide +kernel
theorem dX11_liking_100 : decode cX11_liking 100 = .ok (.invokevirtual 155, 3) := by decide +kernel
theorem dX11_liking_103 : decode cX11_liking 103 = .ok (.ireturn, 1) := by decide +kernel
set_option maxRecDepth 100000 in
theorem sgX11_liking_0 {d : Nat} {I : st_I} {L : st_L} {F : Int32 → st_I → st_L → Prop} {a1 : Int32} {a2 : Int32} {a3 : Int32} {a4 : Int32} {a5 : Int32} {a6 : Int32} {a7 : Int32} (h : EI d mX8_hasLaw [.ref 1, .int a1] I L (fun r1 I1 L1 => (if r1 = 0 then F (-2147483648) I1 L1 else EI d mX8_hasMeeting [.ref 1, .int a2, .int a3, .int a4] I1 L1 (fun r2 I2 L2 => (if r2 = 0 then F (-2147483648) I2 L2 else (if a6 < 0 then F (-2147483648) I2 L2 else (if 10 ≤ a6 then F (-2147483648) I2 L2 else (if a7 < 0 then F (-2147483648) I2 L2 else (if a7 < 10 then EV d mX7_meet [.ref 25, .ref 1, .int a2, .int a3, .int a4] I2 L2 (fun I3 L3 => EV d mX7_attend [.ref 25, .int (if a5 = 0 then (0 : Int32) else 1), .int a6, .int a7] I3 L3 (fun I4 L4 => EI d mX7_like [.ref 25, .ref 1, .int a1] I4 L4 (fun r5 I5 L5 => F r5 I5 L5))) else F (-2147483648) I2 L2))))))))) : EI (d + 1) mX11_liking [.ref 0, .int a1, .int a2, .int a3, .int a4, .int a5, .int a6, .int a7] I L F := by
  refine Ev_of (ls0 := 0) (by decide +kernel) rfl rfl rfl ?_
  refine T_aload_n dX11_liking_0 rfl ?_
  refine T_getr dX11_liking_1 fl_RX11_19 shp_0 rfl ?_
  refine T_iload_n dX11_liking_4 rfl ?_
  refine S_callVI (M' := mX8_hasLaw) [.int a1] [] dX11_liking_5 ml_RX11_139 mkX8_hasLaw rfl shp_1 rfl rfl rfl (Nat.le_of_ble_eq_true rfl) h (fun r1 I1 L1 h => ?_)
  refine T_if_eq (tgt := 25) dX11_liking_8 (by decide) (tq_ite h (fun h => ?_) (fun h => ?_))
  ·
    refine T_ldc (v := (-2147483648)) dX11_liking_25 ki_RX11_146 ?_
    exact S_iret rfl dX11_liking_27 h
  ·
    refine T_aload_n dX11_liking_11 rfl ?_
    refine T_getr dX11_liking_12 fl_RX11_19 shp_0 rfl ?_
    refine T_iload_n dX11_liking_15 rfl ?_
    refine T_iload_n dX11_liking_16 rfl ?_
    refine T_iload dX11_liking_17 rfl ?_
    refine S_callVI (M' := mX8_hasMeeting) [.int a2, .int a3, .int a4] [] dX11_liking_19 ml_RX11_142 mkX8_hasMeeting rfl shp_1 rfl rfl rfl (Nat.le_of_ble_eq_true rfl) h (fun r2 I2 L2 h => ?_)
    refine T_if_ne (tgt := 28) dX11_liking_22 (by decide) (tq_ite h (fun h => ?_) (fun h => ?_))
    ·
      refine T_ldc (v := (-2147483648)) dX11_liking_25 ki_RX11_146 ?_
      exact S_iret rfl dX11_liking_27 h
    ·
      refine T_iload dX11_liking_28 rfl ?_
      refine T_if_lt (tgt := 52) dX11_liking_30 (by decide) (tq_ite h (fun h => ?_) (fun h => ?_))
      ·
        refine T_ldc (v := (-2147483648)) dX11_liking_52 ki_RX11_146 ?_
        exact S_iret rfl dX11_liking_54 h
      ·
        refine T_iload dX11_liking_33 rfl ?_
        refine T_bipush (v := 10) dX11_liking_35 (by decide +kernel) ?_
        refine T_icmp_ge (tgt := 52) dX11_liking_37 (by decide) (tq_ite h (fun h => ?_) (fun h => ?_))
        ·
          refine T_ldc (v := (-2147483648)) dX11_liking_52 ki_RX11_146 ?_
          exact S_iret rfl dX11_liking_54 h
        ·
          refine T_iload dX11_liking_40 rfl ?_
          refine T_if_lt (tgt := 52) dX11_liking_42 (by decide) (tq_ite h (fun h => ?_) (fun h => ?_))
          ·
            refine T_ldc (v := (-2147483648)) dX11_liking_52 ki_RX11_146 ?_
            exact S_iret rfl dX11_liking_54 h
          ·
            refine T_iload dX11_liking_45 rfl ?_
            refine T_bipush (v := 10) dX11_liking_47 (by decide +kernel) ?_
            refine T_icmp_lt (tgt := 55) dX11_liking_49 (by decide) (tq_ite h (fun h => ?_) (fun h => ?_))
            ·
              refine T_aload_n dX11_liking_55 rfl ?_
              refine T_getr dX11_liking_56 fl_RX11_26 shp_0 rfl ?_
              refine T_aload_n dX11_liking_59 rfl ?_
              refine T_getr dX11_liking_60 fl_RX11_19 shp_0 rfl ?_
              refine T_iload_n dX11_liking_63 rfl ?_
              refine T_iload_n dX11_liking_64 rfl ?_
              refine T_iload dX11_liking_65 rfl ?_
              refine S_callVV (M' := mX7_meet) [.ref 1, .int a2, .int a3, .int a4] [] dX11_liking_67 ml_RX11_147 mkX7_meet rfl shp_25 rfl rfl rfl (Nat.le_of_ble_eq_true rfl) h (fun I3 L3 h => ?_)
              refine T_aload_n dX11_liking_70 rfl ?_
              refine T_getr dX11_liking_71 fl_RX11_26 shp_0 rfl ?_
              refine T_iload dX11_liking_74 rfl ?_
              refine T_if_eq (tgt := 83) dX11_liking_76 (by decide) (tq_itv (fun v => T shp (d + 1) mX11_liking 84 [.ref 0, .int a1, .int a2, .int a3, .int a4, .int a5, .int a6, .int a7] (.int v :: [.ref 25]) I3 L3 (kI F)) 0 1 (fun hJ => ?_) (fun hJ => ?_) ?_)
              ·
                  refine T_iconst (v := 0) dX11_liking_83 (by decide +kernel) ?_
                  exact hJ
              ·
                  refine T_iconst (v := 1) dX11_liking_79 (by decide +kernel) ?_
                  refine T_goto (tgt := 84) dX11_liking_80 (by decide) ?_
                  exact hJ
              refine T_iload dX11_liking_84 rfl ?_
              refine T_iload dX11_liking_86 rfl ?_
              refine S_callVV (M' := mX7_attend) [.int (if a5 = 0 then (0 : Int32) else 1), .int a6, .int a7] [] dX11_liking_88 ml_RX11_151 mkX7_attend rfl shp_25 rfl rfl rfl (Nat.le_of_ble_eq_true rfl) h (fun I4 L4 h => ?_)
              refine T_aload_n dX11_liking_91 rfl ?_
              refine T_getr dX11_liking_92 fl_RX11_26 shp_0 rfl ?_
              refine T_aload_n dX11_liking_95 rfl ?_
              refine T_getr dX11_liking_96 fl_RX11_19 shp_0 rfl ?_
              refine T_iload_n dX11_liking_99 rfl ?_
              refine S_callVI (M' := mX7_like) [.ref 1, .int a1] [] dX11_liking_100 ml_RX11_155 mkX7_like rfl shp_25 rfl rfl rfl (Nat.le_of_ble_eq_true rfl) h (fun r5 I5 L5 h => ?_)
              exact S_iret rfl dX11_liking_103 h
            ·
              refine T_ldc (v := (-2147483648)) dX11_liking_52 ki_RX11_146 ?_
              exact S_iret rfl dX11_liking_54 h

theorem dX11_taken_0 : decode cX11_taken 0 = .ok (.aload_n 0, 1) := by decide +kernel
theorem dX11_taken_1 : decode cX11_taken 1 = .ok (.getfield 19, 3) := by decide +kernel
theorem dX11_taken_4 : decode cX11_taken 4 = .ok (.iload_n 1, 1) := by decide +kernel
theorem dX11_taken_5 : decode cX11_taken 5 = .ok (.iload 4, 2) := by decide +kernel
theorem dX11_taken_7 : decode cX11_taken 7 = .ok (.invokevirtual 131, 3) := by decide +kernel
theorem dX11_taken_10 : decode cX11_taken 10 = .ok (.ifCond .eq 14, 3) := by decide +kernel
theorem dX11_taken_13 : decode cX11_taken 13 = .ok (.aload_n 0, 1) := by decide +kernel
theorem dX11_taken_14 : decode cX11_taken 14 = .ok (.getfield 19, 3) := by decide +kernel
theorem dX11_taken_17 : decode cX11_taken 17 = .ok (.iload_n 2, 1) := by decide +kernel
theorem dX11_taken_18 : decode cX11_taken 18 = .ok (.invokevirtual 139, 3) := by decide +kernel
theorem dX11_taken_21 : decode cX11_taken 21 = .ok (.ifCond .ne 5, 3) := by decide +kernel
theorem dX11_taken_24 : decode cX11_taken 24 = .ok (.iconst (-1), 1) := by decide +kernel
theorem dX11_taken_25 : decode cX11_taken 25 = .ok (.ireturn, 1) := by decide +kernel
theorem dX11_taken_26 : decode cX11_taken 26 = .ok (.aload_n 0, 1) := by decide +kernel
theorem dX11_taken_27 : decode cX11_taken 27 = .ok (.getfield 26, 3) := by decide +kernel
theorem dX11_taken_30 : decode cX11_taken 30 = .ok (.aload_n 0, 1) := by decide +kernel
theorem dX11_taken_31 : decode cX11_taken 31 = .ok (.getfield 19, 3) := by decide +kernel
theorem dX11_taken_34 : decode cX11_taken 34 = .ok (.iload_n 1, 1) := by decide +kernel
theorem dX11_taken_35 : decode cX11_taken 35 = .ok (.iload 4, 2) := by decide +kernel
theorem dX11_taken_37 : decode cX11_taken 37 = .ok (.iload_n 2, 1) := by decide +kernel
theorem dX11_taken_38 : decode cX11_taken 38 = .ok (.iload_n 3, 1) := by decide +kernel
theorem dX11_taken_39 : decode cX11_taken 39 = .ok (.invokevirtual 159, 3) := by decide +kernel
theorem dX11_taken_42 : decode cX11_taken 42 = .ok (.ireturn, 1) := by decide +kernel
set_option maxRecDepth 100000 in
theorem sgX11_taken_0 {d : Nat} {I : st_I} {L : st_L} {F : Int32 → st_I → st_L → Prop} {a1 : Int32} {a2 : Int32} {a3 : Int32} {a4 : Int32} (h : EI d mX8_hasSitting [.ref 1, .int a1, .int a4] I L (fun r1 I1 L1 => (if r1 = 0 then F (-1) I1 L1 else EI d mX8_hasLaw [.ref 1, .int a2] I1 L1 (fun r2 I2 L2 => (if r2 = 0 then F (-1) I2 L2 else EI d mX7_choice [.ref 25, .ref 1, .int a1, .int a4, .int a2, .int a3] I2 L2 (fun r3 I3 L3 => F r3 I3 L3)))))) : EI (d + 1) mX11_taken [.ref 0, .int a1, .int a2, .int a3, .int a4] I L F := by
  refine Ev_of (ls0 := 0) (by decide +kernel) rfl rfl rfl ?_
  refine T_aload_n dX11_taken_0 rfl ?_
  refine T_getr dX11_taken_1 fl_RX11_19 shp_0 rfl ?_
  refine T_iload_n dX11_taken_4 rfl ?_
  refine T_iload dX11_taken_5 rfl ?_
  refine S_callVI (M' := mX8_hasSitting) [.int a1, .int a4] [] dX11_taken_7 ml_RX11_131 mkX8_hasSitting rfl shp_1 rfl rfl rfl (Nat.le_of_ble_eq_true rfl) h (fun r1 I1 L1 h => ?_)
  refine T_if_eq (tgt := 24) dX11_taken_10 (by decide) (tq_ite h (fun h => ?_) (fun h => ?_))
  ·
    refine T_iconst (v := (-1)) dX11_taken_24 (by decide +kernel) ?_
    exact S_iret rfl dX11_taken_25 h
  ·
    refine T_aload_n dX11_taken_13 rfl ?_
    refine T_getr dX11_taken_14 fl_RX11_19 shp_0 rfl ?_
    refine T_iload_n dX11_taken_17 rfl ?_
    refine S_callVI (M' := mX8_hasLaw) [.int a2] [] dX11_taken_18 ml_RX11_139 mkX8_hasLaw rfl shp_1 rfl rfl rfl (Nat.le_of_ble_eq_true rfl) h (fun r2 I2 L2 h => ?_)
    refine T_if_ne (tgt := 26) dX11_taken_21 (by decide) (tq_ite h (fun h => ?_) (fun h => ?_))
    ·
      refine T_iconst (v := (-1)) dX11_taken_24 (by decide +kernel) ?_
      exact S_iret rfl dX11_taken_25 h
    ·
      refine T_aload_n dX11_taken_26 rfl ?_
      refine T_getr dX11_taken_27 fl_RX11_26 shp_0 rfl ?_
      refine T_aload_n dX11_taken_30 rfl ?_
      refine T_getr dX11_taken_31 fl_RX11_19 shp_0 rfl ?_
      refine T_iload_n dX11_taken_34 rfl ?_
      refine T_iload dX11_taken_35 rfl ?_
      refine T_iload_n dX11_taken_37 rfl ?_
      refine T_iload_n dX11_taken_38 rfl ?_
      refine S_callVI (M' := mX7_choice) [.ref 1, .int a1, .int a4, .int a2, .int a3] [] dX11_taken_39 ml_RX11_159 mkX7_choice rfl shp_25 rfl rfl rfl (Nat.le_of_ble_eq_true rfl) h (fun r3 I3 L3 h => ?_)
      exact S_iret rfl dX11_taken_42 h

theorem dX11_takes_0 : decode cX11_takes 0 = .ok (.aload_n 0, 1) := by decide +kernel
theorem dX11_takes_1 : decode cX11_takes 1 = .ok (.getfield 19, 3) := by decide +kernel
theorem dX11_takes_4 : decode cX11_takes 4 = .ok (.iload_n 1, 1) := by decide +kernel
theorem dX11_takes_5 : decode cX11_takes 5 = .ok (.invokevirtual 163, 3) := by decide +kernel
theorem dX11_takes_8 : decode cX11_takes 8 = .ok (.ifCond .eq 14, 3) := by decide +kernel
theorem dX11_takes_11 : decode cX11_takes 11 = .ok (.aload_n 0, 1) := by decide +kernel
theorem dX11_takes_12 : decode cX11_takes 12 = .ok (.getfield 19, 3) := by decide +kernel
theorem dX11_takes_15 : decode cX11_takes 15 = .ok (.iload_n 2, 1) := by decide +kernel
theorem dX11_takes_16 : decode cX11_takes 16 = .ok (.invokevirtual 139, 3) := by decide +kernel
theorem dX11_takes_19 : decode cX11_takes 19 = .ok (.ifCond .ne 6, 3) := by decide +kernel
theorem dX11_takes_22 : decode cX11_takes 22 = .ok (.bipush (-2), 2) := by decide +kernel
theorem dX11_takes_24 : decode cX11_takes 24 = .ok (.ireturn, 1) := by decide +kernel
theorem dX11_takes_25 : decode cX11_takes 25 = .ok (.iload 4, 2) := by decide +kernel
theorem dX11_takes_27 : decode cX11_takes 27 = .ok (.iconst (-1), 1) := by decide +kernel
theorem dX11_takes_28 : decode cX11_takes 28 = .ok (.if_icmp .eq 18, 3) := by decide +kernel
theorem dX11_takes_31 : decode cX11_takes 31 = .ok (.aload_n 0, 1) := by decide +kernel
theorem dX11_takes_32 : decode cX11_takes 32 = .ok (.getfield 19, 3) := by decide +kernel
theorem dX11_takes_35 : decode cX11_takes 35 = .ok (.iload 4, 2) := by decide +kernel
theorem dX11_takes_37 : decode cX11_takes 37 = .ok (.invokevirtual 118, 3) := by decide +kernel
theorem dX11_takes_40 : decode cX11_takes 40 = .ok (.ifCond .ne 6, 3) := by decide +kernel
theorem dX11_takes_43 : decode cX11_takes 43 = .ok (.bipush (-2), 2) := by decide +kernel
theorem dX11_takes_45 : decode cX11_takes 45 = .ok (.ireturn, 1) := by decide +kernel
theorem dX11_takes_46 : decode cX11_takes 46 = .ok (.iconst 0, 1) := by decide +kernel
theorem dX11_takes_47 : decode cX11_takes 47 = .ok (.istore 5, 2) := by decide +kernel
theorem dX11_takes_49 : decode cX11_takes 49 = .ok (.iconst 0, 1) := by decide +kernel
theorem dX11_takes_50 : decode cX11_takes 50 = .ok (.istore 6, 2) := by decide +kernel
theorem dX11_takes_52 : decode cX11_takes 52 = .ok (.iload 6, 2) := by decide +kernel
theorem dX11_takes_54 : decode cX11_takes 54 = .ok (.aload_n 0, 1) := by decide +kernel
theorem dX11_takes_55 : decode cX11_takes 55 = .ok (.getfield 19, 3) := by decide +kernel
theorem dX11_takes_58 : decode cX11_takes 58 = .ok (.iload_n 1, 1) := by decide +kernel
theorem dX11_takes_59 : decode cX11_takes 59 = .ok (.invokevirtual 166, 3) := by decide +kernel
theorem dX11_takes_62 : decode cX11_takes 62 = .ok (.if_icmp .ge 58, 3) := by decide +kernel
theorem dX11_takes_65 : decode cX11_takes 65 = .ok (.aload_n 0, 1) := by decide +kernel
theorem dX11_takes_66 : decode cX11_takes 66 = .ok (.getfield 26, 3) := by decide +kernel
theorem dX11_takes_69 : decode cX11_takes 69 = .ok (.aload_n 0, 1) := by decide +kernel
theorem dX11_takes_70 : decode cX11_takes 70 = .ok (.getfield 19, 3) := by decide +kernel
theorem dX11_takes_73 : decode cX11_takes 73 = .ok (.iload_n 1, 1) := by decide +kernel
theorem dX11_takes_74 : decode cX11_takes 74 = .ok (.iload 6, 2) := by decide +kernel
theorem dX11_takes_76 : decode cX11_takes 76 = .ok (.iload_n 2, 1) := by decide +kernel
theorem dX11_takes_77 : decode cX11_takes 77 = .ok (.iload_n 3, 1) := by decide +kernel
theorem dX11_takes_78 : decode cX11_takes 78 = .ok (.invokevirtual 159, 3) := by decide +kernel
theorem dX11_takes_81 : decode cX11_takes 81 = .ok (.istore 7, 2) := by decide +kernel
theorem dX11_takes_83 : decode cX11_takes 83 = .ok (.iload 4, 2) := by decide +kernel
theorem dX11_takes_85 : decode cX11_takes 85 = .ok (.iconst (-1), 1) := by decide +kernel
theorem dX11_takes_86 : decode cX11_takes 86 = .ok (.if_icmp .ne 18, 3) := by decide +kernel
theorem dX11_takes_89 : decode cX11_takes 89 = .ok (.aload_n 0, 1) := by decide +kernel
theorem dX11_takes_90 : decode cX11_takes 90 = .ok (.getfield 19, 3) := by decide +kernel
theorem dX11_takes_93 : decode cX11_takes 93 = .ok (.iload 7, 2) := by decide +kernel
theorem dX11_takes_95 : decode cX11_takes 95 = .ok (.invokevirtual 170, 3) := by decide +kernel
theorem dX11_takes_98 : decode cX11_takes 98 = .ok (.ifCond .eq 16, 3) := by decide +kernel
theorem dX11_takes_101 : decode cX11_takes 101 = .ok (.goto 10, 3) := by decide +kernel
theorem dX11_takes_104 : decode cX11_takes 104 = .ok (.iload 7, 2) := by decide +kernel
theorem dX11_takes_106 : decode cX11_takes 106 = .ok (.iload 4, 2) := by decide +kernel
theorem dX11_takes_108 : decode cX11_takes 108 = .ok (.if_icmp .ne 6, 3) := by decide +kernel
theorem dX11_takes_111 : decode cX11_takes 111 = .ok (.iinc 5 1, 3) := by decide +kernel
theorem dX11_takes_114 : decode cX11_takes 114 = .ok (.iinc 6 1, 3) := by decide +kernel
theorem dX11_takes_117 : decode cX11_takes 117 = .ok (.goto (-65), 3) := by decide +kernel
theorem dX11_takes_120 : decode cX11_takes 120 = .ok (.iload 5, 2) := by decide +kernel
theorem dX11_takes_122 : decode cX11_takes 122 = .ok (.ireturn, 1) := by decide +kernel
set_option maxRecDepth 100000 in
theorem sgX11_takes_0 {d : Nat} {I : st_I} {L : st_L} {F : Int32 → st_I → st_L → Prop} {a1 : Int32} {a2 : Int32} {a3 : Int32} {a4 : Int32} (h : EI d mX8_hasPlan [.ref 1, .int a1] I L (fun r1 I1 L1 => (if r1 = 0 then F (-2) I1 L1 else EI d mX8_hasLaw [.ref 1, .int a2] I1 L1 (fun r2 I2 L2 => (if r2 = 0 then F (-2) I2 L2 else (if a4 = (-1) then TI (d + 1) mX11_takes 52 [.ref 0, .int a1, .int a2, .int a3, .int a4, .int 0, .int 0, .null] [] I2 L2 F else EI d mX8_hasFiddle [.ref 1, .int a4] I2 L2 (fun r3 I3 L3 => (if r3 = 0 then F (-2) I3 L3 else TI (d + 1) mX11_takes 52 [.ref 0, .int a1, .int a2, .int a3, .int a4, .int 0, .int 0, .null] [] I3 L3 F)))))))) : EI (d + 1) mX11_takes [.ref 0, .int a1, .int a2, .int a3, .int a4] I L F := by
  refine Ev_of (ls0 := 3) (by decide +kernel) rfl rfl rfl ?_
  refine T_aload_n dX11_takes_0 rfl ?_
  refine T_getr dX11_takes_1 fl_RX11_19 shp_0 rfl ?_
  refine T_iload_n dX11_takes_4 rfl ?_
  refine S_callVI (M' := mX8_hasPlan) [.int a1] [] dX11_takes_5 ml_RX11_163 mkX8_hasPlan rfl shp_1 rfl rfl rfl (Nat.le_of_ble_eq_true rfl) h (fun r1 I1 L1 h => ?_)
  refine T_if_eq (tgt := 22) dX11_takes_8 (by decide) (tq_ite h (fun h => ?_) (fun h => ?_))
  ·
    refine T_bipush (v := (-2)) dX11_takes_22 (by decide +kernel) ?_
    exact S_iret rfl dX11_takes_24 h
  ·
    refine T_aload_n dX11_takes_11 rfl ?_
    refine T_getr dX11_takes_12 fl_RX11_19 shp_0 rfl ?_
    refine T_iload_n dX11_takes_15 rfl ?_
    refine S_callVI (M' := mX8_hasLaw) [.int a2] [] dX11_takes_16 ml_RX11_139 mkX8_hasLaw rfl shp_1 rfl rfl rfl (Nat.le_of_ble_eq_true rfl) h (fun r2 I2 L2 h => ?_)
    refine T_if_ne (tgt := 25) dX11_takes_19 (by decide) (tq_ite h (fun h => ?_) (fun h => ?_))
    ·
      refine T_bipush (v := (-2)) dX11_takes_22 (by decide +kernel) ?_
      exact S_iret rfl dX11_takes_24 h
    ·
      refine T_iload dX11_takes_25 rfl ?_
      refine T_iconst (v := (-1)) dX11_takes_27 (by decide +kernel) ?_
      refine T_icmp_eq (tgt := 46) dX11_takes_28 (by decide) (tq_ite h (fun h => ?_) (fun h => ?_))
      ·
        refine T_iconst (v := 0) dX11_takes_46 (by decide +kernel) ?_
        refine T_istore (lv' := [.ref 0, .int a1, .int a2, .int a3, .int a4, .int 0, .null, .null]) dX11_takes_47 (by decide) rfl ?_
        refine T_iconst (v := 0) dX11_takes_49 (by decide +kernel) ?_
        refine T_istore (lv' := [.ref 0, .int a1, .int a2, .int a3, .int a4, .int 0, .int 0, .null]) dX11_takes_50 (by decide) rfl ?_
        exact h
      ·
        refine T_aload_n dX11_takes_31 rfl ?_
        refine T_getr dX11_takes_32 fl_RX11_19 shp_0 rfl ?_
        refine T_iload dX11_takes_35 rfl ?_
        refine S_callVI (M' := mX8_hasFiddle) [.int a4] [] dX11_takes_37 ml_RX11_118 mkX8_hasFiddle rfl shp_1 rfl rfl rfl (Nat.le_of_ble_eq_true rfl) h (fun r3 I3 L3 h => ?_)
        refine T_if_ne (tgt := 46) dX11_takes_40 (by decide) (tq_ite h (fun h => ?_) (fun h => ?_))
        ·
          refine T_bipush (v := (-2)) dX11_takes_43 (by decide +kernel) ?_
          exact S_iret rfl dX11_takes_45 h
        ·
          refine T_iconst (v := 0) dX11_takes_46 (by decide +kernel) ?_
          refine T_istore (lv' := [.ref 0, .int a1, .int a2, .int a3, .int a4, .int 0, .null, .null]) dX11_takes_47 (by decide) rfl ?_
          refine T_iconst (v := 0) dX11_takes_49 (by decide +kernel) ?_
          refine T_istore (lv' := [.ref 0, .int a1, .int a2, .int a3, .int a4, .int 0, .int 0, .null]) dX11_takes_50 (by decide) rfl ?_
          exact h

set_option maxRecDepth 100000 in
theorem sgX11_takes_52 {d : Nat} {I : st_I} {L : st_L} {F : Int32 → st_I → st_L → Prop} {x1 : Int32} {x2 : Int32} {x3 : Int32} {x4 : Int32} {x5 : Int32} {x6 : Int32} (h : EI d mX8_sits [.ref 1, .int x1] I L (fun r1 I1 L1 => (if r1 ≤ x6 then F x5 I1 L1 else EI d mX7_choice [.ref 25, .ref 1, .int x1, .int x6, .int x2, .int x3] I1 L1 (fun r2 I2 L2 => (if x4 = (-1) then EI d mX8_isOld [.ref 1, .int r2] I2 L2 (fun r3 I3 L3 => (if r3 = 0 then TI (d + 1) mX11_takes 52 [.ref 0, .int x1, .int x2, .int x3, .int x4, .int x5, .int (x6 + 1), .null] [] I3 L3 F else TI (d + 1) mX11_takes 52 [.ref 0, .int x1, .int x2, .int x3, .int x4, .int (x5 + 1), .int (x6 + 1), .null] [] I3 L3 F)) else (if r2 = x4 then TI (d + 1) mX11_takes 52 [.ref 0, .int x1, .int x2, .int x3, .int x4, .int (x5 + 1), .int (x6 + 1), .null] [] I2 L2 F else TI (d + 1) mX11_takes 52 [.ref 0, .int x1, .int x2, .int x3, .int x4, .int x5, .int (x6 + 1), .null] [] I2 L2 F)))))) : TI (d + 1) mX11_takes 52 [.ref 0, .int x1, .int x2, .int x3, .int x4, .int x5, .int x6, .null] [] I L F := by
  refine T_iload dX11_takes_52 rfl ?_
  refine T_aload_n dX11_takes_54 rfl ?_
  refine T_getr dX11_takes_55 fl_RX11_19 shp_0 rfl ?_
  refine T_iload_n dX11_takes_58 rfl ?_
  refine S_callVI (M' := mX8_sits) [.int x1] [.int x6] dX11_takes_59 ml_RX11_166 mkX8_sits rfl shp_1 rfl rfl rfl (Nat.le_of_ble_eq_true rfl) h (fun r1 I1 L1 h => ?_)
  refine T_icmp_ge (tgt := 120) dX11_takes_62 (by decide) (tq_ite h (fun h => ?_) (fun h => ?_))
  ·
    refine T_iload dX11_takes_120 rfl ?_
    exact S_iret rfl dX11_takes_122 h
  ·
    refine T_aload_n dX11_takes_65 rfl ?_
    refine T_getr dX11_takes_66 fl_RX11_26 shp_0 rfl ?_
    refine T_aload_n dX11_takes_69 rfl ?_
    refine T_getr dX11_takes_70 fl_RX11_19 shp_0 rfl ?_
    refine T_iload_n dX11_takes_73 rfl ?_
    refine T_iload dX11_takes_74 rfl ?_
    refine T_iload_n dX11_takes_76 rfl ?_
    refine T_iload_n dX11_takes_77 rfl ?_
    refine S_callVI (M' := mX7_choice) [.ref 1, .int x1, .int x6, .int x2, .int x3] [] dX11_takes_78 ml_RX11_159 mkX7_choice rfl shp_25 rfl rfl rfl (Nat.le_of_ble_eq_true rfl) h (fun r2 I2 L2 h => ?_)
    refine T_istore (lv' := [.ref 0, .int x1, .int x2, .int x3, .int x4, .int x5, .int x6, .int r2]) dX11_takes_81 (by decide) rfl ?_
    refine T_iload dX11_takes_83 rfl ?_
    refine T_iconst (v := (-1)) dX11_takes_85 (by decide +kernel) ?_
    refine T_icmp_ne (tgt := 104) dX11_takes_86 (by decide) (tq_ite h (fun h => ?_) (fun h => ?_))
    ·
      refine T_aload_n dX11_takes_89 rfl ?_
      refine T_getr dX11_takes_90 fl_RX11_19 shp_0 rfl ?_
      refine T_iload dX11_takes_93 rfl ?_
      refine S_callVI (M' := mX8_isOld) [.int r2] [] dX11_takes_95 ml_RX11_170 mkX8_isOld rfl shp_1 rfl rfl rfl (Nat.le_of_ble_eq_true rfl) h (fun r3 I3 L3 h => ?_)
      refine T_if_eq (tgt := 114) dX11_takes_98 (by decide) (tq_ite h (fun h => ?_) (fun h => ?_))
      ·
        refine T_iinc (lv' := [.ref 0, .int x1, .int x2, .int x3, .int x4, .int x5, .int (x6 + 1), .int r2]) dX11_takes_114 rfl (by decide) rfl ?_
        refine T_goto (tgt := 52) dX11_takes_117 (by decide) ?_
        exact T_wk (lv' := [.ref 0, .int x1, .int x2, .int x3, .int x4, .int x5, .int (x6 + 1), .null]) ⟨Or.inr rfl, Or.inr rfl, Or.inr rfl, Or.inr rfl, Or.inr rfl, Or.inr rfl, Or.inr rfl, Or.inl rfl, trivial⟩ h
      ·
        refine T_goto (tgt := 111) dX11_takes_101 (by decide) ?_
        refine T_iinc (lv' := [.ref 0, .int x1, .int x2, .int x3, .int x4, .int (x5 + 1), .int x6, .int r2]) dX11_takes_111 rfl (by decide) rfl ?_
        refine T_iinc (lv' := [.ref 0, .int x1, .int x2, .int x3, .int x4, .int (x5 + 1), .int (x6 + 1), .int r2]) dX11_takes_114 rfl (by decide) rfl ?_
        refine T_goto (tgt := 52) dX11_takes_117 (by decide) ?_
        exact T_wk (lv' := [.ref 0, .int x1, .int x2, .int x3, .int x4, .int (x5 + 1), .int (x6 + 1), .null]) ⟨Or.inr rfl, Or.inr rfl, Or.inr rfl, Or.inr rfl, Or.inr rfl, Or.inr rfl, Or.inr rfl, Or.inl rfl, trivial⟩ h
    ·
      refine T_iload dX11_takes_104 rfl ?_
      refine T_iload dX11_takes_106 rfl ?_
      refine T_icmp_ne (tgt := 114) dX11_takes_108 (by decide) (tq_ite h (fun h => ?_) (fun h => ?_))
      ·
        refine T_iinc (lv' := [.ref 0, .int x1, .int x2, .int x3, .int x4, .int (x5 + 1), .int x6, .int r2]) dX11_takes_111 rfl (by decide) rfl ?_
        refine T_iinc (lv' := [.ref 0, .int x1, .int x2, .int x3, .int x4, .int (x5 + 1), .int (x6 + 1), .int r2]) dX11_takes_114 rfl (by decide) rfl ?_
        refine T_goto (tgt := 52) dX11_takes_117 (by decide) ?_
        exact T_wk (lv' := [.ref 0, .int x1, .int x2, .int x3, .int x4, .int (x5 + 1), .int (x6 + 1), .null]) ⟨Or.inr rfl, Or.inr rfl, Or.inr rfl, Or.inr rfl, Or.inr rfl, Or.inr rfl, Or.inr rfl, Or.inl rfl, trivial⟩ h
      ·
        refine T_iinc (lv' := [.ref 0, .int x1, .int x2, .int x3, .int x4, .int x5, .int (x6 + 1), .int r2]) dX11_takes_114 rfl (by decide) rfl ?_
        refine T_goto (tgt := 52) dX11_takes_117 (by decide) ?_
        exact T_wk (lv' := [.ref 0, .int x1, .int x2, .int x3, .int x4, .int x5, .int (x6 + 1), .null]) ⟨Or.inr rfl, Or.inr rfl, Or.inr rfl, Or.inr rfl, Or.inr rfl, Or.inr rfl, Or.inr rfl, Or.inl rfl, trivial⟩ h

theorem dX11_run_0 : decode cX11_run 0 = .ok (.aload_n 0, 1) := by decide +kernel
theorem dX11_run_1 : decode cX11_run 1 = .ok (.getfield 19, 3) := by decide +kernel
theorem dX11_run_4 : decode cX11_run 4 = .ok (.iload_n 1, 1) := by decide +kernel
theorem dX11_run_5 : decode cX11_run 5 = .ok (.invokevirtual 163, 3) := by decide +kernel
theorem dX11_run_8 : decode cX11_run 8 = .ok (.ifCond .eq 25, 3) := by decide +kernel
theorem dX11_run_11 : decode cX11_run 11 = .ok (.aload_n 0, 1) := by decide +kernel
theorem dX11_run_12 : decode cX11_run 12 = .ok (.getfield 19, 3) := by decide +kernel
theorem dX11_run_15 : decode cX11_run 15 = .ok (.iload_n 2, 1) := by decide +kernel
theorem dX11_run_16 : decode cX11_run 16 = .ok (.invokevirtual 139, 3) := by decide +kernel
theorem dX11_run_19 : decode cX11_run 19 = .ok (.ifCond .eq 14, 3) := by decide +kernel
theorem dX11_run_22 : decode cX11_run 22 = .ok (.aload_n 0, 1) := by decide +kernel
theorem dX11_run_23 : decode cX11_run 23 = .ok (.getfield 19, 3) := by decide +kernel
theorem dX11_run_26 : decode cX11_run 26 = .ok (.iload_n 3, 1) := by decide +kernel
theorem dX11_run_27 : decode cX11_run 27 = .ok (.invokevirtual 139, 3) := by decide +kernel
theorem dX11_run_30 : decode cX11_run 30 = .ok (.ifCond .ne 5, 3) := by decide +kernel
theorem dX11_run_33 : decode cX11_run 33 = .ok (.iconst (-1), 1) := by decide +kernel
theorem dX11_run_34 : decode cX11_run 34 = .ok (.ireturn, 1) := by decide +kernel
theorem dX11_run_35 : decode cX11_run 35 = .ok (.aload_n 0, 1) := by decide +kernel
theorem dX11_run_36 : decode cX11_run 36 = .ok (.getfield 19, 3) := by decide +kernel
theorem dX11_run_39 : decode cX11_run 39 = .ok (.iload_n 1, 1) := by decide +kernel
theorem dX11_run_40 : decode cX11_run 40 = .ok (.invokevirtual 173, 3) := by decide +kernel
theorem dX11_run_43 : decode cX11_run 43 = .ok (.istore 5, 2) := by decide +kernel
theorem dX11_run_45 : decode cX11_run 45 = .ok (.aload_n 0, 1) := by decide +kernel
theorem dX11_run_46 : decode cX11_run 46 = .ok (.getfield 33, 3) := by decide +kernel
theorem dX11_run_49 : decode cX11_run 49 = .ok (.getfield 176, 3) := by decide +kernel
theorem dX11_run_52 : decode cX11_run 52 = .ok (.iload 5, 2) := by decide +kernel
theorem dX11_run_54 : decode cX11_run 54 = .ok (.iadd, 1) := by decide +kernel
theorem dX11_run_55 : decode cX11_run 55 = .ok (.bipush 80, 2) := by decide +kernel
theorem dX11_run_57 : decode cX11_run 57 = .ok (.if_icmp .le 5, 3) := by decide +kernel
theorem dX11_run_60 : decode cX11_run 60 = .ok (.iconst (-1), 1) := by decide +kernel
theorem dX11_run_61 : decode cX11_run 61 = .ok (.ireturn, 1) := by decide +kernel
theorem dX11_run_62 : decode cX11_run 62 = .ok (.iconst 0, 1) := by decide +kernel
theorem dX11_run_63 : decode cX11_run 63 = .ok (.istore 6, 2) := by decide +kernel
theorem dX11_run_65 : decode cX11_run 65 = .ok (.iload 6, 2) := by decide +kernel
theorem dX11_run_67 : decode cX11_run 67 = .ok (.aload_n 0, 1) := by decide +kernel
theorem dX11_run_68 : decode cX11_run 68 = .ok (.getfield 19, 3) := by decide +kernel
theorem dX11_run_71 : decode cX11_run 71 = .ok (.iload_n 1, 1) := by decide +kernel
theorem dX11_run_72 : decode cX11_run 72 = .ok (.invokevirtual 166, 3) := by decide +kernel
theorem dX11_run_75 : decode cX11_run 75 = .ok (.if_icmp .ge 93, 3) := by decide +kernel
theorem dX11_run_78 : decode cX11_run 78 = .ok (.iconst 0, 1) := by decide +kernel
theorem dX11_run_79 : decode cX11_run 79 = .ok (.istore 7, 2) := by decide +kernel
theorem dX11_run_81 : decode cX11_run 81 = .ok (.iload 7, 2) := by decide +kernel
theorem dX11_run_83 : decode cX11_run 83 = .ok (.aload_n 0, 1) := by decide +kernel
theorem dX11_run_84 : decode cX11_run 84 = .ok (.getfield 19, 3) := by decide +kernel
theorem dX11_run_87 : decode cX11_run 87 = .ok (.iload_n 1, 1) := by decide +kernel
theorem dX11_run_88 : decode cX11_run 88 = .ok (.iload 6, 2) := by decide +kernel
theorem dX11_run_90 : decode cX11_run 90 = .ok (.iconst 3, 1) := by decide +kernel
theorem dX11_run_91 : decode cX11_run 91 = .ok (.invokevirtual 135, 3) := by decide +kernel
theorem dX11_run_94 : decode cX11_run 94 = .ok (.if_icmp .ge 68, 3) := by decide +kernel
theorem dX11_run_97 : decode cX11_run 97 = .ok (.aload_n 0, 1) := by decide +kernel
theorem dX11_run_98 : decode cX11_run 98 = .ok (.getfield 26, 3) := by decide +kernel
theorem dX11_run_101 : decode cX11_run 101 = .ok (.aload_n 0, 1) := by decide +kernel
theorem dX11_run_102 : decode cX11_run 102 = .ok (.getfield 19, 3) := by decide +kernel
theorem dX11_run_105 : decode cX11_run 105 = .ok (.iload_n 1, 1) := by decide +kernel
theorem dX11_run_106 : decode cX11_run 106 = .ok (.iload 6, 2) := by decide +kernel
theorem dX11_run_108 : decode cX11_run 108 = .ok (.iload 7, 2) := by decide +kernel
theorem dX11_run_110 : decode cX11_run 110 = .ok (.iload 4, 2) := by decide +kernel
theorem dX11_run_112 : decode cX11_run 112 = .ok (.invokevirtual 179, 3) := by decide +kernel
theorem dX11_run_115 : decode cX11_run 115 = .ok (.aload_n 0, 1) := by decide +kernel
theorem dX11_run_116 : decode cX11_run 116 = .ok (.iload_n 1, 1) := by decide +kernel
theorem dX11_run_117 : decode cX11_run 117 = .ok (.iload 6, 2) := by decide +kernel
theorem dX11_run_119 : decode cX11_run 119 = .ok (.iload 7, 2) := by decide +kernel
theorem dX11_run_121 : decode cX11_run 121 = .ok (.aload_n 0, 1) := by decide +kernel
theorem dX11_run_122 : decode cX11_run 122 = .ok (.getfield 26, 3) := by decide +kernel
theorem dX11_run_125 : decode cX11_run 125 = .ok (.aload_n 0, 1) := by decide +kernel
theorem dX11_run_126 : decode cX11_run 126 = .ok (.getfield 19, 3) := by decide +kernel
theorem dX11_run_129 : decode cX11_run 129 = .ok (.iload_n 2, 1) := by decide +kernel
theorem dX11_run_130 : decode cX11_run 130 = .ok (.invokevirtual 155, 3) := by decide +kernel
theorem dX11_run_133 : decode cX11_run 133 = .ok (.aload_n 0, 1) := by decide +kernel
theorem dX11_run_134 : decode cX11_run 134 = .ok (.getfield 26, 3) := by decide +kernel
theorem dX11_run_137 : decode cX11_run 137 = .ok (.aload_n 0, 1) := by decide +kernel
theorem dX11_run_138 : decode cX11_run 138 = .ok (.getfield 19, 3) := by decide +kernel
theorem dX11_run_141 : decode cX11_run 141 = .ok (.iload_n 3, 1) := by decide +kernel
theorem dX11_run_142 : decode cX11_run 142 = .ok (.invokevirtual 155, 3) := by decide +kernel
theorem dX11_run_145 : decode cX11_run 145 = .ok (.ifCond .le 7, 3) := by decide +kernel
theorem dX11_run_148 : decode cX11_run 148 = .ok (.iconst 1, 1) := by decide +kernel
theorem dX11_run_149 : decode cX11_run 149 = .ok (.goto 4, 3) := by decide +kernel
theorem dX11_run_152 : decode cX11_run 152 = .ok (.iconst 0, 1) := by decide +kernel
theorem dX11_run_153 : decode cX11_run 153 = .ok (.invokevirtual 183, 3) := by decide +kernel
theorem dX11_run_156 : decode cX11_run 156 = .ok (.iinc 7 1, 3) := by decide +kernel
theorem dX11_run_159 : decode cX11_run 159 = .ok (.goto (-78), 3) := by decide +kernel
theorem dX11_run_162 : decode cX11_run 162 = .ok (.iinc 6 1, 3) := by decide +kernel
theorem dX11_run_165 : decode cX11_run 165 = .ok (.goto (-100), 3) := by decide +kernel
theorem dX11_run_168 : decode cX11_run 168 = .ok (.iload 5, 2) := by decide +kernel
theorem dX11_run_170 : decode cX11_run 170 = .ok (.ireturn, 1) := by decide +kernel
set_option maxRecDepth 100000 in
theorem sgX11_run_0 {d : Nat} {I : st_I} {L : st_L} {F : Int32 → st_I → st_L → Prop} {a1 : Int32} {a2 : Int32} {a3 : Int32} {a4 : Int32} (h : EI d mX8_hasPlan [.ref 1, .int a1] I L (fun r1 I1 L1 => (if r1 = 0 then F (-1) I1 L1 else EI d mX8_hasLaw [.ref 1, .int a2] I1 L1 (fun r2 I2 L2 => (if r2 = 0 then F (-1) I2 L2 else EI d mX8_hasLaw [.ref 1, .int a3] I2 L2 (fun r3 I3 L3 => (if r3 = 0 then F (-1) I3 L3 else EI d mX8_factsOf [.ref 1, .int a1] I3 L3 (fun r4 I4 L4 => (if ((I4 28 0) + r4) ≤ 80 then TI (d + 1) mX11_run 65 [.ref 0, .int a1, .int a2, .int a3, .int a4, .int r4, .int 0, .null] [] I4 L4 F else F (-1) I4 L4))))))))) : EI (d + 1) mX11_run [.ref 0, .int a1, .int a2, .int a3, .int a4] I L F := by
  refine Ev_of (ls0 := 3) (by decide +kernel) rfl rfl rfl ?_
  refine T_aload_n dX11_run_0 rfl ?_
  refine T_getr dX11_run_1 fl_RX11_19 shp_0 rfl ?_
  refine T_iload_n dX11_run_4 rfl ?_
  refine S_callVI (M' := mX8_hasPlan) [.int a1] [] dX11_run_5 ml_RX11_163 mkX8_hasPlan rfl shp_1 rfl rfl rfl (Nat.le_of_ble_eq_true rfl) h (fun r1 I1 L1 h => ?_)
  refine T_if_eq (tgt := 33) dX11_run_8 (by decide) (tq_ite h (fun h => ?_) (fun h => ?_))
  ·
    refine T_iconst (v := (-1)) dX11_run_33 (by decide +kernel) ?_
    exact S_iret rfl dX11_run_34 h
  ·
    refine T_aload_n dX11_run_11 rfl ?_
    refine T_getr dX11_run_12 fl_RX11_19 shp_0 rfl ?_
    refine T_iload_n dX11_run_15 rfl ?_
    refine S_callVI (M' := mX8_hasLaw) [.int a2] [] dX11_run_16 ml_RX11_139 mkX8_hasLaw rfl shp_1 rfl rfl rfl (Nat.le_of_ble_eq_true rfl) h (fun r2 I2 L2 h => ?_)
    refine T_if_eq (tgt := 33) dX11_run_19 (by decide) (tq_ite h (fun h => ?_) (fun h => ?_))
    ·
      refine T_iconst (v := (-1)) dX11_run_33 (by decide +kernel) ?_
      exact S_iret rfl dX11_run_34 h
    ·
      refine T_aload_n dX11_run_22 rfl ?_
      refine T_getr dX11_run_23 fl_RX11_19 shp_0 rfl ?_
      refine T_iload_n dX11_run_26 rfl ?_
      refine S_callVI (M' := mX8_hasLaw) [.int a3] [] dX11_run_27 ml_RX11_139 mkX8_hasLaw rfl shp_1 rfl rfl rfl (Nat.le_of_ble_eq_true rfl) h (fun r3 I3 L3 h => ?_)
      refine T_if_ne (tgt := 35) dX11_run_30 (by decide) (tq_ite h (fun h => ?_) (fun h => ?_))
      ·
        refine T_iconst (v := (-1)) dX11_run_33 (by decide +kernel) ?_
        exact S_iret rfl dX11_run_34 h
      ·
        refine T_aload_n dX11_run_35 rfl ?_
        refine T_getr dX11_run_36 fl_RX11_19 shp_0 rfl ?_
        refine T_iload_n dX11_run_39 rfl ?_
        refine S_callVI (M' := mX8_factsOf) [.int a1] [] dX11_run_40 ml_RX11_173 mkX8_factsOf rfl shp_1 rfl rfl rfl (Nat.le_of_ble_eq_true rfl) h (fun r4 I4 L4 h => ?_)
        refine T_istore (lv' := [.ref 0, .int a1, .int a2, .int a3, .int a4, .int r4, .null, .null]) dX11_run_43 (by decide) rfl ?_
        refine T_aload_n dX11_run_45 rfl ?_
        refine T_getr dX11_run_46 fl_RX11_33 shp_0 rfl ?_
        refine T_getv (v := (I4 28 0)) dX11_run_49 fl_RX11_176 shp_28 rfl rfl ?_
        refine T_iload dX11_run_52 rfl ?_
        refine T_iadd dX11_run_54 ?_
        refine T_bipush (v := 80) dX11_run_55 (by decide +kernel) ?_
        refine T_icmp_le (tgt := 62) dX11_run_57 (by decide) (tq_ite h (fun h => ?_) (fun h => ?_))
        ·
          refine T_iconst (v := 0) dX11_run_62 (by decide +kernel) ?_
          refine T_istore (lv' := [.ref 0, .int a1, .int a2, .int a3, .int a4, .int r4, .int 0, .null]) dX11_run_63 (by decide) rfl ?_
          exact h
        ·
          refine T_iconst (v := (-1)) dX11_run_60 (by decide +kernel) ?_
          exact S_iret rfl dX11_run_61 h

set_option maxRecDepth 100000 in
theorem sgX11_run_65 {d : Nat} {I : st_I} {L : st_L} {F : Int32 → st_I → st_L → Prop} {x1 : Int32} {x2 : Int32} {x3 : Int32} {x4 : Int32} {x5 : Int32} {x6 : Int32} (h : EI d mX8_sits [.ref 1, .int x1] I L (fun r1 I1 L1 => (if r1 ≤ x6 then F x5 I1 L1 else TI (d + 1) mX11_run 81 [.ref 0, .int x1, .int x2, .int x3, .int x4, .int x5, .int x6, .int 0] [] I1 L1 F))) : TI (d + 1) mX11_run 65 [.ref 0, .int x1, .int x2, .int x3, .int x4, .int x5, .int x6, .null] [] I L F := by
  refine T_iload dX11_run_65 rfl ?_
  refine T_aload_n dX11_run_67 rfl ?_
  refine T_getr dX11_run_68 fl_RX11_19 shp_0 rfl ?_
  refine T_iload_n dX11_run_71 rfl ?_
  refine S_callVI (M' := mX8_sits) [.int x1] [.int x6] dX11_run_72 ml_RX11_166 mkX8_sits rfl shp_1 rfl rfl rfl (Nat.le_of_ble_eq_true rfl) h (fun r1 I1 L1 h => ?_)
  refine T_icmp_ge (tgt := 168) dX11_run_75 (by decide) (tq_ite h (fun h => ?_) (fun h => ?_))
  ·
    refine T_iload dX11_run_168 rfl ?_
    exact S_iret rfl dX11_run_170 h
  ·
    refine T_iconst (v := 0) dX11_run_78 (by decide +kernel) ?_
    refine T_istore (lv' := [.ref 0, .int x1, .int x2, .int x3, .int x4, .int x5, .int x6, .int 0]) dX11_run_79 (by decide) rfl ?_
    exact h

set_option maxRecDepth 100000 in
theorem sgX11_run_81 {d : Nat} {I : st_I} {L : st_L} {F : Int32 → st_I → st_L → Prop} {x1 : Int32} {x2 : Int32} {x3 : Int32} {x4 : Int32} {x5 : Int32} {x6 : Int32} {x7 : Int32} (h : EI d mX8_sat [.ref 1, .int x1, .int x6, .int 3] I L (fun r1 I1 L1 => (if r1 ≤ x7 then TI (d + 1) mX11_run 65 [.ref 0, .int x1, .int x2, .int x3, .int x4, .int x5, .int (x6 + 1), .null] [] I1 L1 F else EV d mX7_seat [.ref 25, .ref 1, .int x1, .int x6, .int x7, .int x4] I1 L1 (fun I2 L2 => EI d mX7_like [.ref 25, .ref 1, .int x2] I2 L2 (fun r3 I3 L3 => EI d mX7_like [.ref 25, .ref 1, .int x3] I3 L3 (fun r4 I4 L4 => EV d mX11_answer [.ref 0, .int x1, .int x6, .int x7, .int r3, .int (if r4 ≤ 0 then (0 : Int32) else 1)] I4 L4 (fun I5 L5 => TI (d + 1) mX11_run 81 [.ref 0, .int x1, .int x2, .int x3, .int x4, .int x5, .int x6, .int (x7 + 1)] [] I5 L5 F))))))) : TI (d + 1) mX11_run 81 [.ref 0, .int x1, .int x2, .int x3, .int x4, .int x5, .int x6, .int x7] [] I L F := by
  refine T_iload dX11_run_81 rfl ?_
  refine T_aload_n dX11_run_83 rfl ?_
  refine T_getr dX11_run_84 fl_RX11_19 shp_0 rfl ?_
  refine T_iload_n dX11_run_87 rfl ?_
  refine T_iload dX11_run_88 rfl ?_
  refine T_iconst (v := 3) dX11_run_90 (by decide +kernel) ?_
  refine S_callVI (M' := mX8_sat) [.int x1, .int x6, .int 3] [.int x7] dX11_run_91 ml_RX11_135 mkX8_sat rfl shp_1 rfl rfl rfl (Nat.le_of_ble_eq_true rfl) h (fun r1 I1 L1 h => ?_)
  refine T_icmp_ge (tgt := 162) dX11_run_94 (by decide) (tq_ite h (fun h => ?_) (fun h => ?_))
  ·
    refine T_iinc (lv' := [.ref 0, .int x1, .int x2, .int x3, .int x4, .int x5, .int (x6 + 1), .int x7]) dX11_run_162 rfl (by decide) rfl ?_
    refine T_goto (tgt := 65) dX11_run_165 (by decide) ?_
    exact T_wk (lv' := [.ref 0, .int x1, .int x2, .int x3, .int x4, .int x5, .int (x6 + 1), .null]) ⟨Or.inr rfl, Or.inr rfl, Or.inr rfl, Or.inr rfl, Or.inr rfl, Or.inr rfl, Or.inr rfl, Or.inl rfl, trivial⟩ h
  ·
    refine T_aload_n dX11_run_97 rfl ?_
    refine T_getr dX11_run_98 fl_RX11_26 shp_0 rfl ?_
    refine T_aload_n dX11_run_101 rfl ?_
    refine T_getr dX11_run_102 fl_RX11_19 shp_0 rfl ?_
    refine T_iload_n dX11_run_105 rfl ?_
    refine T_iload dX11_run_106 rfl ?_
    refine T_iload dX11_run_108 rfl ?_
    refine T_iload dX11_run_110 rfl ?_
    refine S_callVV (M' := mX7_seat) [.ref 1, .int x1, .int x6, .int x7, .int x4] [] dX11_run_112 ml_RX11_179 mkX7_seat rfl shp_25 rfl rfl rfl (Nat.le_of_ble_eq_true rfl) h (fun I2 L2 h => ?_)
    refine T_aload_n dX11_run_115 rfl ?_
    refine T_iload_n dX11_run_116 rfl ?_
    refine T_iload dX11_run_117 rfl ?_
    refine T_iload dX11_run_119 rfl ?_
    refine T_aload_n dX11_run_121 rfl ?_
    refine T_getr dX11_run_122 fl_RX11_26 shp_0 rfl ?_
    refine T_aload_n dX11_run_125 rfl ?_
    refine T_getr dX11_run_126 fl_RX11_19 shp_0 rfl ?_
    refine T_iload_n dX11_run_129 rfl ?_
    refine S_callVI (M' := mX7_like) [.ref 1, .int x2] [.int x7, .int x6, .int x1, .ref 0] dX11_run_130 ml_RX11_155 mkX7_like rfl shp_25 rfl rfl rfl (Nat.le_of_ble_eq_true rfl) h (fun r3 I3 L3 h => ?_)
    refine T_aload_n dX11_run_133 rfl ?_
    refine T_getr dX11_run_134 fl_RX11_26 shp_0 rfl ?_
    refine T_aload_n dX11_run_137 rfl ?_
    refine T_getr dX11_run_138 fl_RX11_19 shp_0 rfl ?_
    refine T_iload_n dX11_run_141 rfl ?_
    refine S_callVI (M' := mX7_like) [.ref 1, .int x3] [.int r3, .int x7, .int x6, .int x1, .ref 0] dX11_run_142 ml_RX11_155 mkX7_like rfl shp_25 rfl rfl rfl (Nat.le_of_ble_eq_true rfl) h (fun r4 I4 L4 h => ?_)
    refine T_if_le (tgt := 152) dX11_run_145 (by decide) (tq_itv (fun v => T shp (d + 1) mX11_run 153 [.ref 0, .int x1, .int x2, .int x3, .int x4, .int x5, .int x6, .int x7] (.int v :: [.int r3, .int x7, .int x6, .int x1, .ref 0]) I4 L4 (kI F)) 0 1 (fun hJ => ?_) (fun hJ => ?_) ?_)
    ·
        refine T_iconst (v := 0) dX11_run_152 (by decide +kernel) ?_
        exact hJ
    ·
        refine T_iconst (v := 1) dX11_run_148 (by decide +kernel) ?_
        refine T_goto (tgt := 153) dX11_run_149 (by decide) ?_
        exact hJ
    refine S_callVV (M' := mX11_answer) [.int x1, .int x6, .int x7, .int r3, .int (if r4 ≤ 0 then (0 : Int32) else 1)] [] dX11_run_153 ml_RX11_183 mkX11_answer rfl shp_0 rfl rfl rfl (Nat.le_of_ble_eq_true rfl) h (fun I5 L5 h => ?_)
    refine T_iinc (lv' := [.ref 0, .int x1, .int x2, .int x3, .int x4, .int x5, .int x6, .int (x7 + 1)]) dX11_run_156 rfl (by decide) rfl ?_
    refine T_goto (tgt := 81) dX11_run_159 (by decide) ?_
    exact h

theorem dX11_answer_0 : decode cX11_answer 0 = .ok (.aload_n 0, 1) := by decide +kernel
theorem dX11_answer_1 : decode cX11_answer 1 = .ok (.getfield 19, 3) := by decide +kernel
theorem dX11_answer_4 : decode cX11_answer 4 = .ok (.iload_n 1, 1) := by decide +kernel
theorem dX11_answer_5 : decode cX11_answer 5 = .ok (.iload_n 2, 1) := by decide +kernel
theorem dX11_answer_6 : decode cX11_answer 6 = .ok (.iconst 0, 1) := by decide +kernel
theorem dX11_answer_7 : decode cX11_answer 7 = .ok (.invokevirtual 135, 3) := by decide +kernel
theorem dX11_answer_10 : decode cX11_answer 10 = .ok (.istore 6, 2) := by decide +kernel
theorem dX11_answer_12 : decode cX11_answer 12 = .ok (.aload_n 0, 1) := by decide +kernel
theorem dX11_answer_13 : decode cX11_answer 13 = .ok (.getfield 19, 3) := by decide +kernel
theorem dX11_answer_16 : decode cX11_answer 16 = .ok (.iload_n 1, 1) := by decide +kernel
theorem dX11_answer_17 : decode cX11_answer 17 = .ok (.iload_n 2, 1) := by decide +kernel
theorem dX11_answer_18 : decode cX11_answer 18 = .ok (.iconst 4, 1) := by decide +kernel
theorem dX11_answer_19 : decode cX11_answer 19 = .ok (.iload_n 3, 1) := by decide +kernel
theorem dX11_answer_20 : decode cX11_answer 20 = .ok (.iadd, 1) := by decide +kernel
theorem dX11_answer_21 : decode cX11_answer 21 = .ok (.invokevirtual 135, 3) := by decide +kernel
theorem dX11_answer_24 : decode cX11_answer 24 = .ok (.istore 7, 2) := by decide +kernel
theorem dX11_answer_26 : decode cX11_answer 26 = .ok (.aload_n 0, 1) := by decide +kernel
theorem dX11_answer_27 : decode cX11_answer 27 = .ok (.getfield 19, 3) := by decide +kernel
theorem dX11_answer_30 : decode cX11_answer 30 = .ok (.iload_n 1, 1) := by decide +kernel
theorem dX11_answer_31 : decode cX11_answer 31 = .ok (.iload_n 2, 1) := by decide +kernel
theorem dX11_answer_32 : decode cX11_answer 32 = .ok (.iconst 2, 1) := by decide +kernel
theorem dX11_answer_33 : decode cX11_answer 33 = .ok (.invokevirtual 135, 3) := by decide +kernel
theorem dX11_answer_36 : decode cX11_answer 36 = .ok (.istore 8, 2) := by decide +kernel
theorem dX11_answer_38 : decode cX11_answer 38 = .ok (.aload_n 0, 1) := by decide +kernel
theorem dX11_answer_39 : decode cX11_answer 39 = .ok (.getfield 33, 3) := by decide +kernel
theorem dX11_answer_42 : decode cX11_answer 42 = .ok (.iconst 0, 1) := by decide +kernel
theorem dX11_answer_43 : decode cX11_answer 43 = .ok (.iload 6, 2) := by decide +kernel
theorem dX11_answer_45 : decode cX11_answer 45 = .ok (.iload 7, 2) := by decide +kernel
theorem dX11_answer_47 : decode cX11_answer 47 = .ok (.iconst 0, 1) := by decide +kernel
theorem dX11_answer_48 : decode cX11_answer 48 = .ok (.bipush 100, 2) := by decide +kernel
theorem dX11_answer_50 : decode cX11_answer 50 = .ok (.iload 4, 2) := by decide +kernel
theorem dX11_answer_52 : decode cX11_answer 52 = .ok (.invokestatic 187, 3) := by decide +kernel
theorem dX11_answer_55 : decode cX11_answer 55 = .ok (.invokestatic 193, 3) := by decide +kernel
theorem dX11_answer_58 : decode cX11_answer 58 = .ok (.iload_n 3, 1) := by decide +kernel
theorem dX11_answer_59 : decode cX11_answer 59 = .ok (.iload 8, 2) := by decide +kernel
theorem dX11_answer_61 : decode cX11_answer 61 = .ok (.invokevirtual 196, 3) := by decide +kernel
theorem dX11_answer_64 : decode cX11_answer 64 = .ok (.pop, 1) := by decide +kernel
theorem dX11_answer_65 : decode cX11_answer 65 = .ok (.iload 8, 2) := by decide +kernel
theorem dX11_answer_67 : decode cX11_answer 67 = .ok (.ifCond .ne 28, 3) := by decide +kernel
theorem dX11_answer_70 : decode cX11_answer 70 = .ok (.aload_n 0, 1) := by decide +kernel
theorem dX11_answer_71 : decode cX11_answer 71 = .ok (.getfield 33, 3) := by decide +kernel
theorem dX11_answer_74 : decode cX11_answer 74 = .ok (.iconst 1, 1) := by decide +kernel
theorem dX11_answer_75 : decode cX11_answer 75 = .ok (.iload 6, 2) := by decide +kernel
theorem dX11_answer_77 : decode cX11_answer 77 = .ok (.iload 7, 2) := by decide +kernel
theorem dX11_answer_79 : decode cX11_answer 79 = .ok (.iload 5, 2) := by decide +kernel
theorem dX11_answer_81 : decode cX11_answer 81 = .ok (.ifCond .eq 7, 3) := by decide +kernel
theorem dX11_answer_84 : decode cX11_answer 84 = .ok (.iconst 1, 1) := by decide +kernel
theorem dX11_answer_85 : decode cX11_answer 85 = .ok (.goto 4, 3) := by decide +kernel
theorem dX11_answer_88 : decode cX11_answer 88 = .ok (.iconst 0, 1) := by decide +kernel
theorem dX11_answer_89 : decode cX11_answer 89 = .ok (.iconst (-1), 1) := by decide +kernel
theorem dX11_answer_90 : decode cX11_answer 90 = .ok (.iconst (-1), 1) := by decide +kernel
theorem dX11_answer_91 : decode cX11_answer 91 = .ok (.invokevirtual 196, 3) := by decide +kernel
theorem dX11_answer_94 : decode cX11_answer 94 = .ok (.pop, 1) := by decide +kernel
theorem dX11_answer_95 : decode cX11_answer 95 = .ok (.return_, 1) := by decide +kernel
set_option maxRecDepth 100000 in
theorem sgX11_answer_0 {d : Nat} {I : st_I} {L : st_L} {F : st_I → st_L → Prop} {a1 : Int32} {a2 : Int32} {a3 : Int32} {a4 : Int32} {a5 : Int32} (h : EI d mX8_sat [.ref 1, .int a1, .int a2, .int 0] I L (fun r1 I1 L1 => EI d mX8_sat [.ref 1, .int a1, .int a2, .int (4 + a3)] I1 L1 (fun r2 I2 L2 => EI d mX8_sat [.ref 1, .int a1, .int a2, .int 2] I2 L2 (fun r3 I3 L3 => EI d mX0_add [.ref 28, .int 0, .int r1, .int r2, .int (if 0 < (if a4 < 100 then a4 else 100) then (if a4 < 100 then a4 else 100) else 0), .int a3, .int r3] I3 L3 (fun r4 I4 L4 => (if r3 = 0 then EI d mX0_add [.ref 28, .int 1, .int r1, .int r2, .int (if a5 = 0 then (0 : Int32) else 1), .int (-1), .int (-1)] I4 L4 (fun r5 I5 L5 => F I5 L5) else F I4 L4)))))) : EV (d + 1) mX11_answer [.ref 0, .int a1, .int a2, .int a3, .int a4, .int a5] I L F := by
  refine Ev_of (ls0 := 3) (by decide +kernel) rfl rfl rfl ?_
  refine T_aload_n dX11_answer_0 rfl ?_
  refine T_getr dX11_answer_1 fl_RX11_19 shp_0 rfl ?_
  refine T_iload_n dX11_answer_4 rfl ?_
  refine T_iload_n dX11_answer_5 rfl ?_
  refine T_iconst (v := 0) dX11_answer_6 (by decide +kernel) ?_
  refine S_callVI (M' := mX8_sat) [.int a1, .int a2, .int 0] [] dX11_answer_7 ml_RX11_135 mkX8_sat rfl shp_1 rfl rfl rfl (Nat.le_of_ble_eq_true rfl) h (fun r1 I1 L1 h => ?_)
  refine T_istore (lv' := [.ref 0, .int a1, .int a2, .int a3, .int a4, .int a5, .int r1, .null, .null]) dX11_answer_10 (by decide) rfl ?_
  refine T_aload_n dX11_answer_12 rfl ?_
  refine T_getr dX11_answer_13 fl_RX11_19 shp_0 rfl ?_
  refine T_iload_n dX11_answer_16 rfl ?_
  refine T_iload_n dX11_answer_17 rfl ?_
  refine T_iconst (v := 4) dX11_answer_18 (by decide +kernel) ?_
  refine T_iload_n dX11_answer_19 rfl ?_
  refine T_iadd dX11_answer_20 ?_
  refine S_callVI (M' := mX8_sat) [.int a1, .int a2, .int (4 + a3)] [] dX11_answer_21 ml_RX11_135 mkX8_sat rfl shp_1 rfl rfl rfl (Nat.le_of_ble_eq_true rfl) h (fun r2 I2 L2 h => ?_)
  refine T_istore (lv' := [.ref 0, .int a1, .int a2, .int a3, .int a4, .int a5, .int r1, .int r2, .null]) dX11_answer_24 (by decide) rfl ?_
  refine T_aload_n dX11_answer_26 rfl ?_
  refine T_getr dX11_answer_27 fl_RX11_19 shp_0 rfl ?_
  refine T_iload_n dX11_answer_30 rfl ?_
  refine T_iload_n dX11_answer_31 rfl ?_
  refine T_iconst (v := 2) dX11_answer_32 (by decide +kernel) ?_
  refine S_callVI (M' := mX8_sat) [.int a1, .int a2, .int 2] [] dX11_answer_33 ml_RX11_135 mkX8_sat rfl shp_1 rfl rfl rfl (Nat.le_of_ble_eq_true rfl) h (fun r3 I3 L3 h => ?_)
  refine T_istore (lv' := [.ref 0, .int a1, .int a2, .int a3, .int a4, .int a5, .int r1, .int r2, .int r3]) dX11_answer_36 (by decide) rfl ?_
  refine T_aload_n dX11_answer_38 rfl ?_
  refine T_getr dX11_answer_39 fl_RX11_33 shp_0 rfl ?_
  refine T_iconst (v := 0) dX11_answer_42 (by decide +kernel) ?_
  refine T_iload dX11_answer_43 rfl ?_
  refine T_iload dX11_answer_45 rfl ?_
  refine T_iconst (v := 0) dX11_answer_47 (by decide +kernel) ?_
  refine T_bipush (v := 100) dX11_answer_48 (by decide +kernel) ?_
  refine T_iload dX11_answer_50 rfl ?_
  refine T_mmin dX11_answer_52 ml_RX11_187 (Nat.le_of_ble_eq_true rfl) ?_
  refine T_mmax dX11_answer_55 ml_RX11_193 (Nat.le_of_ble_eq_true rfl) ?_
  refine T_iload_n dX11_answer_58 rfl ?_
  refine T_iload dX11_answer_59 rfl ?_
  refine S_callVI (M' := mX0_add) [.int 0, .int r1, .int r2, .int (if 0 < (if a4 < 100 then a4 else 100) then (if a4 < 100 then a4 else 100) else 0), .int a3, .int r3] [] dX11_answer_61 ml_RX11_196 mkX0_add rfl shp_28 rfl rfl rfl (Nat.le_of_ble_eq_true rfl) h (fun r4 I4 L4 h => ?_)
  refine T_pop dX11_answer_64 rfl ?_
  refine T_iload dX11_answer_65 rfl ?_
  refine T_if_ne (tgt := 95) dX11_answer_67 (by decide) (tq_ite h (fun h => ?_) (fun h => ?_))
  ·
    refine T_aload_n dX11_answer_70 rfl ?_
    refine T_getr dX11_answer_71 fl_RX11_33 shp_0 rfl ?_
    refine T_iconst (v := 1) dX11_answer_74 (by decide +kernel) ?_
    refine T_iload dX11_answer_75 rfl ?_
    refine T_iload dX11_answer_77 rfl ?_
    refine T_iload dX11_answer_79 rfl ?_
    refine T_if_eq (tgt := 88) dX11_answer_81 (by decide) (tq_itv (fun v => T shp (d + 1) mX11_answer 89 [.ref 0, .int a1, .int a2, .int a3, .int a4, .int a5, .int r1, .int r2, .int r3] (.int v :: [.int r2, .int r1, .int 1, .ref 28]) I4 L4 (kV F)) 0 1 (fun hJ => ?_) (fun hJ => ?_) ?_)
    ·
        refine T_iconst (v := 0) dX11_answer_88 (by decide +kernel) ?_
        exact hJ
    ·
        refine T_iconst (v := 1) dX11_answer_84 (by decide +kernel) ?_
        refine T_goto (tgt := 89) dX11_answer_85 (by decide) ?_
        exact hJ
    refine T_iconst (v := (-1)) dX11_answer_89 (by decide +kernel) ?_
    refine T_iconst (v := (-1)) dX11_answer_90 (by decide +kernel) ?_
    refine S_callVI (M' := mX0_add) [.int 1, .int r1, .int r2, .int (if a5 = 0 then (0 : Int32) else 1), .int (-1), .int (-1)] [] dX11_answer_91 ml_RX11_196 mkX0_add rfl shp_28 rfl rfl rfl (Nat.le_of_ble_eq_true rfl) h (fun r5 I5 L5 h => ?_)
    refine T_pop dX11_answer_94 rfl ?_
    exact S_vret rfl dX11_answer_95 h
  ·
    exact S_vret rfl dX11_answer_95 h

theorem dX11_touch_0 : decode cX11_touch 0 = .ok (.aload_n 0, 1) := by decide +kernel
theorem dX11_touch_1 : decode cX11_touch 1 = .ok (.getfield 19, 3) := by decide +kernel
theorem dX11_touch_4 : decode cX11_touch 4 = .ok (.iload_n 1, 1) := by decide +kernel
theorem dX11_touch_5 : decode cX11_touch 5 = .ok (.invokevirtual 139, 3) := by decide +kernel
theorem dX11_touch_8 : decode cX11_touch 8 = .ok (.ifCond .eq 17, 3) := by decide +kernel
theorem dX11_touch_11 : decode cX11_touch 11 = .ok (.aload_n 0, 1) := by decide +kernel
theorem dX11_touch_12 : decode cX11_touch 12 = .ok (.getfield 19, 3) := by decide +kernel
theorem dX11_touch_15 : decode cX11_touch 15 = .ok (.iload_n 2, 1) := by decide +kernel
theorem dX11_touch_16 : decode cX11_touch 16 = .ok (.iload_n 3, 1) := by decide +kernel
theorem dX11_touch_17 : decode cX11_touch 17 = .ok (.iload 4, 2) := by decide +kernel
theorem dX11_touch_19 : decode cX11_touch 19 = .ok (.invokevirtual 142, 3) := by decide +kernel
theorem dX11_touch_22 : decode cX11_touch 22 = .ok (.ifCond .ne 6, 3) := by decide +kernel
theorem dX11_touch_25 : decode cX11_touch 25 = .ok (.ldc 146, 2) := by decide +kernel
theorem dX11_touch_27 : decode cX11_touch 27 = .ok (.ireturn, 1) := by decide +kernel
theorem dX11_touch_28 : decode cX11_touch 28 = .ok (.iload 5, 2) := by decide +kernel
theorem dX11_touch_30 : decode cX11_touch 30 = .ok (.ifCond .lt 9, 3) := by decide +kernel
theorem dX11_touch_33 : decode cX11_touch 33 = .ok (.iload 5, 2) := by decide +kernel
theorem dX11_touch_35 : decode cX11_touch 35 = .ok (.iconst 3, 1) := by decide +kernel
theorem dX11_touch_36 : decode cX11_touch 36 = .ok (.if_icmp .le 6, 3) := by decide +kernel
theorem dX11_touch_39 : decode cX11_touch 39 = .ok (.ldc 146, 2) := by decide +kernel
theorem dX11_touch_41 : decode cX11_touch 41 = .ok (.ireturn, 1) := by decide +kernel
theorem dX11_touch_42 : decode cX11_touch 42 = .ok (.aload_n 0, 1) := by decide +kernel
theorem dX11_touch_43 : decode cX11_touch 43 = .ok (.getfield 26, 3) := by decide +kernel
theorem dX11_touch_46 : decode cX11_touch 46 = .ok (.aload_n 0, 1) := by decide +kernel
theorem dX11_touch_47 : decode cX11_touch 47 = .ok (.getfield 19, 3) := by decide +kernel
theorem dX11_touch_50 : decode cX11_touch 50 = .ok (.iload_n 2, 1) := by decide +kernel
theorem dX11_touch_51 : decode cX11_touch 51 = .ok (.iload_n 3, 1) := by decide +kernel
theorem dX11_touch_52 : decode cX11_touch 52 = .ok (.iload 4, 2) := by decide +kernel
theorem dX11_touch_54 : decode cX11_touch 54 = .ok (.invokevirtual 147, 3) := by decide +kernel
theorem dX11_touch_57 : decode cX11_touch 57 = .ok (.aload_n 0, 1) := by decide +kernel
theorem dX11_touch_58 : decode cX11_touch 58 = .ok (.getfield 26, 3) := by decide +kernel
theorem dX11_touch_61 : decode cX11_touch 61 = .ok (.iconst 0, 1) := by decide +kernel
theorem dX11_touch_62 : decode cX11_touch 62 = .ok (.iconst 0, 1) := by decide +kernel
theorem dX11_touch_63 : decode cX11_touch 63 = .ok (.iconst 0, 1) := by decide +kernel
theorem dX11_touch_64 : decode cX11_touch 64 = .ok (.invokevirtual 151, 3) := by decide +kernel
theorem dX11_touch_67 : decode cX11_touch 67 = .ok (.aload_n 0, 1) := by decide +kernel
theorem dX11_touch_68 : decode cX11_touch 68 = .ok (.getfield 26, 3) := by decide +kernel
theorem dX11_touch_71 : decode cX11_touch 71 = .ok (.aload_n 0, 1) := by decide +kernel
theorem dX11_touch_72 : decode cX11_touch 72 = .ok (.getfield 19, 3) := by decide +kernel
theorem dX11_touch_75 : decode cX11_touch 75 = .ok (.iload_n 1, 1) := by decide +kernel
theorem dX11_touch_76 : decode cX11_touch 76 = .ok (.iload 5, 2) := by decide +kernel
theorem dX11_touch_78 : decode cX11_touch 78 = .ok (.iload 6, 2) := by decide +kernel
theorem dX11_touch_80 : decode cX11_touch 80 = .ok (.invokevirtual 200, 3) := by decide +kernel
theorem dX11_touch_83 : decode cX11_touch 83 = .ok (.ireturn, 1) := by decide +kernel
set_option maxRecDepth 100000 in
theorem sgX11_touch_0 {d : Nat} {I : st_I} {L : st_L} {F : Int32 → st_I → st_L → Prop} {a1 : Int32} {a2 : Int32} {a3 : Int32} {a4 : Int32} {a5 : Int32} {a6 : Int32} (h : EI d mX8_hasLaw [.ref 1, .int a1] I L (fun r1 I1 L1 => (if r1 = 0 then F (-2147483648) I1 L1 else EI d mX8_hasMeeting [.ref 1, .int a2, .int a3, .int a4] I1 L1 (fun r2 I2 L2 => (if r2 = 0 then F (-2147483648) I2 L2 else (if a5 < 0 then F (-2147483648) I2 L2 else (if a5 ≤ 3 then EV d mX7_meet [.ref 25, .ref 1, .int a2, .int a3, .int a4] I2 L2 (fun I3 L3 => EV d mX7_attend [.ref 25, .int 0, .int 0, .int 0] I3 L3 (fun I4 L4 => EI d mX7_extreme [.ref 25, .ref 1, .int a1, .int a5, .int a6] I4 L4 (fun r5 I5 L5 => F r5 I5 L5))) else F (-2147483648) I2 L2))))))) : EI (d + 1) mX11_touch [.ref 0, .int a1, .int a2, .int a3, .int a4, .int a5, .int a6] I L F := by
  refine Ev_of (ls0 := 0) (by decide +kernel) rfl rfl rfl ?_
  refine T_aload_n dX11_touch_0 rfl ?_
  refine T_getr dX11_touch_1 fl_RX11_19 shp_0 rfl ?_
  refine T_iload_n dX11_touch_4 rfl ?_
  refine S_callVI (M' := mX8_hasLaw) [.int a1] [] dX11_touch_5 ml_RX11_139 mkX8_hasLaw rfl shp_1 rfl rfl rfl (Nat.le_of_ble_eq_true rfl) h (fun r1 I1 L1 h => ?_)
  refine T_if_eq (tgt := 25) dX11_touch_8 (by decide) (tq_ite h (fun h => ?_) (fun h => ?_))
  ·
    refine T_ldc (v := (-2147483648)) dX11_touch_25 ki_RX11_146 ?_
    exact S_iret rfl dX11_touch_27 h
  ·
    refine T_aload_n dX11_touch_11 rfl ?_
    refine T_getr dX11_touch_12 fl_RX11_19 shp_0 rfl ?_
    refine T_iload_n dX11_touch_15 rfl ?_
    refine T_iload_n dX11_touch_16 rfl ?_
    refine T_iload dX11_touch_17 rfl ?_
    refine S_callVI (M' := mX8_hasMeeting) [.int a2, .int a3, .int a4] [] dX11_touch_19 ml_RX11_142 mkX8_hasMeeting rfl shp_1 rfl rfl rfl (Nat.le_of_ble_eq_true rfl) h (fun r2 I2 L2 h => ?_)
    refine T_if_ne (tgt := 28) dX11_touch_22 (by decide) (tq_ite h (fun h => ?_) (fun h => ?_))
    ·
      refine T_ldc (v := (-2147483648)) dX11_touch_25 ki_RX11_146 ?_
      exact S_iret rfl dX11_touch_27 h
    ·
      refine T_iload dX11_touch_28 rfl ?_
      refine T_if_lt (tgt := 39) dX11_touch_30 (by decide) (tq_ite h (fun h => ?_) (fun h => ?_))
      ·
        refine T_ldc (v := (-2147483648)) dX11_touch_39 ki_RX11_146 ?_
        exact S_iret rfl dX11_touch_41 h
      ·
        refine T_iload dX11_touch_33 rfl ?_
        refine T_iconst (v := 3) dX11_touch_35 (by decide +kernel) ?_
        refine T_icmp_le (tgt := 42) dX11_touch_36 (by decide) (tq_ite h (fun h => ?_) (fun h => ?_))
        ·
          refine T_aload_n dX11_touch_42 rfl ?_
          refine T_getr dX11_touch_43 fl_RX11_26 shp_0 rfl ?_
          refine T_aload_n dX11_touch_46 rfl ?_
          refine T_getr dX11_touch_47 fl_RX11_19 shp_0 rfl ?_
          refine T_iload_n dX11_touch_50 rfl ?_
          refine T_iload_n dX11_touch_51 rfl ?_
          refine T_iload dX11_touch_52 rfl ?_
          refine S_callVV (M' := mX7_meet) [.ref 1, .int a2, .int a3, .int a4] [] dX11_touch_54 ml_RX11_147 mkX7_meet rfl shp_25 rfl rfl rfl (Nat.le_of_ble_eq_true rfl) h (fun I3 L3 h => ?_)
          refine T_aload_n dX11_touch_57 rfl ?_
          refine T_getr dX11_touch_58 fl_RX11_26 shp_0 rfl ?_
          refine T_iconst (v := 0) dX11_touch_61 (by decide +kernel) ?_
          refine T_iconst (v := 0) dX11_touch_62 (by decide +kernel) ?_
          refine T_iconst (v := 0) dX11_touch_63 (by decide +kernel) ?_
          refine S_callVV (M' := mX7_attend) [.int 0, .int 0, .int 0] [] dX11_touch_64 ml_RX11_151 mkX7_attend rfl shp_25 rfl rfl rfl (Nat.le_of_ble_eq_true rfl) h (fun I4 L4 h => ?_)
          refine T_aload_n dX11_touch_67 rfl ?_
          refine T_getr dX11_touch_68 fl_RX11_26 shp_0 rfl ?_
          refine T_aload_n dX11_touch_71 rfl ?_
          refine T_getr dX11_touch_72 fl_RX11_19 shp_0 rfl ?_
          refine T_iload_n dX11_touch_75 rfl ?_
          refine T_iload dX11_touch_76 rfl ?_
          refine T_iload dX11_touch_78 rfl ?_
          refine S_callVI (M' := mX7_extreme) [.ref 1, .int a1, .int a5, .int a6] [] dX11_touch_80 ml_RX11_200 mkX7_extreme rfl shp_25 rfl rfl rfl (Nat.le_of_ble_eq_true rfl) h (fun r5 I5 L5 h => ?_)
          exact S_iret rfl dX11_touch_83 h
        ·
          refine T_ldc (v := (-2147483648)) dX11_touch_39 ki_RX11_146 ?_
          exact S_iret rfl dX11_touch_41 h

theorem dX11_gains_0 : decode cX11_gains 0 = .ok (.aload_n 0, 1) := by decide +kernel
theorem dX11_gains_1 : decode cX11_gains 1 = .ok (.getfield 19, 3) := by decide +kernel
theorem dX11_gains_4 : decode cX11_gains 4 = .ok (.iload_n 1, 1) := by decide +kernel
theorem dX11_gains_5 : decode cX11_gains 5 = .ok (.invokevirtual 139, 3) := by decide +kernel
theorem dX11_gains_8 : decode cX11_gains 8 = .ok (.ifCond .eq 14, 3) := by decide +kernel
theorem dX11_gains_11 : decode cX11_gains 11 = .ok (.aload_n 0, 1) := by decide +kernel
theorem dX11_gains_12 : decode cX11_gains 12 = .ok (.getfield 19, 3) := by decide +kernel
theorem dX11_gains_15 : decode cX11_gains 15 = .ok (.iload_n 2, 1) := by decide +kernel
theorem dX11_gains_16 : decode cX11_gains 16 = .ok (.invokevirtual 204, 3) := by decide +kernel
theorem dX11_gains_19 : decode cX11_gains 19 = .ok (.ifCond .ne 7, 3) := by decide +kernel
theorem dX11_gains_22 : decode cX11_gains 22 = .ok (.ldc2_w 207, 3) := by decide +kernel
theorem dX11_gains_25 : decode cX11_gains 25 = .ok (.lreturn, 1) := by decide +kernel
theorem dX11_gains_26 : decode cX11_gains 26 = .ok (.iload_n 3, 1) := by decide +kernel
theorem dX11_gains_27 : decode cX11_gains 27 = .ok (.ifCond .lt 19, 3) := by decide +kernel
theorem dX11_gains_30 : decode cX11_gains 30 = .ok (.iload_n 3, 1) := by decide +kernel
theorem dX11_gains_31 : decode cX11_gains 31 = .ok (.iconst 3, 1) := by decide +kernel
theorem dX11_gains_32 : decode cX11_gains 32 = .ok (.if_icmp .gt 14, 3) := by decide +kernel
theorem dX11_gains_35 : decode cX11_gains 35 = .ok (.iload 4, 2) := by decide +kernel
theorem dX11_gains_37 : decode cX11_gains 37 = .ok (.ifCond .lt 9, 3) := by decide +kernel
theorem dX11_gains_40 : decode cX11_gains 40 = .ok (.iload 4, 2) := by decide +kernel
theorem dX11_gains_42 : decode cX11_gains 42 = .ok (.iconst 3, 1) := by decide +kernel
theorem dX11_gains_43 : decode cX11_gains 43 = .ok (.if_icmp .le 7, 3) := by decide +kernel
theorem dX11_gains_46 : decode cX11_gains 46 = .ok (.ldc2_w 207, 3) := by decide +kernel
theorem dX11_gains_49 : decode cX11_gains 49 = .ok (.lreturn, 1) := by decide +kernel
theorem dX11_gains_50 : decode cX11_gains 50 = .ok (.iload 4, 2) := by decide +kernel
theorem dX11_gains_52 : decode cX11_gains 52 = .ok (.ifCond .eq 9, 3) := by decide +kernel
theorem dX11_gains_55 : decode cX11_gains 55 = .ok (.iload 4, 2) := by decide +kernel
theorem dX11_gains_57 : decode cX11_gains 57 = .ok (.iconst 2, 1) := by decide +kernel
theorem dX11_gains_58 : decode cX11_gains 58 = .ok (.if_icmp .ne 7, 3) := by decide +kernel
theorem dX11_gains_61 : decode cX11_gains 61 = .ok (.iconst 1, 1) := by decide +kernel
theorem dX11_gains_62 : decode cX11_gains 62 = .ok (.goto 4, 3) := by decide +kernel
theorem dX11_gains_65 : decode cX11_gains 65 = .ok (.iconst 0, 1) := by decide +kernel
theorem dX11_gains_66 : decode cX11_gains 66 = .ok (.istore 5, 2) := by decide +kernel
theorem dX11_gains_68 : decode cX11_gains 68 = .ok (.iload 4, 2) := by decide +kernel
theorem dX11_gains_70 : decode cX11_gains 70 = .ok (.iconst 2, 1) := by decide +kernel
theorem dX11_gains_71 : decode cX11_gains 71 = .ok (.idiv, 1) := by decide +kernel
theorem dX11_gains_72 : decode cX11_gains 72 = .ok (.istore 6, 2) := by decide +kernel
theorem dX11_gains_74 : decode cX11_gains 74 = .ok (.lconst 0, 1) := by decide +kernel
theorem dX11_gains_75 : decode cX11_gains 75 = .ok (.lstore 7, 2) := by decide +kernel
theorem dX11_gains_77 : decode cX11_gains 77 = .ok (.iconst 0, 1) := by decide +kernel
theorem dX11_gains_78 : decode cX11_gains 78 = .ok (.istore 9, 2) := by decide +kernel
theorem dX11_gains_80 : decode cX11_gains 80 = .ok (.iload 9, 2) := by decide +kernel
theorem dX11_gains_82 : decode cX11_gains 82 = .ok (.aload_n 0, 1) := by decide +kernel
theorem dX11_gains_83 : decode cX11_gains 83 = .ok (.getfield 19, 3) := by decide +kernel
theorem dX11_gains_86 : decode cX11_gains 86 = .ok (.getfield 209, 3) := by decide +kernel
theorem dX11_gains_89 : decode cX11_gains 89 = .ok (.if_icmp .ge 56, 3) := by decide +kernel
theorem dX11_gains_92 : decode cX11_gains 92 = .ok (.aload_n 0, 1) := by decide +kernel
theorem dX11_gains_93 : decode cX11_gains 93 = .ok (.getfield 19, 3) := by decide +kernel
theorem dX11_gains_96 : decode cX11_gains 96 = .ok (.iload 9, 2) := by decide +kernel
theorem dX11_gains_98 : decode cX11_gains 98 = .ok (.invokevirtual 170, 3) := by decide +kernel
theorem dX11_gains_101 : decode cX11_gains 101 = .ok (.iload 5, 2) := by decide +kernel
theorem dX11_gains_103 : decode cX11_gains 103 = .ok (.if_icmp .ne 36, 3) := by decide +kernel
theorem dX11_gains_106 : decode cX11_gains 106 = .ok (.aload_n 0, 1) := by decide +kernel
theorem dX11_gains_107 : decode cX11_gains 107 = .ok (.getfield 19, 3) := by decide +kernel
theorem dX11_gains_110 : decode cX11_gains 110 = .ok (.getfield 122, 3) := by decide +kernel
theorem dX11_gains_113 : decode cX11_gains 113 = .ok (.iload 9, 2) := by decide +kernel
theorem dX11_gains_115 : decode cX11_gains 115 = .ok (.iconst 5, 1) := by decide +kernel
theorem dX11_gains_116 : decode cX11_gains 116 = .ok (.imul, 1) := by decide +kernel
theorem dX11_gains_117 : decode cX11_gains 117 = .ok (.iconst 4, 1) := by decide +kernel
theorem dX11_gains_118 : decode cX11_gains 118 = .ok (.iadd, 1) := by decide +kernel
theorem dX11_gains_119 : decode cX11_gains 119 = .ok (.iaload, 1) := by decide +kernel
theorem dX11_gains_120 : decode cX11_gains 120 = .ok (.iload 6, 2) := by decide +kernel
theorem dX11_gains_122 : decode cX11_gains 122 = .ok (.if_icmp .ne 17, 3) := by decide +kernel
theorem dX11_gains_125 : decode cX11_gains 125 = .ok (.lload 7, 2) := by decide +kernel
theorem dX11_gains_127 : decode cX11_gains 127 = .ok (.aload_n 0, 1) := by decide +kernel
theorem dX11_gains_128 : decode cX11_gains 128 = .ok (.iload 9, 2) := by decide +kernel
theorem dX11_gains_130 : decode cX11_gains 130 = .ok (.iload_n 1, 1) := by decide +kernel
theorem dX11_gains_131 : decode cX11_gains 131 = .ok (.iload_n 2, 1) := by decide +kernel
theorem dX11_gains_132 : decode cX11_gains 132 = .ok (.iload_n 3, 1) := by decide +kernel
theorem dX11_gains_133 : decode cX11_gains 133 = .ok (.invokevirtual 212, 3) := by decide +kernel
theorem dX11_gains_136 : decode cX11_gains 136 = .ok (.ladd, 1) := by decide +kernel
theorem dX11_gains_137 : decode cX11_gains 137 = .ok (.lstore 7, 2) := by decide +kernel
theorem dX11_gains_139 : decode cX11_gains 139 = .ok (.iinc 9 1, 3) := by decide +kernel
theorem dX11_gains_142 : decode cX11_gains 142 = .ok (.goto (-62), 3) := by decide +kernel
theorem dX11_gains_145 : decode cX11_gains 145 = .ok (.lload 7, 2) := by decide +kernel
theorem dX11_gains_147 : decode cX11_gains 147 = .ok (.lreturn, 1) := by decide +kernel
set_option maxRecDepth 100000 in
theorem sgX11_gains_0 {d : Nat} {I : st_I} {L : st_L} {F : Int64 → st_I → st_L → Prop} {a1 : Int32} {a2 : Int32} {a3 : Int32} {a4 : Int32} (h : EI d mX8_hasLaw [.ref 1, .int a1] I L (fun r1 I1 L1 => (if r1 = 0 then F (-1) I1 L1 else EI d mX8_hasBow [.ref 1, .int a2] I1 L1 (fun r2 I2 L2 => (if r2 = 0 then F (-1) I2 L2 else (if a3 < 0 then F (-1) I2 L2 else (if 3 < a3 then F (-1) I2 L2 else (if a4 < 0 then F (-1) I2 L2 else (if a4 ≤ 3 then TL (d + 1) mX11_gains 80 [.ref 0, .int a1, .int a2, .int a3, .null, .int (if a4 = 0 then (1 : Int32) else (if a4 = 2 then (1 : Int32) else 0)), .int (a4 / 2), .long 0, .null, .int 0] [] I2 L2 F else F (-1) I2 L2))))))))) : EL (d + 1) mX11_gains [.ref 0, .int a1, .int a2, .int a3, .int a4] I L F := by
  refine Ev_of (ls0 := 5) (by decide +kernel) rfl rfl rfl ?_
  refine T_aload_n dX11_gains_0 rfl ?_
  refine T_getr dX11_gains_1 fl_RX11_19 shp_0 rfl ?_
  refine T_iload_n dX11_gains_4 rfl ?_
  refine S_callVI (M' := mX8_hasLaw) [.int a1] [] dX11_gains_5 ml_RX11_139 mkX8_hasLaw rfl shp_1 rfl rfl rfl (Nat.le_of_ble_eq_true rfl) h (fun r1 I1 L1 h => ?_)
  refine T_if_eq (tgt := 22) dX11_gains_8 (by decide) (tq_ite h (fun h => ?_) (fun h => ?_))
  ·
    refine T_ldc2 (v := (-1)) dX11_gains_22 ki_RX11_207 ?_
    exact S_lret rfl dX11_gains_25 h
  ·
    refine T_aload_n dX11_gains_11 rfl ?_
    refine T_getr dX11_gains_12 fl_RX11_19 shp_0 rfl ?_
    refine T_iload_n dX11_gains_15 rfl ?_
    refine S_callVI (M' := mX8_hasBow) [.int a2] [] dX11_gains_16 ml_RX11_204 mkX8_hasBow rfl shp_1 rfl rfl rfl (Nat.le_of_ble_eq_true rfl) h (fun r2 I2 L2 h => ?_)
    refine T_if_ne (tgt := 26) dX11_gains_19 (by decide) (tq_ite h (fun h => ?_) (fun h => ?_))
    ·
      refine T_ldc2 (v := (-1)) dX11_gains_22 ki_RX11_207 ?_
      exact S_lret rfl dX11_gains_25 h
    ·
      refine T_iload_n dX11_gains_26 rfl ?_
      refine T_if_lt (tgt := 46) dX11_gains_27 (by decide) (tq_ite h (fun h => ?_) (fun h => ?_))
      ·
        refine T_ldc2 (v := (-1)) dX11_gains_46 ki_RX11_207 ?_
        exact S_lret rfl dX11_gains_49 h
      ·
        refine T_iload_n dX11_gains_30 rfl ?_
        refine T_iconst (v := 3) dX11_gains_31 (by decide +kernel) ?_
        refine T_icmp_gt (tgt := 46) dX11_gains_32 (by decide) (tq_ite h (fun h => ?_) (fun h => ?_))
        ·
          refine T_ldc2 (v := (-1)) dX11_gains_46 ki_RX11_207 ?_
          exact S_lret rfl dX11_gains_49 h
        ·
          refine T_iload dX11_gains_35 rfl ?_
          refine T_if_lt (tgt := 46) dX11_gains_37 (by decide) (tq_ite h (fun h => ?_) (fun h => ?_))
          ·
            refine T_ldc2 (v := (-1)) dX11_gains_46 ki_RX11_207 ?_
            exact S_lret rfl dX11_gains_49 h
          ·
            refine T_iload dX11_gains_40 rfl ?_
            refine T_iconst (v := 3) dX11_gains_42 (by decide +kernel) ?_
            refine T_icmp_le (tgt := 50) dX11_gains_43 (by decide) (tq_ite h (fun h => ?_) (fun h => ?_))
            ·
              refine T_iload dX11_gains_50 rfl ?_
              refine T_if_eq (tgt := 61) dX11_gains_52 (by decide) (tq_itv (fun v => T shp (d + 1) mX11_gains 66 [.ref 0, .int a1, .int a2, .int a3, .int a4, .null, .null, .null, .null, .null] (.int v :: []) I2 L2 (kL F)) 1 (if a4 = 2 then (1 : Int32) else 0) (fun hJ => ?_) (fun hJ => ?_) ?_)
              ·
                  refine T_iconst (v := 1) dX11_gains_61 (by decide +kernel) ?_
                  refine T_goto (tgt := 66) dX11_gains_62 (by decide) ?_
                  exact hJ
              ·
                  refine T_iload dX11_gains_55 rfl ?_
                  refine T_iconst (v := 2) dX11_gains_57 (by decide +kernel) ?_
                  refine T_icmp_ne (tgt := 65) dX11_gains_58 (by decide) (tq_itv (fun v => T shp (d + 1) mX11_gains 66 [.ref 0, .int a1, .int a2, .int a3, .int a4, .null, .null, .null, .null, .null] (.int v :: []) I2 L2 (kL F)) 1 0 (fun hJ => ?_) (fun hJ => ?_) hJ)
                  ·
                    refine T_iconst (v := 1) dX11_gains_61 (by decide +kernel) ?_
                    refine T_goto (tgt := 66) dX11_gains_62 (by decide) ?_
                    exact hJ
                  ·
                    refine T_iconst (v := 0) dX11_gains_65 (by decide +kernel) ?_
                    exact hJ
              refine T_istore (lv' := [.ref 0, .int a1, .int a2, .int a3, .int a4, .int (if a4 = 0 then (1 : Int32) else (if a4 = 2 then (1 : Int32) else 0)), .null, .null, .null, .null]) dX11_gains_66 (by decide) rfl ?_
              refine T_iload dX11_gains_68 rfl ?_
              refine T_iconst (v := 2) dX11_gains_70 (by decide +kernel) ?_
              refine T_idiv dX11_gains_71 (by decide) ?_
              refine T_istore (lv' := [.ref 0, .int a1, .int a2, .int a3, .int a4, .int (if a4 = 0 then (1 : Int32) else (if a4 = 2 then (1 : Int32) else 0)), .int (a4 / 2), .null, .null, .null]) dX11_gains_72 (by decide) rfl ?_
              refine T_lconst (v := 0) dX11_gains_74 (by decide +kernel) ?_
              refine T_lstore (lv' := [.ref 0, .int a1, .int a2, .int a3, .int a4, .int (if a4 = 0 then (1 : Int32) else (if a4 = 2 then (1 : Int32) else 0)), .int (a4 / 2), .long 0, .null, .null]) dX11_gains_75 (by decide) rfl ?_
              refine T_iconst (v := 0) dX11_gains_77 (by decide +kernel) ?_
              refine T_istore (lv' := [.ref 0, .int a1, .int a2, .int a3, .int a4, .int (if a4 = 0 then (1 : Int32) else (if a4 = 2 then (1 : Int32) else 0)), .int (a4 / 2), .long 0, .null, .int 0]) dX11_gains_78 (by decide) rfl ?_
              exact T_wk (lv' := [.ref 0, .int a1, .int a2, .int a3, .null, .int (if a4 = 0 then (1 : Int32) else (if a4 = 2 then (1 : Int32) else 0)), .int (a4 / 2), .long 0, .null, .int 0]) ⟨Or.inr rfl, Or.inr rfl, Or.inr rfl, Or.inr rfl, Or.inl rfl, Or.inr rfl, Or.inr rfl, Or.inr rfl, Or.inr rfl, Or.inr rfl, trivial⟩ h
            ·
              refine T_ldc2 (v := (-1)) dX11_gains_46 ki_RX11_207 ?_
              exact S_lret rfl dX11_gains_49 h

set_option maxRecDepth 100000 in
theorem sgX11_gains_80 {d : Nat} {I : st_I} {L : st_L} {F : Int64 → st_I → st_L → Prop} {x1 : Int32} {x2 : Int32} {x3 : Int32} {x5 : Int32} {x6 : Int32} {x7 : Int64} {x9 : Int32} (h : (if (I 1 0) ≤ x9 then F x7 I L else EI d mX8_isOld [.ref 1, .int x9] I L (fun r1 I1 L1 => (if r1 = x5 then vp_in ((x9 * 5) + 4) 40 ∧ (if (I1 2 (((x9 * 5) + 4).toNatClampNeg)) = x6 then EL d mX11_gainsOn [.ref 0, .int x9, .int x1, .int x2, .int x3] I1 L1 (fun r2 I2 L2 => TL (d + 1) mX11_gains 80 [.ref 0, .int x1, .int x2, .int x3, .null, .int x5, .int x6, .long (x7 + r2), .null, .int (x9 + 1)] [] I2 L2 F) else TL (d + 1) mX11_gains 80 [.ref 0, .int x1, .int x2, .int x3, .null, .int x5, .int x6, .long x7, .null, .int (x9 + 1)] [] I1 L1 F) else TL (d + 1) mX11_gains 80 [.ref 0, .int x1, .int x2, .int x3, .null, .int x5, .int x6, .long x7, .null, .int (x9 + 1)] [] I1 L1 F)))) : TL (d + 1) mX11_gains 80 [.ref 0, .int x1, .int x2, .int x3, .null, .int x5, .int x6, .long x7, .null, .int x9] [] I L F := by
  refine T_iload dX11_gains_80 rfl ?_
  refine T_aload_n dX11_gains_82 rfl ?_
  refine T_getr dX11_gains_83 fl_RX11_19 shp_0 rfl ?_
  refine T_getv (v := (I 1 0)) dX11_gains_86 fl_RX11_209 shp_1 rfl rfl ?_
  refine T_icmp_ge (tgt := 145) dX11_gains_89 (by decide) (tq_ite h (fun h => ?_) (fun h => ?_))
  ·
    refine T_lload dX11_gains_145 rfl ?_
    exact S_lret rfl dX11_gains_147 h
  ·
    refine T_aload_n dX11_gains_92 rfl ?_
    refine T_getr dX11_gains_93 fl_RX11_19 shp_0 rfl ?_
    refine T_iload dX11_gains_96 rfl ?_
    refine S_callVI (M' := mX8_isOld) [.int x9] [] dX11_gains_98 ml_RX11_170 mkX8_isOld rfl shp_1 rfl rfl rfl (Nat.le_of_ble_eq_true rfl) h (fun r1 I1 L1 h => ?_)
    refine T_iload dX11_gains_101 rfl ?_
    refine T_icmp_ne (tgt := 139) dX11_gains_103 (by decide) (tq_ite h (fun h => ?_) (fun h => ?_))
    ·
      refine T_aload_n dX11_gains_106 rfl ?_
      refine T_getr dX11_gains_107 fl_RX11_19 shp_0 rfl ?_
      refine T_getr dX11_gains_110 fl_RX11_122 shp_1 rfl ?_
      refine T_iload dX11_gains_113 rfl ?_
      refine T_iconst (v := 5) dX11_gains_115 (by decide +kernel) ?_
      refine T_imul dX11_gains_116 ?_
      refine T_iconst (v := 4) dX11_gains_117 (by decide +kernel) ?_
      refine T_iadd dX11_gains_118 ?_
      refine T_ialdv (v := (I1 2 (((x9 * 5) + 4).toNatClampNeg))) (j := ((x9 * 5) + 4).toNatClampNeg) dX11_gains_119 shp_2 h.1 rfl rfl ?_
      replace h := h.2
      refine T_iload dX11_gains_120 rfl ?_
      refine T_icmp_ne (tgt := 139) dX11_gains_122 (by decide) (tq_ite h (fun h => ?_) (fun h => ?_))
      ·
        refine T_lload dX11_gains_125 rfl ?_
        refine T_aload_n dX11_gains_127 rfl ?_
        refine T_iload dX11_gains_128 rfl ?_
        refine T_iload_n dX11_gains_130 rfl ?_
        refine T_iload_n dX11_gains_131 rfl ?_
        refine T_iload_n dX11_gains_132 rfl ?_
        refine S_callVL (M' := mX11_gainsOn) [.int x9, .int x1, .int x2, .int x3] [.long x7] dX11_gains_133 ml_RX11_212 mkX11_gainsOn rfl shp_0 rfl rfl rfl (Nat.le_of_ble_eq_true rfl) h (fun r2 I2 L2 h => ?_)
        refine T_ladd dX11_gains_136 ?_
        refine T_lstore (lv' := [.ref 0, .int x1, .int x2, .int x3, .null, .int x5, .int x6, .long (x7 + r2), .null, .int x9]) dX11_gains_137 (by decide) rfl ?_
        refine T_iinc (lv' := [.ref 0, .int x1, .int x2, .int x3, .null, .int x5, .int x6, .long (x7 + r2), .null, .int (x9 + 1)]) dX11_gains_139 rfl (by decide) rfl ?_
        refine T_goto (tgt := 80) dX11_gains_142 (by decide) ?_
        exact h
      ·
        refine T_iinc (lv' := [.ref 0, .int x1, .int x2, .int x3, .null, .int x5, .int x6, .long x7, .null, .int (x9 + 1)]) dX11_gains_139 rfl (by decide) rfl ?_
        refine T_goto (tgt := 80) dX11_gains_142 (by decide) ?_
        exact h
    ·
      refine T_iinc (lv' := [.ref 0, .int x1, .int x2, .int x3, .null, .int x5, .int x6, .long x7, .null, .int (x9 + 1)]) dX11_gains_139 rfl (by decide) rfl ?_
      refine T_goto (tgt := 80) dX11_gains_142 (by decide) ?_
      exact h

theorem dX11_gainsOn_0 : decode cX11_gainsOn 0 = .ok (.lconst 0, 1) := by decide +kernel
theorem dX11_gainsOn_1 : decode cX11_gainsOn 1 = .ok (.lstore 5, 2) := by decide +kernel
theorem dX11_gainsOn_3 : decode cX11_gainsOn 3 = .ok (.iconst 0, 1) := by decide +kernel
theorem dX11_gainsOn_4 : decode cX11_gainsOn 4 = .ok (.istore 7, 2) := by decide +kernel
theorem dX11_gainsOn_6 : decode cX11_gainsOn 6 = .ok (.iload 7, 2) := by decide +kernel
theorem dX11_gainsOn_8 : decode cX11_gainsOn 8 = .ok (.aload_n 0, 1) := by decide +kernel
theorem dX11_gainsOn_9 : decode cX11_gainsOn 9 = .ok (.getfield 19, 3) := by decide +kernel
theorem dX11_gainsOn_12 : decode cX11_gainsOn 12 = .ok (.getfield 216, 3) := by decide +kernel
theorem dX11_gainsOn_15 : decode cX11_gainsOn 15 = .ok (.if_icmp .ge 85, 3) := by decide +kernel
theorem dX11_gainsOn_18 : decode cX11_gainsOn 18 = .ok (.aload_n 0, 1) := by decide +kernel
theorem dX11_gainsOn_19 : decode cX11_gainsOn 19 = .ok (.getfield 19, 3) := by decide +kernel
theorem dX11_gainsOn_22 : decode cX11_gainsOn 22 = .ok (.iload 7, 2) := by decide +kernel
theorem dX11_gainsOn_24 : decode cX11_gainsOn 24 = .ok (.invokevirtual 219, 3) := by decide +kernel
theorem dX11_gainsOn_27 : decode cX11_gainsOn 27 = .ok (.ifCond .eq 67, 3) := by decide +kernel
theorem dX11_gainsOn_30 : decode cX11_gainsOn 30 = .ok (.aload_n 0, 1) := by decide +kernel
theorem dX11_gainsOn_31 : decode cX11_gainsOn 31 = .ok (.getfield 26, 3) := by decide +kernel
theorem dX11_gainsOn_34 : decode cX11_gainsOn 34 = .ok (.aload_n 0, 1) := by decide +kernel
theorem dX11_gainsOn_35 : decode cX11_gainsOn 35 = .ok (.getfield 19, 3) := by decide +kernel
theorem dX11_gainsOn_38 : decode cX11_gainsOn 38 = .ok (.iload 7, 2) := by decide +kernel
theorem dX11_gainsOn_40 : decode cX11_gainsOn 40 = .ok (.iload_n 1, 1) := by decide +kernel
theorem dX11_gainsOn_41 : decode cX11_gainsOn 41 = .ok (.iload_n 3, 1) := by decide +kernel
theorem dX11_gainsOn_42 : decode cX11_gainsOn 42 = .ok (.invokevirtual 147, 3) := by decide +kernel
theorem dX11_gainsOn_45 : decode cX11_gainsOn 45 = .ok (.aload_n 0, 1) := by decide +kernel
theorem dX11_gainsOn_46 : decode cX11_gainsOn 46 = .ok (.getfield 26, 3) := by decide +kernel
theorem dX11_gainsOn_49 : decode cX11_gainsOn 49 = .ok (.iconst 0, 1) := by decide +kernel
theorem dX11_gainsOn_50 : decode cX11_gainsOn 50 = .ok (.iconst 0, 1) := by decide +kernel
theorem dX11_gainsOn_51 : decode cX11_gainsOn 51 = .ok (.iconst 0, 1) := by decide +kernel
theorem dX11_gainsOn_52 : decode cX11_gainsOn 52 = .ok (.invokevirtual 151, 3) := by decide +kernel
theorem dX11_gainsOn_55 : decode cX11_gainsOn 55 = .ok (.aload_n 0, 1) := by decide +kernel
theorem dX11_gainsOn_56 : decode cX11_gainsOn 56 = .ok (.getfield 26, 3) := by decide +kernel
theorem dX11_gainsOn_59 : decode cX11_gainsOn 59 = .ok (.aload_n 0, 1) := by decide +kernel
theorem dX11_gainsOn_60 : decode cX11_gainsOn 60 = .ok (.getfield 19, 3) := by decide +kernel
theorem dX11_gainsOn_63 : decode cX11_gainsOn 63 = .ok (.iload_n 2, 1) := by decide +kernel
theorem dX11_gainsOn_64 : decode cX11_gainsOn 64 = .ok (.invokevirtual 155, 3) := by decide +kernel
theorem dX11_gainsOn_67 : decode cX11_gainsOn 67 = .ok (.i2l, 1) := by decide +kernel
theorem dX11_gainsOn_68 : decode cX11_gainsOn 68 = .ok (.lstore 8, 2) := by decide +kernel
theorem dX11_gainsOn_70 : decode cX11_gainsOn 70 = .ok (.lload 5, 2) := by decide +kernel
theorem dX11_gainsOn_72 : decode cX11_gainsOn 72 = .ok (.aload_n 0, 1) := by decide +kernel
theorem dX11_gainsOn_73 : decode cX11_gainsOn 73 = .ok (.getfield 26, 3) := by decide +kernel
theorem dX11_gainsOn_76 : decode cX11_gainsOn 76 = .ok (.aload_n 0, 1) := by decide +kernel
theorem dX11_gainsOn_77 : decode cX11_gainsOn 77 = .ok (.getfield 19, 3) := by decide +kernel
theorem dX11_gainsOn_80 : decode cX11_gainsOn 80 = .ok (.iload_n 2, 1) := by decide +kernel
theorem dX11_gainsOn_81 : decode cX11_gainsOn 81 = .ok (.iload 4, 2) := by decide +kernel
theorem dX11_gainsOn_83 : decode cX11_gainsOn 83 = .ok (.iconst 1, 1) := by decide +kernel
theorem dX11_gainsOn_84 : decode cX11_gainsOn 84 = .ok (.invokevirtual 200, 3) := by decide +kernel
theorem dX11_gainsOn_87 : decode cX11_gainsOn 87 = .ok (.i2l, 1) := by decide +kernel
theorem dX11_gainsOn_88 : decode cX11_gainsOn 88 = .ok (.lload 8, 2) := by decide +kernel
theorem dX11_gainsOn_90 : decode cX11_gainsOn 90 = .ok (.lsub, 1) := by decide +kernel
theorem dX11_gainsOn_91 : decode cX11_gainsOn 91 = .ok (.ladd, 1) := by decide +kernel
theorem dX11_gainsOn_92 : decode cX11_gainsOn 92 = .ok (.lstore 5, 2) := by decide +kernel
theorem dX11_gainsOn_94 : decode cX11_gainsOn 94 = .ok (.iinc 7 1, 3) := by decide +kernel
theorem dX11_gainsOn_97 : decode cX11_gainsOn 97 = .ok (.goto (-91), 3) := by decide +kernel
theorem dX11_gainsOn_100 : decode cX11_gainsOn 100 = .ok (.lload 5, 2) := by decide +kernel
theorem dX11_gainsOn_102 : decode cX11_gainsOn 102 = .ok (.lreturn, 1) := by decide +kernel
set_option maxRecDepth 100000 in
theorem sgX11_gainsOn_0 {d : Nat} {I : st_I} {L : st_L} {F : Int64 → st_I → st_L → Prop} {a1 : Int32} {a2 : Int32} {a3 : Int32} {a4 : Int32} (h : TL (d + 1) mX11_gainsOn 6 [.ref 0, .int a1, .int a2, .int a3, .int a4, .long 0, .null, .int 0, .null, .null] [] I L F) : EL (d + 1) mX11_gainsOn [.ref 0, .int a1, .int a2, .int a3, .int a4] I L F := by
  refine Ev_of (ls0 := 5) (by decide +kernel) rfl rfl rfl ?_
  refine T_lconst (v := 0) dX11_gainsOn_0 (by decide +kernel) ?_
  refine T_lstore (lv' := [.ref 0, .int a1, .int a2, .int a3, .int a4, .long 0, .null, .null, .null, .null]) dX11_gainsOn_1 (by decide) rfl ?_
  refine T_iconst (v := 0) dX11_gainsOn_3 (by decide +kernel) ?_
  refine T_istore (lv' := [.ref 0, .int a1, .int a2, .int a3, .int a4, .long 0, .null, .int 0, .null, .null]) dX11_gainsOn_4 (by decide) rfl ?_
  exact h

set_option maxRecDepth 100000 in
theorem sgX11_gainsOn_6 {d : Nat} {I : st_I} {L : st_L} {F : Int64 → st_I → st_L → Prop} {x1 : Int32} {x2 : Int32} {x3 : Int32} {x4 : Int32} {x5 : Int64} {x7 : Int32} (h : (if (I 1 1) ≤ x7 then F x5 I L else EI d mX8_isPlayer [.ref 1, .int x7] I L (fun r1 I1 L1 => (if r1 = 0 then TL (d + 1) mX11_gainsOn 6 [.ref 0, .int x1, .int x2, .int x3, .int x4, .long x5, .null, .int (x7 + 1), .null, .null] [] I1 L1 F else EV d mX7_meet [.ref 25, .ref 1, .int x7, .int x1, .int x3] I1 L1 (fun I2 L2 => EV d mX7_attend [.ref 25, .int 0, .int 0, .int 0] I2 L2 (fun I3 L3 => EI d mX7_like [.ref 25, .ref 1, .int x2] I3 L3 (fun r4 I4 L4 => EI d mX7_extreme [.ref 25, .ref 1, .int x2, .int x4, .int 1] I4 L4 (fun r5 I5 L5 => TL (d + 1) mX11_gainsOn 6 [.ref 0, .int x1, .int x2, .int x3, .int x4, .long (x5 + (((r5 : Int32).toInt64) - ((r4 : Int32).toInt64))), .null, .int (x7 + 1), .null, .null] [] I5 L5 F)))))))) : TL (d + 1) mX11_gainsOn 6 [.ref 0, .int x1, .int x2, .int x3, .int x4, .long x5, .null, .int x7, .null, .null] [] I L F := by
  refine T_iload dX11_gainsOn_6 rfl ?_
  refine T_aload_n dX11_gainsOn_8 rfl ?_
  refine T_getr dX11_gainsOn_9 fl_RX11_19 shp_0 rfl ?_
  refine T_getv (v := (I 1 1)) dX11_gainsOn_12 fl_RX11_216 shp_1 rfl rfl ?_
  refine T_icmp_ge (tgt := 100) dX11_gainsOn_15 (by decide) (tq_ite h (fun h => ?_) (fun h => ?_))
  ·
    refine T_lload dX11_gainsOn_100 rfl ?_
    exact S_lret rfl dX11_gainsOn_102 h
  ·
    refine T_aload_n dX11_gainsOn_18 rfl ?_
    refine T_getr dX11_gainsOn_19 fl_RX11_19 shp_0 rfl ?_
    refine T_iload dX11_gainsOn_22 rfl ?_
    refine S_callVI (M' := mX8_isPlayer) [.int x7] [] dX11_gainsOn_24 ml_RX11_219 mkX8_isPlayer rfl shp_1 rfl rfl rfl (Nat.le_of_ble_eq_true rfl) h (fun r1 I1 L1 h => ?_)
    refine T_if_eq (tgt := 94) dX11_gainsOn_27 (by decide) (tq_ite h (fun h => ?_) (fun h => ?_))
    ·
      refine T_iinc (lv' := [.ref 0, .int x1, .int x2, .int x3, .int x4, .long x5, .null, .int (x7 + 1), .null, .null]) dX11_gainsOn_94 rfl (by decide) rfl ?_
      refine T_goto (tgt := 6) dX11_gainsOn_97 (by decide) ?_
      exact h
    ·
      refine T_aload_n dX11_gainsOn_30 rfl ?_
      refine T_getr dX11_gainsOn_31 fl_RX11_26 shp_0 rfl ?_
      refine T_aload_n dX11_gainsOn_34 rfl ?_
      refine T_getr dX11_gainsOn_35 fl_RX11_19 shp_0 rfl ?_
      refine T_iload dX11_gainsOn_38 rfl ?_
      refine T_iload_n dX11_gainsOn_40 rfl ?_
      refine T_iload_n dX11_gainsOn_41 rfl ?_
      refine S_callVV (M' := mX7_meet) [.ref 1, .int x7, .int x1, .int x3] [] dX11_gainsOn_42 ml_RX11_147 mkX7_meet rfl shp_25 rfl rfl rfl (Nat.le_of_ble_eq_true rfl) h (fun I2 L2 h => ?_)
      refine T_aload_n dX11_gainsOn_45 rfl ?_
      refine T_getr dX11_gainsOn_46 fl_RX11_26 shp_0 rfl ?_
      refine T_iconst (v := 0) dX11_gainsOn_49 (by decide +kernel) ?_
      refine T_iconst (v := 0) dX11_gainsOn_50 (by decide +kernel) ?_
      refine T_iconst (v := 0) dX11_gainsOn_51 (by decide +kernel) ?_
      refine S_callVV (M' := mX7_attend) [.int 0, .int 0, .int 0] [] dX11_gainsOn_52 ml_RX11_151 mkX7_attend rfl shp_25 rfl rfl rfl (Nat.le_of_ble_eq_true rfl) h (fun I3 L3 h => ?_)
      refine T_aload_n dX11_gainsOn_55 rfl ?_
      refine T_getr dX11_gainsOn_56 fl_RX11_26 shp_0 rfl ?_
      refine T_aload_n dX11_gainsOn_59 rfl ?_
      refine T_getr dX11_gainsOn_60 fl_RX11_19 shp_0 rfl ?_
      refine T_iload_n dX11_gainsOn_63 rfl ?_
      refine S_callVI (M' := mX7_like) [.ref 1, .int x2] [] dX11_gainsOn_64 ml_RX11_155 mkX7_like rfl shp_25 rfl rfl rfl (Nat.le_of_ble_eq_true rfl) h (fun r4 I4 L4 h => ?_)
      refine T_i2l dX11_gainsOn_67 ?_
      refine T_lstore (lv' := [.ref 0, .int x1, .int x2, .int x3, .int x4, .long x5, .null, .int x7, .long ((r4 : Int32).toInt64), .null]) dX11_gainsOn_68 (by decide) rfl ?_
      refine T_lload dX11_gainsOn_70 rfl ?_
      refine T_aload_n dX11_gainsOn_72 rfl ?_
      refine T_getr dX11_gainsOn_73 fl_RX11_26 shp_0 rfl ?_
      refine T_aload_n dX11_gainsOn_76 rfl ?_
      refine T_getr dX11_gainsOn_77 fl_RX11_19 shp_0 rfl ?_
      refine T_iload_n dX11_gainsOn_80 rfl ?_
      refine T_iload dX11_gainsOn_81 rfl ?_
      refine T_iconst (v := 1) dX11_gainsOn_83 (by decide +kernel) ?_
      refine S_callVI (M' := mX7_extreme) [.ref 1, .int x2, .int x4, .int 1] [.long x5] dX11_gainsOn_84 ml_RX11_200 mkX7_extreme rfl shp_25 rfl rfl rfl (Nat.le_of_ble_eq_true rfl) h (fun r5 I5 L5 h => ?_)
      refine T_i2l dX11_gainsOn_87 ?_
      refine T_lload dX11_gainsOn_88 rfl ?_
      refine T_lsub dX11_gainsOn_90 ?_
      refine T_ladd dX11_gainsOn_91 ?_
      refine T_lstore (lv' := [.ref 0, .int x1, .int x2, .int x3, .int x4, .long (x5 + (((r5 : Int32).toInt64) - ((r4 : Int32).toInt64))), .null, .int x7, .long ((r4 : Int32).toInt64), .null]) dX11_gainsOn_92 (by decide) rfl ?_
      refine T_iinc (lv' := [.ref 0, .int x1, .int x2, .int x3, .int x4, .long (x5 + (((r5 : Int32).toInt64) - ((r4 : Int32).toInt64))), .null, .int (x7 + 1), .long ((r4 : Int32).toInt64), .null]) dX11_gainsOn_94 rfl (by decide) rfl ?_
      refine T_goto (tgt := 6) dX11_gainsOn_97 (by decide) ?_
      exact T_wk (lv' := [.ref 0, .int x1, .int x2, .int x3, .int x4, .long (x5 + (((r5 : Int32).toInt64) - ((r4 : Int32).toInt64))), .null, .int (x7 + 1), .null, .null]) ⟨Or.inr rfl, Or.inr rfl, Or.inr rfl, Or.inr rfl, Or.inr rfl, Or.inr rfl, Or.inr rfl, Or.inr rfl, Or.inl rfl, Or.inr rfl, trivial⟩ h

theorem dX11_mark_0 : decode cX11_mark 0 = .ok (.aload_n 0, 1) := by decide +kernel
theorem dX11_mark_1 : decode cX11_mark 1 = .ok (.getfield 19, 3) := by decide +kernel
theorem dX11_mark_4 : decode cX11_mark 4 = .ok (.iload_n 1, 1) := by decide +kernel
theorem dX11_mark_5 : decode cX11_mark 5 = .ok (.invokevirtual 125, 3) := by decide +kernel
theorem dX11_mark_8 : decode cX11_mark 8 = .ok (.ifCond .eq 14, 3) := by decide +kernel
theorem dX11_mark_11 : decode cX11_mark 11 = .ok (.aload_n 0, 1) := by decide +kernel
theorem dX11_mark_12 : decode cX11_mark 12 = .ok (.getfield 19, 3) := by decide +kernel
theorem dX11_mark_15 : decode cX11_mark 15 = .ok (.iload_n 2, 1) := by decide +kernel
theorem dX11_mark_16 : decode cX11_mark 16 = .ok (.invokevirtual 118, 3) := by decide +kernel
theorem dX11_mark_19 : decode cX11_mark 19 = .ok (.ifCond .ne 5, 3) := by decide +kernel
theorem dX11_mark_22 : decode cX11_mark 22 = .ok (.iconst (-1), 1) := by decide +kernel
theorem dX11_mark_23 : decode cX11_mark 23 = .ok (.ireturn, 1) := by decide +kernel
theorem dX11_mark_24 : decode cX11_mark 24 = .ok (.iload_n 3, 1) := by decide +kernel
theorem dX11_mark_25 : decode cX11_mark 25 = .ok (.ifCond .lt 21, 3) := by decide +kernel
theorem dX11_mark_28 : decode cX11_mark 28 = .ok (.iload_n 3, 1) := by decide +kernel
theorem dX11_mark_29 : decode cX11_mark 29 = .ok (.bipush 100, 2) := by decide +kernel
theorem dX11_mark_31 : decode cX11_mark 31 = .ok (.if_icmp .gt 15, 3) := by decide +kernel
theorem dX11_mark_34 : decode cX11_mark 34 = .ok (.iload 4, 2) := by decide +kernel
theorem dX11_mark_36 : decode cX11_mark 36 = .ok (.ifCond .lt 10, 3) := by decide +kernel
theorem dX11_mark_39 : decode cX11_mark 39 = .ok (.iload 4, 2) := by decide +kernel
theorem dX11_mark_41 : decode cX11_mark 41 = .ok (.bipush 10, 2) := by decide +kernel
theorem dX11_mark_43 : decode cX11_mark 43 = .ok (.if_icmp .lt 5, 3) := by decide +kernel
theorem dX11_mark_46 : decode cX11_mark 46 = .ok (.iconst (-1), 1) := by decide +kernel
theorem dX11_mark_47 : decode cX11_mark 47 = .ok (.ireturn, 1) := by decide +kernel
theorem dX11_mark_48 : decode cX11_mark 48 = .ok (.aload_n 0, 1) := by decide +kernel
theorem dX11_mark_49 : decode cX11_mark 49 = .ok (.getfield 33, 3) := by decide +kernel
theorem dX11_mark_52 : decode cX11_mark 52 = .ok (.iconst 0, 1) := by decide +kernel
theorem dX11_mark_53 : decode cX11_mark 53 = .ok (.iload_n 1, 1) := by decide +kernel
theorem dX11_mark_54 : decode cX11_mark 54 = .ok (.iload_n 2, 1) := by decide +kernel
theorem dX11_mark_55 : decode cX11_mark 55 = .ok (.iload_n 3, 1) := by decide +kernel
theorem dX11_mark_56 : decode cX11_mark 56 = .ok (.iload 4, 2) := by decide +kernel
theorem dX11_mark_58 : decode cX11_mark 58 = .ok (.iload 5, 2) := by decide +kernel
theorem dX11_mark_60 : decode cX11_mark 60 = .ok (.ifCond .eq 7, 3) := by decide +kernel
theorem dX11_mark_63 : decode cX11_mark 63 = .ok (.iconst 1, 1) := by decide +kernel
theorem dX11_mark_64 : decode cX11_mark 64 = .ok (.goto 4, 3) := by decide +kernel
theorem dX11_mark_67 : decode cX11_mark 67 = .ok (.iconst 0, 1) := by decide +kernel
theorem dX11_mark_68 : decode cX11_mark 68 = .ok (.invokevirtual 196, 3) := by decide +kernel
theorem dX11_mark_71 : decode cX11_mark 71 = .ok (.ireturn, 1) := by decide +kernel
set_option maxRecDepth 100000 in
theorem sgX11_mark_0 {d : Nat} {I : st_I} {L : st_L} {F : Int32 → st_I → st_L → Prop} {a1 : Int32} {a2 : Int32} {a3 : Int32} {a4 : Int32} {a5 : Int32} (h : EI d mX8_hasPerson [.ref 1, .int a1] I L (fun r1 I1 L1 => (if r1 = 0 then F (-1) I1 L1 else EI d mX8_hasFiddle [.ref 1, .int a2] I1 L1 (fun r2 I2 L2 => (if r2 = 0 then F (-1) I2 L2 else (if a3 < 0 then F (-1) I2 L2 else (if 100 < a3 then F (-1) I2 L2 else (if a4 < 0 then F (-1) I2 L2 else (if a4 < 10 then EI d mX0_add [.ref 28, .int 0, .int a1, .int a2, .int a3, .int a4, .int (if a5 = 0 then (0 : Int32) else 1)] I2 L2 (fun r3 I3 L3 => F r3 I3 L3) else F (-1) I2 L2))))))))) : EI (d + 1) mX11_mark [.ref 0, .int a1, .int a2, .int a3, .int a4, .int a5] I L F := by
  refine Ev_of (ls0 := 0) (by decide +kernel) rfl rfl rfl ?_
  refine T_aload_n dX11_mark_0 rfl ?_
  refine T_getr dX11_mark_1 fl_RX11_19 shp_0 rfl ?_
  refine T_iload_n dX11_mark_4 rfl ?_
  refine S_callVI (M' := mX8_hasPerson) [.int a1] [] dX11_mark_5 ml_RX11_125 mkX8_hasPerson rfl shp_1 rfl rfl rfl (Nat.le_of_ble_eq_true rfl) h (fun r1 I1 L1 h => ?_)
  refine T_if_eq (tgt := 22) dX11_mark_8 (by decide) (tq_ite h (fun h => ?_) (fun h => ?_))
  ·
    refine T_iconst (v := (-1)) dX11_mark_22 (by decide +kernel) ?_
    exact S_iret rfl dX11_mark_23 h
  ·
    refine T_aload_n dX11_mark_11 rfl ?_
    refine T_getr dX11_mark_12 fl_RX11_19 shp_0 rfl ?_
    refine T_iload_n dX11_mark_15 rfl ?_
    refine S_callVI (M' := mX8_hasFiddle) [.int a2] [] dX11_mark_16 ml_RX11_118 mkX8_hasFiddle rfl shp_1 rfl rfl rfl (Nat.le_of_ble_eq_true rfl) h (fun r2 I2 L2 h => ?_)
    refine T_if_ne (tgt := 24) dX11_mark_19 (by decide) (tq_ite h (fun h => ?_) (fun h => ?_))
    ·
      refine T_iconst (v := (-1)) dX11_mark_22 (by decide +kernel) ?_
      exact S_iret rfl dX11_mark_23 h
    ·
      refine T_iload_n dX11_mark_24 rfl ?_
      refine T_if_lt (tgt := 46) dX11_mark_25 (by decide) (tq_ite h (fun h => ?_) (fun h => ?_))
      ·
        refine T_iconst (v := (-1)) dX11_mark_46 (by decide +kernel) ?_
        exact S_iret rfl dX11_mark_47 h
      ·
        refine T_iload_n dX11_mark_28 rfl ?_
        refine T_bipush (v := 100) dX11_mark_29 (by decide +kernel) ?_
        refine T_icmp_gt (tgt := 46) dX11_mark_31 (by decide) (tq_ite h (fun h => ?_) (fun h => ?_))
        ·
          refine T_iconst (v := (-1)) dX11_mark_46 (by decide +kernel) ?_
          exact S_iret rfl dX11_mark_47 h
        ·
          refine T_iload dX11_mark_34 rfl ?_
          refine T_if_lt (tgt := 46) dX11_mark_36 (by decide) (tq_ite h (fun h => ?_) (fun h => ?_))
          ·
            refine T_iconst (v := (-1)) dX11_mark_46 (by decide +kernel) ?_
            exact S_iret rfl dX11_mark_47 h
          ·
            refine T_iload dX11_mark_39 rfl ?_
            refine T_bipush (v := 10) dX11_mark_41 (by decide +kernel) ?_
            refine T_icmp_lt (tgt := 48) dX11_mark_43 (by decide) (tq_ite h (fun h => ?_) (fun h => ?_))
            ·
              refine T_aload_n dX11_mark_48 rfl ?_
              refine T_getr dX11_mark_49 fl_RX11_33 shp_0 rfl ?_
              refine T_iconst (v := 0) dX11_mark_52 (by decide +kernel) ?_
              refine T_iload_n dX11_mark_53 rfl ?_
              refine T_iload_n dX11_mark_54 rfl ?_
              refine T_iload_n dX11_mark_55 rfl ?_
              refine T_iload dX11_mark_56 rfl ?_
              refine T_iload dX11_mark_58 rfl ?_
              refine T_if_eq (tgt := 67) dX11_mark_60 (by decide) (tq_itv (fun v => T shp (d + 1) mX11_mark 68 [.ref 0, .int a1, .int a2, .int a3, .int a4, .int a5] (.int v :: [.int a4, .int a3, .int a2, .int a1, .int 0, .ref 28]) I2 L2 (kI F)) 0 1 (fun hJ => ?_) (fun hJ => ?_) ?_)
              ·
                  refine T_iconst (v := 0) dX11_mark_67 (by decide +kernel) ?_
                  exact hJ
              ·
                  refine T_iconst (v := 1) dX11_mark_63 (by decide +kernel) ?_
                  refine T_goto (tgt := 68) dX11_mark_64 (by decide) ?_
                  exact hJ
              refine S_callVI (M' := mX0_add) [.int 0, .int a1, .int a2, .int a3, .int a4, .int (if a5 = 0 then (0 : Int32) else 1)] [] dX11_mark_68 ml_RX11_196 mkX0_add rfl shp_28 rfl rfl rfl (Nat.le_of_ble_eq_true rfl) h (fun r3 I3 L3 h => ?_)
              exact S_iret rfl dX11_mark_71 h
            ·
              refine T_iconst (v := (-1)) dX11_mark_46 (by decide +kernel) ?_
              exact S_iret rfl dX11_mark_47 h

theorem dX11_guess_0 : decode cX11_guess 0 = .ok (.aload_n 0, 1) := by decide +kernel
theorem dX11_guess_1 : decode cX11_guess 1 = .ok (.getfield 19, 3) := by decide +kernel
theorem dX11_guess_4 : decode cX11_guess 4 = .ok (.iload_n 1, 1) := by decide +kernel
theorem dX11_guess_5 : decode cX11_guess 5 = .ok (.invokevirtual 125, 3) := by decide +kernel
theorem dX11_guess_8 : decode cX11_guess 8 = .ok (.ifCond .eq 14, 3) := by decide +kernel
theorem dX11_guess_11 : decode cX11_guess 11 = .ok (.aload_n 0, 1) := by decide +kernel
theorem dX11_guess_12 : decode cX11_guess 12 = .ok (.getfield 19, 3) := by decide +kernel
theorem dX11_guess_15 : decode cX11_guess 15 = .ok (.iload_n 2, 1) := by decide +kernel
theorem dX11_guess_16 : decode cX11_guess 16 = .ok (.invokevirtual 118, 3) := by decide +kernel
theorem dX11_guess_19 : decode cX11_guess 19 = .ok (.ifCond .ne 5, 3) := by decide +kernel
theorem dX11_guess_22 : decode cX11_guess 22 = .ok (.iconst (-1), 1) := by decide +kernel
theorem dX11_guess_23 : decode cX11_guess 23 = .ok (.ireturn, 1) := by decide +kernel
theorem dX11_guess_24 : decode cX11_guess 24 = .ok (.aload_n 0, 1) := by decide +kernel
theorem dX11_guess_25 : decode cX11_guess 25 = .ok (.getfield 33, 3) := by decide +kernel
theorem dX11_guess_28 : decode cX11_guess 28 = .ok (.iconst 1, 1) := by decide +kernel
theorem dX11_guess_29 : decode cX11_guess 29 = .ok (.iload_n 1, 1) := by decide +kernel
theorem dX11_guess_30 : decode cX11_guess 30 = .ok (.iload_n 2, 1) := by decide +kernel
theorem dX11_guess_31 : decode cX11_guess 31 = .ok (.iload_n 3, 1) := by decide +kernel
theorem dX11_guess_32 : decode cX11_guess 32 = .ok (.ifCond .eq 7, 3) := by decide +kernel
theorem dX11_guess_35 : decode cX11_guess 35 = .ok (.iconst 1, 1) := by decide +kernel
theorem dX11_guess_36 : decode cX11_guess 36 = .ok (.goto 4, 3) := by decide +kernel
theorem dX11_guess_39 : decode cX11_guess 39 = .ok (.iconst 0, 1) := by decide +kernel
theorem dX11_guess_40 : decode cX11_guess 40 = .ok (.iconst (-1), 1) := by decide +kernel
theorem dX11_guess_41 : decode cX11_guess 41 = .ok (.iconst (-1), 1) := by decide +kernel
theorem dX11_guess_42 : decode cX11_guess 42 = .ok (.invokevirtual 196, 3) := by decide +kernel
theorem dX11_guess_45 : decode cX11_guess 45 = .ok (.ireturn, 1) := by decide +kernel
set_option maxRecDepth 100000 in
theorem sgX11_guess_0 {d : Nat} {I : st_I} {L : st_L} {F : Int32 → st_I → st_L → Prop} {a1 : Int32} {a2 : Int32} {a3 : Int32} (h : EI d mX8_hasPerson [.ref 1, .int a1] I L (fun r1 I1 L1 => (if r1 = 0 then F (-1) I1 L1 else EI d mX8_hasFiddle [.ref 1, .int a2] I1 L1 (fun r2 I2 L2 => (if r2 = 0 then F (-1) I2 L2 else EI d mX0_add [.ref 28, .int 1, .int a1, .int a2, .int (if a3 = 0 then (0 : Int32) else 1), .int (-1), .int (-1)] I2 L2 (fun r3 I3 L3 => F r3 I3 L3)))))) : EI (d + 1) mX11_guess [.ref 0, .int a1, .int a2, .int a3] I L F := by
  refine Ev_of (ls0 := 0) (by decide +kernel) rfl rfl rfl ?_
  refine T_aload_n dX11_guess_0 rfl ?_
  refine T_getr dX11_guess_1 fl_RX11_19 shp_0 rfl ?_
  refine T_iload_n dX11_guess_4 rfl ?_
  refine S_callVI (M' := mX8_hasPerson) [.int a1] [] dX11_guess_5 ml_RX11_125 mkX8_hasPerson rfl shp_1 rfl rfl rfl (Nat.le_of_ble_eq_true rfl) h (fun r1 I1 L1 h => ?_)
  refine T_if_eq (tgt := 22) dX11_guess_8 (by decide) (tq_ite h (fun h => ?_) (fun h => ?_))
  ·
    refine T_iconst (v := (-1)) dX11_guess_22 (by decide +kernel) ?_
    exact S_iret rfl dX11_guess_23 h
  ·
    refine T_aload_n dX11_guess_11 rfl ?_
    refine T_getr dX11_guess_12 fl_RX11_19 shp_0 rfl ?_
    refine T_iload_n dX11_guess_15 rfl ?_
    refine S_callVI (M' := mX8_hasFiddle) [.int a2] [] dX11_guess_16 ml_RX11_118 mkX8_hasFiddle rfl shp_1 rfl rfl rfl (Nat.le_of_ble_eq_true rfl) h (fun r2 I2 L2 h => ?_)
    refine T_if_ne (tgt := 24) dX11_guess_19 (by decide) (tq_ite h (fun h => ?_) (fun h => ?_))
    ·
      refine T_iconst (v := (-1)) dX11_guess_22 (by decide +kernel) ?_
      exact S_iret rfl dX11_guess_23 h
    ·
      refine T_aload_n dX11_guess_24 rfl ?_
      refine T_getr dX11_guess_25 fl_RX11_33 shp_0 rfl ?_
      refine T_iconst (v := 1) dX11_guess_28 (by decide +kernel) ?_
      refine T_iload_n dX11_guess_29 rfl ?_
      refine T_iload_n dX11_guess_30 rfl ?_
      refine T_iload_n dX11_guess_31 rfl ?_
      refine T_if_eq (tgt := 39) dX11_guess_32 (by decide) (tq_itv (fun v => T shp (d + 1) mX11_guess 40 [.ref 0, .int a1, .int a2, .int a3] (.int v :: [.int a2, .int a1, .int 1, .ref 28]) I2 L2 (kI F)) 0 1 (fun hJ => ?_) (fun hJ => ?_) ?_)
      ·
          refine T_iconst (v := 0) dX11_guess_39 (by decide +kernel) ?_
          exact hJ
      ·
          refine T_iconst (v := 1) dX11_guess_35 (by decide +kernel) ?_
          refine T_goto (tgt := 40) dX11_guess_36 (by decide) ?_
          exact hJ
      refine T_iconst (v := (-1)) dX11_guess_40 (by decide +kernel) ?_
      refine T_iconst (v := (-1)) dX11_guess_41 (by decide +kernel) ?_
      refine S_callVI (M' := mX0_add) [.int 1, .int a1, .int a2, .int (if a3 = 0 then (0 : Int32) else 1), .int (-1), .int (-1)] [] dX11_guess_42 ml_RX11_196 mkX0_add rfl shp_28 rfl rfl rfl (Nat.le_of_ble_eq_true rfl) h (fun r3 I3 L3 h => ?_)
      exact S_iret rfl dX11_guess_45 h

theorem dX11_annul_0 : decode cX11_annul 0 = .ok (.aload_n 0, 1) := by decide +kernel
theorem dX11_annul_1 : decode cX11_annul 1 = .ok (.getfield 33, 3) := by decide +kernel
theorem dX11_annul_4 : decode cX11_annul 4 = .ok (.iload_n 1, 1) := by decide +kernel
theorem dX11_annul_5 : decode cX11_annul 5 = .ok (.invokevirtual 222, 3) := by decide +kernel
theorem dX11_annul_8 : decode cX11_annul 8 = .ok (.ifCond .eq 16, 3) := by decide +kernel
theorem dX11_annul_11 : decode cX11_annul 11 = .ok (.aload_n 0, 1) := by decide +kernel
theorem dX11_annul_12 : decode cX11_annul 12 = .ok (.getfield 33, 3) := by decide +kernel
theorem dX11_annul_15 : decode cX11_annul 15 = .ok (.iload_n 1, 1) := by decide +kernel
theorem dX11_annul_16 : decode cX11_annul 16 = .ok (.iconst 0, 1) := by decide +kernel
theorem dX11_annul_17 : decode cX11_annul 17 = .ok (.invokevirtual 225, 3) := by decide +kernel
theorem dX11_annul_20 : decode cX11_annul 20 = .ok (.iconst 2, 1) := by decide +kernel
theorem dX11_annul_21 : decode cX11_annul 21 = .ok (.if_icmp .ne 5, 3) := by decide +kernel
theorem dX11_annul_24 : decode cX11_annul 24 = .ok (.iconst (-1), 1) := by decide +kernel
theorem dX11_annul_25 : decode cX11_annul 25 = .ok (.ireturn, 1) := by decide +kernel
theorem dX11_annul_26 : decode cX11_annul 26 = .ok (.aload_n 0, 1) := by decide +kernel
theorem dX11_annul_27 : decode cX11_annul 27 = .ok (.getfield 33, 3) := by decide +kernel
theorem dX11_annul_30 : decode cX11_annul 30 = .ok (.iconst 2, 1) := by decide +kernel
theorem dX11_annul_31 : decode cX11_annul 31 = .ok (.iload_n 1, 1) := by decide +kernel
theorem dX11_annul_32 : decode cX11_annul 32 = .ok (.iconst (-1), 1) := by decide +kernel
theorem dX11_annul_33 : decode cX11_annul 33 = .ok (.iconst (-1), 1) := by decide +kernel
theorem dX11_annul_34 : decode cX11_annul 34 = .ok (.iconst (-1), 1) := by decide +kernel
theorem dX11_annul_35 : decode cX11_annul 35 = .ok (.iconst (-1), 1) := by decide +kernel
theorem dX11_annul_36 : decode cX11_annul 36 = .ok (.invokevirtual 196, 3) := by decide +kernel
theorem dX11_annul_39 : decode cX11_annul 39 = .ok (.ireturn, 1) := by decide +kernel
set_option maxRecDepth 100000 in
theorem sgX11_annul_0 {d : Nat} {I : st_I} {L : st_L} {F : Int32 → st_I → st_L → Prop} {a1 : Int32} (h : EI d mX0_has [.ref 28, .int a1] I L (fun r1 I1 L1 => (if r1 = 0 then F (-1) I1 L1 else EI d mX0_of [.ref 28, .int a1, .int 0] I1 L1 (fun r2 I2 L2 => (if r2 = 2 then F (-1) I2 L2 else EI d mX0_add [.ref 28, .int 2, .int a1, .int (-1), .int (-1), .int (-1), .int (-1)] I2 L2 (fun r3 I3 L3 => F r3 I3 L3)))))) : EI (d + 1) mX11_annul [.ref 0, .int a1] I L F := by
  refine Ev_of (ls0 := 0) (by decide +kernel) rfl rfl rfl ?_
  refine T_aload_n dX11_annul_0 rfl ?_
  refine T_getr dX11_annul_1 fl_RX11_33 shp_0 rfl ?_
  refine T_iload_n dX11_annul_4 rfl ?_
  refine S_callVI (M' := mX0_has) [.int a1] [] dX11_annul_5 ml_RX11_222 mkX0_has rfl shp_28 rfl rfl rfl (Nat.le_of_ble_eq_true rfl) h (fun r1 I1 L1 h => ?_)
  refine T_if_eq (tgt := 24) dX11_annul_8 (by decide) (tq_ite h (fun h => ?_) (fun h => ?_))
  ·
    refine T_iconst (v := (-1)) dX11_annul_24 (by decide +kernel) ?_
    exact S_iret rfl dX11_annul_25 h
  ·
    refine T_aload_n dX11_annul_11 rfl ?_
    refine T_getr dX11_annul_12 fl_RX11_33 shp_0 rfl ?_
    refine T_iload_n dX11_annul_15 rfl ?_
    refine T_iconst (v := 0) dX11_annul_16 (by decide +kernel) ?_
    refine S_callVI (M' := mX0_of) [.int a1, .int 0] [] dX11_annul_17 ml_RX11_225 mkX0_of rfl shp_28 rfl rfl rfl (Nat.le_of_ble_eq_true rfl) h (fun r2 I2 L2 h => ?_)
    refine T_iconst (v := 2) dX11_annul_20 (by decide +kernel) ?_
    refine T_icmp_ne (tgt := 26) dX11_annul_21 (by decide) (tq_ite h (fun h => ?_) (fun h => ?_))
    ·
      refine T_iconst (v := (-1)) dX11_annul_24 (by decide +kernel) ?_
      exact S_iret rfl dX11_annul_25 h
    ·
      refine T_aload_n dX11_annul_26 rfl ?_
      refine T_getr dX11_annul_27 fl_RX11_33 shp_0 rfl ?_
      refine T_iconst (v := 2) dX11_annul_30 (by decide +kernel) ?_
      refine T_iload_n dX11_annul_31 rfl ?_
      refine T_iconst (v := (-1)) dX11_annul_32 (by decide +kernel) ?_
      refine T_iconst (v := (-1)) dX11_annul_33 (by decide +kernel) ?_
      refine T_iconst (v := (-1)) dX11_annul_34 (by decide +kernel) ?_
      refine T_iconst (v := (-1)) dX11_annul_35 (by decide +kernel) ?_
      refine S_callVI (M' := mX0_add) [.int 2, .int a1, .int (-1), .int (-1), .int (-1), .int (-1)] [] dX11_annul_36 ml_RX11_196 mkX0_add rfl shp_28 rfl rfl rfl (Nat.le_of_ble_eq_true rfl) h (fun r3 I3 L3 h => ?_)
      exact S_iret rfl dX11_annul_39 h

theorem dX11_fact_0 : decode cX11_fact 0 = .ok (.aload_n 0, 1) := by decide +kernel
theorem dX11_fact_1 : decode cX11_fact 1 = .ok (.getfield 33, 3) := by decide +kernel
theorem dX11_fact_4 : decode cX11_fact 4 = .ok (.iload_n 1, 1) := by decide +kernel
theorem dX11_fact_5 : decode cX11_fact 5 = .ok (.invokevirtual 222, 3) := by decide +kernel
theorem dX11_fact_8 : decode cX11_fact 8 = .ok (.ifCond .eq 13, 3) := by decide +kernel
theorem dX11_fact_11 : decode cX11_fact 11 = .ok (.iload_n 2, 1) := by decide +kernel
theorem dX11_fact_12 : decode cX11_fact 12 = .ok (.ifCond .lt 9, 3) := by decide +kernel
theorem dX11_fact_15 : decode cX11_fact 15 = .ok (.iload_n 2, 1) := by decide +kernel
theorem dX11_fact_16 : decode cX11_fact 16 = .ok (.bipush 6, 2) := by decide +kernel
theorem dX11_fact_18 : decode cX11_fact 18 = .ok (.if_icmp .lt 5, 3) := by decide +kernel
theorem dX11_fact_21 : decode cX11_fact 21 = .ok (.iconst (-1), 1) := by decide +kernel
theorem dX11_fact_22 : decode cX11_fact 22 = .ok (.ireturn, 1) := by decide +kernel
theorem dX11_fact_23 : decode cX11_fact 23 = .ok (.aload_n 0, 1) := by decide +kernel
theorem dX11_fact_24 : decode cX11_fact 24 = .ok (.getfield 33, 3) := by decide +kernel
theorem dX11_fact_27 : decode cX11_fact 27 = .ok (.iload_n 1, 1) := by decide +kernel
theorem dX11_fact_28 : decode cX11_fact 28 = .ok (.iload_n 2, 1) := by decide +kernel
theorem dX11_fact_29 : decode cX11_fact 29 = .ok (.invokevirtual 225, 3) := by decide +kernel
theorem dX11_fact_32 : decode cX11_fact 32 = .ok (.ireturn, 1) := by decide +kernel
set_option maxRecDepth 100000 in
theorem sgX11_fact_0 {d : Nat} {I : st_I} {L : st_L} {F : Int32 → st_I → st_L → Prop} {a1 : Int32} {a2 : Int32} (h : EI d mX0_has [.ref 28, .int a1] I L (fun r1 I1 L1 => (if r1 = 0 then F (-1) I1 L1 else (if a2 < 0 then F (-1) I1 L1 else (if a2 < 6 then EI d mX0_of [.ref 28, .int a1, .int a2] I1 L1 (fun r2 I2 L2 => F r2 I2 L2) else F (-1) I1 L1))))) : EI (d + 1) mX11_fact [.ref 0, .int a1, .int a2] I L F := by
  refine Ev_of (ls0 := 0) (by decide +kernel) rfl rfl rfl ?_
  refine T_aload_n dX11_fact_0 rfl ?_
  refine T_getr dX11_fact_1 fl_RX11_33 shp_0 rfl ?_
  refine T_iload_n dX11_fact_4 rfl ?_
  refine S_callVI (M' := mX0_has) [.int a1] [] dX11_fact_5 ml_RX11_222 mkX0_has rfl shp_28 rfl rfl rfl (Nat.le_of_ble_eq_true rfl) h (fun r1 I1 L1 h => ?_)
  refine T_if_eq (tgt := 21) dX11_fact_8 (by decide) (tq_ite h (fun h => ?_) (fun h => ?_))
  ·
    refine T_iconst (v := (-1)) dX11_fact_21 (by decide +kernel) ?_
    exact S_iret rfl dX11_fact_22 h
  ·
    refine T_iload_n dX11_fact_11 rfl ?_
    refine T_if_lt (tgt := 21) dX11_fact_12 (by decide) (tq_ite h (fun h => ?_) (fun h => ?_))
    ·
      refine T_iconst (v := (-1)) dX11_fact_21 (by decide +kernel) ?_
      exact S_iret rfl dX11_fact_22 h
    ·
      refine T_iload_n dX11_fact_15 rfl ?_
      refine T_bipush (v := 6) dX11_fact_16 (by decide +kernel) ?_
      refine T_icmp_lt (tgt := 23) dX11_fact_18 (by decide) (tq_ite h (fun h => ?_) (fun h => ?_))
      ·
        refine T_aload_n dX11_fact_23 rfl ?_
        refine T_getr dX11_fact_24 fl_RX11_33 shp_0 rfl ?_
        refine T_iload_n dX11_fact_27 rfl ?_
        refine T_iload_n dX11_fact_28 rfl ?_
        refine S_callVI (M' := mX0_of) [.int a1, .int a2] [] dX11_fact_29 ml_RX11_225 mkX0_of rfl shp_28 rfl rfl rfl (Nat.le_of_ble_eq_true rfl) h (fun r2 I2 L2 h => ?_)
        exact S_iret rfl dX11_fact_32 h
      ·
        refine T_iconst (v := (-1)) dX11_fact_21 (by decide +kernel) ?_
        exact S_iret rfl dX11_fact_22 h

theorem dX11_knows_0 : decode cX11_knows 0 = .ok (.iload_n 1, 1) := by decide +kernel
theorem dX11_knows_1 : decode cX11_knows 1 = .ok (.ifCond .lt 14, 3) := by decide +kernel
theorem dX11_knows_4 : decode cX11_knows 4 = .ok (.iload_n 1, 1) := by decide +kernel
theorem dX11_knows_5 : decode cX11_knows 5 = .ok (.aload_n 0, 1) := by decide +kernel
theorem dX11_knows_6 : decode cX11_knows 6 = .ok (.getfield 33, 3) := by decide +kernel
theorem dX11_knows_9 : decode cX11_knows 9 = .ok (.getfield 176, 3) := by decide +kernel
theorem dX11_knows_12 : decode cX11_knows 12 = .ok (.if_icmp .le 5, 3) := by decide +kernel
theorem dX11_knows_15 : decode cX11_knows 15 = .ok (.iconst 0, 1) := by decide +kernel
theorem dX11_knows_16 : decode cX11_knows 16 = .ok (.ireturn, 1) := by decide +kernel
theorem dX11_knows_17 : decode cX11_knows 17 = .ok (.aload_n 0, 1) := by decide +kernel
theorem dX11_knows_18 : decode cX11_knows 18 = .ok (.getfield 40, 3) := by decide +kernel
theorem dX11_knows_21 : decode cX11_knows 21 = .ok (.getfield 112, 3) := by decide +kernel
theorem dX11_knows_24 : decode cX11_knows 24 = .ok (.iload_n 1, 1) := by decide +kernel
theorem dX11_knows_25 : decode cX11_knows 25 = .ok (.if_icmp .eq 19, 3) := by decide +kernel
theorem dX11_knows_28 : decode cX11_knows 28 = .ok (.aload_n 0, 1) := by decide +kernel
theorem dX11_knows_29 : decode cX11_knows 29 = .ok (.getfield 40, 3) := by decide +kernel
theorem dX11_knows_32 : decode cX11_knows 32 = .ok (.aload_n 0, 1) := by decide +kernel
theorem dX11_knows_33 : decode cX11_knows 33 = .ok (.getfield 19, 3) := by decide +kernel
theorem dX11_knows_36 : decode cX11_knows 36 = .ok (.aload_n 0, 1) := by decide +kernel
theorem dX11_knows_37 : decode cX11_knows 37 = .ok (.getfield 33, 3) := by decide +kernel
theorem dX11_knows_40 : decode cX11_knows 40 = .ok (.iload_n 1, 1) := by decide +kernel
theorem dX11_knows_41 : decode cX11_knows 41 = .ok (.invokevirtual 228, 3) := by decide +kernel
theorem dX11_knows_44 : decode cX11_knows 44 = .ok (.iconst 1, 1) := by decide +kernel
theorem dX11_knows_45 : decode cX11_knows 45 = .ok (.ireturn, 1) := by decide +kernel
set_option maxRecDepth 100000 in
theorem sgX11_knows_0 {d : Nat} {I : st_I} {L : st_L} {F : Int32 → st_I → st_L → Prop} {a1 : Int32} (h : (if a1 < 0 then F 0 I L else (if a1 ≤ (I 28 0) then (if (I 30 0) = a1 then F 1 I L else EV d mX2_learn [.ref 30, .ref 1, .ref 28, .int a1] I L (fun I1 L1 => F 1 I1 L1)) else F 0 I L))) : EI (d + 1) mX11_knows [.ref 0, .int a1] I L F := by
  refine Ev_of (ls0 := 0) (by decide +kernel) rfl rfl rfl ?_
  refine T_iload_n dX11_knows_0 rfl ?_
  refine T_if_lt (tgt := 15) dX11_knows_1 (by decide) (tq_ite h (fun h => ?_) (fun h => ?_))
  ·
    refine T_iconst (v := 0) dX11_knows_15 (by decide +kernel) ?_
    exact S_zret rfl dX11_knows_16 (by decide) h
  ·
    refine T_iload_n dX11_knows_4 rfl ?_
    refine T_aload_n dX11_knows_5 rfl ?_
    refine T_getr dX11_knows_6 fl_RX11_33 shp_0 rfl ?_
    refine T_getv (v := (I 28 0)) dX11_knows_9 fl_RX11_176 shp_28 rfl rfl ?_
    refine T_icmp_le (tgt := 17) dX11_knows_12 (by decide) (tq_ite h (fun h => ?_) (fun h => ?_))
    ·
      refine T_aload_n dX11_knows_17 rfl ?_
      refine T_getr dX11_knows_18 fl_RX11_40 shp_0 rfl ?_
      refine T_getv (v := (I 30 0)) dX11_knows_21 fl_RX11_112 shp_30 rfl rfl ?_
      refine T_iload_n dX11_knows_24 rfl ?_
      refine T_icmp_eq (tgt := 44) dX11_knows_25 (by decide) (tq_ite h (fun h => ?_) (fun h => ?_))
      ·
        refine T_iconst (v := 1) dX11_knows_44 (by decide +kernel) ?_
        exact S_zret rfl dX11_knows_45 (by decide) h
      ·
        refine T_aload_n dX11_knows_28 rfl ?_
        refine T_getr dX11_knows_29 fl_RX11_40 shp_0 rfl ?_
        refine T_aload_n dX11_knows_32 rfl ?_
        refine T_getr dX11_knows_33 fl_RX11_19 shp_0 rfl ?_
        refine T_aload_n dX11_knows_36 rfl ?_
        refine T_getr dX11_knows_37 fl_RX11_33 shp_0 rfl ?_
        refine T_iload_n dX11_knows_40 rfl ?_
        refine S_callVV (M' := mX2_learn) [.ref 1, .ref 28, .int a1] [] dX11_knows_41 ml_RX11_228 mkX2_learn rfl shp_30 rfl rfl rfl (Nat.le_of_ble_eq_true rfl) h (fun I1 L1 h => ?_)
        refine T_iconst (v := 1) dX11_knows_44 (by decide +kernel) ?_
        exact S_zret rfl dX11_knows_45 (by decide) h
    ·
      refine T_iconst (v := 0) dX11_knows_15 (by decide +kernel) ?_
      exact S_zret rfl dX11_knows_16 (by decide) h

theorem dX11_last_0 : decode cX11_last 0 = .ok (.aload_n 0, 1) := by decide +kernel
theorem dX11_last_1 : decode cX11_last 1 = .ok (.getfield 19, 3) := by decide +kernel
theorem dX11_last_4 : decode cX11_last 4 = .ok (.iload_n 1, 1) := by decide +kernel
theorem dX11_last_5 : decode cX11_last 5 = .ok (.invokevirtual 125, 3) := by decide +kernel
theorem dX11_last_8 : decode cX11_last 8 = .ok (.ifCond .eq 23, 3) := by decide +kernel
theorem dX11_last_11 : decode cX11_last 11 = .ok (.aload_n 0, 1) := by decide +kernel
theorem dX11_last_12 : decode cX11_last 12 = .ok (.getfield 19, 3) := by decide +kernel
theorem dX11_last_15 : decode cX11_last 15 = .ok (.iload_n 2, 1) := by decide +kernel
theorem dX11_last_16 : decode cX11_last 16 = .ok (.invokevirtual 118, 3) := by decide +kernel
theorem dX11_last_19 : decode cX11_last 19 = .ok (.ifCond .eq 12, 3) := by decide +kernel
theorem dX11_last_22 : decode cX11_last 22 = .ok (.aload_n 0, 1) := by decide +kernel
theorem dX11_last_23 : decode cX11_last 23 = .ok (.iload 4, 2) := by decide +kernel
theorem dX11_last_25 : decode cX11_last 25 = .ok (.invokevirtual 232, 3) := by decide +kernel
theorem dX11_last_28 : decode cX11_last 28 = .ok (.ifCond .ne 5, 3) := by decide +kernel
theorem dX11_last_31 : decode cX11_last 31 = .ok (.iconst (-1), 1) := by decide +kernel
theorem dX11_last_32 : decode cX11_last 32 = .ok (.ireturn, 1) := by decide +kernel
theorem dX11_last_33 : decode cX11_last 33 = .ok (.iload_n 1, 1) := by decide +kernel
theorem dX11_last_34 : decode cX11_last 34 = .ok (.bipush 8, 2) := by decide +kernel
theorem dX11_last_36 : decode cX11_last 36 = .ok (.imul, 1) := by decide +kernel
theorem dX11_last_37 : decode cX11_last 37 = .ok (.iload_n 2, 1) := by decide +kernel
theorem dX11_last_38 : decode cX11_last 38 = .ok (.iadd, 1) := by decide +kernel
theorem dX11_last_39 : decode cX11_last 39 = .ok (.istore 5, 2) := by decide +kernel
theorem dX11_last_41 : decode cX11_last 41 = .ok (.iload_n 3, 1) := by decide +kernel
theorem dX11_last_42 : decode cX11_last 42 = .ok (.ifCond .eq 16, 3) := by decide +kernel
theorem dX11_last_45 : decode cX11_last 45 = .ok (.aload_n 0, 1) := by decide +kernel
theorem dX11_last_46 : decode cX11_last 46 = .ok (.getfield 40, 3) := by decide +kernel
theorem dX11_last_49 : decode cX11_last 49 = .ok (.getfield 235, 3) := by decide +kernel
theorem dX11_last_52 : decode cX11_last 52 = .ok (.iload 5, 2) := by decide +kernel
theorem dX11_last_54 : decode cX11_last 54 = .ok (.iaload, 1) := by decide +kernel
theorem dX11_last_55 : decode cX11_last 55 = .ok (.goto 13, 3) := by decide +kernel
theorem dX11_last_58 : decode cX11_last 58 = .ok (.aload_n 0, 1) := by decide +kernel
theorem dX11_last_59 : decode cX11_last 59 = .ok (.getfield 40, 3) := by decide +kernel
theorem dX11_last_62 : decode cX11_last 62 = .ok (.getfield 238, 3) := by decide +kernel
theorem dX11_last_65 : decode cX11_last 65 = .ok (.iload 5, 2) := by decide +kernel
theorem dX11_last_67 : decode cX11_last 67 = .ok (.iaload, 1) := by decide +kernel
theorem dX11_last_68 : decode cX11_last 68 = .ok (.istore 6, 2) := by decide +kernel
theorem dX11_last_70 : decode cX11_last 70 = .ok (.iload 6, 2) := by decide +kernel
theorem dX11_last_72 : decode cX11_last 72 = .ok (.iconst (-1), 1) := by decide +kernel
theorem dX11_last_73 : decode cX11_last 73 = .ok (.if_icmp .ne 8, 3) := by decide +kernel
theorem dX11_last_76 : decode cX11_last 76 = .ok (.bipush (-2), 2) := by decide +kernel
theorem dX11_last_78 : decode cX11_last 78 = .ok (.goto 5, 3) := by decide +kernel
theorem dX11_last_81 : decode cX11_last 81 = .ok (.iload 6, 2) := by decide +kernel
theorem dX11_last_83 : decode cX11_last 83 = .ok (.ireturn, 1) := by decide +kernel
set_option maxRecDepth 100000 in
theorem sgX11_last_0 {d : Nat} {I : st_I} {L : st_L} {F : Int32 → st_I → st_L → Prop} {a1 : Int32} {a2 : Int32} {a3 : Int32} {a4 : Int32} (h : EI d mX8_hasPerson [.ref 1, .int a1] I L (fun r1 I1 L1 => (if r1 = 0 then F (-1) I1 L1 else EI d mX8_hasFiddle [.ref 1, .int a2] I1 L1 (fun r2 I2 L2 => (if r2 = 0 then F (-1) I2 L2 else EI d mX11_knows [.ref 0, .int a4] I2 L2 (fun r3 I3 L3 => (if r3 = 0 then F (-1) I3 L3 else (if a3 = 0 then vp_in ((a1 * 8) + a2) 80 ∧ F (if (I3 32 (((a1 * 8) + a2).toNatClampNeg)) = (-1) then ((-2) : Int32) else (I3 32 (((a1 * 8) + a2).toNatClampNeg))) I3 L3 else vp_in ((a1 * 8) + a2) 80 ∧ F (if (I3 34 (((a1 * 8) + a2).toNatClampNeg)) = (-1) then ((-2) : Int32) else (I3 34 (((a1 * 8) + a2).toNatClampNeg))) I3 L3)))))))) : EI (d + 1) mX11_last [.ref 0, .int a1, .int a2, .int a3, .int a4] I L F := by
  refine Ev_of (ls0 := 2) (by decide +kernel) rfl rfl rfl ?_
  refine T_aload_n dX11_last_0 rfl ?_
  refine T_getr dX11_last_1 fl_RX11_19 shp_0 rfl ?_
  refine T_iload_n dX11_last_4 rfl ?_
  refine S_callVI (M' := mX8_hasPerson) [.int a1] [] dX11_last_5 ml_RX11_125 mkX8_hasPerson rfl shp_1 rfl rfl rfl (Nat.le_of_ble_eq_true rfl) h (fun r1 I1 L1 h => ?_)
  refine T_if_eq (tgt := 31) dX11_last_8 (by decide) (tq_ite h (fun h => ?_) (fun h => ?_))
  ·
    refine T_iconst (v := (-1)) dX11_last_31 (by decide +kernel) ?_
    exact S_iret rfl dX11_last_32 h
  ·
    refine T_aload_n dX11_last_11 rfl ?_
    refine T_getr dX11_last_12 fl_RX11_19 shp_0 rfl ?_
    refine T_iload_n dX11_last_15 rfl ?_
    refine S_callVI (M' := mX8_hasFiddle) [.int a2] [] dX11_last_16 ml_RX11_118 mkX8_hasFiddle rfl shp_1 rfl rfl rfl (Nat.le_of_ble_eq_true rfl) h (fun r2 I2 L2 h => ?_)
    refine T_if_eq (tgt := 31) dX11_last_19 (by decide) (tq_ite h (fun h => ?_) (fun h => ?_))
    ·
      refine T_iconst (v := (-1)) dX11_last_31 (by decide +kernel) ?_
      exact S_iret rfl dX11_last_32 h
    ·
      refine T_aload_n dX11_last_22 rfl ?_
      refine T_iload dX11_last_23 rfl ?_
      refine S_callVI (M' := mX11_knows) [.int a4] [] dX11_last_25 ml_RX11_232 mkX11_knows rfl shp_0 rfl rfl rfl (Nat.le_of_ble_eq_true rfl) h (fun r3 I3 L3 h => ?_)
      refine T_if_ne (tgt := 33) dX11_last_28 (by decide) (tq_ite h (fun h => ?_) (fun h => ?_))
      ·
        refine T_iconst (v := (-1)) dX11_last_31 (by decide +kernel) ?_
        exact S_iret rfl dX11_last_32 h
      ·
        refine T_iload_n dX11_last_33 rfl ?_
        refine T_bipush (v := 8) dX11_last_34 (by decide +kernel) ?_
        refine T_imul dX11_last_36 ?_
        refine T_iload_n dX11_last_37 rfl ?_
        refine T_iadd dX11_last_38 ?_
        refine T_istore (lv' := [.ref 0, .int a1, .int a2, .int a3, .int a4, .int ((a1 * 8) + a2), .null]) dX11_last_39 (by decide) rfl ?_
        refine T_iload_n dX11_last_41 rfl ?_
        refine T_if_eq (tgt := 58) dX11_last_42 (by decide) (tq_ite h (fun h => ?_) (fun h => ?_))
        ·
          refine T_aload_n dX11_last_58 rfl ?_
          refine T_getr dX11_last_59 fl_RX11_40 shp_0 rfl ?_
          refine T_getr dX11_last_62 fl_RX11_238 shp_30 rfl ?_
          refine T_iload dX11_last_65 rfl ?_
          refine T_ialdv (v := (I3 32 (((a1 * 8) + a2).toNatClampNeg))) (j := ((a1 * 8) + a2).toNatClampNeg) dX11_last_67 shp_32 h.1 rfl rfl ?_
          replace h := h.2
          refine T_istore (lv' := [.ref 0, .int a1, .int a2, .int a3, .int a4, .int ((a1 * 8) + a2), .int (I3 32 (((a1 * 8) + a2).toNatClampNeg))]) dX11_last_68 (by decide) rfl ?_
          refine T_iload dX11_last_70 rfl ?_
          refine T_iconst (v := (-1)) dX11_last_72 (by decide +kernel) ?_
          refine T_icmp_ne (tgt := 81) dX11_last_73 (by decide) (tq_itv (fun v => T shp (d + 1) mX11_last 83 [.ref 0, .int a1, .int a2, .int a3, .int a4, .int ((a1 * 8) + a2), .int (I3 32 (((a1 * 8) + a2).toNatClampNeg))] (.int v :: []) I3 L3 (kI F)) (-2) (I3 32 (((a1 * 8) + a2).toNatClampNeg)) (fun hJ => ?_) (fun hJ => ?_) ?_)
          ·
              refine T_bipush (v := (-2)) dX11_last_76 (by decide +kernel) ?_
              refine T_goto (tgt := 83) dX11_last_78 (by decide) ?_
              exact hJ
          ·
              refine T_iload dX11_last_81 rfl ?_
              exact hJ
          exact S_iret rfl dX11_last_83 h
        ·
          refine T_aload_n dX11_last_45 rfl ?_
          refine T_getr dX11_last_46 fl_RX11_40 shp_0 rfl ?_
          refine T_getr dX11_last_49 fl_RX11_235 shp_30 rfl ?_
          refine T_iload dX11_last_52 rfl ?_
          refine T_ialdv (v := (I3 34 (((a1 * 8) + a2).toNatClampNeg))) (j := ((a1 * 8) + a2).toNatClampNeg) dX11_last_54 shp_34 h.1 rfl rfl ?_
          replace h := h.2
          refine T_goto (tgt := 68) dX11_last_55 (by decide) ?_
          refine T_istore (lv' := [.ref 0, .int a1, .int a2, .int a3, .int a4, .int ((a1 * 8) + a2), .int (I3 34 (((a1 * 8) + a2).toNatClampNeg))]) dX11_last_68 (by decide) rfl ?_
          refine T_iload dX11_last_70 rfl ?_
          refine T_iconst (v := (-1)) dX11_last_72 (by decide +kernel) ?_
          refine T_icmp_ne (tgt := 81) dX11_last_73 (by decide) (tq_itv (fun v => T shp (d + 1) mX11_last 83 [.ref 0, .int a1, .int a2, .int a3, .int a4, .int ((a1 * 8) + a2), .int (I3 34 (((a1 * 8) + a2).toNatClampNeg))] (.int v :: []) I3 L3 (kI F)) (-2) (I3 34 (((a1 * 8) + a2).toNatClampNeg)) (fun hJ => ?_) (fun hJ => ?_) ?_)
          ·
              refine T_bipush (v := (-2)) dX11_last_76 (by decide +kernel) ?_
              refine T_goto (tgt := 83) dX11_last_78 (by decide) ?_
              exact hJ
          ·
              refine T_iload dX11_last_81 rfl ?_
              exact hJ
          exact S_iret rfl dX11_last_83 h

theorem dX11_mean_0 : decode cX11_mean 0 = .ok (.aload_n 0, 1) := by decide +kernel
theorem dX11_mean_1 : decode cX11_mean 1 = .ok (.getfield 19, 3) := by decide +kernel
theorem dX11_mean_4 : decode cX11_mean 4 = .ok (.iload_n 1, 1) := by decide +kernel
theorem dX11_mean_5 : decode cX11_mean 5 = .ok (.invokevirtual 118, 3) := by decide +kernel
theorem dX11_mean_8 : decode cX11_mean 8 = .ok (.ifCond .eq 22, 3) := by decide +kernel
theorem dX11_mean_11 : decode cX11_mean 11 = .ok (.iload 4, 2) := by decide +kernel
theorem dX11_mean_13 : decode cX11_mean 13 = .ok (.ifCond .lt 17, 3) := by decide +kernel
theorem dX11_mean_16 : decode cX11_mean 16 = .ok (.iload 4, 2) := by decide +kernel
theorem dX11_mean_18 : decode cX11_mean 18 = .ok (.iconst 1, 1) := by decide +kernel
theorem dX11_mean_19 : decode cX11_mean 19 = .ok (.if_icmp .gt 11, 3) := by decide +kernel
theorem dX11_mean_22 : decode cX11_mean 22 = .ok (.aload_n 0, 1) := by decide +kernel
theorem dX11_mean_23 : decode cX11_mean 23 = .ok (.iload_n 3, 1) := by decide +kernel
theorem dX11_mean_24 : decode cX11_mean 24 = .ok (.invokevirtual 232, 3) := by decide +kernel
theorem dX11_mean_27 : decode cX11_mean 27 = .ok (.ifCond .ne 5, 3) := by decide +kernel
theorem dX11_mean_30 : decode cX11_mean 30 = .ok (.iconst (-1), 1) := by decide +kernel
theorem dX11_mean_31 : decode cX11_mean 31 = .ok (.ireturn, 1) := by decide +kernel
theorem dX11_mean_32 : decode cX11_mean 32 = .ok (.iload_n 2, 1) := by decide +kernel
theorem dX11_mean_33 : decode cX11_mean 33 = .ok (.ifCond .eq 10, 3) := by decide +kernel
theorem dX11_mean_36 : decode cX11_mean 36 = .ok (.bipush 8, 2) := by decide +kernel
theorem dX11_mean_38 : decode cX11_mean 38 = .ok (.iload_n 1, 1) := by decide +kernel
theorem dX11_mean_39 : decode cX11_mean 39 = .ok (.iadd, 1) := by decide +kernel
theorem dX11_mean_40 : decode cX11_mean 40 = .ok (.goto 4, 3) := by decide +kernel
theorem dX11_mean_43 : decode cX11_mean 43 = .ok (.iload_n 1, 1) := by decide +kernel
theorem dX11_mean_44 : decode cX11_mean 44 = .ok (.istore 5, 2) := by decide +kernel
theorem dX11_mean_46 : decode cX11_mean 46 = .ok (.iload 4, 2) := by decide +kernel
theorem dX11_mean_48 : decode cX11_mean 48 = .ok (.ifCond .ne 16, 3) := by decide +kernel
theorem dX11_mean_51 : decode cX11_mean 51 = .ok (.aload_n 0, 1) := by decide +kernel
theorem dX11_mean_52 : decode cX11_mean 52 = .ok (.getfield 40, 3) := by decide +kernel
theorem dX11_mean_55 : decode cX11_mean 55 = .ok (.getfield 241, 3) := by decide +kernel
theorem dX11_mean_58 : decode cX11_mean 58 = .ok (.iload 5, 2) := by decide +kernel
theorem dX11_mean_60 : decode cX11_mean 60 = .ok (.iaload, 1) := by decide +kernel
theorem dX11_mean_61 : decode cX11_mean 61 = .ok (.goto 13, 3) := by decide +kernel
theorem dX11_mean_64 : decode cX11_mean 64 = .ok (.aload_n 0, 1) := by decide +kernel
theorem dX11_mean_65 : decode cX11_mean 65 = .ok (.getfield 40, 3) := by decide +kernel
theorem dX11_mean_68 : decode cX11_mean 68 = .ok (.getfield 244, 3) := by decide +kernel
theorem dX11_mean_71 : decode cX11_mean 71 = .ok (.iload 5, 2) := by decide +kernel
theorem dX11_mean_73 : decode cX11_mean 73 = .ok (.iaload, 1) := by decide +kernel
theorem dX11_mean_74 : decode cX11_mean 74 = .ok (.ireturn, 1) := by decide +kernel
set_option maxRecDepth 100000 in
theorem sgX11_mean_0 {d : Nat} {I : st_I} {L : st_L} {F : Int32 → st_I → st_L → Prop} {a1 : Int32} {a2 : Int32} {a3 : Int32} {a4 : Int32} (h : EI d mX8_hasFiddle [.ref 1, .int a1] I L (fun r1 I1 L1 => (if r1 = 0 then F (-1) I1 L1 else (if a4 < 0 then F (-1) I1 L1 else (if 1 < a4 then F (-1) I1 L1 else EI d mX11_knows [.ref 0, .int a3] I1 L1 (fun r2 I2 L2 => (if r2 = 0 then F (-1) I2 L2 else (if a4 = 0 then vp_in (if a2 = 0 then a1 else (8 + a1)) 16 ∧ F (I2 35 ((if a2 = 0 then a1 else (8 + a1)).toNatClampNeg)) I2 L2 else vp_in (if a2 = 0 then a1 else (8 + a1)) 16 ∧ F (I2 36 ((if a2 = 0 then a1 else (8 + a1)).toNatClampNeg)) I2 L2)))))))) : EI (d + 1) mX11_mean [.ref 0, .int a1, .int a2, .int a3, .int a4] I L F := by
  refine Ev_of (ls0 := 1) (by decide +kernel) rfl rfl rfl ?_
  refine T_aload_n dX11_mean_0 rfl ?_
  refine T_getr dX11_mean_1 fl_RX11_19 shp_0 rfl ?_
  refine T_iload_n dX11_mean_4 rfl ?_
  refine S_callVI (M' := mX8_hasFiddle) [.int a1] [] dX11_mean_5 ml_RX11_118 mkX8_hasFiddle rfl shp_1 rfl rfl rfl (Nat.le_of_ble_eq_true rfl) h (fun r1 I1 L1 h => ?_)
  refine T_if_eq (tgt := 30) dX11_mean_8 (by decide) (tq_ite h (fun h => ?_) (fun h => ?_))
  ·
    refine T_iconst (v := (-1)) dX11_mean_30 (by decide +kernel) ?_
    exact S_iret rfl dX11_mean_31 h
  ·
    refine T_iload dX11_mean_11 rfl ?_
    refine T_if_lt (tgt := 30) dX11_mean_13 (by decide) (tq_ite h (fun h => ?_) (fun h => ?_))
    ·
      refine T_iconst (v := (-1)) dX11_mean_30 (by decide +kernel) ?_
      exact S_iret rfl dX11_mean_31 h
    ·
      refine T_iload dX11_mean_16 rfl ?_
      refine T_iconst (v := 1) dX11_mean_18 (by decide +kernel) ?_
      refine T_icmp_gt (tgt := 30) dX11_mean_19 (by decide) (tq_ite h (fun h => ?_) (fun h => ?_))
      ·
        refine T_iconst (v := (-1)) dX11_mean_30 (by decide +kernel) ?_
        exact S_iret rfl dX11_mean_31 h
      ·
        refine T_aload_n dX11_mean_22 rfl ?_
        refine T_iload_n dX11_mean_23 rfl ?_
        refine S_callVI (M' := mX11_knows) [.int a3] [] dX11_mean_24 ml_RX11_232 mkX11_knows rfl shp_0 rfl rfl rfl (Nat.le_of_ble_eq_true rfl) h (fun r2 I2 L2 h => ?_)
        refine T_if_ne (tgt := 32) dX11_mean_27 (by decide) (tq_ite h (fun h => ?_) (fun h => ?_))
        ·
          refine T_iconst (v := (-1)) dX11_mean_30 (by decide +kernel) ?_
          exact S_iret rfl dX11_mean_31 h
        ·
          refine T_iload_n dX11_mean_32 rfl ?_
          refine T_if_eq (tgt := 43) dX11_mean_33 (by decide) (tq_itv (fun v => T shp (d + 1) mX11_mean 44 [.ref 0, .int a1, .int a2, .int a3, .int a4, .null] (.int v :: []) I2 L2 (kI F)) a1 (8 + a1) (fun hJ => ?_) (fun hJ => ?_) ?_)
          ·
              refine T_iload_n dX11_mean_43 rfl ?_
              exact hJ
          ·
              refine T_bipush (v := 8) dX11_mean_36 (by decide +kernel) ?_
              refine T_iload_n dX11_mean_38 rfl ?_
              refine T_iadd dX11_mean_39 ?_
              refine T_goto (tgt := 44) dX11_mean_40 (by decide) ?_
              exact hJ
          refine T_istore (lv' := [.ref 0, .int a1, .int a2, .int a3, .int a4, .int (if a2 = 0 then a1 else (8 + a1))]) dX11_mean_44 (by decide) rfl ?_
          refine T_iload dX11_mean_46 rfl ?_
          refine T_if_ne (tgt := 64) dX11_mean_48 (by decide) (tq_ite h (fun h => ?_) (fun h => ?_))
          ·
            refine T_aload_n dX11_mean_51 rfl ?_
            refine T_getr dX11_mean_52 fl_RX11_40 shp_0 rfl ?_
            refine T_getr dX11_mean_55 fl_RX11_241 shp_30 rfl ?_
            refine T_iload dX11_mean_58 rfl ?_
            refine T_ialdv (v := (I2 35 ((if a2 = 0 then a1 else (8 + a1)).toNatClampNeg))) (j := (if a2 = 0 then a1 else (8 + a1)).toNatClampNeg) dX11_mean_60 shp_35 h.1 rfl rfl ?_
            replace h := h.2
            refine T_goto (tgt := 74) dX11_mean_61 (by decide) ?_
            exact S_iret rfl dX11_mean_74 h
          ·
            refine T_aload_n dX11_mean_64 rfl ?_
            refine T_getr dX11_mean_65 fl_RX11_40 shp_0 rfl ?_
            refine T_getr dX11_mean_68 fl_RX11_244 shp_30 rfl ?_
            refine T_iload dX11_mean_71 rfl ?_
            refine T_ialdv (v := (I2 36 ((if a2 = 0 then a1 else (8 + a1)).toNatClampNeg))) (j := (if a2 = 0 then a1 else (8 + a1)).toNatClampNeg) dX11_mean_73 shp_36 h.1 rfl rfl ?_
            replace h := h.2
            exact S_iret rfl dX11_mean_74 h

theorem dX11_guesses_0 : decode cX11_guesses 0 = .ok (.iload_n 2, 1) := by decide +kernel
theorem dX11_guesses_1 : decode cX11_guesses 1 = .ok (.ifCond .lt 23, 3) := by decide +kernel
theorem dX11_guesses_4 : decode cX11_guesses 4 = .ok (.iload_n 2, 1) := by decide +kernel
theorem dX11_guesses_5 : decode cX11_guesses 5 = .ok (.aload_n 0, 1) := by decide +kernel
theorem dX11_guesses_6 : decode cX11_guesses 6 = .ok (.getfield 40, 3) := by decide +kernel
theorem dX11_guesses_9 : decode cX11_guesses 9 = .ok (.getfield 247, 3) := by decide +kernel
theorem dX11_guesses_12 : decode cX11_guesses 12 = .ok (.arraylength, 1) := by decide +kernel
theorem dX11_guesses_13 : decode cX11_guesses 13 = .ok (.if_icmp .ge 11, 3) := by decide +kernel
theorem dX11_guesses_16 : decode cX11_guesses 16 = .ok (.aload_n 0, 1) := by decide +kernel
theorem dX11_guesses_17 : decode cX11_guesses 17 = .ok (.iload_n 1, 1) := by decide +kernel
theorem dX11_guesses_18 : decode cX11_guesses 18 = .ok (.invokevirtual 232, 3) := by decide +kernel
theorem dX11_guesses_21 : decode cX11_guesses 21 = .ok (.ifCond .ne 5, 3) := by decide +kernel
theorem dX11_guesses_24 : decode cX11_guesses 24 = .ok (.iconst (-1), 1) := by decide +kernel
theorem dX11_guesses_25 : decode cX11_guesses 25 = .ok (.ireturn, 1) := by decide +kernel
theorem dX11_guesses_26 : decode cX11_guesses 26 = .ok (.aload_n 0, 1) := by decide +kernel
theorem dX11_guesses_27 : decode cX11_guesses 27 = .ok (.getfield 40, 3) := by decide +kernel
theorem dX11_guesses_30 : decode cX11_guesses 30 = .ok (.getfield 247, 3) := by decide +kernel
theorem dX11_guesses_33 : decode cX11_guesses 33 = .ok (.iload_n 2, 1) := by decide +kernel
theorem dX11_guesses_34 : decode cX11_guesses 34 = .ok (.iaload, 1) := by decide +kernel
theorem dX11_guesses_35 : decode cX11_guesses 35 = .ok (.ireturn, 1) := by decide +kernel
set_option maxRecDepth 100000 in
theorem sgX11_guesses_0 {d : Nat} {I : st_I} {L : st_L} {F : Int32 → st_I → st_L → Prop} {a1 : Int32} {a2 : Int32} (h : (if a2 < 0 then F (-1) I L else (if 5 ≤ a2 then F (-1) I L else EI d mX11_knows [.ref 0, .int a1] I L (fun r1 I1 L1 => (if r1 = 0 then F (-1) I1 L1 else vp_in a2 5 ∧ F (I1 39 (a2.toNatClampNeg)) I1 L1))))) : EI (d + 1) mX11_guesses [.ref 0, .int a1, .int a2] I L F := by
  refine Ev_of (ls0 := 0) (by decide +kernel) rfl rfl rfl ?_
  refine T_iload_n dX11_guesses_0 rfl ?_
  refine T_if_lt (tgt := 24) dX11_guesses_1 (by decide) (tq_ite h (fun h => ?_) (fun h => ?_))
  ·
    refine T_iconst (v := (-1)) dX11_guesses_24 (by decide +kernel) ?_
    exact S_iret rfl dX11_guesses_25 h
  ·
    refine T_iload_n dX11_guesses_4 rfl ?_
    refine T_aload_n dX11_guesses_5 rfl ?_
    refine T_getr dX11_guesses_6 fl_RX11_40 shp_0 rfl ?_
    refine T_getr dX11_guesses_9 fl_RX11_247 shp_30 rfl ?_
    refine T_alen (v := 5) dX11_guesses_12 shp_39 (by decide) (by decide +kernel) ?_
    refine T_icmp_ge (tgt := 24) dX11_guesses_13 (by decide) (tq_ite h (fun h => ?_) (fun h => ?_))
    ·
      refine T_iconst (v := (-1)) dX11_guesses_24 (by decide +kernel) ?_
      exact S_iret rfl dX11_guesses_25 h
    ·
      refine T_aload_n dX11_guesses_16 rfl ?_
      refine T_iload_n dX11_guesses_17 rfl ?_
      refine S_callVI (M' := mX11_knows) [.int a1] [] dX11_guesses_18 ml_RX11_232 mkX11_knows rfl shp_0 rfl rfl rfl (Nat.le_of_ble_eq_true rfl) h (fun r1 I1 L1 h => ?_)
      refine T_if_ne (tgt := 26) dX11_guesses_21 (by decide) (tq_ite h (fun h => ?_) (fun h => ?_))
      ·
        refine T_iconst (v := (-1)) dX11_guesses_24 (by decide +kernel) ?_
        exact S_iret rfl dX11_guesses_25 h
      ·
        refine T_aload_n dX11_guesses_26 rfl ?_
        refine T_getr dX11_guesses_27 fl_RX11_40 shp_0 rfl ?_
        refine T_getr dX11_guesses_30 fl_RX11_247 shp_30 rfl ?_
        refine T_iload_n dX11_guesses_33 rfl ?_
        refine T_ialdv (v := (I1 39 (a2.toNatClampNeg))) (j := a2.toNatClampNeg) dX11_guesses_34 shp_39 h.1 rfl rfl ?_
        replace h := h.2
        exact S_iret rfl dX11_guesses_35 h

theorem dX11_coin_0 : decode cX11_coin 0 = .ok (.aload_n 0, 1) := by decide +kernel
theorem dX11_coin_1 : decode cX11_coin 1 = .ok (.iload_n 1, 1) := by decide +kernel
theorem dX11_coin_2 : decode cX11_coin 2 = .ok (.invokevirtual 232, 3) := by decide +kernel
theorem dX11_coin_5 : decode cX11_coin 5 = .ok (.ifCond .ne 7, 3) := by decide +kernel
theorem dX11_coin_8 : decode cX11_coin 8 = .ok (.ldc2_w 207, 3) := by decide +kernel
theorem dX11_coin_11 : decode cX11_coin 11 = .ok (.lreturn, 1) := by decide +kernel
theorem dX11_coin_12 : decode cX11_coin 12 = .ok (.aload_n 0, 1) := by decide +kernel
theorem dX11_coin_13 : decode cX11_coin 13 = .ok (.getfield 40, 3) := by decide +kernel
theorem dX11_coin_16 : decode cX11_coin 16 = .ok (.getfield 247, 3) := by decide +kernel
theorem dX11_coin_19 : decode cX11_coin 19 = .ok (.iconst 0, 1) := by decide +kernel
theorem dX11_coin_20 : decode cX11_coin 20 = .ok (.iaload, 1) := by decide +kernel
theorem dX11_coin_21 : decode cX11_coin 21 = .ok (.istore_n 3, 1) := by decide +kernel
theorem dX11_coin_22 : decode cX11_coin 22 = .ok (.iload_n 3, 1) := by decide +kernel
theorem dX11_coin_23 : decode cX11_coin 23 = .ok (.bipush 60, 2) := by decide +kernel
theorem dX11_coin_25 : decode cX11_coin 25 = .ok (.if_icmp .le 7, 3) := by decide +kernel
theorem dX11_coin_28 : decode cX11_coin 28 = .ok (.ldc2_w 250, 3) := by decide +kernel
theorem dX11_coin_31 : decode cX11_coin 31 = .ok (.lreturn, 1) := by decide +kernel
theorem dX11_coin_32 : decode cX11_coin 32 = .ok (.iload_n 2, 1) := by decide +kernel
theorem dX11_coin_33 : decode cX11_coin 33 = .ok (.ifCond .eq 19, 3) := by decide +kernel
theorem dX11_coin_36 : decode cX11_coin 36 = .ok (.iload_n 3, 1) := by decide +kernel
theorem dX11_coin_37 : decode cX11_coin 37 = .ok (.aload_n 0, 1) := by decide +kernel
theorem dX11_coin_38 : decode cX11_coin 38 = .ok (.getfield 40, 3) := by decide +kernel
theorem dX11_coin_41 : decode cX11_coin 41 = .ok (.getfield 247, 3) := by decide +kernel
theorem dX11_coin_44 : decode cX11_coin 44 = .ok (.iconst 1, 1) := by decide +kernel
theorem dX11_coin_45 : decode cX11_coin 45 = .ok (.iaload, 1) := by decide +kernel
theorem dX11_coin_46 : decode cX11_coin 46 = .ok (.invokestatic 252, 3) := by decide +kernel
theorem dX11_coin_49 : decode cX11_coin 49 = .ok (.goto 6, 3) := by decide +kernel
theorem dX11_coin_52 : decode cX11_coin 52 = .ok (.lconst 1, 1) := by decide +kernel
theorem dX11_coin_53 : decode cX11_coin 53 = .ok (.iload_n 3, 1) := by decide +kernel
theorem dX11_coin_54 : decode cX11_coin 54 = .ok (.lshl, 1) := by decide +kernel
theorem dX11_coin_55 : decode cX11_coin 55 = .ok (.lreturn, 1) := by decide +kernel
set_option maxRecDepth 100000 in
theorem sgX11_coin_0 {d : Nat} {I : st_I} {L : st_L} {F : Int64 → st_I → st_L → Prop} {a1 : Int32} {a2 : Int32} (h : EI d mX11_knows [.ref 0, .int a1] I L (fun r1 I1 L1 => (if r1 = 0 then F (-1) I1 L1 else (if (I1 39 0) ≤ 60 then (if a2 = 0 then F ((1 : Int64) <<< (((I1 39 0) : Int32).toInt64 &&& 63)) I1 L1 else EL d mX10_orMoreHeads [.int (I1 39 0), .int (I1 39 1)] I1 L1 (fun r2 I2 L2 => F r2 I2 L2)) else F (-2) I1 L1)))) : EL (d + 1) mX11_coin [.ref 0, .int a1, .int a2] I L F := by
  refine Ev_of (ls0 := 1) (by decide +kernel) rfl rfl rfl ?_
  refine T_aload_n dX11_coin_0 rfl ?_
  refine T_iload_n dX11_coin_1 rfl ?_
  refine S_callVI (M' := mX11_knows) [.int a1] [] dX11_coin_2 ml_RX11_232 mkX11_knows rfl shp_0 rfl rfl rfl (Nat.le_of_ble_eq_true rfl) h (fun r1 I1 L1 h => ?_)
  refine T_if_ne (tgt := 12) dX11_coin_5 (by decide) (tq_ite h (fun h => ?_) (fun h => ?_))
  ·
    refine T_ldc2 (v := (-1)) dX11_coin_8 ki_RX11_207 ?_
    exact S_lret rfl dX11_coin_11 h
  ·
    refine T_aload_n dX11_coin_12 rfl ?_
    refine T_getr dX11_coin_13 fl_RX11_40 shp_0 rfl ?_
    refine T_getr dX11_coin_16 fl_RX11_247 shp_30 rfl ?_
    refine T_iconst (v := 0) dX11_coin_19 (by decide +kernel) ?_
    refine T_ialdv (v := (I1 39 0)) (j := 0) dX11_coin_20 shp_39 (tq_inl (by decide +kernel)) (by decide +kernel) rfl ?_
    refine T_istore_n (lv' := [.ref 0, .int a1, .int a2, .int (I1 39 0)]) dX11_coin_21 rfl (by decide) rfl ?_
    refine T_iload_n dX11_coin_22 rfl ?_
    refine T_bipush (v := 60) dX11_coin_23 (by decide +kernel) ?_
    refine T_icmp_le (tgt := 32) dX11_coin_25 (by decide) (tq_ite h (fun h => ?_) (fun h => ?_))
    ·
      refine T_iload_n dX11_coin_32 rfl ?_
      refine T_if_eq (tgt := 52) dX11_coin_33 (by decide) (tq_ite h (fun h => ?_) (fun h => ?_))
      ·
        refine T_lconst (v := 1) dX11_coin_52 (by decide +kernel) ?_
        refine T_iload_n dX11_coin_53 rfl ?_
        refine T_lshl dX11_coin_54 ?_
        exact S_lret rfl dX11_coin_55 h
      ·
        refine T_iload_n dX11_coin_36 rfl ?_
        refine T_aload_n dX11_coin_37 rfl ?_
        refine T_getr dX11_coin_38 fl_RX11_40 shp_0 rfl ?_
        refine T_getr dX11_coin_41 fl_RX11_247 shp_30 rfl ?_
        refine T_iconst (v := 1) dX11_coin_44 (by decide +kernel) ?_
        refine T_ialdv (v := (I1 39 1)) (j := 1) dX11_coin_45 shp_39 (tq_inl (by decide +kernel)) (by decide +kernel) rfl ?_
        refine S_callSL (M' := mX10_orMoreHeads) [.int (I1 39 0), .int (I1 39 1)] [] dX11_coin_46 ml_RX11_252 mkX10_orMoreHeads rfl rfl (Nat.le_of_ble_eq_true rfl) h (fun r2 I2 L2 h => ?_)
        refine T_goto (tgt := 55) dX11_coin_49 (by decide) ?_
        exact S_lret rfl dX11_coin_55 h
    ·
      refine T_ldc2 (v := (-2)) dX11_coin_28 ki_RX11_250 ?_
      exact S_lret rfl dX11_coin_31 h

theorem dX11_table_0 : decode cX11_table 0 = .ok (.aload_n 0, 1) := by decide +kernel
theorem dX11_table_1 : decode cX11_table 1 = .ok (.iload_n 1, 1) := by decide +kernel
theorem dX11_table_2 : decode cX11_table 2 = .ok (.invokevirtual 232, 3) := by decide +kernel
theorem dX11_table_5 : decode cX11_table 5 = .ok (.ifCond .ne 7, 3) := by decide +kernel
theorem dX11_table_8 : decode cX11_table 8 = .ok (.ldc2_w 207, 3) := by decide +kernel
theorem dX11_table_11 : decode cX11_table 11 = .ok (.lreturn, 1) := by decide +kernel
theorem dX11_table_12 : decode cX11_table 12 = .ok (.aload_n 0, 1) := by decide +kernel
theorem dX11_table_13 : decode cX11_table 13 = .ok (.getfield 40, 3) := by decide +kernel
theorem dX11_table_16 : decode cX11_table 16 = .ok (.getfield 247, 3) := by decide +kernel
theorem dX11_table_19 : decode cX11_table 19 = .ok (.iconst 0, 1) := by decide +kernel
theorem dX11_table_20 : decode cX11_table 20 = .ok (.iaload, 1) := by decide +kernel
theorem dX11_table_21 : decode cX11_table 21 = .ok (.istore_n 3, 1) := by decide +kernel
theorem dX11_table_22 : decode cX11_table 22 = .ok (.iload_n 3, 1) := by decide +kernel
theorem dX11_table_23 : decode cX11_table 23 = .ok (.bipush 60, 2) := by decide +kernel
theorem dX11_table_25 : decode cX11_table 25 = .ok (.if_icmp .le 7, 3) := by decide +kernel
theorem dX11_table_28 : decode cX11_table 28 = .ok (.ldc2_w 250, 3) := by decide +kernel
theorem dX11_table_31 : decode cX11_table 31 = .ok (.lreturn, 1) := by decide +kernel
theorem dX11_table_32 : decode cX11_table 32 = .ok (.aload_n 0, 1) := by decide +kernel
theorem dX11_table_33 : decode cX11_table 33 = .ok (.getfield 40, 3) := by decide +kernel
theorem dX11_table_36 : decode cX11_table 36 = .ok (.getfield 247, 3) := by decide +kernel
theorem dX11_table_39 : decode cX11_table 39 = .ok (.iconst 2, 1) := by decide +kernel
theorem dX11_table_40 : decode cX11_table 40 = .ok (.iaload, 1) := by decide +kernel
theorem dX11_table_41 : decode cX11_table 41 = .ok (.istore 4, 2) := by decide +kernel
theorem dX11_table_43 : decode cX11_table 43 = .ok (.iload_n 2, 1) := by decide +kernel
theorem dX11_table_44 : decode cX11_table 44 = .ok (.ifCond .ne 10, 3) := by decide +kernel
theorem dX11_table_47 : decode cX11_table 47 = .ok (.iload_n 3, 1) := by decide +kernel
theorem dX11_table_48 : decode cX11_table 48 = .ok (.iload 4, 2) := by decide +kernel
theorem dX11_table_50 : decode cX11_table 50 = .ok (.invokestatic 258, 3) := by decide +kernel
theorem dX11_table_53 : decode cX11_table 53 = .ok (.lreturn, 1) := by decide +kernel
theorem dX11_table_54 : decode cX11_table 54 = .ok (.iload_n 3, 1) := by decide +kernel
theorem dX11_table_55 : decode cX11_table 55 = .ok (.iload 4, 2) := by decide +kernel
theorem dX11_table_57 : decode cX11_table 57 = .ok (.aload_n 0, 1) := by decide +kernel
theorem dX11_table_58 : decode cX11_table 58 = .ok (.getfield 40, 3) := by decide +kernel
theorem dX11_table_61 : decode cX11_table 61 = .ok (.getfield 247, 3) := by decide +kernel
theorem dX11_table_64 : decode cX11_table 64 = .ok (.iconst 3, 1) := by decide +kernel
theorem dX11_table_65 : decode cX11_table 65 = .ok (.iaload, 1) := by decide +kernel
theorem dX11_table_66 : decode cX11_table 66 = .ok (.aload_n 0, 1) := by decide +kernel
theorem dX11_table_67 : decode cX11_table 67 = .ok (.getfield 40, 3) := by decide +kernel
theorem dX11_table_70 : decode cX11_table 70 = .ok (.getfield 247, 3) := by decide +kernel
theorem dX11_table_73 : decode cX11_table 73 = .ok (.iconst 4, 1) := by decide +kernel
theorem dX11_table_74 : decode cX11_table 74 = .ok (.iaload, 1) := by decide +kernel
theorem dX11_table_75 : decode cX11_table 75 = .ok (.invokestatic 261, 3) := by decide +kernel
theorem dX11_table_78 : decode cX11_table 78 = .ok (.lreturn, 1) := by decide +kernel
set_option maxRecDepth 100000 in
theorem sgX11_table_0 {d : Nat} {I : st_I} {L : st_L} {F : Int64 → st_I → st_L → Prop} {a1 : Int32} {a2 : Int32} (h : EI d mX11_knows [.ref 0, .int a1] I L (fun r1 I1 L1 => (if r1 = 0 then F (-1) I1 L1 else (if (I1 39 0) ≤ 60 then (if a2 = 0 then EL d mX10_choose [.int (I1 39 0), .int (I1 39 2)] I1 L1 (fun r2 I2 L2 => F r2 I2 L2) else EL d mX10_orMoreTaken [.int (I1 39 0), .int (I1 39 2), .int (I1 39 3), .int (I1 39 4)] I1 L1 (fun r3 I3 L3 => F r3 I3 L3)) else F (-2) I1 L1)))) : EL (d + 1) mX11_table [.ref 0, .int a1, .int a2] I L F := by
  refine Ev_of (ls0 := 2) (by decide +kernel) rfl rfl rfl ?_
  refine T_aload_n dX11_table_0 rfl ?_
  refine T_iload_n dX11_table_1 rfl ?_
  refine S_callVI (M' := mX11_knows) [.int a1] [] dX11_table_2 ml_RX11_232 mkX11_knows rfl shp_0 rfl rfl rfl (Nat.le_of_ble_eq_true rfl) h (fun r1 I1 L1 h => ?_)
  refine T_if_ne (tgt := 12) dX11_table_5 (by decide) (tq_ite h (fun h => ?_) (fun h => ?_))
  ·
    refine T_ldc2 (v := (-1)) dX11_table_8 ki_RX11_207 ?_
    exact S_lret rfl dX11_table_11 h
  ·
    refine T_aload_n dX11_table_12 rfl ?_
    refine T_getr dX11_table_13 fl_RX11_40 shp_0 rfl ?_
    refine T_getr dX11_table_16 fl_RX11_247 shp_30 rfl ?_
    refine T_iconst (v := 0) dX11_table_19 (by decide +kernel) ?_
    refine T_ialdv (v := (I1 39 0)) (j := 0) dX11_table_20 shp_39 (tq_inl (by decide +kernel)) (by decide +kernel) rfl ?_
    refine T_istore_n (lv' := [.ref 0, .int a1, .int a2, .int (I1 39 0), .null]) dX11_table_21 rfl (by decide) rfl ?_
    refine T_iload_n dX11_table_22 rfl ?_
    refine T_bipush (v := 60) dX11_table_23 (by decide +kernel) ?_
    refine T_icmp_le (tgt := 32) dX11_table_25 (by decide) (tq_ite h (fun h => ?_) (fun h => ?_))
    ·
      refine T_aload_n dX11_table_32 rfl ?_
      refine T_getr dX11_table_33 fl_RX11_40 shp_0 rfl ?_
      refine T_getr dX11_table_36 fl_RX11_247 shp_30 rfl ?_
      refine T_iconst (v := 2) dX11_table_39 (by decide +kernel) ?_
      refine T_ialdv (v := (I1 39 2)) (j := 2) dX11_table_40 shp_39 (tq_inl (by decide +kernel)) (by decide +kernel) rfl ?_
      refine T_istore (lv' := [.ref 0, .int a1, .int a2, .int (I1 39 0), .int (I1 39 2)]) dX11_table_41 (by decide) rfl ?_
      refine T_iload_n dX11_table_43 rfl ?_
      refine T_if_ne (tgt := 54) dX11_table_44 (by decide) (tq_ite h (fun h => ?_) (fun h => ?_))
      ·
        refine T_iload_n dX11_table_47 rfl ?_
        refine T_iload dX11_table_48 rfl ?_
        refine S_callSL (M' := mX10_choose) [.int (I1 39 0), .int (I1 39 2)] [] dX11_table_50 ml_RX11_258 mkX10_choose rfl rfl (Nat.le_of_ble_eq_true rfl) h (fun r2 I2 L2 h => ?_)
        exact S_lret rfl dX11_table_53 h
      ·
        refine T_iload_n dX11_table_54 rfl ?_
        refine T_iload dX11_table_55 rfl ?_
        refine T_aload_n dX11_table_57 rfl ?_
        refine T_getr dX11_table_58 fl_RX11_40 shp_0 rfl ?_
        refine T_getr dX11_table_61 fl_RX11_247 shp_30 rfl ?_
        refine T_iconst (v := 3) dX11_table_64 (by decide +kernel) ?_
        refine T_ialdv (v := (I1 39 3)) (j := 3) dX11_table_65 shp_39 (tq_inl (by decide +kernel)) (by decide +kernel) rfl ?_
        refine T_aload_n dX11_table_66 rfl ?_
        refine T_getr dX11_table_67 fl_RX11_40 shp_0 rfl ?_
        refine T_getr dX11_table_70 fl_RX11_247 shp_30 rfl ?_
        refine T_iconst (v := 4) dX11_table_73 (by decide +kernel) ?_
        refine T_ialdv (v := (I1 39 4)) (j := 4) dX11_table_74 shp_39 (tq_inl (by decide +kernel)) (by decide +kernel) rfl ?_
        refine S_callSL (M' := mX10_orMoreTaken) [.int (I1 39 0), .int (I1 39 2), .int (I1 39 3), .int (I1 39 4)] [] dX11_table_75 ml_RX11_261 mkX10_orMoreTaken rfl rfl (Nat.le_of_ble_eq_true rfl) h (fun r3 I3 L3 h => ?_)
        exact S_lret rfl dX11_table_78 h
    ·
      refine T_ldc2 (v := (-2)) dX11_table_28 ki_RX11_250 ?_
      exact S_lret rfl dX11_table_31 h

theorem dX11_steady_0 : decode cX11_steady 0 = .ok (.iload_n 2, 1) := by decide +kernel
theorem dX11_steady_1 : decode cX11_steady 1 = .ok (.ifCond .lt 16, 3) := by decide +kernel
theorem dX11_steady_4 : decode cX11_steady 4 = .ok (.iload_n 2, 1) := by decide +kernel
theorem dX11_steady_5 : decode cX11_steady 5 = .ok (.iconst 1, 1) := by decide +kernel
theorem dX11_steady_6 : decode cX11_steady 6 = .ok (.if_icmp .gt 11, 3) := by decide +kernel
theorem dX11_steady_9 : decode cX11_steady 9 = .ok (.aload_n 0, 1) := by decide +kernel
theorem dX11_steady_10 : decode cX11_steady 10 = .ok (.iload_n 1, 1) := by decide +kernel
theorem dX11_steady_11 : decode cX11_steady 11 = .ok (.invokevirtual 232, 3) := by decide +kernel
theorem dX11_steady_14 : decode cX11_steady 14 = .ok (.ifCond .ne 5, 3) := by decide +kernel
theorem dX11_steady_17 : decode cX11_steady 17 = .ok (.iconst (-1), 1) := by decide +kernel
theorem dX11_steady_18 : decode cX11_steady 18 = .ok (.ireturn, 1) := by decide +kernel
theorem dX11_steady_19 : decode cX11_steady 19 = .ok (.aload_n 0, 1) := by decide +kernel
theorem dX11_steady_20 : decode cX11_steady 20 = .ok (.getfield 47, 3) := by decide +kernel
theorem dX11_steady_23 : decode cX11_steady 23 = .ok (.aload_n 0, 1) := by decide +kernel
theorem dX11_steady_24 : decode cX11_steady 24 = .ok (.getfield 19, 3) := by decide +kernel
theorem dX11_steady_27 : decode cX11_steady 27 = .ok (.aload_n 0, 1) := by decide +kernel
theorem dX11_steady_28 : decode cX11_steady 28 = .ok (.getfield 40, 3) := by decide +kernel
theorem dX11_steady_31 : decode cX11_steady 31 = .ok (.invokevirtual 264, 3) := by decide +kernel
theorem dX11_steady_34 : decode cX11_steady 34 = .ok (.iload_n 2, 1) := by decide +kernel
theorem dX11_steady_35 : decode cX11_steady 35 = .ok (.ifCond .ne 13, 3) := by decide +kernel
theorem dX11_steady_38 : decode cX11_steady 38 = .ok (.aload_n 0, 1) := by decide +kernel
theorem dX11_steady_39 : decode cX11_steady 39 = .ok (.getfield 47, 3) := by decide +kernel
theorem dX11_steady_42 : decode cX11_steady 42 = .ok (.getfield 268, 3) := by decide +kernel
theorem dX11_steady_45 : decode cX11_steady 45 = .ok (.goto 10, 3) := by decide +kernel
theorem dX11_steady_48 : decode cX11_steady 48 = .ok (.aload_n 0, 1) := by decide +kernel
theorem dX11_steady_49 : decode cX11_steady 49 = .ok (.getfield 47, 3) := by decide +kernel
theorem dX11_steady_52 : decode cX11_steady 52 = .ok (.getfield 269, 3) := by decide +kernel
theorem dX11_steady_55 : decode cX11_steady 55 = .ok (.ireturn, 1) := by decide +kernel
set_option maxRecDepth 100000 in
theorem sgX11_steady_0 {d : Nat} {I : st_I} {L : st_L} {F : Int32 → st_I → st_L → Prop} {a1 : Int32} {a2 : Int32} (h : (if a2 < 0 then F (-1) I L else (if 1 < a2 then F (-1) I L else EI d mX11_knows [.ref 0, .int a1] I L (fun r1 I1 L1 => (if r1 = 0 then F (-1) I1 L1 else EV d mX6_gather [.ref 40, .ref 1, .ref 30] I1 L1 (fun I2 L2 => F (if a2 = 0 then (I2 40 0) else (I2 40 1)) I2 L2)))))) : EI (d + 1) mX11_steady [.ref 0, .int a1, .int a2] I L F := by
  refine Ev_of (ls0 := 0) (by decide +kernel) rfl rfl rfl ?_
  refine T_iload_n dX11_steady_0 rfl ?_
  refine T_if_lt (tgt := 17) dX11_steady_1 (by decide) (tq_ite h (fun h => ?_) (fun h => ?_))
  ·
    refine T_iconst (v := (-1)) dX11_steady_17 (by decide +kernel) ?_
    exact S_iret rfl dX11_steady_18 h
  ·
    refine T_iload_n dX11_steady_4 rfl ?_
    refine T_iconst (v := 1) dX11_steady_5 (by decide +kernel) ?_
    refine T_icmp_gt (tgt := 17) dX11_steady_6 (by decide) (tq_ite h (fun h => ?_) (fun h => ?_))
    ·
      refine T_iconst (v := (-1)) dX11_steady_17 (by decide +kernel) ?_
      exact S_iret rfl dX11_steady_18 h
    ·
      refine T_aload_n dX11_steady_9 rfl ?_
      refine T_iload_n dX11_steady_10 rfl ?_
      refine S_callVI (M' := mX11_knows) [.int a1] [] dX11_steady_11 ml_RX11_232 mkX11_knows rfl shp_0 rfl rfl rfl (Nat.le_of_ble_eq_true rfl) h (fun r1 I1 L1 h => ?_)
      refine T_if_ne (tgt := 19) dX11_steady_14 (by decide) (tq_ite h (fun h => ?_) (fun h => ?_))
      ·
        refine T_iconst (v := (-1)) dX11_steady_17 (by decide +kernel) ?_
        exact S_iret rfl dX11_steady_18 h
      ·
        refine T_aload_n dX11_steady_19 rfl ?_
        refine T_getr dX11_steady_20 fl_RX11_47 shp_0 rfl ?_
        refine T_aload_n dX11_steady_23 rfl ?_
        refine T_getr dX11_steady_24 fl_RX11_19 shp_0 rfl ?_
        refine T_aload_n dX11_steady_27 rfl ?_
        refine T_getr dX11_steady_28 fl_RX11_40 shp_0 rfl ?_
        refine S_callVV (M' := mX6_gather) [.ref 1, .ref 30] [] dX11_steady_31 ml_RX11_264 mkX6_gather rfl shp_40 rfl rfl rfl (Nat.le_of_ble_eq_true rfl) h (fun I2 L2 h => ?_)
        refine T_iload_n dX11_steady_34 rfl ?_
        refine T_if_ne (tgt := 48) dX11_steady_35 (by decide) (tq_itv (fun v => T shp (d + 1) mX11_steady 55 [.ref 0, .int a1, .int a2] (.int v :: []) I2 L2 (kI F)) (I2 40 0) (I2 40 1) (fun hJ => ?_) (fun hJ => ?_) ?_)
        ·
            refine T_aload_n dX11_steady_38 rfl ?_
            refine T_getr dX11_steady_39 fl_RX11_47 shp_0 rfl ?_
            refine T_getv (v := (I2 40 0)) dX11_steady_42 fl_RX11_268 shp_40 rfl rfl ?_
            refine T_goto (tgt := 55) dX11_steady_45 (by decide) ?_
            exact hJ
        ·
            refine T_aload_n dX11_steady_48 rfl ?_
            refine T_getr dX11_steady_49 fl_RX11_47 shp_0 rfl ?_
            refine T_getv (v := (I2 40 1)) dX11_steady_52 fl_RX11_269 shp_40 rfl rfl ?_
            exact hJ
        exact S_iret rfl dX11_steady_55 h

theorem dX11_steadyWays_0 : decode cX11_steadyWays 0 = .ok (.aload_n 0, 1) := by decide +kernel
theorem dX11_steadyWays_1 : decode cX11_steadyWays 1 = .ok (.iload_n 1, 1) := by decide +kernel
theorem dX11_steadyWays_2 : decode cX11_steadyWays 2 = .ok (.invokevirtual 232, 3) := by decide +kernel
theorem dX11_steadyWays_5 : decode cX11_steadyWays 5 = .ok (.ifCond .ne 5, 3) := by decide +kernel
theorem dX11_steadyWays_8 : decode cX11_steadyWays 8 = .ok (.iconst (-1), 1) := by decide +kernel
theorem dX11_steadyWays_9 : decode cX11_steadyWays 9 = .ok (.ireturn, 1) := by decide +kernel
theorem dX11_steadyWays_10 : decode cX11_steadyWays 10 = .ok (.aload_n 0, 1) := by decide +kernel
theorem dX11_steadyWays_11 : decode cX11_steadyWays 11 = .ok (.getfield 47, 3) := by decide +kernel
theorem dX11_steadyWays_14 : decode cX11_steadyWays 14 = .ok (.aload_n 0, 1) := by decide +kernel
theorem dX11_steadyWays_15 : decode cX11_steadyWays 15 = .ok (.getfield 19, 3) := by decide +kernel
theorem dX11_steadyWays_18 : decode cX11_steadyWays 18 = .ok (.aload_n 0, 1) := by decide +kernel
theorem dX11_steadyWays_19 : decode cX11_steadyWays 19 = .ok (.getfield 40, 3) := by decide +kernel
theorem dX11_steadyWays_22 : decode cX11_steadyWays 22 = .ok (.invokevirtual 264, 3) := by decide +kernel
theorem dX11_steadyWays_25 : decode cX11_steadyWays 25 = .ok (.aload_n 0, 1) := by decide +kernel
theorem dX11_steadyWays_26 : decode cX11_steadyWays 26 = .ok (.getfield 47, 3) := by decide +kernel
theorem dX11_steadyWays_29 : decode cX11_steadyWays 29 = .ok (.invokevirtual 272, 3) := by decide +kernel
theorem dX11_steadyWays_32 : decode cX11_steadyWays 32 = .ok (.ireturn, 1) := by decide +kernel
set_option maxRecDepth 100000 in
theorem sgX11_steadyWays_0 {d : Nat} {I : st_I} {L : st_L} {F : Int32 → st_I → st_L → Prop} {a1 : Int32} (h : EI d mX11_knows [.ref 0, .int a1] I L (fun r1 I1 L1 => (if r1 = 0 then F (-1) I1 L1 else EV d mX6_gather [.ref 40, .ref 1, .ref 30] I1 L1 (fun I2 L2 => EI d mX6_ways [.ref 40] I2 L2 (fun r3 I3 L3 => F r3 I3 L3))))) : EI (d + 1) mX11_steadyWays [.ref 0, .int a1] I L F := by
  refine Ev_of (ls0 := 0) (by decide +kernel) rfl rfl rfl ?_
  refine T_aload_n dX11_steadyWays_0 rfl ?_
  refine T_iload_n dX11_steadyWays_1 rfl ?_
  refine S_callVI (M' := mX11_knows) [.int a1] [] dX11_steadyWays_2 ml_RX11_232 mkX11_knows rfl shp_0 rfl rfl rfl (Nat.le_of_ble_eq_true rfl) h (fun r1 I1 L1 h => ?_)
  refine T_if_ne (tgt := 10) dX11_steadyWays_5 (by decide) (tq_ite h (fun h => ?_) (fun h => ?_))
  ·
    refine T_iconst (v := (-1)) dX11_steadyWays_8 (by decide +kernel) ?_
    exact S_iret rfl dX11_steadyWays_9 h
  ·
    refine T_aload_n dX11_steadyWays_10 rfl ?_
    refine T_getr dX11_steadyWays_11 fl_RX11_47 shp_0 rfl ?_
    refine T_aload_n dX11_steadyWays_14 rfl ?_
    refine T_getr dX11_steadyWays_15 fl_RX11_19 shp_0 rfl ?_
    refine T_aload_n dX11_steadyWays_18 rfl ?_
    refine T_getr dX11_steadyWays_19 fl_RX11_40 shp_0 rfl ?_
    refine S_callVV (M' := mX6_gather) [.ref 1, .ref 30] [] dX11_steadyWays_22 ml_RX11_264 mkX6_gather rfl shp_40 rfl rfl rfl (Nat.le_of_ble_eq_true rfl) h (fun I2 L2 h => ?_)
    refine T_aload_n dX11_steadyWays_25 rfl ?_
    refine T_getr dX11_steadyWays_26 fl_RX11_47 shp_0 rfl ?_
    refine S_callVI (M' := mX6_ways) [] [] dX11_steadyWays_29 ml_RX11_272 mkX6_ways rfl shp_40 rfl rfl rfl (Nat.le_of_ble_eq_true rfl) h (fun r3 I3 L3 h => ?_)
    exact S_iret rfl dX11_steadyWays_32 h

theorem dX11_kinds_0 : decode cX11_kinds 0 = .ok (.iload_n 2, 1) := by decide +kernel
theorem dX11_kinds_1 : decode cX11_kinds 1 = .ok (.ifCond .lt 16, 3) := by decide +kernel
theorem dX11_kinds_4 : decode cX11_kinds 4 = .ok (.iload_n 2, 1) := by decide +kernel
theorem dX11_kinds_5 : decode cX11_kinds 5 = .ok (.iconst 3, 1) := by decide +kernel
theorem dX11_kinds_6 : decode cX11_kinds 6 = .ok (.if_icmp .gt 11, 3) := by decide +kernel
theorem dX11_kinds_9 : decode cX11_kinds 9 = .ok (.aload_n 0, 1) := by decide +kernel
theorem dX11_kinds_10 : decode cX11_kinds 10 = .ok (.iload_n 1, 1) := by decide +kernel
theorem dX11_kinds_11 : decode cX11_kinds 11 = .ok (.invokevirtual 232, 3) := by decide +kernel
theorem dX11_kinds_14 : decode cX11_kinds 14 = .ok (.ifCond .ne 7, 3) := by decide +kernel
theorem dX11_kinds_17 : decode cX11_kinds 17 = .ok (.ldc_w 275, 3) := by decide +kernel
theorem dX11_kinds_20 : decode cX11_kinds 20 = .ok (.ireturn, 1) := by decide +kernel
theorem dX11_kinds_21 : decode cX11_kinds 21 = .ok (.aload_n 0, 1) := by decide +kernel
theorem dX11_kinds_22 : decode cX11_kinds 22 = .ok (.getfield 54, 3) := by decide +kernel
theorem dX11_kinds_25 : decode cX11_kinds 25 = .ok (.aload_n 0, 1) := by decide +kernel
theorem dX11_kinds_26 : decode cX11_kinds 26 = .ok (.getfield 19, 3) := by decide +kernel
theorem dX11_kinds_29 : decode cX11_kinds 29 = .ok (.aload_n 0, 1) := by decide +kernel
theorem dX11_kinds_30 : decode cX11_kinds 30 = .ok (.getfield 40, 3) := by decide +kernel
theorem dX11_kinds_33 : decode cX11_kinds 33 = .ok (.invokevirtual 276, 3) := by decide +kernel
theorem dX11_kinds_36 : decode cX11_kinds 36 = .ok (.iload_n 2, 1) := by decide +kernel
theorem dX11_kinds_37 : decode cX11_kinds 37 = .ok (.tableswitch 51 0 2 #[27, 35, 43], 27) := by decide +kernel
theorem dX11_kinds_64 : decode cX11_kinds 64 = .ok (.aload_n 0, 1) := by decide +kernel
theorem dX11_kinds_65 : decode cX11_kinds 65 = .ok (.getfield 54, 3) := by decide +kernel
theorem dX11_kinds_68 : decode cX11_kinds 68 = .ok (.getfield 277, 3) := by decide +kernel
theorem dX11_kinds_71 : decode cX11_kinds 71 = .ok (.ireturn, 1) := by decide +kernel
theorem dX11_kinds_72 : decode cX11_kinds 72 = .ok (.aload_n 0, 1) := by decide +kernel
theorem dX11_kinds_73 : decode cX11_kinds 73 = .ok (.getfield 54, 3) := by decide +kernel
theorem dX11_kinds_76 : decode cX11_kinds 76 = .ok (.getfield 280, 3) := by decide +kernel
theorem dX11_kinds_79 : decode cX11_kinds 79 = .ok (.ireturn, 1) := by decide +kernel
theorem dX11_kinds_80 : decode cX11_kinds 80 = .ok (.aload_n 0, 1) := by decide +kernel
theorem dX11_kinds_81 : decode cX11_kinds 81 = .ok (.getfield 54, 3) := by decide +kernel
theorem dX11_kinds_84 : decode cX11_kinds 84 = .ok (.getfield 283, 3) := by decide +kernel
theorem dX11_kinds_87 : decode cX11_kinds 87 = .ok (.ireturn, 1) := by decide +kernel
theorem dX11_kinds_88 : decode cX11_kinds 88 = .ok (.aload_n 0, 1) := by decide +kernel
theorem dX11_kinds_89 : decode cX11_kinds 89 = .ok (.getfield 54, 3) := by decide +kernel
theorem dX11_kinds_92 : decode cX11_kinds 92 = .ok (.invokevirtual 286, 3) := by decide +kernel
theorem dX11_kinds_95 : decode cX11_kinds 95 = .ok (.ireturn, 1) := by decide +kernel
set_option maxRecDepth 100000 in
theorem sgX11_kinds_0 {d : Nat} {I : st_I} {L : st_L} {F : Int32 → st_I → st_L → Prop} {a1 : Int32} {a2 : Int32} (h : (if a2 < 0 then F (-1000000000) I L else (if 3 < a2 then F (-1000000000) I L else EI d mX11_knows [.ref 0, .int a1] I L (fun r1 I1 L1 => (if r1 = 0 then F (-1000000000) I1 L1 else EV d mX1_gather [.ref 43, .ref 1, .ref 30] I1 L1 (fun I2 L2 => (if a2 = 0 then F (I2 43 0) I2 L2 else (if a2 = 1 then F (I2 43 1) I2 L2 else (if a2 = 2 then F (I2 43 2) I2 L2 else EI d mX1_apart [.ref 43] I2 L2 (fun r3 I3 L3 => F r3 I3 L3)))))))))) : EI (d + 1) mX11_kinds [.ref 0, .int a1, .int a2] I L F := by
  refine Ev_of (ls0 := 0) (by decide +kernel) rfl rfl rfl ?_
  refine T_iload_n dX11_kinds_0 rfl ?_
  refine T_if_lt (tgt := 17) dX11_kinds_1 (by decide) (tq_ite h (fun h => ?_) (fun h => ?_))
  ·
    refine T_ldcw (v := (-1000000000)) dX11_kinds_17 ki_RX11_275 ?_
    exact S_iret rfl dX11_kinds_20 h
  ·
    refine T_iload_n dX11_kinds_4 rfl ?_
    refine T_iconst (v := 3) dX11_kinds_5 (by decide +kernel) ?_
    refine T_icmp_gt (tgt := 17) dX11_kinds_6 (by decide) (tq_ite h (fun h => ?_) (fun h => ?_))
    ·
      refine T_ldcw (v := (-1000000000)) dX11_kinds_17 ki_RX11_275 ?_
      exact S_iret rfl dX11_kinds_20 h
    ·
      refine T_aload_n dX11_kinds_9 rfl ?_
      refine T_iload_n dX11_kinds_10 rfl ?_
      refine S_callVI (M' := mX11_knows) [.int a1] [] dX11_kinds_11 ml_RX11_232 mkX11_knows rfl shp_0 rfl rfl rfl (Nat.le_of_ble_eq_true rfl) h (fun r1 I1 L1 h => ?_)
      refine T_if_ne (tgt := 21) dX11_kinds_14 (by decide) (tq_ite h (fun h => ?_) (fun h => ?_))
      ·
        refine T_ldcw (v := (-1000000000)) dX11_kinds_17 ki_RX11_275 ?_
        exact S_iret rfl dX11_kinds_20 h
      ·
        refine T_aload_n dX11_kinds_21 rfl ?_
        refine T_getr dX11_kinds_22 fl_RX11_54 shp_0 rfl ?_
        refine T_aload_n dX11_kinds_25 rfl ?_
        refine T_getr dX11_kinds_26 fl_RX11_19 shp_0 rfl ?_
        refine T_aload_n dX11_kinds_29 rfl ?_
        refine T_getr dX11_kinds_30 fl_RX11_40 shp_0 rfl ?_
        refine S_callVV (M' := mX1_gather) [.ref 1, .ref 30] [] dX11_kinds_33 ml_RX11_276 mkX1_gather rfl shp_43 rfl rfl rfl (Nat.le_of_ble_eq_true rfl) h (fun I2 L2 h => ?_)
        refine T_iload_n dX11_kinds_36 rfl ?_
        by_cases hc0 : a2 = 0
        · rw [if_pos hc0] at h
          refine T_tableIn (off := 27) (tgt := 64) dX11_kinds_37 (by rw [hc0]; decide +kernel) (by rw [hc0]; decide +kernel) (by rw [hc0]; decide +kernel) (by decide) ?_
          refine T_aload_n dX11_kinds_64 rfl ?_
          refine T_getr dX11_kinds_65 fl_RX11_54 shp_0 rfl ?_
          refine T_getv (v := (I2 43 0)) dX11_kinds_68 fl_RX11_277 shp_43 rfl rfl ?_
          exact S_iret rfl dX11_kinds_71 h
        rw [if_neg hc0] at h
        by_cases hc1 : a2 = 1
        · rw [if_pos hc1] at h
          refine T_tableIn (off := 35) (tgt := 72) dX11_kinds_37 (by rw [hc1]; decide +kernel) (by rw [hc1]; decide +kernel) (by rw [hc1]; decide +kernel) (by decide) ?_
          refine T_aload_n dX11_kinds_72 rfl ?_
          refine T_getr dX11_kinds_73 fl_RX11_54 shp_0 rfl ?_
          refine T_getv (v := (I2 43 1)) dX11_kinds_76 fl_RX11_280 shp_43 rfl rfl ?_
          exact S_iret rfl dX11_kinds_79 h
        rw [if_neg hc1] at h
        by_cases hc2 : a2 = 2
        · rw [if_pos hc2] at h
          refine T_tableIn (off := 43) (tgt := 80) dX11_kinds_37 (by rw [hc2]; decide +kernel) (by rw [hc2]; decide +kernel) (by rw [hc2]; decide +kernel) (by decide) ?_
          refine T_aload_n dX11_kinds_80 rfl ?_
          refine T_getr dX11_kinds_81 fl_RX11_54 shp_0 rfl ?_
          refine T_getv (v := (I2 43 2)) dX11_kinds_84 fl_RX11_283 shp_43 rfl rfl ?_
          exact S_iret rfl dX11_kinds_87 h
        rw [if_neg hc2] at h
        have hout : a2.toInt < 0 ∨ 2 < a2.toInt := by
          have g0 := lv_neT (a := 0) hc0 (by decide +kernel)
          have g1 := lv_neT (a := 1) hc1 (by decide +kernel)
          have g2 := lv_neT (a := 2) hc2 (by decide +kernel)
          omega
        refine T_tableOut (tgt := 88) dX11_kinds_37 hout (by decide) ?_
        refine T_aload_n dX11_kinds_88 rfl ?_
        refine T_getr dX11_kinds_89 fl_RX11_54 shp_0 rfl ?_
        refine S_callVI (M' := mX1_apart) [] [] dX11_kinds_92 ml_RX11_286 mkX1_apart rfl shp_43 rfl rfl rfl (Nat.le_of_ble_eq_true rfl) h (fun r3 I3 L3 h => ?_)
        exact S_iret rfl dX11_kinds_95 h

theorem dX11_kindWays_0 : decode cX11_kindWays 0 = .ok (.aload_n 0, 1) := by decide +kernel
theorem dX11_kindWays_1 : decode cX11_kindWays 1 = .ok (.iload_n 1, 1) := by decide +kernel
theorem dX11_kindWays_2 : decode cX11_kindWays 2 = .ok (.invokevirtual 232, 3) := by decide +kernel
theorem dX11_kindWays_5 : decode cX11_kindWays 5 = .ok (.ifCond .ne 5, 3) := by decide +kernel
theorem dX11_kindWays_8 : decode cX11_kindWays 8 = .ok (.iconst (-1), 1) := by decide +kernel
theorem dX11_kindWays_9 : decode cX11_kindWays 9 = .ok (.ireturn, 1) := by decide +kernel
theorem dX11_kindWays_10 : decode cX11_kindWays 10 = .ok (.aload_n 0, 1) := by decide +kernel
theorem dX11_kindWays_11 : decode cX11_kindWays 11 = .ok (.getfield 54, 3) := by decide +kernel
theorem dX11_kindWays_14 : decode cX11_kindWays 14 = .ok (.aload_n 0, 1) := by decide +kernel
theorem dX11_kindWays_15 : decode cX11_kindWays 15 = .ok (.getfield 19, 3) := by decide +kernel
theorem dX11_kindWays_18 : decode cX11_kindWays 18 = .ok (.aload_n 0, 1) := by decide +kernel
theorem dX11_kindWays_19 : decode cX11_kindWays 19 = .ok (.getfield 40, 3) := by decide +kernel
theorem dX11_kindWays_22 : decode cX11_kindWays 22 = .ok (.invokevirtual 276, 3) := by decide +kernel
theorem dX11_kindWays_25 : decode cX11_kindWays 25 = .ok (.iload_n 2, 1) := by decide +kernel
theorem dX11_kindWays_26 : decode cX11_kindWays 26 = .ok (.ifCond .eq 14, 3) := by decide +kernel
theorem dX11_kindWays_29 : decode cX11_kindWays 29 = .ok (.aload_n 0, 1) := by decide +kernel
theorem dX11_kindWays_30 : decode cX11_kindWays 30 = .ok (.getfield 54, 3) := by decide +kernel
theorem dX11_kindWays_33 : decode cX11_kindWays 33 = .ok (.iconst 0, 1) := by decide +kernel
theorem dX11_kindWays_34 : decode cX11_kindWays 34 = .ok (.invokevirtual 289, 3) := by decide +kernel
theorem dX11_kindWays_37 : decode cX11_kindWays 37 = .ok (.goto 10, 3) := by decide +kernel
theorem dX11_kindWays_40 : decode cX11_kindWays 40 = .ok (.aload_n 0, 1) := by decide +kernel
theorem dX11_kindWays_41 : decode cX11_kindWays 41 = .ok (.getfield 54, 3) := by decide +kernel
theorem dX11_kindWays_44 : decode cX11_kindWays 44 = .ok (.invokevirtual 292, 3) := by decide +kernel
theorem dX11_kindWays_47 : decode cX11_kindWays 47 = .ok (.ireturn, 1) := by decide +kernel
set_option maxRecDepth 100000 in
theorem sgX11_kindWays_0 {d : Nat} {I : st_I} {L : st_L} {F : Int32 → st_I → st_L → Prop} {a1 : Int32} {a2 : Int32} (h : EI d mX11_knows [.ref 0, .int a1] I L (fun r1 I1 L1 => (if r1 = 0 then F (-1) I1 L1 else EV d mX1_gather [.ref 43, .ref 1, .ref 30] I1 L1 (fun I2 L2 => (if a2 = 0 then EI d mX1_all [.ref 43] I2 L2 (fun r3 I3 L3 => F r3 I3 L3) else EI d mX1_waysWith [.ref 43, .int 0] I2 L2 (fun r4 I4 L4 => F r4 I4 L4)))))) : EI (d + 1) mX11_kindWays [.ref 0, .int a1, .int a2] I L F := by
  refine Ev_of (ls0 := 0) (by decide +kernel) rfl rfl rfl ?_
  refine T_aload_n dX11_kindWays_0 rfl ?_
  refine T_iload_n dX11_kindWays_1 rfl ?_
  refine S_callVI (M' := mX11_knows) [.int a1] [] dX11_kindWays_2 ml_RX11_232 mkX11_knows rfl shp_0 rfl rfl rfl (Nat.le_of_ble_eq_true rfl) h (fun r1 I1 L1 h => ?_)
  refine T_if_ne (tgt := 10) dX11_kindWays_5 (by decide) (tq_ite h (fun h => ?_) (fun h => ?_))
  ·
    refine T_iconst (v := (-1)) dX11_kindWays_8 (by decide +kernel) ?_
    exact S_iret rfl dX11_kindWays_9 h
  ·
    refine T_aload_n dX11_kindWays_10 rfl ?_
    refine T_getr dX11_kindWays_11 fl_RX11_54 shp_0 rfl ?_
    refine T_aload_n dX11_kindWays_14 rfl ?_
    refine T_getr dX11_kindWays_15 fl_RX11_19 shp_0 rfl ?_
    refine T_aload_n dX11_kindWays_18 rfl ?_
    refine T_getr dX11_kindWays_19 fl_RX11_40 shp_0 rfl ?_
    refine S_callVV (M' := mX1_gather) [.ref 1, .ref 30] [] dX11_kindWays_22 ml_RX11_276 mkX1_gather rfl shp_43 rfl rfl rfl (Nat.le_of_ble_eq_true rfl) h (fun I2 L2 h => ?_)
    refine T_iload_n dX11_kindWays_25 rfl ?_
    refine T_if_eq (tgt := 40) dX11_kindWays_26 (by decide) (tq_ite h (fun h => ?_) (fun h => ?_))
    ·
      refine T_aload_n dX11_kindWays_40 rfl ?_
      refine T_getr dX11_kindWays_41 fl_RX11_54 shp_0 rfl ?_
      refine S_callVI (M' := mX1_all) [] [] dX11_kindWays_44 ml_RX11_292 mkX1_all rfl shp_43 rfl rfl rfl (Nat.le_of_ble_eq_true rfl) h (fun r3 I3 L3 h => ?_)
      exact S_iret rfl dX11_kindWays_47 h
    ·
      refine T_aload_n dX11_kindWays_29 rfl ?_
      refine T_getr dX11_kindWays_30 fl_RX11_54 shp_0 rfl ?_
      refine T_iconst (v := 0) dX11_kindWays_33 (by decide +kernel) ?_
      refine S_callVI (M' := mX1_waysWith) [.int 0] [] dX11_kindWays_34 ml_RX11_289 mkX1_waysWith rfl shp_43 rfl rfl rfl (Nat.le_of_ble_eq_true rfl) h (fun r4 I4 L4 h => ?_)
      refine T_goto (tgt := 47) dX11_kindWays_37 (by decide) ?_
      exact S_iret rfl dX11_kindWays_47 h

theorem dX11_flips_0 : decode cX11_flips 0 = .ok (.iload_n 2, 1) := by decide +kernel
theorem dX11_flips_1 : decode cX11_flips 1 = .ok (.ifCond .lt 16, 3) := by decide +kernel
theorem dX11_flips_4 : decode cX11_flips 4 = .ok (.iload_n 2, 1) := by decide +kernel
theorem dX11_flips_5 : decode cX11_flips 5 = .ok (.iconst 1, 1) := by decide +kernel
theorem dX11_flips_6 : decode cX11_flips 6 = .ok (.if_icmp .gt 11, 3) := by decide +kernel
theorem dX11_flips_9 : decode cX11_flips 9 = .ok (.aload_n 0, 1) := by decide +kernel
theorem dX11_flips_10 : decode cX11_flips 10 = .ok (.iload_n 1, 1) := by decide +kernel
theorem dX11_flips_11 : decode cX11_flips 11 = .ok (.invokevirtual 232, 3) := by decide +kernel
theorem dX11_flips_14 : decode cX11_flips 14 = .ok (.ifCond .ne 7, 3) := by decide +kernel
theorem dX11_flips_17 : decode cX11_flips 17 = .ok (.ldc_w 275, 3) := by decide +kernel
theorem dX11_flips_20 : decode cX11_flips 20 = .ok (.ireturn, 1) := by decide +kernel
theorem dX11_flips_21 : decode cX11_flips 21 = .ok (.aload_n 0, 1) := by decide +kernel
theorem dX11_flips_22 : decode cX11_flips 22 = .ok (.getfield 61, 3) := by decide +kernel
theorem dX11_flips_25 : decode cX11_flips 25 = .ok (.aload_n 0, 1) := by decide +kernel
theorem dX11_flips_26 : decode cX11_flips 26 = .ok (.getfield 19, 3) := by decide +kernel
theorem dX11_flips_29 : decode cX11_flips 29 = .ok (.aload_n 0, 1) := by decide +kernel
theorem dX11_flips_30 : decode cX11_flips 30 = .ok (.getfield 40, 3) := by decide +kernel
theorem dX11_flips_33 : decode cX11_flips 33 = .ok (.invokevirtual 295, 3) := by decide +kernel
theorem dX11_flips_36 : decode cX11_flips 36 = .ok (.iload_n 2, 1) := by decide +kernel
theorem dX11_flips_37 : decode cX11_flips 37 = .ok (.ifCond .ne 13, 3) := by decide +kernel
theorem dX11_flips_40 : decode cX11_flips 40 = .ok (.aload_n 0, 1) := by decide +kernel
theorem dX11_flips_41 : decode cX11_flips 41 = .ok (.getfield 61, 3) := by decide +kernel
theorem dX11_flips_44 : decode cX11_flips 44 = .ok (.getfield 298, 3) := by decide +kernel
theorem dX11_flips_47 : decode cX11_flips 47 = .ok (.goto 10, 3) := by decide +kernel
theorem dX11_flips_50 : decode cX11_flips 50 = .ok (.aload_n 0, 1) := by decide +kernel
theorem dX11_flips_51 : decode cX11_flips 51 = .ok (.getfield 61, 3) := by decide +kernel
theorem dX11_flips_54 : decode cX11_flips 54 = .ok (.invokevirtual 299, 3) := by decide +kernel
theorem dX11_flips_57 : decode cX11_flips 57 = .ok (.ireturn, 1) := by decide +kernel
set_option maxRecDepth 100000 in
theorem sgX11_flips_0 {d : Nat} {I : st_I} {L : st_L} {F : Int32 → st_I → st_L → Prop} {a1 : Int32} {a2 : Int32} (h : (if a2 < 0 then F (-1000000000) I L else (if 1 < a2 then F (-1000000000) I L else EI d mX11_knows [.ref 0, .int a1] I L (fun r1 I1 L1 => (if r1 = 0 then F (-1000000000) I1 L1 else EV d mX9_gatherPlayers [.ref 47, .ref 1, .ref 30] I1 L1 (fun I2 L2 => (if a2 = 0 then F (I2 47 0) I2 L2 else EI d mX9_sum [.ref 47] I2 L2 (fun r3 I3 L3 => F r3 I3 L3)))))))) : EI (d + 1) mX11_flips [.ref 0, .int a1, .int a2] I L F := by
  refine Ev_of (ls0 := 0) (by decide +kernel) rfl rfl rfl ?_
  refine T_iload_n dX11_flips_0 rfl ?_
  refine T_if_lt (tgt := 17) dX11_flips_1 (by decide) (tq_ite h (fun h => ?_) (fun h => ?_))
  ·
    refine T_ldcw (v := (-1000000000)) dX11_flips_17 ki_RX11_275 ?_
    exact S_iret rfl dX11_flips_20 h
  ·
    refine T_iload_n dX11_flips_4 rfl ?_
    refine T_iconst (v := 1) dX11_flips_5 (by decide +kernel) ?_
    refine T_icmp_gt (tgt := 17) dX11_flips_6 (by decide) (tq_ite h (fun h => ?_) (fun h => ?_))
    ·
      refine T_ldcw (v := (-1000000000)) dX11_flips_17 ki_RX11_275 ?_
      exact S_iret rfl dX11_flips_20 h
    ·
      refine T_aload_n dX11_flips_9 rfl ?_
      refine T_iload_n dX11_flips_10 rfl ?_
      refine S_callVI (M' := mX11_knows) [.int a1] [] dX11_flips_11 ml_RX11_232 mkX11_knows rfl shp_0 rfl rfl rfl (Nat.le_of_ble_eq_true rfl) h (fun r1 I1 L1 h => ?_)
      refine T_if_ne (tgt := 21) dX11_flips_14 (by decide) (tq_ite h (fun h => ?_) (fun h => ?_))
      ·
        refine T_ldcw (v := (-1000000000)) dX11_flips_17 ki_RX11_275 ?_
        exact S_iret rfl dX11_flips_20 h
      ·
        refine T_aload_n dX11_flips_21 rfl ?_
        refine T_getr dX11_flips_22 fl_RX11_61 shp_0 rfl ?_
        refine T_aload_n dX11_flips_25 rfl ?_
        refine T_getr dX11_flips_26 fl_RX11_19 shp_0 rfl ?_
        refine T_aload_n dX11_flips_29 rfl ?_
        refine T_getr dX11_flips_30 fl_RX11_40 shp_0 rfl ?_
        refine S_callVV (M' := mX9_gatherPlayers) [.ref 1, .ref 30] [] dX11_flips_33 ml_RX11_295 mkX9_gatherPlayers rfl shp_47 rfl rfl rfl (Nat.le_of_ble_eq_true rfl) h (fun I2 L2 h => ?_)
        refine T_iload_n dX11_flips_36 rfl ?_
        refine T_if_ne (tgt := 50) dX11_flips_37 (by decide) (tq_ite h (fun h => ?_) (fun h => ?_))
        ·
          refine T_aload_n dX11_flips_40 rfl ?_
          refine T_getr dX11_flips_41 fl_RX11_61 shp_0 rfl ?_
          refine T_getv (v := (I2 47 0)) dX11_flips_44 fl_RX11_298 shp_47 rfl rfl ?_
          refine T_goto (tgt := 57) dX11_flips_47 (by decide) ?_
          exact S_iret rfl dX11_flips_57 h
        ·
          refine T_aload_n dX11_flips_50 rfl ?_
          refine T_getr dX11_flips_51 fl_RX11_61 shp_0 rfl ?_
          refine S_callVI (M' := mX9_sum) [] [] dX11_flips_54 ml_RX11_299 mkX9_sum rfl shp_47 rfl rfl rfl (Nat.le_of_ble_eq_true rfl) h (fun r3 I3 L3 h => ?_)
          exact S_iret rfl dX11_flips_57 h

theorem dX11_flipWays_0 : decode cX11_flipWays 0 = .ok (.aload_n 0, 1) := by decide +kernel
theorem dX11_flipWays_1 : decode cX11_flipWays 1 = .ok (.iload_n 1, 1) := by decide +kernel
theorem dX11_flipWays_2 : decode cX11_flipWays 2 = .ok (.invokevirtual 232, 3) := by decide +kernel
theorem dX11_flipWays_5 : decode cX11_flipWays 5 = .ok (.ifCond .ne 5, 3) := by decide +kernel
theorem dX11_flipWays_8 : decode cX11_flipWays 8 = .ok (.iconst (-1), 1) := by decide +kernel
theorem dX11_flipWays_9 : decode cX11_flipWays 9 = .ok (.ireturn, 1) := by decide +kernel
theorem dX11_flipWays_10 : decode cX11_flipWays 10 = .ok (.aload_n 0, 1) := by decide +kernel
theorem dX11_flipWays_11 : decode cX11_flipWays 11 = .ok (.getfield 61, 3) := by decide +kernel
theorem dX11_flipWays_14 : decode cX11_flipWays 14 = .ok (.aload_n 0, 1) := by decide +kernel
theorem dX11_flipWays_15 : decode cX11_flipWays 15 = .ok (.getfield 19, 3) := by decide +kernel
theorem dX11_flipWays_18 : decode cX11_flipWays 18 = .ok (.aload_n 0, 1) := by decide +kernel
theorem dX11_flipWays_19 : decode cX11_flipWays 19 = .ok (.getfield 40, 3) := by decide +kernel
theorem dX11_flipWays_22 : decode cX11_flipWays 22 = .ok (.invokevirtual 295, 3) := by decide +kernel
theorem dX11_flipWays_25 : decode cX11_flipWays 25 = .ok (.aload_n 0, 1) := by decide +kernel
theorem dX11_flipWays_26 : decode cX11_flipWays 26 = .ok (.getfield 61, 3) := by decide +kernel
theorem dX11_flipWays_29 : decode cX11_flipWays 29 = .ok (.invokevirtual 302, 3) := by decide +kernel
theorem dX11_flipWays_32 : decode cX11_flipWays 32 = .ok (.ireturn, 1) := by decide +kernel
set_option maxRecDepth 100000 in
theorem sgX11_flipWays_0 {d : Nat} {I : st_I} {L : st_L} {F : Int32 → st_I → st_L → Prop} {a1 : Int32} (h : EI d mX11_knows [.ref 0, .int a1] I L (fun r1 I1 L1 => (if r1 = 0 then F (-1) I1 L1 else EV d mX9_gatherPlayers [.ref 47, .ref 1, .ref 30] I1 L1 (fun I2 L2 => EI d mX9_ways [.ref 47] I2 L2 (fun r3 I3 L3 => F r3 I3 L3))))) : EI (d + 1) mX11_flipWays [.ref 0, .int a1] I L F := by
  refine Ev_of (ls0 := 0) (by decide +kernel) rfl rfl rfl ?_
  refine T_aload_n dX11_flipWays_0 rfl ?_
  refine T_iload_n dX11_flipWays_1 rfl ?_
  refine S_callVI (M' := mX11_knows) [.int a1] [] dX11_flipWays_2 ml_RX11_232 mkX11_knows rfl shp_0 rfl rfl rfl (Nat.le_of_ble_eq_true rfl) h (fun r1 I1 L1 h => ?_)
  refine T_if_ne (tgt := 10) dX11_flipWays_5 (by decide) (tq_ite h (fun h => ?_) (fun h => ?_))
  ·
    refine T_iconst (v := (-1)) dX11_flipWays_8 (by decide +kernel) ?_
    exact S_iret rfl dX11_flipWays_9 h
  ·
    refine T_aload_n dX11_flipWays_10 rfl ?_
    refine T_getr dX11_flipWays_11 fl_RX11_61 shp_0 rfl ?_
    refine T_aload_n dX11_flipWays_14 rfl ?_
    refine T_getr dX11_flipWays_15 fl_RX11_19 shp_0 rfl ?_
    refine T_aload_n dX11_flipWays_18 rfl ?_
    refine T_getr dX11_flipWays_19 fl_RX11_40 shp_0 rfl ?_
    refine S_callVV (M' := mX9_gatherPlayers) [.ref 1, .ref 30] [] dX11_flipWays_22 ml_RX11_295 mkX9_gatherPlayers rfl shp_47 rfl rfl rfl (Nat.le_of_ble_eq_true rfl) h (fun I2 L2 h => ?_)
    refine T_aload_n dX11_flipWays_25 rfl ?_
    refine T_getr dX11_flipWays_26 fl_RX11_61 shp_0 rfl ?_
    refine S_callVI (M' := mX9_ways) [] [] dX11_flipWays_29 ml_RX11_302 mkX9_ways rfl shp_47 rfl rfl rfl (Nat.le_of_ble_eq_true rfl) h (fun r3 I3 L3 h => ?_)
    exact S_iret rfl dX11_flipWays_32 h

theorem dX11_small_0 : decode cX11_small 0 = .ok (.aload_n 0, 1) := by decide +kernel
theorem dX11_small_1 : decode cX11_small 1 = .ok (.iload_n 1, 1) := by decide +kernel
theorem dX11_small_2 : decode cX11_small 2 = .ok (.invokevirtual 232, 3) := by decide +kernel
theorem dX11_small_5 : decode cX11_small 5 = .ok (.ifCond .ne 5, 3) := by decide +kernel
theorem dX11_small_8 : decode cX11_small 8 = .ok (.iconst (-1), 1) := by decide +kernel
theorem dX11_small_9 : decode cX11_small 9 = .ok (.ireturn, 1) := by decide +kernel
theorem dX11_small_10 : decode cX11_small 10 = .ok (.aload_n 0, 1) := by decide +kernel
theorem dX11_small_11 : decode cX11_small 11 = .ok (.getfield 54, 3) := by decide +kernel
theorem dX11_small_14 : decode cX11_small 14 = .ok (.aload_n 0, 1) := by decide +kernel
theorem dX11_small_15 : decode cX11_small 15 = .ok (.getfield 19, 3) := by decide +kernel
theorem dX11_small_18 : decode cX11_small 18 = .ok (.aload_n 0, 1) := by decide +kernel
theorem dX11_small_19 : decode cX11_small 19 = .ok (.getfield 40, 3) := by decide +kernel
theorem dX11_small_22 : decode cX11_small 22 = .ok (.invokevirtual 276, 3) := by decide +kernel
theorem dX11_small_25 : decode cX11_small 25 = .ok (.aload_n 0, 1) := by decide +kernel
theorem dX11_small_26 : decode cX11_small 26 = .ok (.getfield 54, 3) := by decide +kernel
theorem dX11_small_29 : decode cX11_small 29 = .ok (.invokevirtual 303, 3) := by decide +kernel
theorem dX11_small_32 : decode cX11_small 32 = .ok (.ireturn, 1) := by decide +kernel
set_option maxRecDepth 100000 in
theorem sgX11_small_0 {d : Nat} {I : st_I} {L : st_L} {F : Int32 → st_I → st_L → Prop} {a1 : Int32} (h : EI d mX11_knows [.ref 0, .int a1] I L (fun r1 I1 L1 => (if r1 = 0 then F (-1) I1 L1 else EV d mX1_gather [.ref 43, .ref 1, .ref 30] I1 L1 (fun I2 L2 => EI d mX1_smallest [.ref 43] I2 L2 (fun r3 I3 L3 => F r3 I3 L3))))) : EI (d + 1) mX11_small [.ref 0, .int a1] I L F := by
  refine Ev_of (ls0 := 0) (by decide +kernel) rfl rfl rfl ?_
  refine T_aload_n dX11_small_0 rfl ?_
  refine T_iload_n dX11_small_1 rfl ?_
  refine S_callVI (M' := mX11_knows) [.int a1] [] dX11_small_2 ml_RX11_232 mkX11_knows rfl shp_0 rfl rfl rfl (Nat.le_of_ble_eq_true rfl) h (fun r1 I1 L1 h => ?_)
  refine T_if_ne (tgt := 10) dX11_small_5 (by decide) (tq_ite h (fun h => ?_) (fun h => ?_))
  ·
    refine T_iconst (v := (-1)) dX11_small_8 (by decide +kernel) ?_
    exact S_iret rfl dX11_small_9 h
  ·
    refine T_aload_n dX11_small_10 rfl ?_
    refine T_getr dX11_small_11 fl_RX11_54 shp_0 rfl ?_
    refine T_aload_n dX11_small_14 rfl ?_
    refine T_getr dX11_small_15 fl_RX11_19 shp_0 rfl ?_
    refine T_aload_n dX11_small_18 rfl ?_
    refine T_getr dX11_small_19 fl_RX11_40 shp_0 rfl ?_
    refine S_callVV (M' := mX1_gather) [.ref 1, .ref 30] [] dX11_small_22 ml_RX11_276 mkX1_gather rfl shp_43 rfl rfl rfl (Nat.le_of_ble_eq_true rfl) h (fun I2 L2 h => ?_)
    refine T_aload_n dX11_small_25 rfl ?_
    refine T_getr dX11_small_26 fl_RX11_54 shp_0 rfl ?_
    refine S_callVI (M' := mX1_smallest) [] [] dX11_small_29 ml_RX11_303 mkX1_smallest rfl shp_43 rfl rfl rfl (Nat.le_of_ble_eq_true rfl) h (fun r3 I3 L3 h => ?_)
    exact S_iret rfl dX11_small_32 h

theorem dX11_knowing_0 : decode cX11_knowing 0 = .ok (.iload_n 2, 1) := by decide +kernel
theorem dX11_knowing_1 : decode cX11_knowing 1 = .ok (.ifCond .lt 16, 3) := by decide +kernel
theorem dX11_knowing_4 : decode cX11_knowing 4 = .ok (.iload_n 2, 1) := by decide +kernel
theorem dX11_knowing_5 : decode cX11_knowing 5 = .ok (.iconst 2, 1) := by decide +kernel
theorem dX11_knowing_6 : decode cX11_knowing 6 = .ok (.if_icmp .gt 11, 3) := by decide +kernel
theorem dX11_knowing_9 : decode cX11_knowing 9 = .ok (.aload_n 0, 1) := by decide +kernel
theorem dX11_knowing_10 : decode cX11_knowing 10 = .ok (.iload_n 1, 1) := by decide +kernel
theorem dX11_knowing_11 : decode cX11_knowing 11 = .ok (.invokevirtual 232, 3) := by decide +kernel
theorem dX11_knowing_14 : decode cX11_knowing 14 = .ok (.ifCond .ne 7, 3) := by decide +kernel
theorem dX11_knowing_17 : decode cX11_knowing 17 = .ok (.ldc_w 275, 3) := by decide +kernel
theorem dX11_knowing_20 : decode cX11_knowing 20 = .ok (.ireturn, 1) := by decide +kernel
theorem dX11_knowing_21 : decode cX11_knowing 21 = .ok (.aload_n 0, 1) := by decide +kernel
theorem dX11_knowing_22 : decode cX11_knowing 22 = .ok (.getfield 61, 3) := by decide +kernel
theorem dX11_knowing_25 : decode cX11_knowing 25 = .ok (.aload_n 0, 1) := by decide +kernel
theorem dX11_knowing_26 : decode cX11_knowing 26 = .ok (.getfield 19, 3) := by decide +kernel
theorem dX11_knowing_29 : decode cX11_knowing 29 = .ok (.aload_n 0, 1) := by decide +kernel
theorem dX11_knowing_30 : decode cX11_knowing 30 = .ok (.getfield 40, 3) := by decide +kernel
theorem dX11_knowing_33 : decode cX11_knowing 33 = .ok (.invokevirtual 306, 3) := by decide +kernel
theorem dX11_knowing_36 : decode cX11_knowing 36 = .ok (.iload_n 2, 1) := by decide +kernel
theorem dX11_knowing_37 : decode cX11_knowing 37 = .ok (.ifCond .ne 11, 3) := by decide +kernel
theorem dX11_knowing_40 : decode cX11_knowing 40 = .ok (.aload_n 0, 1) := by decide +kernel
theorem dX11_knowing_41 : decode cX11_knowing 41 = .ok (.getfield 61, 3) := by decide +kernel
theorem dX11_knowing_44 : decode cX11_knowing 44 = .ok (.getfield 298, 3) := by decide +kernel
theorem dX11_knowing_47 : decode cX11_knowing 47 = .ok (.ireturn, 1) := by decide +kernel
theorem dX11_knowing_48 : decode cX11_knowing 48 = .ok (.iload_n 2, 1) := by decide +kernel
theorem dX11_knowing_49 : decode cX11_knowing 49 = .ok (.iconst 1, 1) := by decide +kernel
theorem dX11_knowing_50 : decode cX11_knowing 50 = .ok (.if_icmp .ne 13, 3) := by decide +kernel
theorem dX11_knowing_53 : decode cX11_knowing 53 = .ok (.aload_n 0, 1) := by decide +kernel
theorem dX11_knowing_54 : decode cX11_knowing 54 = .ok (.getfield 61, 3) := by decide +kernel
theorem dX11_knowing_57 : decode cX11_knowing 57 = .ok (.getfield 309, 3) := by decide +kernel
theorem dX11_knowing_60 : decode cX11_knowing 60 = .ok (.goto 10, 3) := by decide +kernel
theorem dX11_knowing_63 : decode cX11_knowing 63 = .ok (.aload_n 0, 1) := by decide +kernel
theorem dX11_knowing_64 : decode cX11_knowing 64 = .ok (.getfield 61, 3) := by decide +kernel
theorem dX11_knowing_67 : decode cX11_knowing 67 = .ok (.getfield 312, 3) := by decide +kernel
theorem dX11_knowing_70 : decode cX11_knowing 70 = .ok (.ireturn, 1) := by decide +kernel
set_option maxRecDepth 100000 in
theorem sgX11_knowing_0 {d : Nat} {I : st_I} {L : st_L} {F : Int32 → st_I → st_L → Prop} {a1 : Int32} {a2 : Int32} (h : (if a2 < 0 then F (-1000000000) I L else (if 2 < a2 then F (-1000000000) I L else EI d mX11_knows [.ref 0, .int a1] I L (fun r1 I1 L1 => (if r1 = 0 then F (-1000000000) I1 L1 else EV d mX9_gatherKnowing [.ref 47, .ref 1, .ref 30] I1 L1 (fun I2 L2 => (if a2 = 0 then F (I2 47 0) I2 L2 else F (if a2 = 1 then (I2 47 1) else (I2 47 2)) I2 L2))))))) : EI (d + 1) mX11_knowing [.ref 0, .int a1, .int a2] I L F := by
  refine Ev_of (ls0 := 0) (by decide +kernel) rfl rfl rfl ?_
  refine T_iload_n dX11_knowing_0 rfl ?_
  refine T_if_lt (tgt := 17) dX11_knowing_1 (by decide) (tq_ite h (fun h => ?_) (fun h => ?_))
  ·
    refine T_ldcw (v := (-1000000000)) dX11_knowing_17 ki_RX11_275 ?_
    exact S_iret rfl dX11_knowing_20 h
  ·
    refine T_iload_n dX11_knowing_4 rfl ?_
    refine T_iconst (v := 2) dX11_knowing_5 (by decide +kernel) ?_
    refine T_icmp_gt (tgt := 17) dX11_knowing_6 (by decide) (tq_ite h (fun h => ?_) (fun h => ?_))
    ·
      refine T_ldcw (v := (-1000000000)) dX11_knowing_17 ki_RX11_275 ?_
      exact S_iret rfl dX11_knowing_20 h
    ·
      refine T_aload_n dX11_knowing_9 rfl ?_
      refine T_iload_n dX11_knowing_10 rfl ?_
      refine S_callVI (M' := mX11_knows) [.int a1] [] dX11_knowing_11 ml_RX11_232 mkX11_knows rfl shp_0 rfl rfl rfl (Nat.le_of_ble_eq_true rfl) h (fun r1 I1 L1 h => ?_)
      refine T_if_ne (tgt := 21) dX11_knowing_14 (by decide) (tq_ite h (fun h => ?_) (fun h => ?_))
      ·
        refine T_ldcw (v := (-1000000000)) dX11_knowing_17 ki_RX11_275 ?_
        exact S_iret rfl dX11_knowing_20 h
      ·
        refine T_aload_n dX11_knowing_21 rfl ?_
        refine T_getr dX11_knowing_22 fl_RX11_61 shp_0 rfl ?_
        refine T_aload_n dX11_knowing_25 rfl ?_
        refine T_getr dX11_knowing_26 fl_RX11_19 shp_0 rfl ?_
        refine T_aload_n dX11_knowing_29 rfl ?_
        refine T_getr dX11_knowing_30 fl_RX11_40 shp_0 rfl ?_
        refine S_callVV (M' := mX9_gatherKnowing) [.ref 1, .ref 30] [] dX11_knowing_33 ml_RX11_306 mkX9_gatherKnowing rfl shp_47 rfl rfl rfl (Nat.le_of_ble_eq_true rfl) h (fun I2 L2 h => ?_)
        refine T_iload_n dX11_knowing_36 rfl ?_
        refine T_if_ne (tgt := 48) dX11_knowing_37 (by decide) (tq_ite h (fun h => ?_) (fun h => ?_))
        ·
          refine T_aload_n dX11_knowing_40 rfl ?_
          refine T_getr dX11_knowing_41 fl_RX11_61 shp_0 rfl ?_
          refine T_getv (v := (I2 47 0)) dX11_knowing_44 fl_RX11_298 shp_47 rfl rfl ?_
          exact S_iret rfl dX11_knowing_47 h
        ·
          refine T_iload_n dX11_knowing_48 rfl ?_
          refine T_iconst (v := 1) dX11_knowing_49 (by decide +kernel) ?_
          refine T_icmp_ne (tgt := 63) dX11_knowing_50 (by decide) (tq_itv (fun v => T shp (d + 1) mX11_knowing 70 [.ref 0, .int a1, .int a2] (.int v :: []) I2 L2 (kI F)) (I2 47 1) (I2 47 2) (fun hJ => ?_) (fun hJ => ?_) ?_)
          ·
              refine T_aload_n dX11_knowing_53 rfl ?_
              refine T_getr dX11_knowing_54 fl_RX11_61 shp_0 rfl ?_
              refine T_getv (v := (I2 47 1)) dX11_knowing_57 fl_RX11_309 shp_47 rfl rfl ?_
              refine T_goto (tgt := 70) dX11_knowing_60 (by decide) ?_
              exact hJ
          ·
              refine T_aload_n dX11_knowing_63 rfl ?_
              refine T_getr dX11_knowing_64 fl_RX11_61 shp_0 rfl ?_
              refine T_getv (v := (I2 47 2)) dX11_knowing_67 fl_RX11_312 shp_47 rfl rfl ?_
              exact hJ
          exact S_iret rfl dX11_knowing_70 h

theorem dX11_knowingWays_0 : decode cX11_knowingWays 0 = .ok (.aload_n 0, 1) := by decide +kernel
theorem dX11_knowingWays_1 : decode cX11_knowingWays 1 = .ok (.iload_n 1, 1) := by decide +kernel
theorem dX11_knowingWays_2 : decode cX11_knowingWays 2 = .ok (.invokevirtual 232, 3) := by decide +kernel
theorem dX11_knowingWays_5 : decode cX11_knowingWays 5 = .ok (.ifCond .ne 5, 3) := by decide +kernel
theorem dX11_knowingWays_8 : decode cX11_knowingWays 8 = .ok (.iconst (-1), 1) := by decide +kernel
theorem dX11_knowingWays_9 : decode cX11_knowingWays 9 = .ok (.ireturn, 1) := by decide +kernel
theorem dX11_knowingWays_10 : decode cX11_knowingWays 10 = .ok (.aload_n 0, 1) := by decide +kernel
theorem dX11_knowingWays_11 : decode cX11_knowingWays 11 = .ok (.getfield 61, 3) := by decide +kernel
theorem dX11_knowingWays_14 : decode cX11_knowingWays 14 = .ok (.aload_n 0, 1) := by decide +kernel
theorem dX11_knowingWays_15 : decode cX11_knowingWays 15 = .ok (.getfield 19, 3) := by decide +kernel
theorem dX11_knowingWays_18 : decode cX11_knowingWays 18 = .ok (.aload_n 0, 1) := by decide +kernel
theorem dX11_knowingWays_19 : decode cX11_knowingWays 19 = .ok (.getfield 40, 3) := by decide +kernel
theorem dX11_knowingWays_22 : decode cX11_knowingWays 22 = .ok (.invokevirtual 306, 3) := by decide +kernel
theorem dX11_knowingWays_25 : decode cX11_knowingWays 25 = .ok (.aload_n 0, 1) := by decide +kernel
theorem dX11_knowingWays_26 : decode cX11_knowingWays 26 = .ok (.getfield 61, 3) := by decide +kernel
theorem dX11_knowingWays_29 : decode cX11_knowingWays 29 = .ok (.invokevirtual 302, 3) := by decide +kernel
theorem dX11_knowingWays_32 : decode cX11_knowingWays 32 = .ok (.ireturn, 1) := by decide +kernel
set_option maxRecDepth 100000 in
theorem sgX11_knowingWays_0 {d : Nat} {I : st_I} {L : st_L} {F : Int32 → st_I → st_L → Prop} {a1 : Int32} (h : EI d mX11_knows [.ref 0, .int a1] I L (fun r1 I1 L1 => (if r1 = 0 then F (-1) I1 L1 else EV d mX9_gatherKnowing [.ref 47, .ref 1, .ref 30] I1 L1 (fun I2 L2 => EI d mX9_ways [.ref 47] I2 L2 (fun r3 I3 L3 => F r3 I3 L3))))) : EI (d + 1) mX11_knowingWays [.ref 0, .int a1] I L F := by
  refine Ev_of (ls0 := 0) (by decide +kernel) rfl rfl rfl ?_
  refine T_aload_n dX11_knowingWays_0 rfl ?_
  refine T_iload_n dX11_knowingWays_1 rfl ?_
  refine S_callVI (M' := mX11_knows) [.int a1] [] dX11_knowingWays_2 ml_RX11_232 mkX11_knows rfl shp_0 rfl rfl rfl (Nat.le_of_ble_eq_true rfl) h (fun r1 I1 L1 h => ?_)
  refine T_if_ne (tgt := 10) dX11_knowingWays_5 (by decide) (tq_ite h (fun h => ?_) (fun h => ?_))
  ·
    refine T_iconst (v := (-1)) dX11_knowingWays_8 (by decide +kernel) ?_
    exact S_iret rfl dX11_knowingWays_9 h
  ·
    refine T_aload_n dX11_knowingWays_10 rfl ?_
    refine T_getr dX11_knowingWays_11 fl_RX11_61 shp_0 rfl ?_
    refine T_aload_n dX11_knowingWays_14 rfl ?_
    refine T_getr dX11_knowingWays_15 fl_RX11_19 shp_0 rfl ?_
    refine T_aload_n dX11_knowingWays_18 rfl ?_
    refine T_getr dX11_knowingWays_19 fl_RX11_40 shp_0 rfl ?_
    refine S_callVV (M' := mX9_gatherKnowing) [.ref 1, .ref 30] [] dX11_knowingWays_22 ml_RX11_306 mkX9_gatherKnowing rfl shp_47 rfl rfl rfl (Nat.le_of_ble_eq_true rfl) h (fun I2 L2 h => ?_)
    refine T_aload_n dX11_knowingWays_25 rfl ?_
    refine T_getr dX11_knowingWays_26 fl_RX11_61 shp_0 rfl ?_
    refine S_callVI (M' := mX9_ways) [] [] dX11_knowingWays_29 ml_RX11_302 mkX9_ways rfl shp_47 rfl rfl rfl (Nat.le_of_ble_eq_true rfl) h (fun r3 I3 L3 h => ?_)
    exact S_iret rfl dX11_knowingWays_32 h

theorem dX11_spot_0 : decode cX11_spot 0 = .ok (.iload_n 2, 1) := by decide +kernel
theorem dX11_spot_1 : decode cX11_spot 1 = .ok (.ifCond .lt 26, 3) := by decide +kernel
theorem dX11_spot_4 : decode cX11_spot 4 = .ok (.iload_n 2, 1) := by decide +kernel
theorem dX11_spot_5 : decode cX11_spot 5 = .ok (.bipush 10, 2) := by decide +kernel
theorem dX11_spot_7 : decode cX11_spot 7 = .ok (.if_icmp .ge 20, 3) := by decide +kernel
theorem dX11_spot_10 : decode cX11_spot 10 = .ok (.iload_n 3, 1) := by decide +kernel
theorem dX11_spot_11 : decode cX11_spot 11 = .ok (.ifCond .lt 16, 3) := by decide +kernel
theorem dX11_spot_14 : decode cX11_spot 14 = .ok (.iload_n 3, 1) := by decide +kernel
theorem dX11_spot_15 : decode cX11_spot 15 = .ok (.iconst 1, 1) := by decide +kernel
theorem dX11_spot_16 : decode cX11_spot 16 = .ok (.if_icmp .gt 11, 3) := by decide +kernel
theorem dX11_spot_19 : decode cX11_spot 19 = .ok (.aload_n 0, 1) := by decide +kernel
theorem dX11_spot_20 : decode cX11_spot 20 = .ok (.iload_n 1, 1) := by decide +kernel
theorem dX11_spot_21 : decode cX11_spot 21 = .ok (.invokevirtual 232, 3) := by decide +kernel
theorem dX11_spot_24 : decode cX11_spot 24 = .ok (.ifCond .ne 5, 3) := by decide +kernel
theorem dX11_spot_27 : decode cX11_spot 27 = .ok (.iconst (-1), 1) := by decide +kernel
theorem dX11_spot_28 : decode cX11_spot 28 = .ok (.ireturn, 1) := by decide +kernel
theorem dX11_spot_29 : decode cX11_spot 29 = .ok (.iload_n 3, 1) := by decide +kernel
theorem dX11_spot_30 : decode cX11_spot 30 = .ok (.ifCond .ne 15, 3) := by decide +kernel
theorem dX11_spot_33 : decode cX11_spot 33 = .ok (.aload_n 0, 1) := by decide +kernel
theorem dX11_spot_34 : decode cX11_spot 34 = .ok (.getfield 40, 3) := by decide +kernel
theorem dX11_spot_37 : decode cX11_spot 37 = .ok (.getfield 315, 3) := by decide +kernel
theorem dX11_spot_40 : decode cX11_spot 40 = .ok (.iload_n 2, 1) := by decide +kernel
theorem dX11_spot_41 : decode cX11_spot 41 = .ok (.iaload, 1) := by decide +kernel
theorem dX11_spot_42 : decode cX11_spot 42 = .ok (.goto 12, 3) := by decide +kernel
theorem dX11_spot_45 : decode cX11_spot 45 = .ok (.aload_n 0, 1) := by decide +kernel
theorem dX11_spot_46 : decode cX11_spot 46 = .ok (.getfield 40, 3) := by decide +kernel
theorem dX11_spot_49 : decode cX11_spot 49 = .ok (.getfield 318, 3) := by decide +kernel
theorem dX11_spot_52 : decode cX11_spot 52 = .ok (.iload_n 2, 1) := by decide +kernel
theorem dX11_spot_53 : decode cX11_spot 53 = .ok (.iaload, 1) := by decide +kernel
theorem dX11_spot_54 : decode cX11_spot 54 = .ok (.ireturn, 1) := by decide +kernel
set_option maxRecDepth 100000 in
theorem sgX11_spot_0 {d : Nat} {I : st_I} {L : st_L} {F : Int32 → st_I → st_L → Prop} {a1 : Int32} {a2 : Int32} {a3 : Int32} (h : (if a2 < 0 then F (-1) I L else (if 10 ≤ a2 then F (-1) I L else (if a3 < 0 then F (-1) I L else (if 1 < a3 then F (-1) I L else EI d mX11_knows [.ref 0, .int a1] I L (fun r1 I1 L1 => (if r1 = 0 then F (-1) I1 L1 else (if a3 = 0 then vp_in a2 10 ∧ F (I1 37 (a2.toNatClampNeg)) I1 L1 else vp_in a2 10 ∧ F (I1 38 (a2.toNatClampNeg)) I1 L1)))))))) : EI (d + 1) mX11_spot [.ref 0, .int a1, .int a2, .int a3] I L F := by
  refine Ev_of (ls0 := 0) (by decide +kernel) rfl rfl rfl ?_
  refine T_iload_n dX11_spot_0 rfl ?_
  refine T_if_lt (tgt := 27) dX11_spot_1 (by decide) (tq_ite h (fun h => ?_) (fun h => ?_))
  ·
    refine T_iconst (v := (-1)) dX11_spot_27 (by decide +kernel) ?_
    exact S_iret rfl dX11_spot_28 h
  ·
    refine T_iload_n dX11_spot_4 rfl ?_
    refine T_bipush (v := 10) dX11_spot_5 (by decide +kernel) ?_
    refine T_icmp_ge (tgt := 27) dX11_spot_7 (by decide) (tq_ite h (fun h => ?_) (fun h => ?_))
    ·
      refine T_iconst (v := (-1)) dX11_spot_27 (by decide +kernel) ?_
      exact S_iret rfl dX11_spot_28 h
    ·
      refine T_iload_n dX11_spot_10 rfl ?_
      refine T_if_lt (tgt := 27) dX11_spot_11 (by decide) (tq_ite h (fun h => ?_) (fun h => ?_))
      ·
        refine T_iconst (v := (-1)) dX11_spot_27 (by decide +kernel) ?_
        exact S_iret rfl dX11_spot_28 h
      ·
        refine T_iload_n dX11_spot_14 rfl ?_
        refine T_iconst (v := 1) dX11_spot_15 (by decide +kernel) ?_
        refine T_icmp_gt (tgt := 27) dX11_spot_16 (by decide) (tq_ite h (fun h => ?_) (fun h => ?_))
        ·
          refine T_iconst (v := (-1)) dX11_spot_27 (by decide +kernel) ?_
          exact S_iret rfl dX11_spot_28 h
        ·
          refine T_aload_n dX11_spot_19 rfl ?_
          refine T_iload_n dX11_spot_20 rfl ?_
          refine S_callVI (M' := mX11_knows) [.int a1] [] dX11_spot_21 ml_RX11_232 mkX11_knows rfl shp_0 rfl rfl rfl (Nat.le_of_ble_eq_true rfl) h (fun r1 I1 L1 h => ?_)
          refine T_if_ne (tgt := 29) dX11_spot_24 (by decide) (tq_ite h (fun h => ?_) (fun h => ?_))
          ·
            refine T_iconst (v := (-1)) dX11_spot_27 (by decide +kernel) ?_
            exact S_iret rfl dX11_spot_28 h
          ·
            refine T_iload_n dX11_spot_29 rfl ?_
            refine T_if_ne (tgt := 45) dX11_spot_30 (by decide) (tq_ite h (fun h => ?_) (fun h => ?_))
            ·
              refine T_aload_n dX11_spot_33 rfl ?_
              refine T_getr dX11_spot_34 fl_RX11_40 shp_0 rfl ?_
              refine T_getr dX11_spot_37 fl_RX11_315 shp_30 rfl ?_
              refine T_iload_n dX11_spot_40 rfl ?_
              refine T_ialdv (v := (I1 37 (a2.toNatClampNeg))) (j := a2.toNatClampNeg) dX11_spot_41 shp_37 h.1 rfl rfl ?_
              replace h := h.2
              refine T_goto (tgt := 54) dX11_spot_42 (by decide) ?_
              exact S_iret rfl dX11_spot_54 h
            ·
              refine T_aload_n dX11_spot_45 rfl ?_
              refine T_getr dX11_spot_46 fl_RX11_40 shp_0 rfl ?_
              refine T_getr dX11_spot_49 fl_RX11_318 shp_30 rfl ?_
              refine T_iload_n dX11_spot_52 rfl ?_
              refine T_ialdv (v := (I1 38 (a2.toNatClampNeg))) (j := a2.toNatClampNeg) dX11_spot_53 shp_38 h.1 rfl rfl ?_
              replace h := h.2
              exact S_iret rfl dX11_spot_54 h

theorem dX11_right_0 : decode cX11_right 0 = .ok (.aload_n 0, 1) := by decide +kernel
theorem dX11_right_1 : decode cX11_right 1 = .ok (.getfield 19, 3) := by decide +kernel
theorem dX11_right_4 : decode cX11_right 4 = .ok (.iload_n 2, 1) := by decide +kernel
theorem dX11_right_5 : decode cX11_right 5 = .ok (.invokevirtual 118, 3) := by decide +kernel
theorem dX11_right_8 : decode cX11_right 8 = .ok (.ifCond .eq 11, 3) := by decide +kernel
theorem dX11_right_11 : decode cX11_right 11 = .ok (.aload_n 0, 1) := by decide +kernel
theorem dX11_right_12 : decode cX11_right 12 = .ok (.iload_n 1, 1) := by decide +kernel
theorem dX11_right_13 : decode cX11_right 13 = .ok (.invokevirtual 232, 3) := by decide +kernel
theorem dX11_right_16 : decode cX11_right 16 = .ok (.ifCond .ne 7, 3) := by decide +kernel
theorem dX11_right_19 : decode cX11_right 19 = .ok (.ldc_w 275, 3) := by decide +kernel
theorem dX11_right_22 : decode cX11_right 22 = .ok (.ireturn, 1) := by decide +kernel
theorem dX11_right_23 : decode cX11_right 23 = .ok (.aload_n 0, 1) := by decide +kernel
theorem dX11_right_24 : decode cX11_right 24 = .ok (.getfield 40, 3) := by decide +kernel
theorem dX11_right_27 : decode cX11_right 27 = .ok (.aload_n 0, 1) := by decide +kernel
theorem dX11_right_28 : decode cX11_right 28 = .ok (.getfield 19, 3) := by decide +kernel
theorem dX11_right_31 : decode cX11_right 31 = .ok (.aload_n 0, 1) := by decide +kernel
theorem dX11_right_32 : decode cX11_right 32 = .ok (.getfield 33, 3) := by decide +kernel
theorem dX11_right_35 : decode cX11_right 35 = .ok (.iload_n 2, 1) := by decide +kernel
theorem dX11_right_36 : decode cX11_right 36 = .ok (.invokevirtual 321, 3) := by decide +kernel
theorem dX11_right_39 : decode cX11_right 39 = .ok (.ireturn, 1) := by decide +kernel
set_option maxRecDepth 100000 in
theorem sgX11_right_0 {d : Nat} {I : st_I} {L : st_L} {F : Int32 → st_I → st_L → Prop} {a1 : Int32} {a2 : Int32} (h : EI d mX8_hasFiddle [.ref 1, .int a2] I L (fun r1 I1 L1 => (if r1 = 0 then F (-1000000000) I1 L1 else EI d mX11_knows [.ref 0, .int a1] I1 L1 (fun r2 I2 L2 => (if r2 = 0 then F (-1000000000) I2 L2 else EI d mX2_putRight [.ref 30, .ref 1, .ref 28, .int a2] I2 L2 (fun r3 I3 L3 => F r3 I3 L3)))))) : EI (d + 1) mX11_right [.ref 0, .int a1, .int a2] I L F := by
  refine Ev_of (ls0 := 0) (by decide +kernel) rfl rfl rfl ?_
  refine T_aload_n dX11_right_0 rfl ?_
  refine T_getr dX11_right_1 fl_RX11_19 shp_0 rfl ?_
  refine T_iload_n dX11_right_4 rfl ?_
  refine S_callVI (M' := mX8_hasFiddle) [.int a2] [] dX11_right_5 ml_RX11_118 mkX8_hasFiddle rfl shp_1 rfl rfl rfl (Nat.le_of_ble_eq_true rfl) h (fun r1 I1 L1 h => ?_)
  refine T_if_eq (tgt := 19) dX11_right_8 (by decide) (tq_ite h (fun h => ?_) (fun h => ?_))
  ·
    refine T_ldcw (v := (-1000000000)) dX11_right_19 ki_RX11_275 ?_
    exact S_iret rfl dX11_right_22 h
  ·
    refine T_aload_n dX11_right_11 rfl ?_
    refine T_iload_n dX11_right_12 rfl ?_
    refine S_callVI (M' := mX11_knows) [.int a1] [] dX11_right_13 ml_RX11_232 mkX11_knows rfl shp_0 rfl rfl rfl (Nat.le_of_ble_eq_true rfl) h (fun r2 I2 L2 h => ?_)
    refine T_if_ne (tgt := 23) dX11_right_16 (by decide) (tq_ite h (fun h => ?_) (fun h => ?_))
    ·
      refine T_ldcw (v := (-1000000000)) dX11_right_19 ki_RX11_275 ?_
      exact S_iret rfl dX11_right_22 h
    ·
      refine T_aload_n dX11_right_23 rfl ?_
      refine T_getr dX11_right_24 fl_RX11_40 shp_0 rfl ?_
      refine T_aload_n dX11_right_27 rfl ?_
      refine T_getr dX11_right_28 fl_RX11_19 shp_0 rfl ?_
      refine T_aload_n dX11_right_31 rfl ?_
      refine T_getr dX11_right_32 fl_RX11_33 shp_0 rfl ?_
      refine T_iload_n dX11_right_35 rfl ?_
      refine S_callVI (M' := mX2_putRight) [.ref 1, .ref 28, .int a2] [] dX11_right_36 ml_RX11_321 mkX2_putRight rfl shp_30 rfl rfl rfl (Nat.le_of_ble_eq_true rfl) h (fun r3 I3 L3 h => ?_)
      exact S_iret rfl dX11_right_39 h

theorem dX11_near_0 : decode cX11_near 0 = .ok (.iload_n 2, 1) := by decide +kernel
theorem dX11_near_1 : decode cX11_near 1 = .ok (.ifCond .lt 16, 3) := by decide +kernel
theorem dX11_near_4 : decode cX11_near 4 = .ok (.iload_n 2, 1) := by decide +kernel
theorem dX11_near_5 : decode cX11_near 5 = .ok (.iconst 2, 1) := by decide +kernel
theorem dX11_near_6 : decode cX11_near 6 = .ok (.if_icmp .gt 11, 3) := by decide +kernel
theorem dX11_near_9 : decode cX11_near 9 = .ok (.aload_n 0, 1) := by decide +kernel
theorem dX11_near_10 : decode cX11_near 10 = .ok (.iload_n 1, 1) := by decide +kernel
theorem dX11_near_11 : decode cX11_near 11 = .ok (.invokevirtual 232, 3) := by decide +kernel
theorem dX11_near_14 : decode cX11_near 14 = .ok (.ifCond .ne 5, 3) := by decide +kernel
theorem dX11_near_17 : decode cX11_near 17 = .ok (.iconst (-1), 1) := by decide +kernel
theorem dX11_near_18 : decode cX11_near 18 = .ok (.ireturn, 1) := by decide +kernel
theorem dX11_near_19 : decode cX11_near 19 = .ok (.aload_n 0, 1) := by decide +kernel
theorem dX11_near_20 : decode cX11_near 20 = .ok (.getfield 68, 3) := by decide +kernel
theorem dX11_near_23 : decode cX11_near 23 = .ok (.aload_n 0, 1) := by decide +kernel
theorem dX11_near_24 : decode cX11_near 24 = .ok (.getfield 19, 3) := by decide +kernel
theorem dX11_near_27 : decode cX11_near 27 = .ok (.aload_n 0, 1) := by decide +kernel
theorem dX11_near_28 : decode cX11_near 28 = .ok (.getfield 40, 3) := by decide +kernel
theorem dX11_near_31 : decode cX11_near 31 = .ok (.invokevirtual 325, 3) := by decide +kernel
theorem dX11_near_34 : decode cX11_near 34 = .ok (.iload_n 2, 1) := by decide +kernel
theorem dX11_near_35 : decode cX11_near 35 = .ok (.ifCond .ne 11, 3) := by decide +kernel
theorem dX11_near_38 : decode cX11_near 38 = .ok (.aload_n 0, 1) := by decide +kernel
theorem dX11_near_39 : decode cX11_near 39 = .ok (.getfield 68, 3) := by decide +kernel
theorem dX11_near_42 : decode cX11_near 42 = .ok (.getfield 326, 3) := by decide +kernel
theorem dX11_near_45 : decode cX11_near 45 = .ok (.ireturn, 1) := by decide +kernel
theorem dX11_near_46 : decode cX11_near 46 = .ok (.iload_n 2, 1) := by decide +kernel
theorem dX11_near_47 : decode cX11_near 47 = .ok (.iconst 1, 1) := by decide +kernel
theorem dX11_near_48 : decode cX11_near 48 = .ok (.if_icmp .ne 13, 3) := by decide +kernel
theorem dX11_near_51 : decode cX11_near 51 = .ok (.aload_n 0, 1) := by decide +kernel
theorem dX11_near_52 : decode cX11_near 52 = .ok (.getfield 68, 3) := by decide +kernel
theorem dX11_near_55 : decode cX11_near 55 = .ok (.getfield 327, 3) := by decide +kernel
theorem dX11_near_58 : decode cX11_near 58 = .ok (.goto 10, 3) := by decide +kernel
theorem dX11_near_61 : decode cX11_near 61 = .ok (.aload_n 0, 1) := by decide +kernel
theorem dX11_near_62 : decode cX11_near 62 = .ok (.getfield 68, 3) := by decide +kernel
theorem dX11_near_65 : decode cX11_near 65 = .ok (.getfield 330, 3) := by decide +kernel
theorem dX11_near_68 : decode cX11_near 68 = .ok (.ireturn, 1) := by decide +kernel
set_option maxRecDepth 100000 in
theorem sgX11_near_0 {d : Nat} {I : st_I} {L : st_L} {F : Int32 → st_I → st_L → Prop} {a1 : Int32} {a2 : Int32} (h : (if a2 < 0 then F (-1) I L else (if 2 < a2 then F (-1) I L else EI d mX11_knows [.ref 0, .int a1] I L (fun r1 I1 L1 => (if r1 = 0 then F (-1) I1 L1 else EV d mX3_gather [.ref 49, .ref 1, .ref 30] I1 L1 (fun I2 L2 => (if a2 = 0 then F (I2 49 0) I2 L2 else F (if a2 = 1 then (I2 49 1) else (I2 49 2)) I2 L2))))))) : EI (d + 1) mX11_near [.ref 0, .int a1, .int a2] I L F := by
  refine Ev_of (ls0 := 0) (by decide +kernel) rfl rfl rfl ?_
  refine T_iload_n dX11_near_0 rfl ?_
  refine T_if_lt (tgt := 17) dX11_near_1 (by decide) (tq_ite h (fun h => ?_) (fun h => ?_))
  ·
    refine T_iconst (v := (-1)) dX11_near_17 (by decide +kernel) ?_
    exact S_iret rfl dX11_near_18 h
  ·
    refine T_iload_n dX11_near_4 rfl ?_
    refine T_iconst (v := 2) dX11_near_5 (by decide +kernel) ?_
    refine T_icmp_gt (tgt := 17) dX11_near_6 (by decide) (tq_ite h (fun h => ?_) (fun h => ?_))
    ·
      refine T_iconst (v := (-1)) dX11_near_17 (by decide +kernel) ?_
      exact S_iret rfl dX11_near_18 h
    ·
      refine T_aload_n dX11_near_9 rfl ?_
      refine T_iload_n dX11_near_10 rfl ?_
      refine S_callVI (M' := mX11_knows) [.int a1] [] dX11_near_11 ml_RX11_232 mkX11_knows rfl shp_0 rfl rfl rfl (Nat.le_of_ble_eq_true rfl) h (fun r1 I1 L1 h => ?_)
      refine T_if_ne (tgt := 19) dX11_near_14 (by decide) (tq_ite h (fun h => ?_) (fun h => ?_))
      ·
        refine T_iconst (v := (-1)) dX11_near_17 (by decide +kernel) ?_
        exact S_iret rfl dX11_near_18 h
      ·
        refine T_aload_n dX11_near_19 rfl ?_
        refine T_getr dX11_near_20 fl_RX11_68 shp_0 rfl ?_
        refine T_aload_n dX11_near_23 rfl ?_
        refine T_getr dX11_near_24 fl_RX11_19 shp_0 rfl ?_
        refine T_aload_n dX11_near_27 rfl ?_
        refine T_getr dX11_near_28 fl_RX11_40 shp_0 rfl ?_
        refine S_callVV (M' := mX3_gather) [.ref 1, .ref 30] [] dX11_near_31 ml_RX11_325 mkX3_gather rfl shp_49 rfl rfl rfl (Nat.le_of_ble_eq_true rfl) h (fun I2 L2 h => ?_)
        refine T_iload_n dX11_near_34 rfl ?_
        refine T_if_ne (tgt := 46) dX11_near_35 (by decide) (tq_ite h (fun h => ?_) (fun h => ?_))
        ·
          refine T_aload_n dX11_near_38 rfl ?_
          refine T_getr dX11_near_39 fl_RX11_68 shp_0 rfl ?_
          refine T_getv (v := (I2 49 0)) dX11_near_42 fl_RX11_326 shp_49 rfl rfl ?_
          exact S_iret rfl dX11_near_45 h
        ·
          refine T_iload_n dX11_near_46 rfl ?_
          refine T_iconst (v := 1) dX11_near_47 (by decide +kernel) ?_
          refine T_icmp_ne (tgt := 61) dX11_near_48 (by decide) (tq_itv (fun v => T shp (d + 1) mX11_near 68 [.ref 0, .int a1, .int a2] (.int v :: []) I2 L2 (kI F)) (I2 49 1) (I2 49 2) (fun hJ => ?_) (fun hJ => ?_) ?_)
          ·
              refine T_aload_n dX11_near_51 rfl ?_
              refine T_getr dX11_near_52 fl_RX11_68 shp_0 rfl ?_
              refine T_getv (v := (I2 49 1)) dX11_near_55 fl_RX11_327 shp_49 rfl rfl ?_
              refine T_goto (tgt := 68) dX11_near_58 (by decide) ?_
              exact hJ
          ·
              refine T_aload_n dX11_near_61 rfl ?_
              refine T_getr dX11_near_62 fl_RX11_68 shp_0 rfl ?_
              refine T_getv (v := (I2 49 2)) dX11_near_65 fl_RX11_330 shp_49 rfl rfl ?_
              exact hJ
          exact S_iret rfl dX11_near_68 h

theorem dX11_nearWays_0 : decode cX11_nearWays 0 = .ok (.aload_n 0, 1) := by decide +kernel
theorem dX11_nearWays_1 : decode cX11_nearWays 1 = .ok (.iload_n 1, 1) := by decide +kernel
theorem dX11_nearWays_2 : decode cX11_nearWays 2 = .ok (.invokevirtual 232, 3) := by decide +kernel
theorem dX11_nearWays_5 : decode cX11_nearWays 5 = .ok (.ifCond .ne 5, 3) := by decide +kernel
theorem dX11_nearWays_8 : decode cX11_nearWays 8 = .ok (.iconst (-1), 1) := by decide +kernel
theorem dX11_nearWays_9 : decode cX11_nearWays 9 = .ok (.ireturn, 1) := by decide +kernel
theorem dX11_nearWays_10 : decode cX11_nearWays 10 = .ok (.aload_n 0, 1) := by decide +kernel
theorem dX11_nearWays_11 : decode cX11_nearWays 11 = .ok (.getfield 68, 3) := by decide +kernel
theorem dX11_nearWays_14 : decode cX11_nearWays 14 = .ok (.aload_n 0, 1) := by decide +kernel
theorem dX11_nearWays_15 : decode cX11_nearWays 15 = .ok (.getfield 19, 3) := by decide +kernel
theorem dX11_nearWays_18 : decode cX11_nearWays 18 = .ok (.aload_n 0, 1) := by decide +kernel
theorem dX11_nearWays_19 : decode cX11_nearWays 19 = .ok (.getfield 40, 3) := by decide +kernel
theorem dX11_nearWays_22 : decode cX11_nearWays 22 = .ok (.invokevirtual 325, 3) := by decide +kernel
theorem dX11_nearWays_25 : decode cX11_nearWays 25 = .ok (.aload_n 0, 1) := by decide +kernel
theorem dX11_nearWays_26 : decode cX11_nearWays 26 = .ok (.getfield 68, 3) := by decide +kernel
theorem dX11_nearWays_29 : decode cX11_nearWays 29 = .ok (.invokevirtual 333, 3) := by decide +kernel
theorem dX11_nearWays_32 : decode cX11_nearWays 32 = .ok (.ireturn, 1) := by decide +kernel
set_option maxRecDepth 100000 in
theorem sgX11_nearWays_0 {d : Nat} {I : st_I} {L : st_L} {F : Int32 → st_I → st_L → Prop} {a1 : Int32} (h : EI d mX11_knows [.ref 0, .int a1] I L (fun r1 I1 L1 => (if r1 = 0 then F (-1) I1 L1 else EV d mX3_gather [.ref 49, .ref 1, .ref 30] I1 L1 (fun I2 L2 => EI d mX3_ways [.ref 49] I2 L2 (fun r3 I3 L3 => F r3 I3 L3))))) : EI (d + 1) mX11_nearWays [.ref 0, .int a1] I L F := by
  refine Ev_of (ls0 := 0) (by decide +kernel) rfl rfl rfl ?_
  refine T_aload_n dX11_nearWays_0 rfl ?_
  refine T_iload_n dX11_nearWays_1 rfl ?_
  refine S_callVI (M' := mX11_knows) [.int a1] [] dX11_nearWays_2 ml_RX11_232 mkX11_knows rfl shp_0 rfl rfl rfl (Nat.le_of_ble_eq_true rfl) h (fun r1 I1 L1 h => ?_)
  refine T_if_ne (tgt := 10) dX11_nearWays_5 (by decide) (tq_ite h (fun h => ?_) (fun h => ?_))
  ·
    refine T_iconst (v := (-1)) dX11_nearWays_8 (by decide +kernel) ?_
    exact S_iret rfl dX11_nearWays_9 h
  ·
    refine T_aload_n dX11_nearWays_10 rfl ?_
    refine T_getr dX11_nearWays_11 fl_RX11_68 shp_0 rfl ?_
    refine T_aload_n dX11_nearWays_14 rfl ?_
    refine T_getr dX11_nearWays_15 fl_RX11_19 shp_0 rfl ?_
    refine T_aload_n dX11_nearWays_18 rfl ?_
    refine T_getr dX11_nearWays_19 fl_RX11_40 shp_0 rfl ?_
    refine S_callVV (M' := mX3_gather) [.ref 1, .ref 30] [] dX11_nearWays_22 ml_RX11_325 mkX3_gather rfl shp_49 rfl rfl rfl (Nat.le_of_ble_eq_true rfl) h (fun I2 L2 h => ?_)
    refine T_aload_n dX11_nearWays_25 rfl ?_
    refine T_getr dX11_nearWays_26 fl_RX11_68 shp_0 rfl ?_
    refine S_callVI (M' := mX3_ways) [] [] dX11_nearWays_29 ml_RX11_333 mkX3_ways rfl shp_49 rfl rfl rfl (Nat.le_of_ble_eq_true rfl) h (fun r3 I3 L3 h => ?_)
    exact S_iret rfl dX11_nearWays_32 h

theorem dX11_beats_0 : decode cX11_beats 0 = .ok (.aload_n 0, 1) := by decide +kernel
theorem dX11_beats_1 : decode cX11_beats 1 = .ok (.getfield 19, 3) := by decide +kernel
theorem dX11_beats_4 : decode cX11_beats 4 = .ok (.iload_n 2, 1) := by decide +kernel
theorem dX11_beats_5 : decode cX11_beats 5 = .ok (.invokevirtual 118, 3) := by decide +kernel
theorem dX11_beats_8 : decode cX11_beats 8 = .ok (.ifCond .eq 22, 3) := by decide +kernel
theorem dX11_beats_11 : decode cX11_beats 11 = .ok (.aload_n 0, 1) := by decide +kernel
theorem dX11_beats_12 : decode cX11_beats 12 = .ok (.getfield 19, 3) := by decide +kernel
theorem dX11_beats_15 : decode cX11_beats 15 = .ok (.iload_n 3, 1) := by decide +kernel
theorem dX11_beats_16 : decode cX11_beats 16 = .ok (.invokevirtual 118, 3) := by decide +kernel
theorem dX11_beats_19 : decode cX11_beats 19 = .ok (.ifCond .eq 11, 3) := by decide +kernel
theorem dX11_beats_22 : decode cX11_beats 22 = .ok (.aload_n 0, 1) := by decide +kernel
theorem dX11_beats_23 : decode cX11_beats 23 = .ok (.iload_n 1, 1) := by decide +kernel
theorem dX11_beats_24 : decode cX11_beats 24 = .ok (.invokevirtual 232, 3) := by decide +kernel
theorem dX11_beats_27 : decode cX11_beats 27 = .ok (.ifCond .ne 5, 3) := by decide +kernel
theorem dX11_beats_30 : decode cX11_beats 30 = .ok (.iconst (-1), 1) := by decide +kernel
theorem dX11_beats_31 : decode cX11_beats 31 = .ok (.ireturn, 1) := by decide +kernel
theorem dX11_beats_32 : decode cX11_beats 32 = .ok (.aload_n 0, 1) := by decide +kernel
theorem dX11_beats_33 : decode cX11_beats 33 = .ok (.getfield 40, 3) := by decide +kernel
theorem dX11_beats_36 : decode cX11_beats 36 = .ok (.aload_n 0, 1) := by decide +kernel
theorem dX11_beats_37 : decode cX11_beats 37 = .ok (.getfield 19, 3) := by decide +kernel
theorem dX11_beats_40 : decode cX11_beats 40 = .ok (.iload_n 2, 1) := by decide +kernel
theorem dX11_beats_41 : decode cX11_beats 41 = .ok (.iload_n 3, 1) := by decide +kernel
theorem dX11_beats_42 : decode cX11_beats 42 = .ok (.invokevirtual 334, 3) := by decide +kernel
theorem dX11_beats_45 : decode cX11_beats 45 = .ok (.ireturn, 1) := by decide +kernel
set_option maxRecDepth 100000 in
theorem sgX11_beats_0 {d : Nat} {I : st_I} {L : st_L} {F : Int32 → st_I → st_L → Prop} {a1 : Int32} {a2 : Int32} {a3 : Int32} (h : EI d mX8_hasFiddle [.ref 1, .int a2] I L (fun r1 I1 L1 => (if r1 = 0 then F (-1) I1 L1 else EI d mX8_hasFiddle [.ref 1, .int a3] I1 L1 (fun r2 I2 L2 => (if r2 = 0 then F (-1) I2 L2 else EI d mX11_knows [.ref 0, .int a1] I2 L2 (fun r3 I3 L3 => (if r3 = 0 then F (-1) I3 L3 else EI d mX2_above [.ref 30, .ref 1, .int a2, .int a3] I3 L3 (fun r4 I4 L4 => F r4 I4 L4)))))))) : EI (d + 1) mX11_beats [.ref 0, .int a1, .int a2, .int a3] I L F := by
  refine Ev_of (ls0 := 0) (by decide +kernel) rfl rfl rfl ?_
  refine T_aload_n dX11_beats_0 rfl ?_
  refine T_getr dX11_beats_1 fl_RX11_19 shp_0 rfl ?_
  refine T_iload_n dX11_beats_4 rfl ?_
  refine S_callVI (M' := mX8_hasFiddle) [.int a2] [] dX11_beats_5 ml_RX11_118 mkX8_hasFiddle rfl shp_1 rfl rfl rfl (Nat.le_of_ble_eq_true rfl) h (fun r1 I1 L1 h => ?_)
  refine T_if_eq (tgt := 30) dX11_beats_8 (by decide) (tq_ite h (fun h => ?_) (fun h => ?_))
  ·
    refine T_iconst (v := (-1)) dX11_beats_30 (by decide +kernel) ?_
    exact S_iret rfl dX11_beats_31 h
  ·
    refine T_aload_n dX11_beats_11 rfl ?_
    refine T_getr dX11_beats_12 fl_RX11_19 shp_0 rfl ?_
    refine T_iload_n dX11_beats_15 rfl ?_
    refine S_callVI (M' := mX8_hasFiddle) [.int a3] [] dX11_beats_16 ml_RX11_118 mkX8_hasFiddle rfl shp_1 rfl rfl rfl (Nat.le_of_ble_eq_true rfl) h (fun r2 I2 L2 h => ?_)
    refine T_if_eq (tgt := 30) dX11_beats_19 (by decide) (tq_ite h (fun h => ?_) (fun h => ?_))
    ·
      refine T_iconst (v := (-1)) dX11_beats_30 (by decide +kernel) ?_
      exact S_iret rfl dX11_beats_31 h
    ·
      refine T_aload_n dX11_beats_22 rfl ?_
      refine T_iload_n dX11_beats_23 rfl ?_
      refine S_callVI (M' := mX11_knows) [.int a1] [] dX11_beats_24 ml_RX11_232 mkX11_knows rfl shp_0 rfl rfl rfl (Nat.le_of_ble_eq_true rfl) h (fun r3 I3 L3 h => ?_)
      refine T_if_ne (tgt := 32) dX11_beats_27 (by decide) (tq_ite h (fun h => ?_) (fun h => ?_))
      ·
        refine T_iconst (v := (-1)) dX11_beats_30 (by decide +kernel) ?_
        exact S_iret rfl dX11_beats_31 h
      ·
        refine T_aload_n dX11_beats_32 rfl ?_
        refine T_getr dX11_beats_33 fl_RX11_40 shp_0 rfl ?_
        refine T_aload_n dX11_beats_36 rfl ?_
        refine T_getr dX11_beats_37 fl_RX11_19 shp_0 rfl ?_
        refine T_iload_n dX11_beats_40 rfl ?_
        refine T_iload_n dX11_beats_41 rfl ?_
        refine S_callVI (M' := mX2_above) [.ref 1, .int a2, .int a3] [] dX11_beats_42 ml_RX11_334 mkX2_above rfl shp_30 rfl rfl rfl (Nat.le_of_ble_eq_true rfl) h (fun r4 I4 L4 h => ?_)
        exact S_iret rfl dX11_beats_45 h

theorem dX11_winner_0 : decode cX11_winner 0 = .ok (.aload_n 0, 1) := by decide +kernel
theorem dX11_winner_1 : decode cX11_winner 1 = .ok (.iload_n 1, 1) := by decide +kernel
theorem dX11_winner_2 : decode cX11_winner 2 = .ok (.invokevirtual 232, 3) := by decide +kernel
theorem dX11_winner_5 : decode cX11_winner 5 = .ok (.ifCond .ne 5, 3) := by decide +kernel
theorem dX11_winner_8 : decode cX11_winner 8 = .ok (.iconst (-1), 1) := by decide +kernel
theorem dX11_winner_9 : decode cX11_winner 9 = .ok (.ireturn, 1) := by decide +kernel
theorem dX11_winner_10 : decode cX11_winner 10 = .ok (.aload_n 0, 1) := by decide +kernel
theorem dX11_winner_11 : decode cX11_winner 11 = .ok (.getfield 40, 3) := by decide +kernel
theorem dX11_winner_14 : decode cX11_winner 14 = .ok (.aload_n 0, 1) := by decide +kernel
theorem dX11_winner_15 : decode cX11_winner 15 = .ok (.getfield 19, 3) := by decide +kernel
theorem dX11_winner_18 : decode cX11_winner 18 = .ok (.invokevirtual 338, 3) := by decide +kernel
theorem dX11_winner_21 : decode cX11_winner 21 = .ok (.ireturn, 1) := by decide +kernel
set_option maxRecDepth 100000 in
theorem sgX11_winner_0 {d : Nat} {I : st_I} {L : st_L} {F : Int32 → st_I → st_L → Prop} {a1 : Int32} (h : EI d mX11_knows [.ref 0, .int a1] I L (fun r1 I1 L1 => (if r1 = 0 then F (-1) I1 L1 else EI d mX2_beatingAll [.ref 30, .ref 1] I1 L1 (fun r2 I2 L2 => F r2 I2 L2)))) : EI (d + 1) mX11_winner [.ref 0, .int a1] I L F := by
  refine Ev_of (ls0 := 0) (by decide +kernel) rfl rfl rfl ?_
  refine T_aload_n dX11_winner_0 rfl ?_
  refine T_iload_n dX11_winner_1 rfl ?_
  refine S_callVI (M' := mX11_knows) [.int a1] [] dX11_winner_2 ml_RX11_232 mkX11_knows rfl shp_0 rfl rfl rfl (Nat.le_of_ble_eq_true rfl) h (fun r1 I1 L1 h => ?_)
  refine T_if_ne (tgt := 10) dX11_winner_5 (by decide) (tq_ite h (fun h => ?_) (fun h => ?_))
  ·
    refine T_iconst (v := (-1)) dX11_winner_8 (by decide +kernel) ?_
    exact S_iret rfl dX11_winner_9 h
  ·
    refine T_aload_n dX11_winner_10 rfl ?_
    refine T_getr dX11_winner_11 fl_RX11_40 shp_0 rfl ?_
    refine T_aload_n dX11_winner_14 rfl ?_
    refine T_getr dX11_winner_15 fl_RX11_19 shp_0 rfl ?_
    refine S_callVI (M' := mX2_beatingAll) [.ref 1] [] dX11_winner_18 ml_RX11_338 mkX2_beatingAll rfl shp_30 rfl rfl rfl (Nat.le_of_ble_eq_true rfl) h (fun r2 I2 L2 h => ?_)
    exact S_iret rfl dX11_winner_21 h

theorem dX11_best_0 : decode cX11_best 0 = .ok (.aload_n 0, 1) := by decide +kernel
theorem dX11_best_1 : decode cX11_best 1 = .ok (.iload_n 1, 1) := by decide +kernel
theorem dX11_best_2 : decode cX11_best 2 = .ok (.invokevirtual 232, 3) := by decide +kernel
theorem dX11_best_5 : decode cX11_best 5 = .ok (.ifCond .ne 5, 3) := by decide +kernel
theorem dX11_best_8 : decode cX11_best 8 = .ok (.iconst (-1), 1) := by decide +kernel
theorem dX11_best_9 : decode cX11_best 9 = .ok (.ireturn, 1) := by decide +kernel
theorem dX11_best_10 : decode cX11_best 10 = .ok (.bipush (-2), 2) := by decide +kernel
theorem dX11_best_12 : decode cX11_best 12 = .ok (.istore_n 3, 1) := by decide +kernel
theorem dX11_best_13 : decode cX11_best 13 = .ok (.iload_n 2, 1) := by decide +kernel
theorem dX11_best_14 : decode cX11_best 14 = .ok (.ifCond .eq 7, 3) := by decide +kernel
theorem dX11_best_17 : decode cX11_best 17 = .ok (.iconst (-1), 1) := by decide +kernel
theorem dX11_best_18 : decode cX11_best 18 = .ok (.goto 4, 3) := by decide +kernel
theorem dX11_best_21 : decode cX11_best 21 = .ok (.iconst 1, 1) := by decide +kernel
theorem dX11_best_22 : decode cX11_best 22 = .ok (.istore 4, 2) := by decide +kernel
theorem dX11_best_24 : decode cX11_best 24 = .ok (.iconst 0, 1) := by decide +kernel
theorem dX11_best_25 : decode cX11_best 25 = .ok (.istore 5, 2) := by decide +kernel
theorem dX11_best_27 : decode cX11_best 27 = .ok (.iload 5, 2) := by decide +kernel
theorem dX11_best_29 : decode cX11_best 29 = .ok (.aload_n 0, 1) := by decide +kernel
theorem dX11_best_30 : decode cX11_best 30 = .ok (.getfield 19, 3) := by decide +kernel
theorem dX11_best_33 : decode cX11_best 33 = .ok (.getfield 209, 3) := by decide +kernel
theorem dX11_best_36 : decode cX11_best 36 = .ok (.if_icmp .ge 45, 3) := by decide +kernel
theorem dX11_best_39 : decode cX11_best 39 = .ok (.aload_n 0, 1) := by decide +kernel
theorem dX11_best_40 : decode cX11_best 40 = .ok (.getfield 40, 3) := by decide +kernel
theorem dX11_best_43 : decode cX11_best 43 = .ok (.iload 5, 2) := by decide +kernel
theorem dX11_best_45 : decode cX11_best 45 = .ok (.invokevirtual 342, 3) := by decide +kernel
theorem dX11_best_48 : decode cX11_best 48 = .ok (.ifCond .eq 27, 3) := by decide +kernel
theorem dX11_best_51 : decode cX11_best 51 = .ok (.iload_n 3, 1) := by decide +kernel
theorem dX11_best_52 : decode cX11_best 52 = .ok (.bipush (-2), 2) := by decide +kernel
theorem dX11_best_54 : decode cX11_best 54 = .ok (.if_icmp .eq 18, 3) := by decide +kernel
theorem dX11_best_57 : decode cX11_best 57 = .ok (.aload_n 0, 1) := by decide +kernel
theorem dX11_best_58 : decode cX11_best 58 = .ok (.getfield 40, 3) := by decide +kernel
theorem dX11_best_61 : decode cX11_best 61 = .ok (.iload 5, 2) := by decide +kernel
theorem dX11_best_63 : decode cX11_best 63 = .ok (.iload_n 3, 1) := by decide +kernel
theorem dX11_best_64 : decode cX11_best 64 = .ok (.invokevirtual 345, 3) := by decide +kernel
theorem dX11_best_67 : decode cX11_best 67 = .ok (.iload 4, 2) := by decide +kernel
theorem dX11_best_69 : decode cX11_best 69 = .ok (.if_icmp .ne 6, 3) := by decide +kernel
theorem dX11_best_72 : decode cX11_best 72 = .ok (.iload 5, 2) := by decide +kernel
theorem dX11_best_74 : decode cX11_best 74 = .ok (.istore_n 3, 1) := by decide +kernel
theorem dX11_best_75 : decode cX11_best 75 = .ok (.iinc 5 1, 3) := by decide +kernel
theorem dX11_best_78 : decode cX11_best 78 = .ok (.goto (-51), 3) := by decide +kernel
theorem dX11_best_81 : decode cX11_best 81 = .ok (.iload_n 3, 1) := by decide +kernel
theorem dX11_best_82 : decode cX11_best 82 = .ok (.ireturn, 1) := by decide +kernel
set_option maxRecDepth 100000 in
theorem sgX11_best_0 {d : Nat} {I : st_I} {L : st_L} {F : Int32 → st_I → st_L → Prop} {a1 : Int32} {a2 : Int32} (h : EI d mX11_knows [.ref 0, .int a1] I L (fun r1 I1 L1 => (if r1 = 0 then F (-1) I1 L1 else TI (d + 1) mX11_best 27 [.ref 0, .null, .null, .int (-2), .int (if a2 = 0 then (1 : Int32) else (-1)), .int 0] [] I1 L1 F))) : EI (d + 1) mX11_best [.ref 0, .int a1, .int a2] I L F := by
  refine Ev_of (ls0 := 3) (by decide +kernel) rfl rfl rfl ?_
  refine T_aload_n dX11_best_0 rfl ?_
  refine T_iload_n dX11_best_1 rfl ?_
  refine S_callVI (M' := mX11_knows) [.int a1] [] dX11_best_2 ml_RX11_232 mkX11_knows rfl shp_0 rfl rfl rfl (Nat.le_of_ble_eq_true rfl) h (fun r1 I1 L1 h => ?_)
  refine T_if_ne (tgt := 10) dX11_best_5 (by decide) (tq_ite h (fun h => ?_) (fun h => ?_))
  ·
    refine T_iconst (v := (-1)) dX11_best_8 (by decide +kernel) ?_
    exact S_iret rfl dX11_best_9 h
  ·
    refine T_bipush (v := (-2)) dX11_best_10 (by decide +kernel) ?_
    refine T_istore_n (lv' := [.ref 0, .int a1, .int a2, .int (-2), .null, .null]) dX11_best_12 rfl (by decide) rfl ?_
    refine T_iload_n dX11_best_13 rfl ?_
    refine T_if_eq (tgt := 21) dX11_best_14 (by decide) (tq_itv (fun v => T shp (d + 1) mX11_best 22 [.ref 0, .int a1, .int a2, .int (-2), .null, .null] (.int v :: []) I1 L1 (kI F)) 1 (-1) (fun hJ => ?_) (fun hJ => ?_) ?_)
    ·
        refine T_iconst (v := 1) dX11_best_21 (by decide +kernel) ?_
        exact hJ
    ·
        refine T_iconst (v := (-1)) dX11_best_17 (by decide +kernel) ?_
        refine T_goto (tgt := 22) dX11_best_18 (by decide) ?_
        exact hJ
    refine T_istore (lv' := [.ref 0, .int a1, .int a2, .int (-2), .int (if a2 = 0 then (1 : Int32) else (-1)), .null]) dX11_best_22 (by decide) rfl ?_
    refine T_iconst (v := 0) dX11_best_24 (by decide +kernel) ?_
    refine T_istore (lv' := [.ref 0, .int a1, .int a2, .int (-2), .int (if a2 = 0 then (1 : Int32) else (-1)), .int 0]) dX11_best_25 (by decide) rfl ?_
    exact T_wk (lv' := [.ref 0, .null, .null, .int (-2), .int (if a2 = 0 then (1 : Int32) else (-1)), .int 0]) ⟨Or.inr rfl, Or.inl rfl, Or.inl rfl, Or.inr rfl, Or.inr rfl, Or.inr rfl, trivial⟩ h

set_option maxRecDepth 100000 in
theorem sgX11_best_27 {d : Nat} {I : st_I} {L : st_L} {F : Int32 → st_I → st_L → Prop} {x3 : Int32} {x4 : Int32} {x5 : Int32} (h : (if (I 1 0) ≤ x5 then F x3 I L else EI d mX2_hasMean [.ref 30, .int x5] I L (fun r1 I1 L1 => (if r1 = 0 then TI (d + 1) mX11_best 27 [.ref 0, .null, .null, .int x3, .int x4, .int (x5 + 1)] [] I1 L1 F else (if x3 = (-2) then TI (d + 1) mX11_best 27 [.ref 0, .null, .null, .int x5, .int x4, .int (x5 + 1)] [] I1 L1 F else EI d mX2_parted [.ref 30, .int x5, .int x3] I1 L1 (fun r2 I2 L2 => (if r2 = x4 then TI (d + 1) mX11_best 27 [.ref 0, .null, .null, .int x5, .int x4, .int (x5 + 1)] [] I2 L2 F else TI (d + 1) mX11_best 27 [.ref 0, .null, .null, .int x3, .int x4, .int (x5 + 1)] [] I2 L2 F))))))) : TI (d + 1) mX11_best 27 [.ref 0, .null, .null, .int x3, .int x4, .int x5] [] I L F := by
  refine T_iload dX11_best_27 rfl ?_
  refine T_aload_n dX11_best_29 rfl ?_
  refine T_getr dX11_best_30 fl_RX11_19 shp_0 rfl ?_
  refine T_getv (v := (I 1 0)) dX11_best_33 fl_RX11_209 shp_1 rfl rfl ?_
  refine T_icmp_ge (tgt := 81) dX11_best_36 (by decide) (tq_ite h (fun h => ?_) (fun h => ?_))
  ·
    refine T_iload_n dX11_best_81 rfl ?_
    exact S_iret rfl dX11_best_82 h
  ·
    refine T_aload_n dX11_best_39 rfl ?_
    refine T_getr dX11_best_40 fl_RX11_40 shp_0 rfl ?_
    refine T_iload dX11_best_43 rfl ?_
    refine S_callVI (M' := mX2_hasMean) [.int x5] [] dX11_best_45 ml_RX11_342 mkX2_hasMean rfl shp_30 rfl rfl rfl (Nat.le_of_ble_eq_true rfl) h (fun r1 I1 L1 h => ?_)
    refine T_if_eq (tgt := 75) dX11_best_48 (by decide) (tq_ite h (fun h => ?_) (fun h => ?_))
    ·
      refine T_iinc (lv' := [.ref 0, .null, .null, .int x3, .int x4, .int (x5 + 1)]) dX11_best_75 rfl (by decide) rfl ?_
      refine T_goto (tgt := 27) dX11_best_78 (by decide) ?_
      exact h
    ·
      refine T_iload_n dX11_best_51 rfl ?_
      refine T_bipush (v := (-2)) dX11_best_52 (by decide +kernel) ?_
      refine T_icmp_eq (tgt := 72) dX11_best_54 (by decide) (tq_ite h (fun h => ?_) (fun h => ?_))
      ·
        refine T_iload dX11_best_72 rfl ?_
        refine T_istore_n (lv' := [.ref 0, .null, .null, .int x5, .int x4, .int x5]) dX11_best_74 rfl (by decide) rfl ?_
        refine T_iinc (lv' := [.ref 0, .null, .null, .int x5, .int x4, .int (x5 + 1)]) dX11_best_75 rfl (by decide) rfl ?_
        refine T_goto (tgt := 27) dX11_best_78 (by decide) ?_
        exact h
      ·
        refine T_aload_n dX11_best_57 rfl ?_
        refine T_getr dX11_best_58 fl_RX11_40 shp_0 rfl ?_
        refine T_iload dX11_best_61 rfl ?_
        refine T_iload_n dX11_best_63 rfl ?_
        refine S_callVI (M' := mX2_parted) [.int x5, .int x3] [] dX11_best_64 ml_RX11_345 mkX2_parted rfl shp_30 rfl rfl rfl (Nat.le_of_ble_eq_true rfl) h (fun r2 I2 L2 h => ?_)
        refine T_iload dX11_best_67 rfl ?_
        refine T_icmp_ne (tgt := 75) dX11_best_69 (by decide) (tq_ite h (fun h => ?_) (fun h => ?_))
        ·
          refine T_iload dX11_best_72 rfl ?_
          refine T_istore_n (lv' := [.ref 0, .null, .null, .int x5, .int x4, .int x5]) dX11_best_74 rfl (by decide) rfl ?_
          refine T_iinc (lv' := [.ref 0, .null, .null, .int x5, .int x4, .int (x5 + 1)]) dX11_best_75 rfl (by decide) rfl ?_
          refine T_goto (tgt := 27) dX11_best_78 (by decide) ?_
          exact h
        ·
          refine T_iinc (lv' := [.ref 0, .null, .null, .int x3, .int x4, .int (x5 + 1)]) dX11_best_75 rfl (by decide) rfl ?_
          refine T_goto (tgt := 27) dX11_best_78 (by decide) ?_
          exact h

theorem dX11_need_0 : decode cX11_need 0 = .ok (.iload_n 1, 1) := by decide +kernel
theorem dX11_need_1 : decode cX11_need 1 = .ok (.iconst 2, 1) := by decide +kernel
theorem dX11_need_2 : decode cX11_need 2 = .ok (.if_icmp .lt 33, 3) := by decide +kernel
theorem dX11_need_5 : decode cX11_need 5 = .ok (.iload_n 1, 1) := by decide +kernel
theorem dX11_need_6 : decode cX11_need 6 = .ok (.sipush 1000, 3) := by decide +kernel
theorem dX11_need_9 : decode cX11_need 9 = .ok (.if_icmp .gt 26, 3) := by decide +kernel
theorem dX11_need_12 : decode cX11_need 12 = .ok (.iload_n 2, 1) := by decide +kernel
theorem dX11_need_13 : decode cX11_need 13 = .ok (.iconst 2, 1) := by decide +kernel
theorem dX11_need_14 : decode cX11_need 14 = .ok (.if_icmp .lt 21, 3) := by decide +kernel
theorem dX11_need_17 : decode cX11_need 17 = .ok (.iload_n 2, 1) := by decide +kernel
theorem dX11_need_18 : decode cX11_need 18 = .ok (.sipush 1000, 3) := by decide +kernel
theorem dX11_need_21 : decode cX11_need 21 = .ok (.if_icmp .gt 14, 3) := by decide +kernel
theorem dX11_need_24 : decode cX11_need 24 = .ok (.iload 5, 2) := by decide +kernel
theorem dX11_need_26 : decode cX11_need 26 = .ok (.ifCond .lt 9, 3) := by decide +kernel
theorem dX11_need_29 : decode cX11_need 29 = .ok (.iload 5, 2) := by decide +kernel
theorem dX11_need_31 : decode cX11_need 31 = .ok (.iconst 1, 1) := by decide +kernel
theorem dX11_need_32 : decode cX11_need 32 = .ok (.if_icmp .le 5, 3) := by decide +kernel
theorem dX11_need_35 : decode cX11_need 35 = .ok (.iconst (-1), 1) := by decide +kernel
theorem dX11_need_36 : decode cX11_need 36 = .ok (.ireturn, 1) := by decide +kernel
theorem dX11_need_37 : decode cX11_need 37 = .ok (.iload 4, 2) := by decide +kernel
theorem dX11_need_39 : decode cX11_need 39 = .ok (.iconst 2, 1) := by decide +kernel
theorem dX11_need_40 : decode cX11_need 40 = .ok (.if_icmp .lt 19, 3) := by decide +kernel
theorem dX11_need_43 : decode cX11_need 43 = .ok (.iload 4, 2) := by decide +kernel
theorem dX11_need_45 : decode cX11_need 45 = .ok (.iconst 4, 1) := by decide +kernel
theorem dX11_need_46 : decode cX11_need 46 = .ok (.if_icmp .gt 13, 3) := by decide +kernel
theorem dX11_need_49 : decode cX11_need 49 = .ok (.iload_n 3, 1) := by decide +kernel
theorem dX11_need_50 : decode cX11_need 50 = .ok (.ifCond .lt 9, 3) := by decide +kernel
theorem dX11_need_53 : decode cX11_need 53 = .ok (.iload_n 3, 1) := by decide +kernel
theorem dX11_need_54 : decode cX11_need 54 = .ok (.iload 4, 2) := by decide +kernel
theorem dX11_need_56 : decode cX11_need 56 = .ok (.if_icmp .le 5, 3) := by decide +kernel
theorem dX11_need_59 : decode cX11_need 59 = .ok (.iconst (-1), 1) := by decide +kernel
theorem dX11_need_60 : decode cX11_need 60 = .ok (.ireturn, 1) := by decide +kernel
theorem dX11_need_61 : decode cX11_need 61 = .ok (.aload_n 0, 1) := by decide +kernel
theorem dX11_need_62 : decode cX11_need 62 = .ok (.getfield 75, 3) := by decide +kernel
theorem dX11_need_65 : decode cX11_need 65 = .ok (.iload_n 1, 1) := by decide +kernel
theorem dX11_need_66 : decode cX11_need 66 = .ok (.iload_n 2, 1) := by decide +kernel
theorem dX11_need_67 : decode cX11_need 67 = .ok (.iload_n 3, 1) := by decide +kernel
theorem dX11_need_68 : decode cX11_need 68 = .ok (.iload 4, 2) := by decide +kernel
theorem dX11_need_70 : decode cX11_need 70 = .ok (.invokevirtual 348, 3) := by decide +kernel
theorem dX11_need_73 : decode cX11_need 73 = .ok (.ifCond .ne 6, 3) := by decide +kernel
theorem dX11_need_76 : decode cX11_need 76 = .ok (.bipush (-2), 2) := by decide +kernel
theorem dX11_need_78 : decode cX11_need 78 = .ok (.ireturn, 1) := by decide +kernel
theorem dX11_need_79 : decode cX11_need 79 = .ok (.iload 5, 2) := by decide +kernel
theorem dX11_need_81 : decode cX11_need 81 = .ok (.ifCond .ne 13, 3) := by decide +kernel
theorem dX11_need_84 : decode cX11_need 84 = .ok (.aload_n 0, 1) := by decide +kernel
theorem dX11_need_85 : decode cX11_need 85 = .ok (.getfield 75, 3) := by decide +kernel
theorem dX11_need_88 : decode cX11_need 88 = .ok (.getfield 352, 3) := by decide +kernel
theorem dX11_need_91 : decode cX11_need 91 = .ok (.goto 10, 3) := by decide +kernel
theorem dX11_need_94 : decode cX11_need 94 = .ok (.aload_n 0, 1) := by decide +kernel
theorem dX11_need_95 : decode cX11_need 95 = .ok (.getfield 75, 3) := by decide +kernel
theorem dX11_need_98 : decode cX11_need 98 = .ok (.getfield 355, 3) := by decide +kernel
theorem dX11_need_101 : decode cX11_need 101 = .ok (.ireturn, 1) := by decide +kernel
set_option maxRecDepth 100000 in
theorem sgX11_need_0 {d : Nat} {I : st_I} {L : st_L} {F : Int32 → st_I → st_L → Prop} {a1 : Int32} {a2 : Int32} {a3 : Int32} {a4 : Int32} {a5 : Int32} (h : (if a1 < 2 then F (-1) I L else (if 1000 < a1 then F (-1) I L else (if a2 < 2 then F (-1) I L else (if 1000 < a2 then F (-1) I L else (if a5 < 0 then F (-1) I L else (if a5 ≤ 1 then (if a4 < 2 then F (-1) I L else (if 4 < a4 then F (-1) I L else (if a3 < 0 then F (-1) I L else (if a3 ≤ a4 then EI d mX4_find [.ref 54, .int a1, .int a2, .int a3, .int a4] I L (fun r1 I1 L1 => (if r1 = 0 then F (-2) I1 L1 else F (if a5 = 0 then (I1 54 0) else (I1 54 1)) I1 L1)) else F (-1) I L)))) else F (-1) I L))))))) : EI (d + 1) mX11_need [.ref 0, .int a1, .int a2, .int a3, .int a4, .int a5] I L F := by
  refine Ev_of (ls0 := 0) (by decide +kernel) rfl rfl rfl ?_
  refine T_iload_n dX11_need_0 rfl ?_
  refine T_iconst (v := 2) dX11_need_1 (by decide +kernel) ?_
  refine T_icmp_lt (tgt := 35) dX11_need_2 (by decide) (tq_ite h (fun h => ?_) (fun h => ?_))
  ·
    refine T_iconst (v := (-1)) dX11_need_35 (by decide +kernel) ?_
    exact S_iret rfl dX11_need_36 h
  ·
    refine T_iload_n dX11_need_5 rfl ?_
    refine T_sipush (v := 1000) dX11_need_6 (by decide +kernel) ?_
    refine T_icmp_gt (tgt := 35) dX11_need_9 (by decide) (tq_ite h (fun h => ?_) (fun h => ?_))
    ·
      refine T_iconst (v := (-1)) dX11_need_35 (by decide +kernel) ?_
      exact S_iret rfl dX11_need_36 h
    ·
      refine T_iload_n dX11_need_12 rfl ?_
      refine T_iconst (v := 2) dX11_need_13 (by decide +kernel) ?_
      refine T_icmp_lt (tgt := 35) dX11_need_14 (by decide) (tq_ite h (fun h => ?_) (fun h => ?_))
      ·
        refine T_iconst (v := (-1)) dX11_need_35 (by decide +kernel) ?_
        exact S_iret rfl dX11_need_36 h
      ·
        refine T_iload_n dX11_need_17 rfl ?_
        refine T_sipush (v := 1000) dX11_need_18 (by decide +kernel) ?_
        refine T_icmp_gt (tgt := 35) dX11_need_21 (by decide) (tq_ite h (fun h => ?_) (fun h => ?_))
        ·
          refine T_iconst (v := (-1)) dX11_need_35 (by decide +kernel) ?_
          exact S_iret rfl dX11_need_36 h
        ·
          refine T_iload dX11_need_24 rfl ?_
          refine T_if_lt (tgt := 35) dX11_need_26 (by decide) (tq_ite h (fun h => ?_) (fun h => ?_))
          ·
            refine T_iconst (v := (-1)) dX11_need_35 (by decide +kernel) ?_
            exact S_iret rfl dX11_need_36 h
          ·
            refine T_iload dX11_need_29 rfl ?_
            refine T_iconst (v := 1) dX11_need_31 (by decide +kernel) ?_
            refine T_icmp_le (tgt := 37) dX11_need_32 (by decide) (tq_ite h (fun h => ?_) (fun h => ?_))
            ·
              refine T_iload dX11_need_37 rfl ?_
              refine T_iconst (v := 2) dX11_need_39 (by decide +kernel) ?_
              refine T_icmp_lt (tgt := 59) dX11_need_40 (by decide) (tq_ite h (fun h => ?_) (fun h => ?_))
              ·
                refine T_iconst (v := (-1)) dX11_need_59 (by decide +kernel) ?_
                exact S_iret rfl dX11_need_60 h
              ·
                refine T_iload dX11_need_43 rfl ?_
                refine T_iconst (v := 4) dX11_need_45 (by decide +kernel) ?_
                refine T_icmp_gt (tgt := 59) dX11_need_46 (by decide) (tq_ite h (fun h => ?_) (fun h => ?_))
                ·
                  refine T_iconst (v := (-1)) dX11_need_59 (by decide +kernel) ?_
                  exact S_iret rfl dX11_need_60 h
                ·
                  refine T_iload_n dX11_need_49 rfl ?_
                  refine T_if_lt (tgt := 59) dX11_need_50 (by decide) (tq_ite h (fun h => ?_) (fun h => ?_))
                  ·
                    refine T_iconst (v := (-1)) dX11_need_59 (by decide +kernel) ?_
                    exact S_iret rfl dX11_need_60 h
                  ·
                    refine T_iload_n dX11_need_53 rfl ?_
                    refine T_iload dX11_need_54 rfl ?_
                    refine T_icmp_le (tgt := 61) dX11_need_56 (by decide) (tq_ite h (fun h => ?_) (fun h => ?_))
                    ·
                      refine T_aload_n dX11_need_61 rfl ?_
                      refine T_getr dX11_need_62 fl_RX11_75 shp_0 rfl ?_
                      refine T_iload_n dX11_need_65 rfl ?_
                      refine T_iload_n dX11_need_66 rfl ?_
                      refine T_iload_n dX11_need_67 rfl ?_
                      refine T_iload dX11_need_68 rfl ?_
                      refine S_callVI (M' := mX4_find) [.int a1, .int a2, .int a3, .int a4] [] dX11_need_70 ml_RX11_348 mkX4_find rfl shp_54 rfl rfl rfl (Nat.le_of_ble_eq_true rfl) h (fun r1 I1 L1 h => ?_)
                      refine T_if_ne (tgt := 79) dX11_need_73 (by decide) (tq_ite h (fun h => ?_) (fun h => ?_))
                      ·
                        refine T_bipush (v := (-2)) dX11_need_76 (by decide +kernel) ?_
                        exact S_iret rfl dX11_need_78 h
                      ·
                        refine T_iload dX11_need_79 rfl ?_
                        refine T_if_ne (tgt := 94) dX11_need_81 (by decide) (tq_itv (fun v => T shp (d + 1) mX11_need 101 [.ref 0, .int a1, .int a2, .int a3, .int a4, .int a5] (.int v :: []) I1 L1 (kI F)) (I1 54 0) (I1 54 1) (fun hJ => ?_) (fun hJ => ?_) ?_)
                        ·
                            refine T_aload_n dX11_need_84 rfl ?_
                            refine T_getr dX11_need_85 fl_RX11_75 shp_0 rfl ?_
                            refine T_getv (v := (I1 54 0)) dX11_need_88 fl_RX11_352 shp_54 rfl rfl ?_
                            refine T_goto (tgt := 101) dX11_need_91 (by decide) ?_
                            exact hJ
                        ·
                            refine T_aload_n dX11_need_94 rfl ?_
                            refine T_getr dX11_need_95 fl_RX11_75 shp_0 rfl ?_
                            refine T_getv (v := (I1 54 1)) dX11_need_98 fl_RX11_355 shp_54 rfl rfl ?_
                            exact hJ
                        exact S_iret rfl dX11_need_101 h
                    ·
                      refine T_iconst (v := (-1)) dX11_need_59 (by decide +kernel) ?_
                      exact S_iret rfl dX11_need_60 h
            ·
              refine T_iconst (v := (-1)) dX11_need_35 (by decide +kernel) ?_
              exact S_iret rfl dX11_need_36 h

theorem dX11_parts_0 : decode cX11_parts 0 = .ok (.aload_n 0, 1) := by decide +kernel
theorem dX11_parts_1 : decode cX11_parts 1 = .ok (.getfield 19, 3) := by decide +kernel
theorem dX11_parts_4 : decode cX11_parts 4 = .ok (.iload_n 1, 1) := by decide +kernel
theorem dX11_parts_5 : decode cX11_parts 5 = .ok (.invokevirtual 163, 3) := by decide +kernel
theorem dX11_parts_8 : decode cX11_parts 8 = .ok (.ifCond .eq 25, 3) := by decide +kernel
theorem dX11_parts_11 : decode cX11_parts 11 = .ok (.aload_n 0, 1) := by decide +kernel
theorem dX11_parts_12 : decode cX11_parts 12 = .ok (.getfield 19, 3) := by decide +kernel
theorem dX11_parts_15 : decode cX11_parts 15 = .ok (.iload_n 2, 1) := by decide +kernel
theorem dX11_parts_16 : decode cX11_parts 16 = .ok (.invokevirtual 139, 3) := by decide +kernel
theorem dX11_parts_19 : decode cX11_parts 19 = .ok (.ifCond .eq 14, 3) := by decide +kernel
theorem dX11_parts_22 : decode cX11_parts 22 = .ok (.aload_n 0, 1) := by decide +kernel
theorem dX11_parts_23 : decode cX11_parts 23 = .ok (.getfield 19, 3) := by decide +kernel
theorem dX11_parts_26 : decode cX11_parts 26 = .ok (.iload_n 3, 1) := by decide +kernel
theorem dX11_parts_27 : decode cX11_parts 27 = .ok (.invokevirtual 139, 3) := by decide +kernel
theorem dX11_parts_30 : decode cX11_parts 30 = .ok (.ifCond .ne 5, 3) := by decide +kernel
theorem dX11_parts_33 : decode cX11_parts 33 = .ok (.iconst (-1), 1) := by decide +kernel
theorem dX11_parts_34 : decode cX11_parts 34 = .ok (.ireturn, 1) := by decide +kernel
theorem dX11_parts_35 : decode cX11_parts 35 = .ok (.aload_n 0, 1) := by decide +kernel
theorem dX11_parts_36 : decode cX11_parts 36 = .ok (.getfield 26, 3) := by decide +kernel
theorem dX11_parts_39 : decode cX11_parts 39 = .ok (.aload_n 0, 1) := by decide +kernel
theorem dX11_parts_40 : decode cX11_parts 40 = .ok (.getfield 19, 3) := by decide +kernel
theorem dX11_parts_43 : decode cX11_parts 43 = .ok (.iload_n 1, 1) := by decide +kernel
theorem dX11_parts_44 : decode cX11_parts 44 = .ok (.iload_n 2, 1) := by decide +kernel
theorem dX11_parts_45 : decode cX11_parts 45 = .ok (.iload_n 3, 1) := by decide +kernel
theorem dX11_parts_46 : decode cX11_parts 46 = .ok (.iload 4, 2) := by decide +kernel
theorem dX11_parts_48 : decode cX11_parts 48 = .ok (.invokevirtual 358, 3) := by decide +kernel
theorem dX11_parts_51 : decode cX11_parts 51 = .ok (.ireturn, 1) := by decide +kernel
set_option maxRecDepth 100000 in
theorem sgX11_parts_0 {d : Nat} {I : st_I} {L : st_L} {F : Int32 → st_I → st_L → Prop} {a1 : Int32} {a2 : Int32} {a3 : Int32} {a4 : Int32} (h : EI d mX8_hasPlan [.ref 1, .int a1] I L (fun r1 I1 L1 => (if r1 = 0 then F (-1) I1 L1 else EI d mX8_hasLaw [.ref 1, .int a2] I1 L1 (fun r2 I2 L2 => (if r2 = 0 then F (-1) I2 L2 else EI d mX8_hasLaw [.ref 1, .int a3] I2 L2 (fun r3 I3 L3 => (if r3 = 0 then F (-1) I3 L3 else EI d mX7_unlike [.ref 25, .ref 1, .int a1, .int a2, .int a3, .int a4] I3 L3 (fun r4 I4 L4 => F r4 I4 L4)))))))) : EI (d + 1) mX11_parts [.ref 0, .int a1, .int a2, .int a3, .int a4] I L F := by
  refine Ev_of (ls0 := 0) (by decide +kernel) rfl rfl rfl ?_
  refine T_aload_n dX11_parts_0 rfl ?_
  refine T_getr dX11_parts_1 fl_RX11_19 shp_0 rfl ?_
  refine T_iload_n dX11_parts_4 rfl ?_
  refine S_callVI (M' := mX8_hasPlan) [.int a1] [] dX11_parts_5 ml_RX11_163 mkX8_hasPlan rfl shp_1 rfl rfl rfl (Nat.le_of_ble_eq_true rfl) h (fun r1 I1 L1 h => ?_)
  refine T_if_eq (tgt := 33) dX11_parts_8 (by decide) (tq_ite h (fun h => ?_) (fun h => ?_))
  ·
    refine T_iconst (v := (-1)) dX11_parts_33 (by decide +kernel) ?_
    exact S_iret rfl dX11_parts_34 h
  ·
    refine T_aload_n dX11_parts_11 rfl ?_
    refine T_getr dX11_parts_12 fl_RX11_19 shp_0 rfl ?_
    refine T_iload_n dX11_parts_15 rfl ?_
    refine S_callVI (M' := mX8_hasLaw) [.int a2] [] dX11_parts_16 ml_RX11_139 mkX8_hasLaw rfl shp_1 rfl rfl rfl (Nat.le_of_ble_eq_true rfl) h (fun r2 I2 L2 h => ?_)
    refine T_if_eq (tgt := 33) dX11_parts_19 (by decide) (tq_ite h (fun h => ?_) (fun h => ?_))
    ·
      refine T_iconst (v := (-1)) dX11_parts_33 (by decide +kernel) ?_
      exact S_iret rfl dX11_parts_34 h
    ·
      refine T_aload_n dX11_parts_22 rfl ?_
      refine T_getr dX11_parts_23 fl_RX11_19 shp_0 rfl ?_
      refine T_iload_n dX11_parts_26 rfl ?_
      refine S_callVI (M' := mX8_hasLaw) [.int a3] [] dX11_parts_27 ml_RX11_139 mkX8_hasLaw rfl shp_1 rfl rfl rfl (Nat.le_of_ble_eq_true rfl) h (fun r3 I3 L3 h => ?_)
      refine T_if_ne (tgt := 35) dX11_parts_30 (by decide) (tq_ite h (fun h => ?_) (fun h => ?_))
      ·
        refine T_iconst (v := (-1)) dX11_parts_33 (by decide +kernel) ?_
        exact S_iret rfl dX11_parts_34 h
      ·
        refine T_aload_n dX11_parts_35 rfl ?_
        refine T_getr dX11_parts_36 fl_RX11_26 shp_0 rfl ?_
        refine T_aload_n dX11_parts_39 rfl ?_
        refine T_getr dX11_parts_40 fl_RX11_19 shp_0 rfl ?_
        refine T_iload_n dX11_parts_43 rfl ?_
        refine T_iload_n dX11_parts_44 rfl ?_
        refine T_iload_n dX11_parts_45 rfl ?_
        refine T_iload dX11_parts_46 rfl ?_
        refine S_callVI (M' := mX7_unlike) [.ref 1, .int a1, .int a2, .int a3, .int a4] [] dX11_parts_48 ml_RX11_358 mkX7_unlike rfl shp_25 rfl rfl rfl (Nat.le_of_ble_eq_true rfl) h (fun r4 I4 L4 h => ?_)
        exact S_iret rfl dX11_parts_51 h

theorem dX11_next_0 : decode cX11_next 0 = .ok (.aload_n 0, 1) := by decide +kernel
theorem dX11_next_1 : decode cX11_next 1 = .ok (.getfield 19, 3) := by decide +kernel
theorem dX11_next_4 : decode cX11_next 4 = .ok (.iload_n 1, 1) := by decide +kernel
theorem dX11_next_5 : decode cX11_next 5 = .ok (.invokevirtual 139, 3) := by decide +kernel
theorem dX11_next_8 : decode cX11_next 8 = .ok (.ifCond .eq 14, 3) := by decide +kernel
theorem dX11_next_11 : decode cX11_next 11 = .ok (.aload_n 0, 1) := by decide +kernel
theorem dX11_next_12 : decode cX11_next 12 = .ok (.getfield 19, 3) := by decide +kernel
theorem dX11_next_15 : decode cX11_next 15 = .ok (.iload_n 2, 1) := by decide +kernel
theorem dX11_next_16 : decode cX11_next 16 = .ok (.invokevirtual 139, 3) := by decide +kernel
theorem dX11_next_19 : decode cX11_next 19 = .ok (.ifCond .ne 5, 3) := by decide +kernel
theorem dX11_next_22 : decode cX11_next 22 = .ok (.iconst (-1), 1) := by decide +kernel
theorem dX11_next_23 : decode cX11_next 23 = .ok (.ireturn, 1) := by decide +kernel
theorem dX11_next_24 : decode cX11_next 24 = .ok (.bipush (-2), 2) := by decide +kernel
theorem dX11_next_26 : decode cX11_next 26 = .ok (.istore 4, 2) := by decide +kernel
theorem dX11_next_28 : decode cX11_next 28 = .ok (.iconst 0, 1) := by decide +kernel
theorem dX11_next_29 : decode cX11_next 29 = .ok (.istore 5, 2) := by decide +kernel
theorem dX11_next_31 : decode cX11_next 31 = .ok (.iconst 0, 1) := by decide +kernel
theorem dX11_next_32 : decode cX11_next 32 = .ok (.istore 6, 2) := by decide +kernel
theorem dX11_next_34 : decode cX11_next 34 = .ok (.iconst 0, 1) := by decide +kernel
theorem dX11_next_35 : decode cX11_next 35 = .ok (.istore 7, 2) := by decide +kernel
theorem dX11_next_37 : decode cX11_next 37 = .ok (.iload 7, 2) := by decide +kernel
theorem dX11_next_39 : decode cX11_next 39 = .ok (.aload_n 0, 1) := by decide +kernel
theorem dX11_next_40 : decode cX11_next 40 = .ok (.getfield 19, 3) := by decide +kernel
theorem dX11_next_43 : decode cX11_next 43 = .ok (.getfield 360, 3) := by decide +kernel
theorem dX11_next_46 : decode cX11_next 46 = .ok (.if_icmp .ge 93, 3) := by decide +kernel
theorem dX11_next_49 : decode cX11_next 49 = .ok (.aload_n 0, 1) := by decide +kernel
theorem dX11_next_50 : decode cX11_next 50 = .ok (.getfield 26, 3) := by decide +kernel
theorem dX11_next_53 : decode cX11_next 53 = .ok (.aload_n 0, 1) := by decide +kernel
theorem dX11_next_54 : decode cX11_next 54 = .ok (.getfield 19, 3) := by decide +kernel
theorem dX11_next_57 : decode cX11_next 57 = .ok (.iload 7, 2) := by decide +kernel
theorem dX11_next_59 : decode cX11_next 59 = .ok (.iload_n 1, 1) := by decide +kernel
theorem dX11_next_60 : decode cX11_next 60 = .ok (.iload_n 2, 1) := by decide +kernel
theorem dX11_next_61 : decode cX11_next 61 = .ok (.iload_n 3, 1) := by decide +kernel
theorem dX11_next_62 : decode cX11_next 62 = .ok (.invokevirtual 358, 3) := by decide +kernel
theorem dX11_next_65 : decode cX11_next 65 = .ok (.istore 8, 2) := by decide +kernel
theorem dX11_next_67 : decode cX11_next 67 = .ok (.iload 8, 2) := by decide +kernel
theorem dX11_next_69 : decode cX11_next 69 = .ok (.iload 5, 2) := by decide +kernel
theorem dX11_next_71 : decode cX11_next 71 = .ok (.if_icmp .ne 21, 3) := by decide +kernel
theorem dX11_next_74 : decode cX11_next 74 = .ok (.aload_n 0, 1) := by decide +kernel
theorem dX11_next_75 : decode cX11_next 75 = .ok (.getfield 19, 3) := by decide +kernel
theorem dX11_next_78 : decode cX11_next 78 = .ok (.iload 7, 2) := by decide +kernel
theorem dX11_next_80 : decode cX11_next 80 = .ok (.invokevirtual 166, 3) := by decide +kernel
theorem dX11_next_83 : decode cX11_next 83 = .ok (.iload 6, 2) := by decide +kernel
theorem dX11_next_85 : decode cX11_next 85 = .ok (.if_icmp .ge 7, 3) := by decide +kernel
theorem dX11_next_88 : decode cX11_next 88 = .ok (.iconst 1, 1) := by decide +kernel
theorem dX11_next_89 : decode cX11_next 89 = .ok (.goto 4, 3) := by decide +kernel
theorem dX11_next_92 : decode cX11_next 92 = .ok (.iconst 0, 1) := by decide +kernel
theorem dX11_next_93 : decode cX11_next 93 = .ok (.istore 9, 2) := by decide +kernel
theorem dX11_next_95 : decode cX11_next 95 = .ok (.iload 4, 2) := by decide +kernel
theorem dX11_next_97 : decode cX11_next 97 = .ok (.bipush (-2), 2) := by decide +kernel
theorem dX11_next_99 : decode cX11_next 99 = .ok (.if_icmp .eq 15, 3) := by decide +kernel
theorem dX11_next_102 : decode cX11_next 102 = .ok (.iload 8, 2) := by decide +kernel
theorem dX11_next_104 : decode cX11_next 104 = .ok (.iload 5, 2) := by decide +kernel
theorem dX11_next_106 : decode cX11_next 106 = .ok (.if_icmp .gt 8, 3) := by decide +kernel
theorem dX11_next_109 : decode cX11_next 109 = .ok (.iload 9, 2) := by decide +kernel
theorem dX11_next_111 : decode cX11_next 111 = .ok (.ifCond .eq 22, 3) := by decide +kernel
theorem dX11_next_114 : decode cX11_next 114 = .ok (.iload 7, 2) := by decide +kernel
theorem dX11_next_116 : decode cX11_next 116 = .ok (.istore 4, 2) := by decide +kernel
theorem dX11_next_118 : decode cX11_next 118 = .ok (.iload 8, 2) := by decide +kernel
theorem dX11_next_120 : decode cX11_next 120 = .ok (.istore 5, 2) := by decide +kernel
theorem dX11_next_122 : decode cX11_next 122 = .ok (.aload_n 0, 1) := by decide +kernel
theorem dX11_next_123 : decode cX11_next 123 = .ok (.getfield 19, 3) := by decide +kernel
theorem dX11_next_126 : decode cX11_next 126 = .ok (.iload 7, 2) := by decide +kernel
theorem dX11_next_128 : decode cX11_next 128 = .ok (.invokevirtual 166, 3) := by decide +kernel
theorem dX11_next_131 : decode cX11_next 131 = .ok (.istore 6, 2) := by decide +kernel
theorem dX11_next_133 : decode cX11_next 133 = .ok (.iinc 7 1, 3) := by decide +kernel
theorem dX11_next_136 : decode cX11_next 136 = .ok (.goto (-99), 3) := by decide +kernel
theorem dX11_next_139 : decode cX11_next 139 = .ok (.iload 4, 2) := by decide +kernel
theorem dX11_next_141 : decode cX11_next 141 = .ok (.ireturn, 1) := by decide +kernel
set_option maxRecDepth 100000 in
theorem sgX11_next_0 {d : Nat} {I : st_I} {L : st_L} {F : Int32 → st_I → st_L → Prop} {a1 : Int32} {a2 : Int32} {a3 : Int32} (h : EI d mX8_hasLaw [.ref 1, .int a1] I L (fun r1 I1 L1 => (if r1 = 0 then F (-1) I1 L1 else EI d mX8_hasLaw [.ref 1, .int a2] I1 L1 (fun r2 I2 L2 => (if r2 = 0 then F (-1) I2 L2 else TI (d + 1) mX11_next 37 [.ref 0, .int a1, .int a2, .int a3, .int (-2), .int 0, .int 0, .int 0, .null, .null] [] I2 L2 F))))) : EI (d + 1) mX11_next [.ref 0, .int a1, .int a2, .int a3] I L F := by
  refine Ev_of (ls0 := 6) (by decide +kernel) rfl rfl rfl ?_
  refine T_aload_n dX11_next_0 rfl ?_
  refine T_getr dX11_next_1 fl_RX11_19 shp_0 rfl ?_
  refine T_iload_n dX11_next_4 rfl ?_
  refine S_callVI (M' := mX8_hasLaw) [.int a1] [] dX11_next_5 ml_RX11_139 mkX8_hasLaw rfl shp_1 rfl rfl rfl (Nat.le_of_ble_eq_true rfl) h (fun r1 I1 L1 h => ?_)
  refine T_if_eq (tgt := 22) dX11_next_8 (by decide) (tq_ite h (fun h => ?_) (fun h => ?_))
  ·
    refine T_iconst (v := (-1)) dX11_next_22 (by decide +kernel) ?_
    exact S_iret rfl dX11_next_23 h
  ·
    refine T_aload_n dX11_next_11 rfl ?_
    refine T_getr dX11_next_12 fl_RX11_19 shp_0 rfl ?_
    refine T_iload_n dX11_next_15 rfl ?_
    refine S_callVI (M' := mX8_hasLaw) [.int a2] [] dX11_next_16 ml_RX11_139 mkX8_hasLaw rfl shp_1 rfl rfl rfl (Nat.le_of_ble_eq_true rfl) h (fun r2 I2 L2 h => ?_)
    refine T_if_ne (tgt := 24) dX11_next_19 (by decide) (tq_ite h (fun h => ?_) (fun h => ?_))
    ·
      refine T_iconst (v := (-1)) dX11_next_22 (by decide +kernel) ?_
      exact S_iret rfl dX11_next_23 h
    ·
      refine T_bipush (v := (-2)) dX11_next_24 (by decide +kernel) ?_
      refine T_istore (lv' := [.ref 0, .int a1, .int a2, .int a3, .int (-2), .null, .null, .null, .null, .null]) dX11_next_26 (by decide) rfl ?_
      refine T_iconst (v := 0) dX11_next_28 (by decide +kernel) ?_
      refine T_istore (lv' := [.ref 0, .int a1, .int a2, .int a3, .int (-2), .int 0, .null, .null, .null, .null]) dX11_next_29 (by decide) rfl ?_
      refine T_iconst (v := 0) dX11_next_31 (by decide +kernel) ?_
      refine T_istore (lv' := [.ref 0, .int a1, .int a2, .int a3, .int (-2), .int 0, .int 0, .null, .null, .null]) dX11_next_32 (by decide) rfl ?_
      refine T_iconst (v := 0) dX11_next_34 (by decide +kernel) ?_
      refine T_istore (lv' := [.ref 0, .int a1, .int a2, .int a3, .int (-2), .int 0, .int 0, .int 0, .null, .null]) dX11_next_35 (by decide) rfl ?_
      exact h

set_option maxRecDepth 100000 in
theorem sgX11_next_37 {d : Nat} {I : st_I} {L : st_L} {F : Int32 → st_I → st_L → Prop} {x1 : Int32} {x2 : Int32} {x3 : Int32} {x4 : Int32} {x5 : Int32} {x6 : Int32} {x7 : Int32} (h : (if (I 1 4) ≤ x7 then F x4 I L else EI d mX7_unlike [.ref 25, .ref 1, .int x7, .int x1, .int x2, .int x3] I L (fun r1 I1 L1 => (if r1 = x5 then EI d mX8_sits [.ref 1, .int x7] I1 L1 (fun r2 I2 L2 => (if x6 ≤ r2 then TI (d + 1) mX11_next 93 [.ref 0, .int x1, .int x2, .int x3, .int x4, .int x5, .int x6, .int x7, .int r1, .null] [.int 0] I2 L2 F else TI (d + 1) mX11_next 93 [.ref 0, .int x1, .int x2, .int x3, .int x4, .int x5, .int x6, .int x7, .int r1, .null] [.int 1] I2 L2 F)) else TI (d + 1) mX11_next 93 [.ref 0, .int x1, .int x2, .int x3, .int x4, .int x5, .int x6, .int x7, .int r1, .null] [.int 0] I1 L1 F)))) : TI (d + 1) mX11_next 37 [.ref 0, .int x1, .int x2, .int x3, .int x4, .int x5, .int x6, .int x7, .null, .null] [] I L F := by
  refine T_iload dX11_next_37 rfl ?_
  refine T_aload_n dX11_next_39 rfl ?_
  refine T_getr dX11_next_40 fl_RX11_19 shp_0 rfl ?_
  refine T_getv (v := (I 1 4)) dX11_next_43 fl_RX11_360 shp_1 rfl rfl ?_
  refine T_icmp_ge (tgt := 139) dX11_next_46 (by decide) (tq_ite h (fun h => ?_) (fun h => ?_))
  ·
    refine T_iload dX11_next_139 rfl ?_
    exact S_iret rfl dX11_next_141 h
  ·
    refine T_aload_n dX11_next_49 rfl ?_
    refine T_getr dX11_next_50 fl_RX11_26 shp_0 rfl ?_
    refine T_aload_n dX11_next_53 rfl ?_
    refine T_getr dX11_next_54 fl_RX11_19 shp_0 rfl ?_
    refine T_iload dX11_next_57 rfl ?_
    refine T_iload_n dX11_next_59 rfl ?_
    refine T_iload_n dX11_next_60 rfl ?_
    refine T_iload_n dX11_next_61 rfl ?_
    refine S_callVI (M' := mX7_unlike) [.ref 1, .int x7, .int x1, .int x2, .int x3] [] dX11_next_62 ml_RX11_358 mkX7_unlike rfl shp_25 rfl rfl rfl (Nat.le_of_ble_eq_true rfl) h (fun r1 I1 L1 h => ?_)
    refine T_istore (lv' := [.ref 0, .int x1, .int x2, .int x3, .int x4, .int x5, .int x6, .int x7, .int r1, .null]) dX11_next_65 (by decide) rfl ?_
    refine T_iload dX11_next_67 rfl ?_
    refine T_iload dX11_next_69 rfl ?_
    refine T_icmp_ne (tgt := 92) dX11_next_71 (by decide) (tq_ite h (fun h => ?_) (fun h => ?_))
    ·
      refine T_aload_n dX11_next_74 rfl ?_
      refine T_getr dX11_next_75 fl_RX11_19 shp_0 rfl ?_
      refine T_iload dX11_next_78 rfl ?_
      refine S_callVI (M' := mX8_sits) [.int x7] [] dX11_next_80 ml_RX11_166 mkX8_sits rfl shp_1 rfl rfl rfl (Nat.le_of_ble_eq_true rfl) h (fun r2 I2 L2 h => ?_)
      refine T_iload dX11_next_83 rfl ?_
      refine T_icmp_ge (tgt := 92) dX11_next_85 (by decide) (tq_ite h (fun h => ?_) (fun h => ?_))
      ·
        refine T_iconst (v := 0) dX11_next_92 (by decide +kernel) ?_
        exact h
      ·
        refine T_iconst (v := 1) dX11_next_88 (by decide +kernel) ?_
        refine T_goto (tgt := 93) dX11_next_89 (by decide) ?_
        exact h
    ·
      refine T_iconst (v := 0) dX11_next_92 (by decide +kernel) ?_
      exact h

set_option maxRecDepth 100000 in
theorem sgX11_next_93 {d : Nat} {I : st_I} {L : st_L} {F : Int32 → st_I → st_L → Prop} {x1 : Int32} {x2 : Int32} {x3 : Int32} {x4 : Int32} {x5 : Int32} {x6 : Int32} {x7 : Int32} {x8 : Int32} {s0 : Int32} (h : (if x4 = (-2) then TI (d + 1) mX11_next 114 [.ref 0, .int x1, .int x2, .int x3, .null, .null, .null, .int x7, .int x8, .null] [] I L F else (if x5 < x8 then TI (d + 1) mX11_next 114 [.ref 0, .int x1, .int x2, .int x3, .null, .null, .null, .int x7, .int x8, .null] [] I L F else (if s0 = 0 then TI (d + 1) mX11_next 37 [.ref 0, .int x1, .int x2, .int x3, .int x4, .int x5, .int x6, .int (x7 + 1), .null, .null] [] I L F else TI (d + 1) mX11_next 114 [.ref 0, .int x1, .int x2, .int x3, .null, .null, .null, .int x7, .int x8, .null] [] I L F)))) : TI (d + 1) mX11_next 93 [.ref 0, .int x1, .int x2, .int x3, .int x4, .int x5, .int x6, .int x7, .int x8, .null] [.int s0] I L F := by
  refine T_istore (lv' := [.ref 0, .int x1, .int x2, .int x3, .int x4, .int x5, .int x6, .int x7, .int x8, .int s0]) dX11_next_93 (by decide) rfl ?_
  refine T_iload dX11_next_95 rfl ?_
  refine T_bipush (v := (-2)) dX11_next_97 (by decide +kernel) ?_
  refine T_icmp_eq (tgt := 114) dX11_next_99 (by decide) (tq_ite h (fun h => ?_) (fun h => ?_))
  ·
    exact T_wk (lv' := [.ref 0, .int x1, .int x2, .int x3, .null, .null, .null, .int x7, .int x8, .null]) ⟨Or.inr rfl, Or.inr rfl, Or.inr rfl, Or.inr rfl, Or.inl rfl, Or.inl rfl, Or.inl rfl, Or.inr rfl, Or.inr rfl, Or.inl rfl, trivial⟩ h
  ·
    refine T_iload dX11_next_102 rfl ?_
    refine T_iload dX11_next_104 rfl ?_
    refine T_icmp_gt (tgt := 114) dX11_next_106 (by decide) (tq_ite h (fun h => ?_) (fun h => ?_))
    ·
      exact T_wk (lv' := [.ref 0, .int x1, .int x2, .int x3, .null, .null, .null, .int x7, .int x8, .null]) ⟨Or.inr rfl, Or.inr rfl, Or.inr rfl, Or.inr rfl, Or.inl rfl, Or.inl rfl, Or.inl rfl, Or.inr rfl, Or.inr rfl, Or.inl rfl, trivial⟩ h
    ·
      refine T_iload dX11_next_109 rfl ?_
      refine T_if_eq (tgt := 133) dX11_next_111 (by decide) (tq_ite h (fun h => ?_) (fun h => ?_))
      ·
        refine T_iinc (lv' := [.ref 0, .int x1, .int x2, .int x3, .int x4, .int x5, .int x6, .int (x7 + 1), .int x8, .int s0]) dX11_next_133 rfl (by decide) rfl ?_
        refine T_goto (tgt := 37) dX11_next_136 (by decide) ?_
        exact T_wk (lv' := [.ref 0, .int x1, .int x2, .int x3, .int x4, .int x5, .int x6, .int (x7 + 1), .null, .null]) ⟨Or.inr rfl, Or.inr rfl, Or.inr rfl, Or.inr rfl, Or.inr rfl, Or.inr rfl, Or.inr rfl, Or.inr rfl, Or.inl rfl, Or.inl rfl, trivial⟩ h
      ·
        exact T_wk (lv' := [.ref 0, .int x1, .int x2, .int x3, .null, .null, .null, .int x7, .int x8, .null]) ⟨Or.inr rfl, Or.inr rfl, Or.inr rfl, Or.inr rfl, Or.inl rfl, Or.inl rfl, Or.inl rfl, Or.inr rfl, Or.inr rfl, Or.inl rfl, trivial⟩ h

set_option maxRecDepth 100000 in
theorem sgX11_next_114 {d : Nat} {I : st_I} {L : st_L} {F : Int32 → st_I → st_L → Prop} {x1 : Int32} {x2 : Int32} {x3 : Int32} {x7 : Int32} {x8 : Int32} (h : EI d mX8_sits [.ref 1, .int x7] I L (fun r1 I1 L1 => TI (d + 1) mX11_next 37 [.ref 0, .int x1, .int x2, .int x3, .int x7, .int x8, .int r1, .int (x7 + 1), .null, .null] [] I1 L1 F)) : TI (d + 1) mX11_next 114 [.ref 0, .int x1, .int x2, .int x3, .null, .null, .null, .int x7, .int x8, .null] [] I L F := by
  refine T_iload dX11_next_114 rfl ?_
  refine T_istore (lv' := [.ref 0, .int x1, .int x2, .int x3, .int x7, .null, .null, .int x7, .int x8, .null]) dX11_next_116 (by decide) rfl ?_
  refine T_iload dX11_next_118 rfl ?_
  refine T_istore (lv' := [.ref 0, .int x1, .int x2, .int x3, .int x7, .int x8, .null, .int x7, .int x8, .null]) dX11_next_120 (by decide) rfl ?_
  refine T_aload_n dX11_next_122 rfl ?_
  refine T_getr dX11_next_123 fl_RX11_19 shp_0 rfl ?_
  refine T_iload dX11_next_126 rfl ?_
  refine S_callVI (M' := mX8_sits) [.int x7] [] dX11_next_128 ml_RX11_166 mkX8_sits rfl shp_1 rfl rfl rfl (Nat.le_of_ble_eq_true rfl) h (fun r1 I1 L1 h => ?_)
  refine T_istore (lv' := [.ref 0, .int x1, .int x2, .int x3, .int x7, .int x8, .int r1, .int x7, .int x8, .null]) dX11_next_131 (by decide) rfl ?_
  refine T_iinc (lv' := [.ref 0, .int x1, .int x2, .int x3, .int x7, .int x8, .int r1, .int (x7 + 1), .int x8, .null]) dX11_next_133 rfl (by decide) rfl ?_
  refine T_goto (tgt := 37) dX11_next_136 (by decide) ?_
  exact T_wk (lv' := [.ref 0, .int x1, .int x2, .int x3, .int x7, .int x8, .int r1, .int (x7 + 1), .null, .null]) ⟨Or.inr rfl, Or.inr rfl, Or.inr rfl, Or.inr rfl, Or.inr rfl, Or.inr rfl, Or.inr rfl, Or.inr rfl, Or.inl rfl, Or.inr rfl, trivial⟩ h

theorem dX11_say_0 : decode cX11_say 0 = .ok (.iload_n 1, 1) := by decide +kernel
theorem dX11_say_1 : decode cX11_say 1 = .ok (.ifCond .lt 14, 3) := by decide +kernel
theorem dX11_say_4 : decode cX11_say 4 = .ok (.iload_n 1, 1) := by decide +kernel
theorem dX11_say_5 : decode cX11_say 5 = .ok (.aload_n 0, 1) := by decide +kernel
theorem dX11_say_6 : decode cX11_say 6 = .ok (.getfield 33, 3) := by decide +kernel
theorem dX11_say_9 : decode cX11_say 9 = .ok (.getfield 176, 3) := by decide +kernel
theorem dX11_say_12 : decode cX11_say 12 = .ok (.if_icmp .le 5, 3) := by decide +kernel
theorem dX11_say_15 : decode cX11_say 15 = .ok (.iconst (-1), 1) := by decide +kernel
theorem dX11_say_16 : decode cX11_say 16 = .ok (.ireturn, 1) := by decide +kernel
theorem dX11_say_17 : decode cX11_say 17 = .ok (.aload_n 0, 1) := by decide +kernel
theorem dX11_say_18 : decode cX11_say 18 = .ok (.iload_n 1, 1) := by decide +kernel
theorem dX11_say_19 : decode cX11_say 19 = .ok (.invokevirtual 363, 3) := by decide +kernel
theorem dX11_say_22 : decode cX11_say 22 = .ok (.ireturn, 1) := by decide +kernel
set_option maxRecDepth 100000 in
theorem sgX11_say_0 {d : Nat} {I : st_I} {L : st_L} {F : Int32 → st_I → st_L → Prop} {a1 : Int32} (h : (if a1 < 0 then F (-1) I L else (if a1 ≤ (I 28 0) then EI d mX11_sayBy [.ref 0, .int a1] I L (fun r1 I1 L1 => F r1 I1 L1) else F (-1) I L))) : EI (d + 1) mX11_say [.ref 0, .int a1] I L F := by
  refine Ev_of (ls0 := 0) (by decide +kernel) rfl rfl rfl ?_
  refine T_iload_n dX11_say_0 rfl ?_
  refine T_if_lt (tgt := 15) dX11_say_1 (by decide) (tq_ite h (fun h => ?_) (fun h => ?_))
  ·
    refine T_iconst (v := (-1)) dX11_say_15 (by decide +kernel) ?_
    exact S_iret rfl dX11_say_16 h
  ·
    refine T_iload_n dX11_say_4 rfl ?_
    refine T_aload_n dX11_say_5 rfl ?_
    refine T_getr dX11_say_6 fl_RX11_33 shp_0 rfl ?_
    refine T_getv (v := (I 28 0)) dX11_say_9 fl_RX11_176 shp_28 rfl rfl ?_
    refine T_icmp_le (tgt := 17) dX11_say_12 (by decide) (tq_ite h (fun h => ?_) (fun h => ?_))
    ·
      refine T_aload_n dX11_say_17 rfl ?_
      refine T_iload_n dX11_say_18 rfl ?_
      refine S_callVI (M' := mX11_sayBy) [.int a1] [] dX11_say_19 ml_RX11_363 mkX11_sayBy rfl shp_0 rfl rfl rfl (Nat.le_of_ble_eq_true rfl) h (fun r1 I1 L1 h => ?_)
      exact S_iret rfl dX11_say_22 h
    ·
      refine T_iconst (v := (-1)) dX11_say_15 (by decide +kernel) ?_
      exact S_iret rfl dX11_say_16 h

theorem dX11_turned_0 : decode cX11_turned 0 = .ok (.aload_n 0, 1) := by decide +kernel
theorem dX11_turned_1 : decode cX11_turned 1 = .ok (.getfield 33, 3) := by decide +kernel
theorem dX11_turned_4 : decode cX11_turned 4 = .ok (.iload_n 1, 1) := by decide +kernel
theorem dX11_turned_5 : decode cX11_turned 5 = .ok (.invokevirtual 222, 3) := by decide +kernel
theorem dX11_turned_8 : decode cX11_turned 8 = .ok (.ifCond .ne 5, 3) := by decide +kernel
theorem dX11_turned_11 : decode cX11_turned 11 = .ok (.iconst (-1), 1) := by decide +kernel
theorem dX11_turned_12 : decode cX11_turned 12 = .ok (.ireturn, 1) := by decide +kernel
theorem dX11_turned_13 : decode cX11_turned 13 = .ok (.iload_n 1, 1) := by decide +kernel
theorem dX11_turned_14 : decode cX11_turned 14 = .ok (.istore_n 2, 1) := by decide +kernel
theorem dX11_turned_15 : decode cX11_turned 15 = .ok (.iload_n 2, 1) := by decide +kernel
theorem dX11_turned_16 : decode cX11_turned 16 = .ok (.aload_n 0, 1) := by decide +kernel
theorem dX11_turned_17 : decode cX11_turned 17 = .ok (.getfield 33, 3) := by decide +kernel
theorem dX11_turned_20 : decode cX11_turned 20 = .ok (.getfield 176, 3) := by decide +kernel
theorem dX11_turned_23 : decode cX11_turned 23 = .ok (.if_icmp .ge 26, 3) := by decide +kernel
theorem dX11_turned_26 : decode cX11_turned 26 = .ok (.aload_n 0, 1) := by decide +kernel
theorem dX11_turned_27 : decode cX11_turned 27 = .ok (.iload_n 2, 1) := by decide +kernel
theorem dX11_turned_28 : decode cX11_turned 28 = .ok (.iconst 1, 1) := by decide +kernel
theorem dX11_turned_29 : decode cX11_turned 29 = .ok (.iadd, 1) := by decide +kernel
theorem dX11_turned_30 : decode cX11_turned 30 = .ok (.invokevirtual 363, 3) := by decide +kernel
theorem dX11_turned_33 : decode cX11_turned 33 = .ok (.aload_n 0, 1) := by decide +kernel
theorem dX11_turned_34 : decode cX11_turned 34 = .ok (.iload_n 2, 1) := by decide +kernel
theorem dX11_turned_35 : decode cX11_turned 35 = .ok (.invokevirtual 363, 3) := by decide +kernel
theorem dX11_turned_38 : decode cX11_turned 38 = .ok (.if_icmp .eq 5, 3) := by decide +kernel
theorem dX11_turned_41 : decode cX11_turned 41 = .ok (.iload_n 2, 1) := by decide +kernel
theorem dX11_turned_42 : decode cX11_turned 42 = .ok (.ireturn, 1) := by decide +kernel
theorem dX11_turned_43 : decode cX11_turned 43 = .ok (.iinc 2 1, 3) := by decide +kernel
theorem dX11_turned_46 : decode cX11_turned 46 = .ok (.goto (-31), 3) := by decide +kernel
theorem dX11_turned_49 : decode cX11_turned 49 = .ok (.iconst (-1), 1) := by decide +kernel
theorem dX11_turned_50 : decode cX11_turned 50 = .ok (.ireturn, 1) := by decide +kernel
set_option maxRecDepth 100000 in
theorem sgX11_turned_0 {d : Nat} {I : st_I} {L : st_L} {F : Int32 → st_I → st_L → Prop} {a1 : Int32} (h : EI d mX0_has [.ref 28, .int a1] I L (fun r1 I1 L1 => (if r1 = 0 then F (-1) I1 L1 else TI (d + 1) mX11_turned 15 [.ref 0, .null, .int a1] [] I1 L1 F))) : EI (d + 1) mX11_turned [.ref 0, .int a1] I L F := by
  refine Ev_of (ls0 := 1) (by decide +kernel) rfl rfl rfl ?_
  refine T_aload_n dX11_turned_0 rfl ?_
  refine T_getr dX11_turned_1 fl_RX11_33 shp_0 rfl ?_
  refine T_iload_n dX11_turned_4 rfl ?_
  refine S_callVI (M' := mX0_has) [.int a1] [] dX11_turned_5 ml_RX11_222 mkX0_has rfl shp_28 rfl rfl rfl (Nat.le_of_ble_eq_true rfl) h (fun r1 I1 L1 h => ?_)
  refine T_if_ne (tgt := 13) dX11_turned_8 (by decide) (tq_ite h (fun h => ?_) (fun h => ?_))
  ·
    refine T_iconst (v := (-1)) dX11_turned_11 (by decide +kernel) ?_
    exact S_iret rfl dX11_turned_12 h
  ·
    refine T_iload_n dX11_turned_13 rfl ?_
    refine T_istore_n (lv' := [.ref 0, .int a1, .int a1]) dX11_turned_14 rfl (by decide) rfl ?_
    exact T_wk (lv' := [.ref 0, .null, .int a1]) ⟨Or.inr rfl, Or.inl rfl, Or.inr rfl, trivial⟩ h

set_option maxRecDepth 100000 in
theorem sgX11_turned_15 {d : Nat} {I : st_I} {L : st_L} {F : Int32 → st_I → st_L → Prop} {x2 : Int32} (h : (if (I 28 0) ≤ x2 then F (-1) I L else EI d mX11_sayBy [.ref 0, .int (x2 + 1)] I L (fun r1 I1 L1 => EI d mX11_sayBy [.ref 0, .int x2] I1 L1 (fun r2 I2 L2 => (if r1 = r2 then TI (d + 1) mX11_turned 15 [.ref 0, .null, .int (x2 + 1)] [] I2 L2 F else F x2 I2 L2))))) : TI (d + 1) mX11_turned 15 [.ref 0, .null, .int x2] [] I L F := by
  refine T_iload_n dX11_turned_15 rfl ?_
  refine T_aload_n dX11_turned_16 rfl ?_
  refine T_getr dX11_turned_17 fl_RX11_33 shp_0 rfl ?_
  refine T_getv (v := (I 28 0)) dX11_turned_20 fl_RX11_176 shp_28 rfl rfl ?_
  refine T_icmp_ge (tgt := 49) dX11_turned_23 (by decide) (tq_ite h (fun h => ?_) (fun h => ?_))
  ·
    refine T_iconst (v := (-1)) dX11_turned_49 (by decide +kernel) ?_
    exact S_iret rfl dX11_turned_50 h
  ·
    refine T_aload_n dX11_turned_26 rfl ?_
    refine T_iload_n dX11_turned_27 rfl ?_
    refine T_iconst (v := 1) dX11_turned_28 (by decide +kernel) ?_
    refine T_iadd dX11_turned_29 ?_
    refine S_callVI (M' := mX11_sayBy) [.int (x2 + 1)] [] dX11_turned_30 ml_RX11_363 mkX11_sayBy rfl shp_0 rfl rfl rfl (Nat.le_of_ble_eq_true rfl) h (fun r1 I1 L1 h => ?_)
    refine T_aload_n dX11_turned_33 rfl ?_
    refine T_iload_n dX11_turned_34 rfl ?_
    refine S_callVI (M' := mX11_sayBy) [.int x2] [.int r1] dX11_turned_35 ml_RX11_363 mkX11_sayBy rfl shp_0 rfl rfl rfl (Nat.le_of_ble_eq_true rfl) h (fun r2 I2 L2 h => ?_)
    refine T_icmp_eq (tgt := 43) dX11_turned_38 (by decide) (tq_ite h (fun h => ?_) (fun h => ?_))
    ·
      refine T_iinc (lv' := [.ref 0, .null, .int (x2 + 1)]) dX11_turned_43 rfl (by decide) rfl ?_
      refine T_goto (tgt := 15) dX11_turned_46 (by decide) ?_
      exact h
    ·
      refine T_iload_n dX11_turned_41 rfl ?_
      exact S_iret rfl dX11_turned_42 h

theorem dX11_sayBy_0 : decode cX11_sayBy 0 = .ok (.iload_n 1, 1) := by decide +kernel
theorem dX11_sayBy_1 : decode cX11_sayBy 1 = .ok (.ifCond .lt 12, 3) := by decide +kernel
theorem dX11_sayBy_4 : decode cX11_sayBy 4 = .ok (.iload_n 1, 1) := by decide +kernel
theorem dX11_sayBy_5 : decode cX11_sayBy 5 = .ok (.aload_n 0, 1) := by decide +kernel
theorem dX11_sayBy_6 : decode cX11_sayBy 6 = .ok (.getfield 79, 3) := by decide +kernel
theorem dX11_sayBy_9 : decode cX11_sayBy 9 = .ok (.arraylength, 1) := by decide +kernel
theorem dX11_sayBy_10 : decode cX11_sayBy 10 = .ok (.if_icmp .lt 5, 3) := by decide +kernel
theorem dX11_sayBy_13 : decode cX11_sayBy 13 = .ok (.iconst (-1), 1) := by decide +kernel
theorem dX11_sayBy_14 : decode cX11_sayBy 14 = .ok (.ireturn, 1) := by decide +kernel
theorem dX11_sayBy_15 : decode cX11_sayBy 15 = .ok (.aload_n 0, 1) := by decide +kernel
theorem dX11_sayBy_16 : decode cX11_sayBy 16 = .ok (.getfield 79, 3) := by decide +kernel
theorem dX11_sayBy_19 : decode cX11_sayBy 19 = .ok (.iload_n 1, 1) := by decide +kernel
theorem dX11_sayBy_20 : decode cX11_sayBy 20 = .ok (.iaload, 1) := by decide +kernel
theorem dX11_sayBy_21 : decode cX11_sayBy 21 = .ok (.iconst (-1), 1) := by decide +kernel
theorem dX11_sayBy_22 : decode cX11_sayBy 22 = .ok (.if_icmp .ne 36, 3) := by decide +kernel
theorem dX11_sayBy_25 : decode cX11_sayBy 25 = .ok (.aload_n 0, 1) := by decide +kernel
theorem dX11_sayBy_26 : decode cX11_sayBy 26 = .ok (.iload_n 1, 1) := by decide +kernel
theorem dX11_sayBy_27 : decode cX11_sayBy 27 = .ok (.invokevirtual 232, 3) := by decide +kernel
theorem dX11_sayBy_30 : decode cX11_sayBy 30 = .ok (.ifCond .eq 28, 3) := by decide +kernel
theorem dX11_sayBy_33 : decode cX11_sayBy 33 = .ok (.aload_n 0, 1) := by decide +kernel
theorem dX11_sayBy_34 : decode cX11_sayBy 34 = .ok (.getfield 79, 3) := by decide +kernel
theorem dX11_sayBy_37 : decode cX11_sayBy 37 = .ok (.iload_n 1, 1) := by decide +kernel
theorem dX11_sayBy_38 : decode cX11_sayBy 38 = .ok (.aload_n 0, 1) := by decide +kernel
theorem dX11_sayBy_39 : decode cX11_sayBy 39 = .ok (.invokevirtual 366, 3) := by decide +kernel
theorem dX11_sayBy_42 : decode cX11_sayBy 42 = .ok (.aload_n 0, 1) := by decide +kernel
theorem dX11_sayBy_43 : decode cX11_sayBy 43 = .ok (.invokevirtual 369, 3) := by decide +kernel
theorem dX11_sayBy_46 : decode cX11_sayBy 46 = .ok (.iadd, 1) := by decide +kernel
theorem dX11_sayBy_47 : decode cX11_sayBy 47 = .ok (.aload_n 0, 1) := by decide +kernel
theorem dX11_sayBy_48 : decode cX11_sayBy 48 = .ok (.invokevirtual 372, 3) := by decide +kernel
theorem dX11_sayBy_51 : decode cX11_sayBy 51 = .ok (.iadd, 1) := by decide +kernel
theorem dX11_sayBy_52 : decode cX11_sayBy 52 = .ok (.aload_n 0, 1) := by decide +kernel
theorem dX11_sayBy_53 : decode cX11_sayBy 53 = .ok (.invokevirtual 375, 3) := by decide +kernel
theorem dX11_sayBy_56 : decode cX11_sayBy 56 = .ok (.iadd, 1) := by decide +kernel
theorem dX11_sayBy_57 : decode cX11_sayBy 57 = .ok (.iastore, 1) := by decide +kernel
theorem dX11_sayBy_58 : decode cX11_sayBy 58 = .ok (.aload_n 0, 1) := by decide +kernel
theorem dX11_sayBy_59 : decode cX11_sayBy 59 = .ok (.getfield 79, 3) := by decide +kernel
theorem dX11_sayBy_62 : decode cX11_sayBy 62 = .ok (.iload_n 1, 1) := by decide +kernel
theorem dX11_sayBy_63 : decode cX11_sayBy 63 = .ok (.iaload, 1) := by decide +kernel
theorem dX11_sayBy_64 : decode cX11_sayBy 64 = .ok (.ireturn, 1) := by decide +kernel
set_option maxRecDepth 100000 in
theorem sgX11_sayBy_0 {d : Nat} {I : st_I} {L : st_L} {F : Int32 → st_I → st_L → Prop} {a1 : Int32} (h : (if a1 < 0 then F (-1) I L else (if a1 < 81 then vp_in a1 81 ∧ (if (I 57 (a1.toNatClampNeg)) = (-1) then EI d mX11_knows [.ref 0, .int a1] I L (fun r1 I1 L1 => (if r1 = 0 then vp_in a1 81 ∧ F (I1 57 (a1.toNatClampNeg)) I1 L1 else EI d mX11_sayOfGuesses [.ref 0] I1 L1 (fun r2 I2 L2 => EI d mX11_sayOfKinds [.ref 0] I2 L2 (fun r3 I3 L3 => EI d mX11_sayOfPairs [.ref 0] I3 L3 (fun r4 I4 L4 => EI d mX11_sayOfWinner [.ref 0] I4 L4 (fun r5 I5 L5 => vp_in a1 81 ∧ vp_in a1 81 ∧ F ((u_I I5 57 (a1.toNatClampNeg) (((r2 + r3) + r4) + r5)) 57 (a1.toNatClampNeg)) (u_I I5 57 (a1.toNatClampNeg) (((r2 + r3) + r4) + r5)) L5)))))) else vp_in a1 81 ∧ F (I 57 (a1.toNatClampNeg)) I L) else F (-1) I L))) : EI (d + 1) mX11_sayBy [.ref 0, .int a1] I L F := by
  refine Ev_of (ls0 := 0) (by decide +kernel) rfl rfl rfl ?_
  refine T_iload_n dX11_sayBy_0 rfl ?_
  refine T_if_lt (tgt := 13) dX11_sayBy_1 (by decide) (tq_ite h (fun h => ?_) (fun h => ?_))
  ·
    refine T_iconst (v := (-1)) dX11_sayBy_13 (by decide +kernel) ?_
    exact S_iret rfl dX11_sayBy_14 h
  ·
    refine T_iload_n dX11_sayBy_4 rfl ?_
    refine T_aload_n dX11_sayBy_5 rfl ?_
    refine T_getr dX11_sayBy_6 fl_RX11_79 shp_0 rfl ?_
    refine T_alen (v := 81) dX11_sayBy_9 shp_57 (by decide) (by decide +kernel) ?_
    refine T_icmp_lt (tgt := 15) dX11_sayBy_10 (by decide) (tq_ite h (fun h => ?_) (fun h => ?_))
    ·
      refine T_aload_n dX11_sayBy_15 rfl ?_
      refine T_getr dX11_sayBy_16 fl_RX11_79 shp_0 rfl ?_
      refine T_iload_n dX11_sayBy_19 rfl ?_
      refine T_ialdv (v := (I 57 (a1.toNatClampNeg))) (j := a1.toNatClampNeg) dX11_sayBy_20 shp_57 h.1 rfl rfl ?_
      replace h := h.2
      refine T_iconst (v := (-1)) dX11_sayBy_21 (by decide +kernel) ?_
      refine T_icmp_ne (tgt := 58) dX11_sayBy_22 (by decide) (tq_ite h (fun h => ?_) (fun h => ?_))
      ·
        refine T_aload_n dX11_sayBy_25 rfl ?_
        refine T_iload_n dX11_sayBy_26 rfl ?_
        refine S_callVI (M' := mX11_knows) [.int a1] [] dX11_sayBy_27 ml_RX11_232 mkX11_knows rfl shp_0 rfl rfl rfl (Nat.le_of_ble_eq_true rfl) h (fun r1 I1 L1 h => ?_)
        refine T_if_eq (tgt := 58) dX11_sayBy_30 (by decide) (tq_ite h (fun h => ?_) (fun h => ?_))
        ·
          refine T_aload_n dX11_sayBy_58 rfl ?_
          refine T_getr dX11_sayBy_59 fl_RX11_79 shp_0 rfl ?_
          refine T_iload_n dX11_sayBy_62 rfl ?_
          refine T_ialdv (v := (I1 57 (a1.toNatClampNeg))) (j := a1.toNatClampNeg) dX11_sayBy_63 shp_57 h.1 rfl rfl ?_
          replace h := h.2
          exact S_iret rfl dX11_sayBy_64 h
        ·
          refine T_aload_n dX11_sayBy_33 rfl ?_
          refine T_getr dX11_sayBy_34 fl_RX11_79 shp_0 rfl ?_
          refine T_iload_n dX11_sayBy_37 rfl ?_
          refine T_aload_n dX11_sayBy_38 rfl ?_
          refine S_callVI (M' := mX11_sayOfGuesses) [] [.int a1, .ref 57] dX11_sayBy_39 ml_RX11_366 mkX11_sayOfGuesses rfl shp_0 rfl rfl rfl (Nat.le_of_ble_eq_true rfl) h (fun r2 I2 L2 h => ?_)
          refine T_aload_n dX11_sayBy_42 rfl ?_
          refine S_callVI (M' := mX11_sayOfKinds) [] [.int r2, .int a1, .ref 57] dX11_sayBy_43 ml_RX11_369 mkX11_sayOfKinds rfl shp_0 rfl rfl rfl (Nat.le_of_ble_eq_true rfl) h (fun r3 I3 L3 h => ?_)
          refine T_iadd dX11_sayBy_46 ?_
          refine T_aload_n dX11_sayBy_47 rfl ?_
          refine S_callVI (M' := mX11_sayOfPairs) [] [.int (r2 + r3), .int a1, .ref 57] dX11_sayBy_48 ml_RX11_372 mkX11_sayOfPairs rfl shp_0 rfl rfl rfl (Nat.le_of_ble_eq_true rfl) h (fun r4 I4 L4 h => ?_)
          refine T_iadd dX11_sayBy_51 ?_
          refine T_aload_n dX11_sayBy_52 rfl ?_
          refine S_callVI (M' := mX11_sayOfWinner) [] [.int ((r2 + r3) + r4), .int a1, .ref 57] dX11_sayBy_53 ml_RX11_375 mkX11_sayOfWinner rfl shp_0 rfl rfl rfl (Nat.le_of_ble_eq_true rfl) h (fun r5 I5 L5 h => ?_)
          refine T_iadd dX11_sayBy_56 ?_
          refine T_iastv (j := a1.toNatClampNeg) dX11_sayBy_57 shp_57 h.1 rfl ?_
          replace h := h.2
          refine T_aload_n dX11_sayBy_58 rfl ?_
          refine T_getr dX11_sayBy_59 fl_RX11_79 shp_0 rfl ?_
          refine T_iload_n dX11_sayBy_62 rfl ?_
          refine T_ialdv (v := ((u_I I5 57 (a1.toNatClampNeg) (((r2 + r3) + r4) + r5)) 57 (a1.toNatClampNeg))) (j := a1.toNatClampNeg) dX11_sayBy_63 shp_57 h.1 rfl rfl ?_
          replace h := h.2
          exact S_iret rfl dX11_sayBy_64 h
      ·
        refine T_aload_n dX11_sayBy_58 rfl ?_
        refine T_getr dX11_sayBy_59 fl_RX11_79 shp_0 rfl ?_
        refine T_iload_n dX11_sayBy_62 rfl ?_
        refine T_ialdv (v := (I 57 (a1.toNatClampNeg))) (j := a1.toNatClampNeg) dX11_sayBy_63 shp_57 h.1 rfl rfl ?_
        replace h := h.2
        exact S_iret rfl dX11_sayBy_64 h
    ·
      refine T_iconst (v := (-1)) dX11_sayBy_13 (by decide +kernel) ?_
      exact S_iret rfl dX11_sayBy_14 h

theorem dX11_sayOfGuesses_0 : decode cX11_sayOfGuesses 0 = .ok (.aload_n 0, 1) := by decide +kernel
theorem dX11_sayOfGuesses_1 : decode cX11_sayOfGuesses 1 = .ok (.getfield 40, 3) := by decide +kernel
theorem dX11_sayOfGuesses_4 : decode cX11_sayOfGuesses 4 = .ok (.getfield 247, 3) := by decide +kernel
theorem dX11_sayOfGuesses_7 : decode cX11_sayOfGuesses 7 = .ok (.iconst 0, 1) := by decide +kernel
theorem dX11_sayOfGuesses_8 : decode cX11_sayOfGuesses 8 = .ok (.iaload, 1) := by decide +kernel
theorem dX11_sayOfGuesses_9 : decode cX11_sayOfGuesses 9 = .ok (.istore_n 1, 1) := by decide +kernel
theorem dX11_sayOfGuesses_10 : decode cX11_sayOfGuesses 10 = .ok (.iload_n 1, 1) := by decide +kernel
theorem dX11_sayOfGuesses_11 : decode cX11_sayOfGuesses 11 = .ok (.bipush 60, 2) := by decide +kernel
theorem dX11_sayOfGuesses_13 : decode cX11_sayOfGuesses 13 = .ok (.if_icmp .le 5, 3) := by decide +kernel
theorem dX11_sayOfGuesses_16 : decode cX11_sayOfGuesses 16 = .ok (.iconst 0, 1) := by decide +kernel
theorem dX11_sayOfGuesses_17 : decode cX11_sayOfGuesses 17 = .ok (.ireturn, 1) := by decide +kernel
theorem dX11_sayOfGuesses_18 : decode cX11_sayOfGuesses 18 = .ok (.iload_n 1, 1) := by decide +kernel
theorem dX11_sayOfGuesses_19 : decode cX11_sayOfGuesses 19 = .ok (.aload_n 0, 1) := by decide +kernel
theorem dX11_sayOfGuesses_20 : decode cX11_sayOfGuesses 20 = .ok (.getfield 40, 3) := by decide +kernel
theorem dX11_sayOfGuesses_23 : decode cX11_sayOfGuesses 23 = .ok (.getfield 247, 3) := by decide +kernel
theorem dX11_sayOfGuesses_26 : decode cX11_sayOfGuesses 26 = .ok (.iconst 1, 1) := by decide +kernel
theorem dX11_sayOfGuesses_27 : decode cX11_sayOfGuesses 27 = .ok (.iaload, 1) := by decide +kernel
theorem dX11_sayOfGuesses_28 : decode cX11_sayOfGuesses 28 = .ok (.invokestatic 252, 3) := by decide +kernel
theorem dX11_sayOfGuesses_31 : decode cX11_sayOfGuesses 31 = .ok (.lconst 1, 1) := by decide +kernel
theorem dX11_sayOfGuesses_32 : decode cX11_sayOfGuesses 32 = .ok (.iload_n 1, 1) := by decide +kernel
theorem dX11_sayOfGuesses_33 : decode cX11_sayOfGuesses 33 = .ok (.lshl, 1) := by decide +kernel
theorem dX11_sayOfGuesses_34 : decode cX11_sayOfGuesses 34 = .ok (.invokestatic 378, 3) := by decide +kernel
theorem dX11_sayOfGuesses_37 : decode cX11_sayOfGuesses 37 = .ok (.ifCond .eq 7, 3) := by decide +kernel
theorem dX11_sayOfGuesses_40 : decode cX11_sayOfGuesses 40 = .ok (.iconst 1, 1) := by decide +kernel
theorem dX11_sayOfGuesses_41 : decode cX11_sayOfGuesses 41 = .ok (.goto 4, 3) := by decide +kernel
theorem dX11_sayOfGuesses_44 : decode cX11_sayOfGuesses 44 = .ok (.iconst 0, 1) := by decide +kernel
theorem dX11_sayOfGuesses_45 : decode cX11_sayOfGuesses 45 = .ok (.ireturn, 1) := by decide +kernel
set_option maxRecDepth 100000 in
theorem sgX11_sayOfGuesses_0 {d : Nat} {I : st_I} {L : st_L} {F : Int32 → st_I → st_L → Prop}  (h : (if (I 39 0) ≤ 60 then EL d mX10_orMoreHeads [.int (I 39 0), .int (I 39 1)] I L (fun r1 I1 L1 => EI d mX10_isRare [.long r1, .long ((1 : Int64) <<< (((I 39 0) : Int32).toInt64 &&& 63))] I1 L1 (fun r2 I2 L2 => F (if r2 = 0 then (0 : Int32) else 1) I2 L2)) else F 0 I L)) : EI (d + 1) mX11_sayOfGuesses [.ref 0] I L F := by
  refine Ev_of (ls0 := 1) (by decide +kernel) rfl rfl rfl ?_
  refine T_aload_n dX11_sayOfGuesses_0 rfl ?_
  refine T_getr dX11_sayOfGuesses_1 fl_RX11_40 shp_0 rfl ?_
  refine T_getr dX11_sayOfGuesses_4 fl_RX11_247 shp_30 rfl ?_
  refine T_iconst (v := 0) dX11_sayOfGuesses_7 (by decide +kernel) ?_
  refine T_ialdv (v := (I 39 0)) (j := 0) dX11_sayOfGuesses_8 shp_39 (tq_inl (by decide +kernel)) (by decide +kernel) rfl ?_
  refine T_istore_n (lv' := [.ref 0, .int (I 39 0)]) dX11_sayOfGuesses_9 rfl (by decide) rfl ?_
  refine T_iload_n dX11_sayOfGuesses_10 rfl ?_
  refine T_bipush (v := 60) dX11_sayOfGuesses_11 (by decide +kernel) ?_
  refine T_icmp_le (tgt := 18) dX11_sayOfGuesses_13 (by decide) (tq_ite h (fun h => ?_) (fun h => ?_))
  ·
    refine T_iload_n dX11_sayOfGuesses_18 rfl ?_
    refine T_aload_n dX11_sayOfGuesses_19 rfl ?_
    refine T_getr dX11_sayOfGuesses_20 fl_RX11_40 shp_0 rfl ?_
    refine T_getr dX11_sayOfGuesses_23 fl_RX11_247 shp_30 rfl ?_
    refine T_iconst (v := 1) dX11_sayOfGuesses_26 (by decide +kernel) ?_
    refine T_ialdv (v := (I 39 1)) (j := 1) dX11_sayOfGuesses_27 shp_39 (tq_inl (by decide +kernel)) (by decide +kernel) rfl ?_
    refine S_callSL (M' := mX10_orMoreHeads) [.int (I 39 0), .int (I 39 1)] [] dX11_sayOfGuesses_28 ml_RX11_252 mkX10_orMoreHeads rfl rfl (Nat.le_of_ble_eq_true rfl) h (fun r1 I1 L1 h => ?_)
    refine T_lconst (v := 1) dX11_sayOfGuesses_31 (by decide +kernel) ?_
    refine T_iload_n dX11_sayOfGuesses_32 rfl ?_
    refine T_lshl dX11_sayOfGuesses_33 ?_
    refine S_callSI (M' := mX10_isRare) [.long r1, .long ((1 : Int64) <<< (((I 39 0) : Int32).toInt64 &&& 63))] [] dX11_sayOfGuesses_34 ml_RX11_378 mkX10_isRare rfl rfl (Nat.le_of_ble_eq_true rfl) h (fun r2 I2 L2 h => ?_)
    refine T_if_eq (tgt := 44) dX11_sayOfGuesses_37 (by decide) (tq_itv (fun v => T shp (d + 1) mX11_sayOfGuesses 45 [.ref 0, .int (I 39 0)] (.int v :: []) I2 L2 (kI F)) 0 1 (fun hJ => ?_) (fun hJ => ?_) ?_)
    ·
        refine T_iconst (v := 0) dX11_sayOfGuesses_44 (by decide +kernel) ?_
        exact hJ
    ·
        refine T_iconst (v := 1) dX11_sayOfGuesses_40 (by decide +kernel) ?_
        refine T_goto (tgt := 45) dX11_sayOfGuesses_41 (by decide) ?_
        exact hJ
    exact S_iret rfl dX11_sayOfGuesses_45 h
  ·
    refine T_iconst (v := 0) dX11_sayOfGuesses_16 (by decide +kernel) ?_
    exact S_iret rfl dX11_sayOfGuesses_17 h

theorem dX11_sayOfKinds_0 : decode cX11_sayOfKinds 0 = .ok (.aload_n 0, 1) := by decide +kernel
theorem dX11_sayOfKinds_1 : decode cX11_sayOfKinds 1 = .ok (.getfield 54, 3) := by decide +kernel
theorem dX11_sayOfKinds_4 : decode cX11_sayOfKinds 4 = .ok (.aload_n 0, 1) := by decide +kernel
theorem dX11_sayOfKinds_5 : decode cX11_sayOfKinds 5 = .ok (.getfield 19, 3) := by decide +kernel
theorem dX11_sayOfKinds_8 : decode cX11_sayOfKinds 8 = .ok (.aload_n 0, 1) := by decide +kernel
theorem dX11_sayOfKinds_9 : decode cX11_sayOfKinds 9 = .ok (.getfield 40, 3) := by decide +kernel
theorem dX11_sayOfKinds_12 : decode cX11_sayOfKinds 12 = .ok (.invokevirtual 276, 3) := by decide +kernel
theorem dX11_sayOfKinds_15 : decode cX11_sayOfKinds 15 = .ok (.aload_n 0, 1) := by decide +kernel
theorem dX11_sayOfKinds_16 : decode cX11_sayOfKinds 16 = .ok (.getfield 54, 3) := by decide +kernel
theorem dX11_sayOfKinds_19 : decode cX11_sayOfKinds 19 = .ok (.iconst 0, 1) := by decide +kernel
theorem dX11_sayOfKinds_20 : decode cX11_sayOfKinds 20 = .ok (.invokevirtual 289, 3) := by decide +kernel
theorem dX11_sayOfKinds_23 : decode cX11_sayOfKinds 23 = .ok (.i2l, 1) := by decide +kernel
theorem dX11_sayOfKinds_24 : decode cX11_sayOfKinds 24 = .ok (.aload_n 0, 1) := by decide +kernel
theorem dX11_sayOfKinds_25 : decode cX11_sayOfKinds 25 = .ok (.getfield 54, 3) := by decide +kernel
theorem dX11_sayOfKinds_28 : decode cX11_sayOfKinds 28 = .ok (.invokevirtual 292, 3) := by decide +kernel
theorem dX11_sayOfKinds_31 : decode cX11_sayOfKinds 31 = .ok (.i2l, 1) := by decide +kernel
theorem dX11_sayOfKinds_32 : decode cX11_sayOfKinds 32 = .ok (.invokestatic 378, 3) := by decide +kernel
theorem dX11_sayOfKinds_35 : decode cX11_sayOfKinds 35 = .ok (.ifCond .eq 7, 3) := by decide +kernel
theorem dX11_sayOfKinds_38 : decode cX11_sayOfKinds 38 = .ok (.iconst 2, 1) := by decide +kernel
theorem dX11_sayOfKinds_39 : decode cX11_sayOfKinds 39 = .ok (.goto 4, 3) := by decide +kernel
theorem dX11_sayOfKinds_42 : decode cX11_sayOfKinds 42 = .ok (.iconst 0, 1) := by decide +kernel
theorem dX11_sayOfKinds_43 : decode cX11_sayOfKinds 43 = .ok (.istore_n 1, 1) := by decide +kernel
theorem dX11_sayOfKinds_44 : decode cX11_sayOfKinds 44 = .ok (.aload_n 0, 1) := by decide +kernel
theorem dX11_sayOfKinds_45 : decode cX11_sayOfKinds 45 = .ok (.getfield 61, 3) := by decide +kernel
theorem dX11_sayOfKinds_48 : decode cX11_sayOfKinds 48 = .ok (.aload_n 0, 1) := by decide +kernel
theorem dX11_sayOfKinds_49 : decode cX11_sayOfKinds 49 = .ok (.getfield 19, 3) := by decide +kernel
theorem dX11_sayOfKinds_52 : decode cX11_sayOfKinds 52 = .ok (.aload_n 0, 1) := by decide +kernel
theorem dX11_sayOfKinds_53 : decode cX11_sayOfKinds 53 = .ok (.getfield 40, 3) := by decide +kernel
theorem dX11_sayOfKinds_56 : decode cX11_sayOfKinds 56 = .ok (.invokevirtual 295, 3) := by decide +kernel
theorem dX11_sayOfKinds_59 : decode cX11_sayOfKinds 59 = .ok (.iload_n 1, 1) := by decide +kernel
theorem dX11_sayOfKinds_60 : decode cX11_sayOfKinds 60 = .ok (.aload_n 0, 1) := by decide +kernel
theorem dX11_sayOfKinds_61 : decode cX11_sayOfKinds 61 = .ok (.getfield 61, 3) := by decide +kernel
theorem dX11_sayOfKinds_64 : decode cX11_sayOfKinds 64 = .ok (.invokevirtual 302, 3) := by decide +kernel
theorem dX11_sayOfKinds_67 : decode cX11_sayOfKinds 67 = .ok (.i2l, 1) := by decide +kernel
theorem dX11_sayOfKinds_68 : decode cX11_sayOfKinds 68 = .ok (.lconst 1, 1) := by decide +kernel
theorem dX11_sayOfKinds_69 : decode cX11_sayOfKinds 69 = .ok (.aload_n 0, 1) := by decide +kernel
theorem dX11_sayOfKinds_70 : decode cX11_sayOfKinds 70 = .ok (.getfield 61, 3) := by decide +kernel
theorem dX11_sayOfKinds_73 : decode cX11_sayOfKinds 73 = .ok (.getfield 298, 3) := by decide +kernel
theorem dX11_sayOfKinds_76 : decode cX11_sayOfKinds 76 = .ok (.lshl, 1) := by decide +kernel
theorem dX11_sayOfKinds_77 : decode cX11_sayOfKinds 77 = .ok (.invokestatic 378, 3) := by decide +kernel
theorem dX11_sayOfKinds_80 : decode cX11_sayOfKinds 80 = .ok (.ifCond .eq 7, 3) := by decide +kernel
theorem dX11_sayOfKinds_83 : decode cX11_sayOfKinds 83 = .ok (.iconst 4, 1) := by decide +kernel
theorem dX11_sayOfKinds_84 : decode cX11_sayOfKinds 84 = .ok (.goto 4, 3) := by decide +kernel
theorem dX11_sayOfKinds_87 : decode cX11_sayOfKinds 87 = .ok (.iconst 0, 1) := by decide +kernel
theorem dX11_sayOfKinds_88 : decode cX11_sayOfKinds 88 = .ok (.iadd, 1) := by decide +kernel
theorem dX11_sayOfKinds_89 : decode cX11_sayOfKinds 89 = .ok (.ireturn, 1) := by decide +kernel
set_option maxRecDepth 100000 in
theorem sgX11_sayOfKinds_0 {d : Nat} {I : st_I} {L : st_L} {F : Int32 → st_I → st_L → Prop}  (h : EV d mX1_gather [.ref 43, .ref 1, .ref 30] I L (fun I1 L1 => EI d mX1_waysWith [.ref 43, .int 0] I1 L1 (fun r2 I2 L2 => EI d mX1_all [.ref 43] I2 L2 (fun r3 I3 L3 => EI d mX10_isRare [.long ((r2 : Int32).toInt64), .long ((r3 : Int32).toInt64)] I3 L3 (fun r4 I4 L4 => EV d mX9_gatherPlayers [.ref 47, .ref 1, .ref 30] I4 L4 (fun I5 L5 => EI d mX9_ways [.ref 47] I5 L5 (fun r6 I6 L6 => EI d mX10_isRare [.long ((r6 : Int32).toInt64), .long ((1 : Int64) <<< (((I6 47 0) : Int32).toInt64 &&& 63))] I6 L6 (fun r7 I7 L7 => F ((if r4 = 0 then (0 : Int32) else 2) + (if r7 = 0 then (0 : Int32) else 4)) I7 L7)))))))) : EI (d + 1) mX11_sayOfKinds [.ref 0] I L F := by
  refine Ev_of (ls0 := 1) (by decide +kernel) rfl rfl rfl ?_
  refine T_aload_n dX11_sayOfKinds_0 rfl ?_
  refine T_getr dX11_sayOfKinds_1 fl_RX11_54 shp_0 rfl ?_
  refine T_aload_n dX11_sayOfKinds_4 rfl ?_
  refine T_getr dX11_sayOfKinds_5 fl_RX11_19 shp_0 rfl ?_
  refine T_aload_n dX11_sayOfKinds_8 rfl ?_
  refine T_getr dX11_sayOfKinds_9 fl_RX11_40 shp_0 rfl ?_
  refine S_callVV (M' := mX1_gather) [.ref 1, .ref 30] [] dX11_sayOfKinds_12 ml_RX11_276 mkX1_gather rfl shp_43 rfl rfl rfl (Nat.le_of_ble_eq_true rfl) h (fun I1 L1 h => ?_)
  refine T_aload_n dX11_sayOfKinds_15 rfl ?_
  refine T_getr dX11_sayOfKinds_16 fl_RX11_54 shp_0 rfl ?_
  refine T_iconst (v := 0) dX11_sayOfKinds_19 (by decide +kernel) ?_
  refine S_callVI (M' := mX1_waysWith) [.int 0] [] dX11_sayOfKinds_20 ml_RX11_289 mkX1_waysWith rfl shp_43 rfl rfl rfl (Nat.le_of_ble_eq_true rfl) h (fun r2 I2 L2 h => ?_)
  refine T_i2l dX11_sayOfKinds_23 ?_
  refine T_aload_n dX11_sayOfKinds_24 rfl ?_
  refine T_getr dX11_sayOfKinds_25 fl_RX11_54 shp_0 rfl ?_
  refine S_callVI (M' := mX1_all) [] [.long ((r2 : Int32).toInt64)] dX11_sayOfKinds_28 ml_RX11_292 mkX1_all rfl shp_43 rfl rfl rfl (Nat.le_of_ble_eq_true rfl) h (fun r3 I3 L3 h => ?_)
  refine T_i2l dX11_sayOfKinds_31 ?_
  refine S_callSI (M' := mX10_isRare) [.long ((r2 : Int32).toInt64), .long ((r3 : Int32).toInt64)] [] dX11_sayOfKinds_32 ml_RX11_378 mkX10_isRare rfl rfl (Nat.le_of_ble_eq_true rfl) h (fun r4 I4 L4 h => ?_)
  refine T_if_eq (tgt := 42) dX11_sayOfKinds_35 (by decide) (tq_itv (fun v => T shp (d + 1) mX11_sayOfKinds 43 [.ref 0, .null] (.int v :: []) I4 L4 (kI F)) 0 2 (fun hJ => ?_) (fun hJ => ?_) ?_)
  ·
      refine T_iconst (v := 0) dX11_sayOfKinds_42 (by decide +kernel) ?_
      exact hJ
  ·
      refine T_iconst (v := 2) dX11_sayOfKinds_38 (by decide +kernel) ?_
      refine T_goto (tgt := 43) dX11_sayOfKinds_39 (by decide) ?_
      exact hJ
  refine T_istore_n (lv' := [.ref 0, .int (if r4 = 0 then (0 : Int32) else 2)]) dX11_sayOfKinds_43 rfl (by decide) rfl ?_
  refine T_aload_n dX11_sayOfKinds_44 rfl ?_
  refine T_getr dX11_sayOfKinds_45 fl_RX11_61 shp_0 rfl ?_
  refine T_aload_n dX11_sayOfKinds_48 rfl ?_
  refine T_getr dX11_sayOfKinds_49 fl_RX11_19 shp_0 rfl ?_
  refine T_aload_n dX11_sayOfKinds_52 rfl ?_
  refine T_getr dX11_sayOfKinds_53 fl_RX11_40 shp_0 rfl ?_
  refine S_callVV (M' := mX9_gatherPlayers) [.ref 1, .ref 30] [] dX11_sayOfKinds_56 ml_RX11_295 mkX9_gatherPlayers rfl shp_47 rfl rfl rfl (Nat.le_of_ble_eq_true rfl) h (fun I5 L5 h => ?_)
  refine T_iload_n dX11_sayOfKinds_59 rfl ?_
  refine T_aload_n dX11_sayOfKinds_60 rfl ?_
  refine T_getr dX11_sayOfKinds_61 fl_RX11_61 shp_0 rfl ?_
  refine S_callVI (M' := mX9_ways) [] [.int (if r4 = 0 then (0 : Int32) else 2)] dX11_sayOfKinds_64 ml_RX11_302 mkX9_ways rfl shp_47 rfl rfl rfl (Nat.le_of_ble_eq_true rfl) h (fun r6 I6 L6 h => ?_)
  refine T_i2l dX11_sayOfKinds_67 ?_
  refine T_lconst (v := 1) dX11_sayOfKinds_68 (by decide +kernel) ?_
  refine T_aload_n dX11_sayOfKinds_69 rfl ?_
  refine T_getr dX11_sayOfKinds_70 fl_RX11_61 shp_0 rfl ?_
  refine T_getv (v := (I6 47 0)) dX11_sayOfKinds_73 fl_RX11_298 shp_47 rfl rfl ?_
  refine T_lshl dX11_sayOfKinds_76 ?_
  refine S_callSI (M' := mX10_isRare) [.long ((r6 : Int32).toInt64), .long ((1 : Int64) <<< (((I6 47 0) : Int32).toInt64 &&& 63))] [.int (if r4 = 0 then (0 : Int32) else 2)] dX11_sayOfKinds_77 ml_RX11_378 mkX10_isRare rfl rfl (Nat.le_of_ble_eq_true rfl) h (fun r7 I7 L7 h => ?_)
  refine T_if_eq (tgt := 87) dX11_sayOfKinds_80 (by decide) (tq_itv (fun v => T shp (d + 1) mX11_sayOfKinds 88 [.ref 0, .int (if r4 = 0 then (0 : Int32) else 2)] (.int v :: [.int (if r4 = 0 then (0 : Int32) else 2)]) I7 L7 (kI F)) 0 4 (fun hJ => ?_) (fun hJ => ?_) ?_)
  ·
      refine T_iconst (v := 0) dX11_sayOfKinds_87 (by decide +kernel) ?_
      exact hJ
  ·
      refine T_iconst (v := 4) dX11_sayOfKinds_83 (by decide +kernel) ?_
      refine T_goto (tgt := 88) dX11_sayOfKinds_84 (by decide) ?_
      exact hJ
  refine T_iadd dX11_sayOfKinds_88 ?_
  exact S_iret rfl dX11_sayOfKinds_89 h

theorem dX11_sayOfPairs_0 : decode cX11_sayOfPairs 0 = .ok (.aload_n 0, 1) := by decide +kernel
theorem dX11_sayOfPairs_1 : decode cX11_sayOfPairs 1 = .ok (.getfield 61, 3) := by decide +kernel
theorem dX11_sayOfPairs_4 : decode cX11_sayOfPairs 4 = .ok (.aload_n 0, 1) := by decide +kernel
theorem dX11_sayOfPairs_5 : decode cX11_sayOfPairs 5 = .ok (.getfield 19, 3) := by decide +kernel
theorem dX11_sayOfPairs_8 : decode cX11_sayOfPairs 8 = .ok (.aload_n 0, 1) := by decide +kernel
theorem dX11_sayOfPairs_9 : decode cX11_sayOfPairs 9 = .ok (.getfield 40, 3) := by decide +kernel
theorem dX11_sayOfPairs_12 : decode cX11_sayOfPairs 12 = .ok (.invokevirtual 306, 3) := by decide +kernel
theorem dX11_sayOfPairs_15 : decode cX11_sayOfPairs 15 = .ok (.aload_n 0, 1) := by decide +kernel
theorem dX11_sayOfPairs_16 : decode cX11_sayOfPairs 16 = .ok (.getfield 61, 3) := by decide +kernel
theorem dX11_sayOfPairs_19 : decode cX11_sayOfPairs 19 = .ok (.invokevirtual 302, 3) := by decide +kernel
theorem dX11_sayOfPairs_22 : decode cX11_sayOfPairs 22 = .ok (.i2l, 1) := by decide +kernel
theorem dX11_sayOfPairs_23 : decode cX11_sayOfPairs 23 = .ok (.lconst 1, 1) := by decide +kernel
theorem dX11_sayOfPairs_24 : decode cX11_sayOfPairs 24 = .ok (.aload_n 0, 1) := by decide +kernel
theorem dX11_sayOfPairs_25 : decode cX11_sayOfPairs 25 = .ok (.getfield 61, 3) := by decide +kernel
theorem dX11_sayOfPairs_28 : decode cX11_sayOfPairs 28 = .ok (.getfield 298, 3) := by decide +kernel
theorem dX11_sayOfPairs_31 : decode cX11_sayOfPairs 31 = .ok (.lshl, 1) := by decide +kernel
theorem dX11_sayOfPairs_32 : decode cX11_sayOfPairs 32 = .ok (.invokestatic 378, 3) := by decide +kernel
theorem dX11_sayOfPairs_35 : decode cX11_sayOfPairs 35 = .ok (.ifCond .eq 8, 3) := by decide +kernel
theorem dX11_sayOfPairs_38 : decode cX11_sayOfPairs 38 = .ok (.bipush 8, 2) := by decide +kernel
theorem dX11_sayOfPairs_40 : decode cX11_sayOfPairs 40 = .ok (.goto 4, 3) := by decide +kernel
theorem dX11_sayOfPairs_43 : decode cX11_sayOfPairs 43 = .ok (.iconst 0, 1) := by decide +kernel
theorem dX11_sayOfPairs_44 : decode cX11_sayOfPairs 44 = .ok (.istore_n 1, 1) := by decide +kernel
theorem dX11_sayOfPairs_45 : decode cX11_sayOfPairs 45 = .ok (.aload_n 0, 1) := by decide +kernel
theorem dX11_sayOfPairs_46 : decode cX11_sayOfPairs 46 = .ok (.getfield 47, 3) := by decide +kernel
theorem dX11_sayOfPairs_49 : decode cX11_sayOfPairs 49 = .ok (.aload_n 0, 1) := by decide +kernel
theorem dX11_sayOfPairs_50 : decode cX11_sayOfPairs 50 = .ok (.getfield 19, 3) := by decide +kernel
theorem dX11_sayOfPairs_53 : decode cX11_sayOfPairs 53 = .ok (.aload_n 0, 1) := by decide +kernel
theorem dX11_sayOfPairs_54 : decode cX11_sayOfPairs 54 = .ok (.getfield 40, 3) := by decide +kernel
theorem dX11_sayOfPairs_57 : decode cX11_sayOfPairs 57 = .ok (.invokevirtual 264, 3) := by decide +kernel
theorem dX11_sayOfPairs_60 : decode cX11_sayOfPairs 60 = .ok (.iload_n 1, 1) := by decide +kernel
theorem dX11_sayOfPairs_61 : decode cX11_sayOfPairs 61 = .ok (.aload_n 0, 1) := by decide +kernel
theorem dX11_sayOfPairs_62 : decode cX11_sayOfPairs 62 = .ok (.getfield 47, 3) := by decide +kernel
theorem dX11_sayOfPairs_65 : decode cX11_sayOfPairs 65 = .ok (.invokevirtual 272, 3) := by decide +kernel
theorem dX11_sayOfPairs_68 : decode cX11_sayOfPairs 68 = .ok (.i2l, 1) := by decide +kernel
theorem dX11_sayOfPairs_69 : decode cX11_sayOfPairs 69 = .ok (.aload_n 0, 1) := by decide +kernel
theorem dX11_sayOfPairs_70 : decode cX11_sayOfPairs 70 = .ok (.getfield 47, 3) := by decide +kernel
theorem dX11_sayOfPairs_73 : decode cX11_sayOfPairs 73 = .ok (.getfield 268, 3) := by decide +kernel
theorem dX11_sayOfPairs_76 : decode cX11_sayOfPairs 76 = .ok (.invokestatic 382, 3) := by decide +kernel
theorem dX11_sayOfPairs_79 : decode cX11_sayOfPairs 79 = .ok (.i2l, 1) := by decide +kernel
theorem dX11_sayOfPairs_80 : decode cX11_sayOfPairs 80 = .ok (.invokestatic 378, 3) := by decide +kernel
theorem dX11_sayOfPairs_83 : decode cX11_sayOfPairs 83 = .ok (.ifCond .eq 8, 3) := by decide +kernel
theorem dX11_sayOfPairs_86 : decode cX11_sayOfPairs 86 = .ok (.bipush 16, 2) := by decide +kernel
theorem dX11_sayOfPairs_88 : decode cX11_sayOfPairs 88 = .ok (.goto 4, 3) := by decide +kernel
theorem dX11_sayOfPairs_91 : decode cX11_sayOfPairs 91 = .ok (.iconst 0, 1) := by decide +kernel
theorem dX11_sayOfPairs_92 : decode cX11_sayOfPairs 92 = .ok (.iadd, 1) := by decide +kernel
theorem dX11_sayOfPairs_93 : decode cX11_sayOfPairs 93 = .ok (.istore_n 1, 1) := by decide +kernel
theorem dX11_sayOfPairs_94 : decode cX11_sayOfPairs 94 = .ok (.aload_n 0, 1) := by decide +kernel
theorem dX11_sayOfPairs_95 : decode cX11_sayOfPairs 95 = .ok (.getfield 68, 3) := by decide +kernel
theorem dX11_sayOfPairs_98 : decode cX11_sayOfPairs 98 = .ok (.aload_n 0, 1) := by decide +kernel
theorem dX11_sayOfPairs_99 : decode cX11_sayOfPairs 99 = .ok (.getfield 19, 3) := by decide +kernel
theorem dX11_sayOfPairs_102 : decode cX11_sayOfPairs 102 = .ok (.aload_n 0, 1) := by decide +kernel
theorem dX11_sayOfPairs_103 : decode cX11_sayOfPairs 103 = .ok (.getfield 40, 3) := by decide +kernel
theorem dX11_sayOfPairs_106 : decode cX11_sayOfPairs 106 = .ok (.invokevirtual 325, 3) := by decide +kernel
theorem dX11_sayOfPairs_109 : decode cX11_sayOfPairs 109 = .ok (.iload_n 1, 1) := by decide +kernel
theorem dX11_sayOfPairs_110 : decode cX11_sayOfPairs 110 = .ok (.aload_n 0, 1) := by decide +kernel
theorem dX11_sayOfPairs_111 : decode cX11_sayOfPairs 111 = .ok (.getfield 68, 3) := by decide +kernel
theorem dX11_sayOfPairs_114 : decode cX11_sayOfPairs 114 = .ok (.invokevirtual 333, 3) := by decide +kernel
theorem dX11_sayOfPairs_117 : decode cX11_sayOfPairs 117 = .ok (.i2l, 1) := by decide +kernel
theorem dX11_sayOfPairs_118 : decode cX11_sayOfPairs 118 = .ok (.aload_n 0, 1) := by decide +kernel
theorem dX11_sayOfPairs_119 : decode cX11_sayOfPairs 119 = .ok (.getfield 68, 3) := by decide +kernel
theorem dX11_sayOfPairs_122 : decode cX11_sayOfPairs 122 = .ok (.getfield 326, 3) := by decide +kernel
theorem dX11_sayOfPairs_125 : decode cX11_sayOfPairs 125 = .ok (.invokestatic 382, 3) := by decide +kernel
theorem dX11_sayOfPairs_128 : decode cX11_sayOfPairs 128 = .ok (.i2l, 1) := by decide +kernel
theorem dX11_sayOfPairs_129 : decode cX11_sayOfPairs 129 = .ok (.invokestatic 378, 3) := by decide +kernel
theorem dX11_sayOfPairs_132 : decode cX11_sayOfPairs 132 = .ok (.ifCond .eq 8, 3) := by decide +kernel
theorem dX11_sayOfPairs_135 : decode cX11_sayOfPairs 135 = .ok (.bipush 32, 2) := by decide +kernel
theorem dX11_sayOfPairs_137 : decode cX11_sayOfPairs 137 = .ok (.goto 4, 3) := by decide +kernel
theorem dX11_sayOfPairs_140 : decode cX11_sayOfPairs 140 = .ok (.iconst 0, 1) := by decide +kernel
theorem dX11_sayOfPairs_141 : decode cX11_sayOfPairs 141 = .ok (.iadd, 1) := by decide +kernel
theorem dX11_sayOfPairs_142 : decode cX11_sayOfPairs 142 = .ok (.ireturn, 1) := by decide +kernel
set_option maxRecDepth 100000 in
theorem sgX11_sayOfPairs_0 {d : Nat} {I : st_I} {L : st_L} {F : Int32 → st_I → st_L → Prop}  (h : EV d mX9_gatherKnowing [.ref 47, .ref 1, .ref 30] I L (fun I1 L1 => EI d mX9_ways [.ref 47] I1 L1 (fun r2 I2 L2 => EI d mX10_isRare [.long ((r2 : Int32).toInt64), .long ((1 : Int64) <<< (((I2 47 0) : Int32).toInt64 &&& 63))] I2 L2 (fun r3 I3 L3 => EV d mX6_gather [.ref 40, .ref 1, .ref 30] I3 L3 (fun I4 L4 => EI d mX6_ways [.ref 40] I4 L4 (fun r5 I5 L5 => EI d mX10_orders [.int (I5 40 0)] I5 L5 (fun r6 I6 L6 => EI d mX10_isRare [.long ((r5 : Int32).toInt64), .long ((r6 : Int32).toInt64)] I6 L6 (fun r7 I7 L7 => EV d mX3_gather [.ref 49, .ref 1, .ref 30] I7 L7 (fun I8 L8 => EI d mX3_ways [.ref 49] I8 L8 (fun r9 I9 L9 => EI d mX10_orders [.int (I9 49 0)] I9 L9 (fun r10 I10 L10 => EI d mX10_isRare [.long ((r9 : Int32).toInt64), .long ((r10 : Int32).toInt64)] I10 L10 (fun r11 I11 L11 => F (((if r3 = 0 then (0 : Int32) else 8) + (if r7 = 0 then (0 : Int32) else 16)) + (if r11 = 0 then (0 : Int32) else 32)) I11 L11)))))))))))) : EI (d + 1) mX11_sayOfPairs [.ref 0] I L F := by
  refine Ev_of (ls0 := 1) (by decide +kernel) rfl rfl rfl ?_
  refine T_aload_n dX11_sayOfPairs_0 rfl ?_
  refine T_getr dX11_sayOfPairs_1 fl_RX11_61 shp_0 rfl ?_
  refine T_aload_n dX11_sayOfPairs_4 rfl ?_
  refine T_getr dX11_sayOfPairs_5 fl_RX11_19 shp_0 rfl ?_
  refine T_aload_n dX11_sayOfPairs_8 rfl ?_
  refine T_getr dX11_sayOfPairs_9 fl_RX11_40 shp_0 rfl ?_
  refine S_callVV (M' := mX9_gatherKnowing) [.ref 1, .ref 30] [] dX11_sayOfPairs_12 ml_RX11_306 mkX9_gatherKnowing rfl shp_47 rfl rfl rfl (Nat.le_of_ble_eq_true rfl) h (fun I1 L1 h => ?_)
  refine T_aload_n dX11_sayOfPairs_15 rfl ?_
  refine T_getr dX11_sayOfPairs_16 fl_RX11_61 shp_0 rfl ?_
  refine S_callVI (M' := mX9_ways) [] [] dX11_sayOfPairs_19 ml_RX11_302 mkX9_ways rfl shp_47 rfl rfl rfl (Nat.le_of_ble_eq_true rfl) h (fun r2 I2 L2 h => ?_)
  refine T_i2l dX11_sayOfPairs_22 ?_
  refine T_lconst (v := 1) dX11_sayOfPairs_23 (by decide +kernel) ?_
  refine T_aload_n dX11_sayOfPairs_24 rfl ?_
  refine T_getr dX11_sayOfPairs_25 fl_RX11_61 shp_0 rfl ?_
  refine T_getv (v := (I2 47 0)) dX11_sayOfPairs_28 fl_RX11_298 shp_47 rfl rfl ?_
  refine T_lshl dX11_sayOfPairs_31 ?_
  refine S_callSI (M' := mX10_isRare) [.long ((r2 : Int32).toInt64), .long ((1 : Int64) <<< (((I2 47 0) : Int32).toInt64 &&& 63))] [] dX11_sayOfPairs_32 ml_RX11_378 mkX10_isRare rfl rfl (Nat.le_of_ble_eq_true rfl) h (fun r3 I3 L3 h => ?_)
  refine T_if_eq (tgt := 43) dX11_sayOfPairs_35 (by decide) (tq_itv (fun v => T shp (d + 1) mX11_sayOfPairs 44 [.ref 0, .null] (.int v :: []) I3 L3 (kI F)) 0 8 (fun hJ => ?_) (fun hJ => ?_) ?_)
  ·
      refine T_iconst (v := 0) dX11_sayOfPairs_43 (by decide +kernel) ?_
      exact hJ
  ·
      refine T_bipush (v := 8) dX11_sayOfPairs_38 (by decide +kernel) ?_
      refine T_goto (tgt := 44) dX11_sayOfPairs_40 (by decide) ?_
      exact hJ
  refine T_istore_n (lv' := [.ref 0, .int (if r3 = 0 then (0 : Int32) else 8)]) dX11_sayOfPairs_44 rfl (by decide) rfl ?_
  refine T_aload_n dX11_sayOfPairs_45 rfl ?_
  refine T_getr dX11_sayOfPairs_46 fl_RX11_47 shp_0 rfl ?_
  refine T_aload_n dX11_sayOfPairs_49 rfl ?_
  refine T_getr dX11_sayOfPairs_50 fl_RX11_19 shp_0 rfl ?_
  refine T_aload_n dX11_sayOfPairs_53 rfl ?_
  refine T_getr dX11_sayOfPairs_54 fl_RX11_40 shp_0 rfl ?_
  refine S_callVV (M' := mX6_gather) [.ref 1, .ref 30] [] dX11_sayOfPairs_57 ml_RX11_264 mkX6_gather rfl shp_40 rfl rfl rfl (Nat.le_of_ble_eq_true rfl) h (fun I4 L4 h => ?_)
  refine T_iload_n dX11_sayOfPairs_60 rfl ?_
  refine T_aload_n dX11_sayOfPairs_61 rfl ?_
  refine T_getr dX11_sayOfPairs_62 fl_RX11_47 shp_0 rfl ?_
  refine S_callVI (M' := mX6_ways) [] [.int (if r3 = 0 then (0 : Int32) else 8)] dX11_sayOfPairs_65 ml_RX11_272 mkX6_ways rfl shp_40 rfl rfl rfl (Nat.le_of_ble_eq_true rfl) h (fun r5 I5 L5 h => ?_)
  refine T_i2l dX11_sayOfPairs_68 ?_
  refine T_aload_n dX11_sayOfPairs_69 rfl ?_
  refine T_getr dX11_sayOfPairs_70 fl_RX11_47 shp_0 rfl ?_
  refine T_getv (v := (I5 40 0)) dX11_sayOfPairs_73 fl_RX11_268 shp_40 rfl rfl ?_
  refine S_callSI (M' := mX10_orders) [.int (I5 40 0)] [.long ((r5 : Int32).toInt64), .int (if r3 = 0 then (0 : Int32) else 8)] dX11_sayOfPairs_76 ml_RX11_382 mkX10_orders rfl rfl (Nat.le_of_ble_eq_true rfl) h (fun r6 I6 L6 h => ?_)
  refine T_i2l dX11_sayOfPairs_79 ?_
  refine S_callSI (M' := mX10_isRare) [.long ((r5 : Int32).toInt64), .long ((r6 : Int32).toInt64)] [.int (if r3 = 0 then (0 : Int32) else 8)] dX11_sayOfPairs_80 ml_RX11_378 mkX10_isRare rfl rfl (Nat.le_of_ble_eq_true rfl) h (fun r7 I7 L7 h => ?_)
  refine T_if_eq (tgt := 91) dX11_sayOfPairs_83 (by decide) (tq_itv (fun v => T shp (d + 1) mX11_sayOfPairs 92 [.ref 0, .int (if r3 = 0 then (0 : Int32) else 8)] (.int v :: [.int (if r3 = 0 then (0 : Int32) else 8)]) I7 L7 (kI F)) 0 16 (fun hJ => ?_) (fun hJ => ?_) ?_)
  ·
      refine T_iconst (v := 0) dX11_sayOfPairs_91 (by decide +kernel) ?_
      exact hJ
  ·
      refine T_bipush (v := 16) dX11_sayOfPairs_86 (by decide +kernel) ?_
      refine T_goto (tgt := 92) dX11_sayOfPairs_88 (by decide) ?_
      exact hJ
  refine T_iadd dX11_sayOfPairs_92 ?_
  refine T_istore_n (lv' := [.ref 0, .int ((if r3 = 0 then (0 : Int32) else 8) + (if r7 = 0 then (0 : Int32) else 16))]) dX11_sayOfPairs_93 rfl (by decide) rfl ?_
  refine T_aload_n dX11_sayOfPairs_94 rfl ?_
  refine T_getr dX11_sayOfPairs_95 fl_RX11_68 shp_0 rfl ?_
  refine T_aload_n dX11_sayOfPairs_98 rfl ?_
  refine T_getr dX11_sayOfPairs_99 fl_RX11_19 shp_0 rfl ?_
  refine T_aload_n dX11_sayOfPairs_102 rfl ?_
  refine T_getr dX11_sayOfPairs_103 fl_RX11_40 shp_0 rfl ?_
  refine S_callVV (M' := mX3_gather) [.ref 1, .ref 30] [] dX11_sayOfPairs_106 ml_RX11_325 mkX3_gather rfl shp_49 rfl rfl rfl (Nat.le_of_ble_eq_true rfl) h (fun I8 L8 h => ?_)
  refine T_iload_n dX11_sayOfPairs_109 rfl ?_
  refine T_aload_n dX11_sayOfPairs_110 rfl ?_
  refine T_getr dX11_sayOfPairs_111 fl_RX11_68 shp_0 rfl ?_
  refine S_callVI (M' := mX3_ways) [] [.int ((if r3 = 0 then (0 : Int32) else 8) + (if r7 = 0 then (0 : Int32) else 16))] dX11_sayOfPairs_114 ml_RX11_333 mkX3_ways rfl shp_49 rfl rfl rfl (Nat.le_of_ble_eq_true rfl) h (fun r9 I9 L9 h => ?_)
  refine T_i2l dX11_sayOfPairs_117 ?_
  refine T_aload_n dX11_sayOfPairs_118 rfl ?_
  refine T_getr dX11_sayOfPairs_119 fl_RX11_68 shp_0 rfl ?_
  refine T_getv (v := (I9 49 0)) dX11_sayOfPairs_122 fl_RX11_326 shp_49 rfl rfl ?_
  refine S_callSI (M' := mX10_orders) [.int (I9 49 0)] [.long ((r9 : Int32).toInt64), .int ((if r3 = 0 then (0 : Int32) else 8) + (if r7 = 0 then (0 : Int32) else 16))] dX11_sayOfPairs_125 ml_RX11_382 mkX10_orders rfl rfl (Nat.le_of_ble_eq_true rfl) h (fun r10 I10 L10 h => ?_)
  refine T_i2l dX11_sayOfPairs_128 ?_
  refine S_callSI (M' := mX10_isRare) [.long ((r9 : Int32).toInt64), .long ((r10 : Int32).toInt64)] [.int ((if r3 = 0 then (0 : Int32) else 8) + (if r7 = 0 then (0 : Int32) else 16))] dX11_sayOfPairs_129 ml_RX11_378 mkX10_isRare rfl rfl (Nat.le_of_ble_eq_true rfl) h (fun r11 I11 L11 h => ?_)
  refine T_if_eq (tgt := 140) dX11_sayOfPairs_132 (by decide) (tq_itv (fun v => T shp (d + 1) mX11_sayOfPairs 141 [.ref 0, .int ((if r3 = 0 then (0 : Int32) else 8) + (if r7 = 0 then (0 : Int32) else 16))] (.int v :: [.int ((if r3 = 0 then (0 : Int32) else 8) + (if r7 = 0 then (0 : Int32) else 16))]) I11 L11 (kI F)) 0 32 (fun hJ => ?_) (fun hJ => ?_) ?_)
  ·
      refine T_iconst (v := 0) dX11_sayOfPairs_140 (by decide +kernel) ?_
      exact hJ
  ·
      refine T_bipush (v := 32) dX11_sayOfPairs_135 (by decide +kernel) ?_
      refine T_goto (tgt := 141) dX11_sayOfPairs_137 (by decide) ?_
      exact hJ
  refine T_iadd dX11_sayOfPairs_141 ?_
  exact S_iret rfl dX11_sayOfPairs_142 h

theorem dX11_sayOfWinner_0 : decode cX11_sayOfWinner 0 = .ok (.aload_n 0, 1) := by decide +kernel
theorem dX11_sayOfWinner_1 : decode cX11_sayOfWinner 1 = .ok (.getfield 40, 3) := by decide +kernel
theorem dX11_sayOfWinner_4 : decode cX11_sayOfWinner 4 = .ok (.aload_n 0, 1) := by decide +kernel
theorem dX11_sayOfWinner_5 : decode cX11_sayOfWinner 5 = .ok (.getfield 19, 3) := by decide +kernel
theorem dX11_sayOfWinner_8 : decode cX11_sayOfWinner 8 = .ok (.invokevirtual 338, 3) := by decide +kernel
theorem dX11_sayOfWinner_11 : decode cX11_sayOfWinner 11 = .ok (.istore_n 1, 1) := by decide +kernel
theorem dX11_sayOfWinner_12 : decode cX11_sayOfWinner 12 = .ok (.iload_n 1, 1) := by decide +kernel
theorem dX11_sayOfWinner_13 : decode cX11_sayOfWinner 13 = .ok (.bipush (-2), 2) := by decide +kernel
theorem dX11_sayOfWinner_15 : decode cX11_sayOfWinner 15 = .ok (.if_icmp .ne 5, 3) := by decide +kernel
theorem dX11_sayOfWinner_18 : decode cX11_sayOfWinner 18 = .ok (.iconst 0, 1) := by decide +kernel
theorem dX11_sayOfWinner_19 : decode cX11_sayOfWinner 19 = .ok (.ireturn, 1) := by decide +kernel
theorem dX11_sayOfWinner_20 : decode cX11_sayOfWinner 20 = .ok (.aload_n 0, 1) := by decide +kernel
theorem dX11_sayOfWinner_21 : decode cX11_sayOfWinner 21 = .ok (.getfield 19, 3) := by decide +kernel
theorem dX11_sayOfWinner_24 : decode cX11_sayOfWinner 24 = .ok (.iload_n 1, 1) := by decide +kernel
theorem dX11_sayOfWinner_25 : decode cX11_sayOfWinner 25 = .ok (.invokevirtual 170, 3) := by decide +kernel
theorem dX11_sayOfWinner_28 : decode cX11_sayOfWinner 28 = .ok (.ifCond .eq 8, 3) := by decide +kernel
theorem dX11_sayOfWinner_31 : decode cX11_sayOfWinner 31 = .ok (.bipush 64, 2) := by decide +kernel
theorem dX11_sayOfWinner_33 : decode cX11_sayOfWinner 33 = .ok (.goto 6, 3) := by decide +kernel
theorem dX11_sayOfWinner_36 : decode cX11_sayOfWinner 36 = .ok (.sipush 128, 3) := by decide +kernel
theorem dX11_sayOfWinner_39 : decode cX11_sayOfWinner 39 = .ok (.ireturn, 1) := by decide +kernel
set_option maxRecDepth 100000 in
theorem sgX11_sayOfWinner_0 {d : Nat} {I : st_I} {L : st_L} {F : Int32 → st_I → st_L → Prop}  (h : EI d mX2_beatingAll [.ref 30, .ref 1] I L (fun r1 I1 L1 => (if r1 = (-2) then F 0 I1 L1 else EI d mX8_isOld [.ref 1, .int r1] I1 L1 (fun r2 I2 L2 => F (if r2 = 0 then (128 : Int32) else 64) I2 L2)))) : EI (d + 1) mX11_sayOfWinner [.ref 0] I L F := by
  refine Ev_of (ls0 := 1) (by decide +kernel) rfl rfl rfl ?_
  refine T_aload_n dX11_sayOfWinner_0 rfl ?_
  refine T_getr dX11_sayOfWinner_1 fl_RX11_40 shp_0 rfl ?_
  refine T_aload_n dX11_sayOfWinner_4 rfl ?_
  refine T_getr dX11_sayOfWinner_5 fl_RX11_19 shp_0 rfl ?_
  refine S_callVI (M' := mX2_beatingAll) [.ref 1] [] dX11_sayOfWinner_8 ml_RX11_338 mkX2_beatingAll rfl shp_30 rfl rfl rfl (Nat.le_of_ble_eq_true rfl) h (fun r1 I1 L1 h => ?_)
  refine T_istore_n (lv' := [.ref 0, .int r1]) dX11_sayOfWinner_11 rfl (by decide) rfl ?_
  refine T_iload_n dX11_sayOfWinner_12 rfl ?_
  refine T_bipush (v := (-2)) dX11_sayOfWinner_13 (by decide +kernel) ?_
  refine T_icmp_ne (tgt := 20) dX11_sayOfWinner_15 (by decide) (tq_ite h (fun h => ?_) (fun h => ?_))
  ·
    refine T_iconst (v := 0) dX11_sayOfWinner_18 (by decide +kernel) ?_
    exact S_iret rfl dX11_sayOfWinner_19 h
  ·
    refine T_aload_n dX11_sayOfWinner_20 rfl ?_
    refine T_getr dX11_sayOfWinner_21 fl_RX11_19 shp_0 rfl ?_
    refine T_iload_n dX11_sayOfWinner_24 rfl ?_
    refine S_callVI (M' := mX8_isOld) [.int r1] [] dX11_sayOfWinner_25 ml_RX11_170 mkX8_isOld rfl shp_1 rfl rfl rfl (Nat.le_of_ble_eq_true rfl) h (fun r2 I2 L2 h => ?_)
    refine T_if_eq (tgt := 36) dX11_sayOfWinner_28 (by decide) (tq_itv (fun v => T shp (d + 1) mX11_sayOfWinner 39 [.ref 0, .int r1] (.int v :: []) I2 L2 (kI F)) 128 64 (fun hJ => ?_) (fun hJ => ?_) ?_)
    ·
        refine T_sipush (v := 128) dX11_sayOfWinner_36 (by decide +kernel) ?_
        exact hJ
    ·
        refine T_bipush (v := 64) dX11_sayOfWinner_31 (by decide +kernel) ?_
        refine T_goto (tgt := 39) dX11_sayOfWinner_33 (by decide) ?_
        exact hJ
    exact S_iret rfl dX11_sayOfWinner_39 h

theorem dX11_count_0 : decode cX11_count 0 = .ok (.iload_n 1, 1) := by decide +kernel
theorem dX11_count_1 : decode cX11_count 1 = .ok (.tableswitch 99 0 6 #[43, 51, 59, 67, 75, 83, 91], 43) := by decide +kernel
theorem dX11_count_44 : decode cX11_count 44 = .ok (.aload_n 0, 1) := by decide +kernel
theorem dX11_count_45 : decode cX11_count 45 = .ok (.getfield 19, 3) := by decide +kernel
theorem dX11_count_48 : decode cX11_count 48 = .ok (.getfield 209, 3) := by decide +kernel
theorem dX11_count_51 : decode cX11_count 51 = .ok (.ireturn, 1) := by decide +kernel
theorem dX11_count_52 : decode cX11_count 52 = .ok (.aload_n 0, 1) := by decide +kernel
theorem dX11_count_53 : decode cX11_count 53 = .ok (.getfield 19, 3) := by decide +kernel
theorem dX11_count_56 : decode cX11_count 56 = .ok (.getfield 216, 3) := by decide +kernel
theorem dX11_count_59 : decode cX11_count 59 = .ok (.ireturn, 1) := by decide +kernel
theorem dX11_count_60 : decode cX11_count 60 = .ok (.aload_n 0, 1) := by decide +kernel
theorem dX11_count_61 : decode cX11_count 61 = .ok (.getfield 19, 3) := by decide +kernel
theorem dX11_count_64 : decode cX11_count 64 = .ok (.getfield 385, 3) := by decide +kernel
theorem dX11_count_67 : decode cX11_count 67 = .ok (.ireturn, 1) := by decide +kernel
theorem dX11_count_68 : decode cX11_count 68 = .ok (.aload_n 0, 1) := by decide +kernel
theorem dX11_count_69 : decode cX11_count 69 = .ok (.getfield 19, 3) := by decide +kernel
theorem dX11_count_72 : decode cX11_count 72 = .ok (.getfield 388, 3) := by decide +kernel
theorem dX11_count_75 : decode cX11_count 75 = .ok (.ireturn, 1) := by decide +kernel
theorem dX11_count_76 : decode cX11_count 76 = .ok (.aload_n 0, 1) := by decide +kernel
theorem dX11_count_77 : decode cX11_count 77 = .ok (.getfield 19, 3) := by decide +kernel
theorem dX11_count_80 : decode cX11_count 80 = .ok (.getfield 360, 3) := by decide +kernel
theorem dX11_count_83 : decode cX11_count 83 = .ok (.ireturn, 1) := by decide +kernel
theorem dX11_count_84 : decode cX11_count 84 = .ok (.aload_n 0, 1) := by decide +kernel
theorem dX11_count_85 : decode cX11_count 85 = .ok (.getfield 33, 3) := by decide +kernel
theorem dX11_count_88 : decode cX11_count 88 = .ok (.getfield 176, 3) := by decide +kernel
theorem dX11_count_91 : decode cX11_count 91 = .ok (.ireturn, 1) := by decide +kernel
theorem dX11_count_92 : decode cX11_count 92 = .ok (.aload_n 0, 1) := by decide +kernel
theorem dX11_count_93 : decode cX11_count 93 = .ok (.getfield 12, 3) := by decide +kernel
theorem dX11_count_96 : decode cX11_count 96 = .ok (.getfield 89, 3) := by decide +kernel
theorem dX11_count_99 : decode cX11_count 99 = .ok (.ireturn, 1) := by decide +kernel
theorem dX11_count_100 : decode cX11_count 100 = .ok (.iload_n 1, 1) := by decide +kernel
theorem dX11_count_101 : decode cX11_count 101 = .ok (.bipush 10, 2) := by decide +kernel
theorem dX11_count_103 : decode cX11_count 103 = .ok (.if_icmp .lt 31, 3) := by decide +kernel
theorem dX11_count_106 : decode cX11_count 106 = .ok (.aload_n 0, 1) := by decide +kernel
theorem dX11_count_107 : decode cX11_count 107 = .ok (.getfield 19, 3) := by decide +kernel
theorem dX11_count_110 : decode cX11_count 110 = .ok (.iload_n 1, 1) := by decide +kernel
theorem dX11_count_111 : decode cX11_count 111 = .ok (.bipush 10, 2) := by decide +kernel
theorem dX11_count_113 : decode cX11_count 113 = .ok (.isub, 1) := by decide +kernel
theorem dX11_count_114 : decode cX11_count 114 = .ok (.invokevirtual 163, 3) := by decide +kernel
theorem dX11_count_117 : decode cX11_count 117 = .ok (.ifCond .eq 17, 3) := by decide +kernel
theorem dX11_count_120 : decode cX11_count 120 = .ok (.aload_n 0, 1) := by decide +kernel
theorem dX11_count_121 : decode cX11_count 121 = .ok (.getfield 19, 3) := by decide +kernel
theorem dX11_count_124 : decode cX11_count 124 = .ok (.iload_n 1, 1) := by decide +kernel
theorem dX11_count_125 : decode cX11_count 125 = .ok (.bipush 10, 2) := by decide +kernel
theorem dX11_count_127 : decode cX11_count 127 = .ok (.isub, 1) := by decide +kernel
theorem dX11_count_128 : decode cX11_count 128 = .ok (.invokevirtual 166, 3) := by decide +kernel
theorem dX11_count_131 : decode cX11_count 131 = .ok (.goto 4, 3) := by decide +kernel
theorem dX11_count_134 : decode cX11_count 134 = .ok (.iconst (-1), 1) := by decide +kernel
theorem dX11_count_135 : decode cX11_count 135 = .ok (.ireturn, 1) := by decide +kernel
set_option maxRecDepth 100000 in
theorem sgX11_count_0 {d : Nat} {I : st_I} {L : st_L} {F : Int32 → st_I → st_L → Prop} {a1 : Int32} (h : (if a1 = 0 then F (I 1 0) I L else (if a1 = 1 then F (I 1 1) I L else (if a1 = 2 then F (I 1 2) I L else (if a1 = 3 then F (I 1 3) I L else (if a1 = 4 then F (I 1 4) I L else (if a1 = 5 then F (I 28 0) I L else (if a1 = 6 then F (I 17 0) I L else (if a1 < 10 then F (-1) I L else EI d mX8_hasPlan [.ref 1, .int (a1 - 10)] I L (fun r1 I1 L1 => (if r1 = 0 then F (-1) I1 L1 else EI d mX8_sits [.ref 1, .int (a1 - 10)] I1 L1 (fun r2 I2 L2 => F r2 I2 L2)))))))))))) : EI (d + 1) mX11_count [.ref 0, .int a1] I L F := by
  refine Ev_of (ls0 := 0) (by decide +kernel) rfl rfl rfl ?_
  refine T_iload_n dX11_count_0 rfl ?_
  by_cases hc0 : a1 = 0
  · rw [if_pos hc0] at h
    refine T_tableIn (off := 43) (tgt := 44) dX11_count_1 (by rw [hc0]; decide +kernel) (by rw [hc0]; decide +kernel) (by rw [hc0]; decide +kernel) (by decide) ?_
    refine T_aload_n dX11_count_44 rfl ?_
    refine T_getr dX11_count_45 fl_RX11_19 shp_0 rfl ?_
    refine T_getv (v := (I 1 0)) dX11_count_48 fl_RX11_209 shp_1 rfl rfl ?_
    exact S_iret rfl dX11_count_51 h
  rw [if_neg hc0] at h
  by_cases hc1 : a1 = 1
  · rw [if_pos hc1] at h
    refine T_tableIn (off := 51) (tgt := 52) dX11_count_1 (by rw [hc1]; decide +kernel) (by rw [hc1]; decide +kernel) (by rw [hc1]; decide +kernel) (by decide) ?_
    refine T_aload_n dX11_count_52 rfl ?_
    refine T_getr dX11_count_53 fl_RX11_19 shp_0 rfl ?_
    refine T_getv (v := (I 1 1)) dX11_count_56 fl_RX11_216 shp_1 rfl rfl ?_
    exact S_iret rfl dX11_count_59 h
  rw [if_neg hc1] at h
  by_cases hc2 : a1 = 2
  · rw [if_pos hc2] at h
    refine T_tableIn (off := 59) (tgt := 60) dX11_count_1 (by rw [hc2]; decide +kernel) (by rw [hc2]; decide +kernel) (by rw [hc2]; decide +kernel) (by decide) ?_
    refine T_aload_n dX11_count_60 rfl ?_
    refine T_getr dX11_count_61 fl_RX11_19 shp_0 rfl ?_
    refine T_getv (v := (I 1 2)) dX11_count_64 fl_RX11_385 shp_1 rfl rfl ?_
    exact S_iret rfl dX11_count_67 h
  rw [if_neg hc2] at h
  by_cases hc3 : a1 = 3
  · rw [if_pos hc3] at h
    refine T_tableIn (off := 67) (tgt := 68) dX11_count_1 (by rw [hc3]; decide +kernel) (by rw [hc3]; decide +kernel) (by rw [hc3]; decide +kernel) (by decide) ?_
    refine T_aload_n dX11_count_68 rfl ?_
    refine T_getr dX11_count_69 fl_RX11_19 shp_0 rfl ?_
    refine T_getv (v := (I 1 3)) dX11_count_72 fl_RX11_388 shp_1 rfl rfl ?_
    exact S_iret rfl dX11_count_75 h
  rw [if_neg hc3] at h
  by_cases hc4 : a1 = 4
  · rw [if_pos hc4] at h
    refine T_tableIn (off := 75) (tgt := 76) dX11_count_1 (by rw [hc4]; decide +kernel) (by rw [hc4]; decide +kernel) (by rw [hc4]; decide +kernel) (by decide) ?_
    refine T_aload_n dX11_count_76 rfl ?_
    refine T_getr dX11_count_77 fl_RX11_19 shp_0 rfl ?_
    refine T_getv (v := (I 1 4)) dX11_count_80 fl_RX11_360 shp_1 rfl rfl ?_
    exact S_iret rfl dX11_count_83 h
  rw [if_neg hc4] at h
  by_cases hc5 : a1 = 5
  · rw [if_pos hc5] at h
    refine T_tableIn (off := 83) (tgt := 84) dX11_count_1 (by rw [hc5]; decide +kernel) (by rw [hc5]; decide +kernel) (by rw [hc5]; decide +kernel) (by decide) ?_
    refine T_aload_n dX11_count_84 rfl ?_
    refine T_getr dX11_count_85 fl_RX11_33 shp_0 rfl ?_
    refine T_getv (v := (I 28 0)) dX11_count_88 fl_RX11_176 shp_28 rfl rfl ?_
    exact S_iret rfl dX11_count_91 h
  rw [if_neg hc5] at h
  by_cases hc6 : a1 = 6
  · rw [if_pos hc6] at h
    refine T_tableIn (off := 91) (tgt := 92) dX11_count_1 (by rw [hc6]; decide +kernel) (by rw [hc6]; decide +kernel) (by rw [hc6]; decide +kernel) (by decide) ?_
    refine T_aload_n dX11_count_92 rfl ?_
    refine T_getr dX11_count_93 fl_RX11_12 shp_0 rfl ?_
    refine T_getv (v := (I 17 0)) dX11_count_96 fl_RX11_89 shp_17 rfl rfl ?_
    exact S_iret rfl dX11_count_99 h
  rw [if_neg hc6] at h
  have hout : a1.toInt < 0 ∨ 6 < a1.toInt := by
    have g0 := lv_neT (a := 0) hc0 (by decide +kernel)
    have g1 := lv_neT (a := 1) hc1 (by decide +kernel)
    have g2 := lv_neT (a := 2) hc2 (by decide +kernel)
    have g3 := lv_neT (a := 3) hc3 (by decide +kernel)
    have g4 := lv_neT (a := 4) hc4 (by decide +kernel)
    have g5 := lv_neT (a := 5) hc5 (by decide +kernel)
    have g6 := lv_neT (a := 6) hc6 (by decide +kernel)
    omega
  refine T_tableOut (tgt := 100) dX11_count_1 hout (by decide) ?_
  refine T_iload_n dX11_count_100 rfl ?_
  refine T_bipush (v := 10) dX11_count_101 (by decide +kernel) ?_
  refine T_icmp_lt (tgt := 134) dX11_count_103 (by decide) (tq_ite h (fun h => ?_) (fun h => ?_))
  ·
    refine T_iconst (v := (-1)) dX11_count_134 (by decide +kernel) ?_
    exact S_iret rfl dX11_count_135 h
  ·
    refine T_aload_n dX11_count_106 rfl ?_
    refine T_getr dX11_count_107 fl_RX11_19 shp_0 rfl ?_
    refine T_iload_n dX11_count_110 rfl ?_
    refine T_bipush (v := 10) dX11_count_111 (by decide +kernel) ?_
    refine T_isub dX11_count_113 ?_
    refine S_callVI (M' := mX8_hasPlan) [.int (a1 - 10)] [] dX11_count_114 ml_RX11_163 mkX8_hasPlan rfl shp_1 rfl rfl rfl (Nat.le_of_ble_eq_true rfl) h (fun r1 I1 L1 h => ?_)
    refine T_if_eq (tgt := 134) dX11_count_117 (by decide) (tq_ite h (fun h => ?_) (fun h => ?_))
    ·
      refine T_iconst (v := (-1)) dX11_count_134 (by decide +kernel) ?_
      exact S_iret rfl dX11_count_135 h
    ·
      refine T_aload_n dX11_count_120 rfl ?_
      refine T_getr dX11_count_121 fl_RX11_19 shp_0 rfl ?_
      refine T_iload_n dX11_count_124 rfl ?_
      refine T_bipush (v := 10) dX11_count_125 (by decide +kernel) ?_
      refine T_isub dX11_count_127 ?_
      refine S_callVI (M' := mX8_sits) [.int (a1 - 10)] [] dX11_count_128 ml_RX11_166 mkX8_sits rfl shp_1 rfl rfl rfl (Nat.le_of_ble_eq_true rfl) h (fun r2 I2 L2 h => ?_)
      refine T_goto (tgt := 135) dX11_count_131 (by decide) ?_
      exact S_iret rfl dX11_count_135 h

