theorem dX5_append_0 : decode cX5_append 0 = .ok (.bipush 24, 2) := by decide +kernel
theorem dX5_append_2 : decode cX5_append 2 = .ok (.istore_n 2, 1) := by decide +kernel
theorem dX5_append_3 : decode cX5_append 3 = .ok (.iload_n 2, 1) := by decide +kernel
theorem dX5_append_4 : decode cX5_append 4 = .ok (.ifCond .lt 42, 3) := by decide +kernel
theorem dX5_append_7 : decode cX5_append 7 = .ok (.aload_n 0, 1) := by decide +kernel
theorem dX5_append_8 : decode cX5_append 8 = .ok (.getfield 46, 3) := by decide +kernel
theorem dX5_append_11 : decode cX5_append 11 = .ok (.sipush 2000, 3) := by decide +kernel
theorem dX5_append_14 : decode cX5_append 14 = .ok (.if_icmp .ge 32, 3) := by decide +kernel
theorem dX5_append_17 : decode cX5_append 17 = .ok (.aload_n 0, 1) := by decide +kernel
theorem dX5_append_18 : decode cX5_append 18 = .ok (.getfield 22, 3) := by decide +kernel
theorem dX5_append_21 : decode cX5_append 21 = .ok (.aload_n 0, 1) := by decide +kernel
theorem dX5_append_22 : decode cX5_append 22 = .ok (.getfield 46, 3) := by decide +kernel
theorem dX5_append_25 : decode cX5_append 25 = .ok (.iload_n 1, 1) := by decide +kernel
theorem dX5_append_26 : decode cX5_append 26 = .ok (.iload_n 2, 1) := by decide +kernel
theorem dX5_append_27 : decode cX5_append 27 = .ok (.ishr, 1) := by decide +kernel
theorem dX5_append_28 : decode cX5_append 28 = .ok (.i2b, 1) := by decide +kernel
theorem dX5_append_29 : decode cX5_append 29 = .ok (.bastore, 1) := by decide +kernel
theorem dX5_append_30 : decode cX5_append 30 = .ok (.aload_n 0, 1) := by decide +kernel
theorem dX5_append_31 : decode cX5_append 31 = .ok (.dup, 1) := by decide +kernel
theorem dX5_append_32 : decode cX5_append 32 = .ok (.getfield 46, 3) := by decide +kernel
theorem dX5_append_35 : decode cX5_append 35 = .ok (.iconst 1, 1) := by decide +kernel
theorem dX5_append_36 : decode cX5_append 36 = .ok (.iadd, 1) := by decide +kernel
theorem dX5_append_37 : decode cX5_append 37 = .ok (.putfield 46, 3) := by decide +kernel
theorem dX5_append_40 : decode cX5_append 40 = .ok (.iinc 2 (-8), 3) := by decide +kernel
theorem dX5_append_43 : decode cX5_append 43 = .ok (.goto (-40), 3) := by decide +kernel
theorem dX5_append_46 : decode cX5_append 46 = .ok (.return_, 1) := by decide +kernel
set_option maxRecDepth 100000 in
theorem sgX5_append_0 {d : Nat} {I : st_I} {L : st_L} {F : st_I → st_L → Prop} {a1 : Int32} (h : TV d mX5_append 3 [.ref 17, .int a1, .int 24] [] I L F) : EV d mX5_append [.ref 17, .int a1] I L F := by
  refine Ev_of (ls0 := 1) (by decide +kernel) rfl rfl rfl ?_
  refine T_bipush (v := 24) dX5_append_0 (by decide +kernel) ?_
  refine T_istore_n (lv' := [.ref 17, .int a1, .int 24]) dX5_append_2 rfl (by decide) rfl ?_
  exact h

set_option maxRecDepth 100000 in
theorem sgX5_append_3 {d : Nat} {I : st_I} {L : st_L} {F : st_I → st_L → Prop} {x1 : Int32} {x2 : Int32} (h : (if x2 < 0 then F I L else (if 2000 ≤ (I 17 0) then F I L else vp_in (I 17 0) 2000 ∧ TV d mX5_append 3 [.ref 17, .int x1, .int (x2 + (-8))] [] (u_I (u_I I 18 ((I 17 0).toNatClampNeg) (((((x1 >>> (x2 &&& 31)) : Int32).toInt8.toInt32) : Int32).toInt8.toInt32)) 17 0 ((I 17 0) + 1)) L F))) : TV d mX5_append 3 [.ref 17, .int x1, .int x2] [] I L F := by
  refine T_iload_n dX5_append_3 rfl ?_
  refine T_if_lt (tgt := 46) dX5_append_4 (by decide) (tq_ite h (fun h => ?_) (fun h => ?_))
  ·
    exact S_vret rfl dX5_append_46 h
  ·
    refine T_aload_n dX5_append_7 rfl ?_
    refine T_getv (v := (I 17 0)) dX5_append_8 fl_RX5_46 shp_17 rfl rfl ?_
    refine T_sipush (v := 2000) dX5_append_11 (by decide +kernel) ?_
    refine T_icmp_ge (tgt := 46) dX5_append_14 (by decide) (tq_ite h (fun h => ?_) (fun h => ?_))
    ·
      exact S_vret rfl dX5_append_46 h
    ·
      refine T_aload_n dX5_append_17 rfl ?_
      refine T_getr dX5_append_18 fl_RX5_22 shp_17 rfl ?_
      refine T_aload_n dX5_append_21 rfl ?_
      refine T_getv (v := (I 17 0)) dX5_append_22 fl_RX5_46 shp_17 rfl rfl ?_
      refine T_iload_n dX5_append_25 rfl ?_
      refine T_iload_n dX5_append_26 rfl ?_
      refine T_ishr dX5_append_27 ?_
      refine T_i2b dX5_append_28 ?_
      refine T_bastv (j := (I 17 0).toNatClampNeg) (y := (((((x1 >>> (x2 &&& 31)) : Int32).toInt8.toInt32) : Int32).toInt8.toInt32)) dX5_append_29 shp_18 h.1 rfl (vp_nar_byte _) ?_
      replace h := h.2
      refine T_aload_n dX5_append_30 rfl ?_
      refine T_dup dX5_append_31 rfl ?_
      refine T_getv (v := (I 17 0)) dX5_append_32 fl_RX5_46 shp_17 rfl rfl ?_
      refine T_iconst (v := 1) dX5_append_35 (by decide +kernel) ?_
      refine T_iadd dX5_append_36 ?_
      refine T_puti dX5_append_37 fl_RX5_46 pf_5_0 shp_17 rfl rfl rfl ?_
      refine T_iinc (lv' := [.ref 17, .int x1, .int (x2 + (-8))]) dX5_append_40 rfl (by decide) rfl ?_
      refine T_goto (tgt := 3) dX5_append_43 (by decide) ?_
      exact h

theorem dX5_begin_0 : decode cX5_begin 0 = .ok (.aload_n 0, 1) := by decide +kernel
theorem dX5_begin_1 : decode cX5_begin 1 = .ok (.getfield 18, 3) := by decide +kernel
theorem dX5_begin_4 : decode cX5_begin 4 = .ok (.invokevirtual 49, 3) := by decide +kernel
theorem dX5_begin_7 : decode cX5_begin 7 = .ok (.aload_n 0, 1) := by decide +kernel
theorem dX5_begin_8 : decode cX5_begin 8 = .ok (.iconst 0, 1) := by decide +kernel
theorem dX5_begin_9 : decode cX5_begin 9 = .ok (.putfield 52, 3) := by decide +kernel
theorem dX5_begin_12 : decode cX5_begin 12 = .ok (.aload_n 0, 1) := by decide +kernel
theorem dX5_begin_13 : decode cX5_begin 13 = .ok (.iconst 0, 1) := by decide +kernel
theorem dX5_begin_14 : decode cX5_begin 14 = .ok (.putfield 55, 3) := by decide +kernel
theorem dX5_begin_17 : decode cX5_begin 17 = .ok (.aload_n 0, 1) := by decide +kernel
theorem dX5_begin_18 : decode cX5_begin 18 = .ok (.iconst 0, 1) := by decide +kernel
theorem dX5_begin_19 : decode cX5_begin 19 = .ok (.putfield 58, 3) := by decide +kernel
theorem dX5_begin_22 : decode cX5_begin 22 = .ok (.aload_n 0, 1) := by decide +kernel
theorem dX5_begin_23 : decode cX5_begin 23 = .ok (.iconst 0, 1) := by decide +kernel
theorem dX5_begin_24 : decode cX5_begin 24 = .ok (.putfield 61, 3) := by decide +kernel
theorem dX5_begin_27 : decode cX5_begin 27 = .ok (.aload_n 0, 1) := by decide +kernel
theorem dX5_begin_28 : decode cX5_begin 28 = .ok (.iconst 0, 1) := by decide +kernel
theorem dX5_begin_29 : decode cX5_begin 29 = .ok (.putfield 64, 3) := by decide +kernel
theorem dX5_begin_32 : decode cX5_begin 32 = .ok (.aload_n 0, 1) := by decide +kernel
theorem dX5_begin_33 : decode cX5_begin 33 = .ok (.invokevirtual 67, 3) := by decide +kernel
theorem dX5_begin_36 : decode cX5_begin 36 = .ok (.return_, 1) := by decide +kernel
set_option maxRecDepth 100000 in
theorem sgX5_begin_0 {d : Nat} {I : st_I} {L : st_L} {F : st_I → st_L → Prop}  (h : EV d mX8_clear [.ref 9] I L (fun I1 L1 => EV d mX5_scan [.ref 17] (u_I (u_I (u_I (u_I (u_I I1 17 6 0) 17 7 0) 17 8 0) 17 13 0) 17 18 0) L1 (fun I2 L2 => F I2 L2))) : EV (d + 1) mX5_begin [.ref 17] I L F := by
  refine Ev_of (ls0 := 0) (by decide +kernel) rfl rfl rfl ?_
  refine T_aload_n dX5_begin_0 rfl ?_
  refine T_getr dX5_begin_1 fl_RX5_18 shp_17 rfl ?_
  refine S_callVV (M' := mX8_clear) [] [] dX5_begin_4 ml_RX5_49 mkX8_clear rfl shp_9 rfl rfl rfl (Nat.le_of_ble_eq_true rfl) h (fun I1 L1 h => ?_)
  refine T_aload_n dX5_begin_7 rfl ?_
  refine T_iconst (v := 0) dX5_begin_8 (by decide +kernel) ?_
  refine T_puti dX5_begin_9 fl_RX5_52 pf_5_6 shp_17 rfl rfl rfl ?_
  refine T_aload_n dX5_begin_12 rfl ?_
  refine T_iconst (v := 0) dX5_begin_13 (by decide +kernel) ?_
  refine T_puti dX5_begin_14 fl_RX5_55 pf_5_7 shp_17 rfl rfl rfl ?_
  refine T_aload_n dX5_begin_17 rfl ?_
  refine T_iconst (v := 0) dX5_begin_18 (by decide +kernel) ?_
  refine T_puti dX5_begin_19 fl_RX5_58 pf_5_8 shp_17 rfl rfl rfl ?_
  refine T_aload_n dX5_begin_22 rfl ?_
  refine T_iconst (v := 0) dX5_begin_23 (by decide +kernel) ?_
  refine T_puti dX5_begin_24 fl_RX5_61 pf_5_13 shp_17 rfl rfl rfl ?_
  refine T_aload_n dX5_begin_27 rfl ?_
  refine T_iconst (v := 0) dX5_begin_28 (by decide +kernel) ?_
  refine T_puti dX5_begin_29 fl_RX5_64 pf_5_18 shp_17 rfl rfl rfl ?_
  refine T_aload_n dX5_begin_32 rfl ?_
  refine S_callVV (M' := mX5_scan) [] [] dX5_begin_33 ml_RX5_67 mkX5_scan rfl shp_17 rfl rfl rfl (Nat.le_of_ble_eq_true rfl) h (fun I2 L2 h => ?_)
  exact S_vret rfl dX5_begin_36 h

theorem dX5_hasMore_0 : decode cX5_hasMore 0 = .ok (.aload_n 0, 1) := by decide +kernel
theorem dX5_hasMore_1 : decode cX5_hasMore 1 = .ok (.getfield 55, 3) := by decide +kernel
theorem dX5_hasMore_4 : decode cX5_hasMore 4 = .ok (.ifCond .ne 19, 3) := by decide +kernel
theorem dX5_hasMore_7 : decode cX5_hasMore 7 = .ok (.aload_n 0, 1) := by decide +kernel
theorem dX5_hasMore_8 : decode cX5_hasMore 8 = .ok (.getfield 26, 3) := by decide +kernel
theorem dX5_hasMore_11 : decode cX5_hasMore 11 = .ok (.aload_n 0, 1) := by decide +kernel
theorem dX5_hasMore_12 : decode cX5_hasMore 12 = .ok (.getfield 52, 3) := by decide +kernel
theorem dX5_hasMore_15 : decode cX5_hasMore 15 = .ok (.iaload, 1) := by decide +kernel
theorem dX5_hasMore_16 : decode cX5_hasMore 16 = .ok (.ifCond .eq 7, 3) := by decide +kernel
theorem dX5_hasMore_19 : decode cX5_hasMore 19 = .ok (.iconst 1, 1) := by decide +kernel
theorem dX5_hasMore_20 : decode cX5_hasMore 20 = .ok (.goto 4, 3) := by decide +kernel
theorem dX5_hasMore_23 : decode cX5_hasMore 23 = .ok (.iconst 0, 1) := by decide +kernel
theorem dX5_hasMore_24 : decode cX5_hasMore 24 = .ok (.ireturn, 1) := by decide +kernel
set_option maxRecDepth 100000 in
theorem sgX5_hasMore_0 {d : Nat} {I : st_I} {L : st_L} {F : Int32 → st_I → st_L → Prop}  (h : (if (I 17 7) = 0 then vp_in (I 17 6) 401 ∧ (if (I 19 ((I 17 6).toNatClampNeg)) = 0 then F 0 I L else F 1 I L) else F 0 I L)) : EI d mX5_hasMore [.ref 17] I L F := by
  refine Ev_of (ls0 := 0) (by decide +kernel) rfl rfl rfl ?_
  refine T_aload_n dX5_hasMore_0 rfl ?_
  refine T_getv (v := (I 17 7)) dX5_hasMore_1 fl_RX5_55 shp_17 rfl rfl ?_
  refine T_if_ne (tgt := 23) dX5_hasMore_4 (by decide) (tq_ite h (fun h => ?_) (fun h => ?_))
  ·
    refine T_aload_n dX5_hasMore_7 rfl ?_
    refine T_getr dX5_hasMore_8 fl_RX5_26 shp_17 rfl ?_
    refine T_aload_n dX5_hasMore_11 rfl ?_
    refine T_getv (v := (I 17 6)) dX5_hasMore_12 fl_RX5_52 shp_17 rfl rfl ?_
    refine T_ialdv (v := (I 19 ((I 17 6).toNatClampNeg))) (j := (I 17 6).toNatClampNeg) dX5_hasMore_15 shp_19 h.1 rfl rfl ?_
    replace h := h.2
    refine T_if_eq (tgt := 23) dX5_hasMore_16 (by decide) (tq_ite h (fun h => ?_) (fun h => ?_))
    ·
      refine T_iconst (v := 0) dX5_hasMore_23 (by decide +kernel) ?_
      exact S_zret rfl dX5_hasMore_24 (by decide) h
    ·
      refine T_iconst (v := 1) dX5_hasMore_19 (by decide +kernel) ?_
      refine T_goto (tgt := 24) dX5_hasMore_20 (by decide) ?_
      exact S_zret rfl dX5_hasMore_24 (by decide) h
  ·
    refine T_iconst (v := 0) dX5_hasMore_23 (by decide +kernel) ?_
    exact S_zret rfl dX5_hasMore_24 (by decide) h

theorem dX5_end_0 : decode cX5_end 0 = .ok (.aload_n 0, 1) := by decide +kernel
theorem dX5_end_1 : decode cX5_end 1 = .ok (.aload_n 0, 1) := by decide +kernel
theorem dX5_end_2 : decode cX5_end 2 = .ok (.getfield 55, 3) := by decide +kernel
theorem dX5_end_5 : decode cX5_end 5 = .ok (.ifCond .ne 7, 3) := by decide +kernel
theorem dX5_end_8 : decode cX5_end 8 = .ok (.iconst (-1), 1) := by decide +kernel
theorem dX5_end_9 : decode cX5_end 9 = .ok (.goto 12, 3) := by decide +kernel
theorem dX5_end_12 : decode cX5_end 12 = .ok (.aload_n 0, 1) := by decide +kernel
theorem dX5_end_13 : decode cX5_end 13 = .ok (.getfield 30, 3) := by decide +kernel
theorem dX5_end_16 : decode cX5_end 16 = .ok (.aload_n 0, 1) := by decide +kernel
theorem dX5_end_17 : decode cX5_end 17 = .ok (.getfield 52, 3) := by decide +kernel
theorem dX5_end_20 : decode cX5_end 20 = .ok (.iaload, 1) := by decide +kernel
theorem dX5_end_21 : decode cX5_end 21 = .ok (.putfield 9, 3) := by decide +kernel
theorem dX5_end_24 : decode cX5_end 24 = .ok (.aload_n 0, 1) := by decide +kernel
theorem dX5_end_25 : decode cX5_end 25 = .ok (.getfield 55, 3) := by decide +kernel
theorem dX5_end_28 : decode cX5_end 28 = .ok (.ifCond .ne 26, 3) := by decide +kernel
theorem dX5_end_31 : decode cX5_end 31 = .ok (.aload_n 0, 1) := by decide +kernel
theorem dX5_end_32 : decode cX5_end 32 = .ok (.getfield 58, 3) := by decide +kernel
theorem dX5_end_35 : decode cX5_end 35 = .ok (.ifCond .eq 19, 3) := by decide +kernel
theorem dX5_end_38 : decode cX5_end 38 = .ok (.aload_n 0, 1) := by decide +kernel
theorem dX5_end_39 : decode cX5_end 39 = .ok (.aload_n 0, 1) := by decide +kernel
theorem dX5_end_40 : decode cX5_end 40 = .ok (.getfield 58, 3) := by decide +kernel
theorem dX5_end_43 : decode cX5_end 43 = .ok (.putfield 55, 3) := by decide +kernel
theorem dX5_end_46 : decode cX5_end 46 = .ok (.aload_n 0, 1) := by decide +kernel
theorem dX5_end_47 : decode cX5_end 47 = .ok (.aload_n 0, 1) := by decide +kernel
theorem dX5_end_48 : decode cX5_end 48 = .ok (.getfield 70, 3) := by decide +kernel
theorem dX5_end_51 : decode cX5_end 51 = .ok (.putfield 9, 3) := by decide +kernel
theorem dX5_end_54 : decode cX5_end 54 = .ok (.aload_n 0, 1) := by decide +kernel
theorem dX5_end_55 : decode cX5_end 55 = .ok (.iconst 0, 1) := by decide +kernel
theorem dX5_end_56 : decode cX5_end 56 = .ok (.putfield 46, 3) := by decide +kernel
theorem dX5_end_59 : decode cX5_end 59 = .ok (.aload_n 0, 1) := by decide +kernel
theorem dX5_end_60 : decode cX5_end 60 = .ok (.getfield 55, 3) := by decide +kernel
theorem dX5_end_63 : decode cX5_end 63 = .ok (.ireturn, 1) := by decide +kernel
set_option maxRecDepth 100000 in
theorem sgX5_end_0 {d : Nat} {I : st_I} {L : st_L} {F : Int32 → st_I → st_L → Prop}  (h : (if (I 17 7) = 0 then TI d mX5_end 21 [.ref 17] [.int (-1), .ref 17] I L F else vp_in (I 17 6) 401 ∧ TI d mX5_end 21 [.ref 17] [.int (I 20 ((I 17 6).toNatClampNeg)), .ref 17] I L F)) : EI d mX5_end [.ref 17] I L F := by
  refine Ev_of (ls0 := 0) (by decide +kernel) rfl rfl rfl ?_
  refine T_aload_n dX5_end_0 rfl ?_
  refine T_aload_n dX5_end_1 rfl ?_
  refine T_getv (v := (I 17 7)) dX5_end_2 fl_RX5_55 shp_17 rfl rfl ?_
  refine T_if_ne (tgt := 12) dX5_end_5 (by decide) (tq_ite h (fun h => ?_) (fun h => ?_))
  ·
    refine T_iconst (v := (-1)) dX5_end_8 (by decide +kernel) ?_
    refine T_goto (tgt := 21) dX5_end_9 (by decide) ?_
    exact h
  ·
    refine T_aload_n dX5_end_12 rfl ?_
    refine T_getr dX5_end_13 fl_RX5_30 shp_17 rfl ?_
    refine T_aload_n dX5_end_16 rfl ?_
    refine T_getv (v := (I 17 6)) dX5_end_17 fl_RX5_52 shp_17 rfl rfl ?_
    refine T_ialdv (v := (I 20 ((I 17 6).toNatClampNeg))) (j := (I 17 6).toNatClampNeg) dX5_end_20 shp_20 h.1 rfl rfl ?_
    replace h := h.2
    exact h

set_option maxRecDepth 100000 in
theorem sgX5_end_21 {d : Nat} {I : st_I} {L : st_L} {F : Int32 → st_I → st_L → Prop} {s1 : Int32} (h : (if (I 17 7) = 0 then (if (I 17 8) = 0 then F (I 17 7) (u_I (u_I I 17 1 s1) 17 0 0) L else F (I 17 8) (u_I (u_I (u_I (u_I I 17 1 s1) 17 7 (I 17 8)) 17 1 (I 17 9)) 17 0 0) L) else F (I 17 7) (u_I (u_I I 17 1 s1) 17 0 0) L)) : TI d mX5_end 21 [.ref 17] [.int s1, .ref 17] I L F := by
  refine T_puti dX5_end_21 fl_RX5_9 pf_5_1 shp_17 rfl rfl rfl ?_
  refine T_aload_n dX5_end_24 rfl ?_
  refine T_getv (v := (I 17 7)) dX5_end_25 fl_RX5_55 shp_17 rfl rfl ?_
  refine T_if_ne (tgt := 54) dX5_end_28 (by decide) (tq_ite h (fun h => ?_) (fun h => ?_))
  ·
    refine T_aload_n dX5_end_31 rfl ?_
    refine T_getv (v := (I 17 8)) dX5_end_32 fl_RX5_58 shp_17 rfl rfl ?_
    refine T_if_eq (tgt := 54) dX5_end_35 (by decide) (tq_ite h (fun h => ?_) (fun h => ?_))
    ·
      refine T_aload_n dX5_end_54 rfl ?_
      refine T_iconst (v := 0) dX5_end_55 (by decide +kernel) ?_
      refine T_puti dX5_end_56 fl_RX5_46 pf_5_0 shp_17 rfl rfl rfl ?_
      refine T_aload_n dX5_end_59 rfl ?_
      refine T_getv (v := (I 17 7)) dX5_end_60 fl_RX5_55 shp_17 rfl rfl ?_
      exact S_iret rfl dX5_end_63 h
    ·
      refine T_aload_n dX5_end_38 rfl ?_
      refine T_aload_n dX5_end_39 rfl ?_
      refine T_getv (v := (I 17 8)) dX5_end_40 fl_RX5_58 shp_17 rfl rfl ?_
      refine T_puti dX5_end_43 fl_RX5_55 pf_5_7 shp_17 rfl rfl rfl ?_
      refine T_aload_n dX5_end_46 rfl ?_
      refine T_aload_n dX5_end_47 rfl ?_
      refine T_getv (v := (I 17 9)) dX5_end_48 fl_RX5_70 shp_17 rfl rfl ?_
      refine T_puti dX5_end_51 fl_RX5_9 pf_5_1 shp_17 rfl rfl rfl ?_
      refine T_aload_n dX5_end_54 rfl ?_
      refine T_iconst (v := 0) dX5_end_55 (by decide +kernel) ?_
      refine T_puti dX5_end_56 fl_RX5_46 pf_5_0 shp_17 rfl rfl rfl ?_
      refine T_aload_n dX5_end_59 rfl ?_
      refine T_getv (v := (I 17 8)) dX5_end_60 fl_RX5_55 shp_17 rfl rfl ?_
      exact S_iret rfl dX5_end_63 h
  ·
    refine T_aload_n dX5_end_54 rfl ?_
    refine T_iconst (v := 0) dX5_end_55 (by decide +kernel) ?_
    refine T_puti dX5_end_56 fl_RX5_46 pf_5_0 shp_17 rfl rfl rfl ?_
    refine T_aload_n dX5_end_59 rfl ?_
    refine T_getv (v := (I 17 7)) dX5_end_60 fl_RX5_55 shp_17 rfl rfl ?_
    exact S_iret rfl dX5_end_63 h

theorem dX5_scan_0 : decode cX5_scan 0 = .ok (.iconst 0, 1) := by decide +kernel
theorem dX5_scan_1 : decode cX5_scan 1 = .ok (.istore_n 1, 1) := by decide +kernel
theorem dX5_scan_2 : decode cX5_scan 2 = .ok (.iconst 0, 1) := by decide +kernel
theorem dX5_scan_3 : decode cX5_scan 3 = .ok (.istore_n 2, 1) := by decide +kernel
theorem dX5_scan_4 : decode cX5_scan 4 = .ok (.iload_n 2, 1) := by decide +kernel
theorem dX5_scan_5 : decode cX5_scan 5 = .ok (.sipush 400, 3) := by decide +kernel
theorem dX5_scan_8 : decode cX5_scan 8 = .ok (.if_icmp .gt 82, 3) := by decide +kernel
theorem dX5_scan_11 : decode cX5_scan 11 = .ok (.iload_n 1, 1) := by decide +kernel
theorem dX5_scan_12 : decode cX5_scan 12 = .ok (.aload_n 0, 1) := by decide +kernel
theorem dX5_scan_13 : decode cX5_scan 13 = .ok (.getfield 46, 3) := by decide +kernel
theorem dX5_scan_16 : decode cX5_scan 16 = .ok (.if_icmp .ge 21, 3) := by decide +kernel
theorem dX5_scan_19 : decode cX5_scan 19 = .ok (.aload_n 0, 1) := by decide +kernel
theorem dX5_scan_20 : decode cX5_scan 20 = .ok (.getfield 22, 3) := by decide +kernel
theorem dX5_scan_23 : decode cX5_scan 23 = .ok (.iload_n 1, 1) := by decide +kernel
theorem dX5_scan_24 : decode cX5_scan 24 = .ok (.baload, 1) := by decide +kernel
theorem dX5_scan_25 : decode cX5_scan 25 = .ok (.invokestatic 73, 3) := by decide +kernel
theorem dX5_scan_28 : decode cX5_scan 28 = .ok (.ifCond .eq 9, 3) := by decide +kernel
theorem dX5_scan_31 : decode cX5_scan 31 = .ok (.iinc 1 1, 3) := by decide +kernel
theorem dX5_scan_34 : decode cX5_scan 34 = .ok (.goto (-23), 3) := by decide +kernel
theorem dX5_scan_37 : decode cX5_scan 37 = .ok (.aload_n 0, 1) := by decide +kernel
theorem dX5_scan_38 : decode cX5_scan 38 = .ok (.iload_n 1, 1) := by decide +kernel
theorem dX5_scan_39 : decode cX5_scan 39 = .ok (.invokevirtual 77, 3) := by decide +kernel
theorem dX5_scan_42 : decode cX5_scan 42 = .ok (.istore_n 3, 1) := by decide +kernel
theorem dX5_scan_43 : decode cX5_scan 43 = .ok (.aload_n 0, 1) := by decide +kernel
theorem dX5_scan_44 : decode cX5_scan 44 = .ok (.getfield 30, 3) := by decide +kernel
theorem dX5_scan_47 : decode cX5_scan 47 = .ok (.iload_n 2, 1) := by decide +kernel
theorem dX5_scan_48 : decode cX5_scan 48 = .ok (.iload_n 1, 1) := by decide +kernel
theorem dX5_scan_49 : decode cX5_scan 49 = .ok (.iastore, 1) := by decide +kernel
theorem dX5_scan_50 : decode cX5_scan 50 = .ok (.aload_n 0, 1) := by decide +kernel
theorem dX5_scan_51 : decode cX5_scan 51 = .ok (.getfield 26, 3) := by decide +kernel
theorem dX5_scan_54 : decode cX5_scan 54 = .ok (.iload_n 2, 1) := by decide +kernel
theorem dX5_scan_55 : decode cX5_scan 55 = .ok (.aload_n 0, 1) := by decide +kernel
theorem dX5_scan_56 : decode cX5_scan 56 = .ok (.iload_n 1, 1) := by decide +kernel
theorem dX5_scan_57 : decode cX5_scan 57 = .ok (.iload_n 3, 1) := by decide +kernel
theorem dX5_scan_58 : decode cX5_scan 58 = .ok (.invokevirtual 81, 3) := by decide +kernel
theorem dX5_scan_61 : decode cX5_scan 61 = .ok (.iastore, 1) := by decide +kernel
theorem dX5_scan_62 : decode cX5_scan 62 = .ok (.aload_n 0, 1) := by decide +kernel
theorem dX5_scan_63 : decode cX5_scan 63 = .ok (.getfield 26, 3) := by decide +kernel
theorem dX5_scan_66 : decode cX5_scan 66 = .ok (.iload_n 2, 1) := by decide +kernel
theorem dX5_scan_67 : decode cX5_scan 67 = .ok (.iaload, 1) := by decide +kernel
theorem dX5_scan_68 : decode cX5_scan 68 = .ok (.ifCond .eq 13, 3) := by decide +kernel
theorem dX5_scan_71 : decode cX5_scan 71 = .ok (.aload_n 0, 1) := by decide +kernel
theorem dX5_scan_72 : decode cX5_scan 72 = .ok (.getfield 26, 3) := by decide +kernel
theorem dX5_scan_75 : decode cX5_scan 75 = .ok (.iload_n 2, 1) := by decide +kernel
theorem dX5_scan_76 : decode cX5_scan 76 = .ok (.iaload, 1) := by decide +kernel
theorem dX5_scan_77 : decode cX5_scan 77 = .ok (.iconst 1, 1) := by decide +kernel
theorem dX5_scan_78 : decode cX5_scan 78 = .ok (.if_icmp .ne 4, 3) := by decide +kernel
theorem dX5_scan_81 : decode cX5_scan 81 = .ok (.return_, 1) := by decide +kernel
theorem dX5_scan_82 : decode cX5_scan 82 = .ok (.iload_n 3, 1) := by decide +kernel
theorem dX5_scan_83 : decode cX5_scan 83 = .ok (.istore_n 1, 1) := by decide +kernel
theorem dX5_scan_84 : decode cX5_scan 84 = .ok (.iinc 2 1, 3) := by decide +kernel
theorem dX5_scan_87 : decode cX5_scan 87 = .ok (.goto (-83), 3) := by decide +kernel
theorem dX5_scan_90 : decode cX5_scan 90 = .ok (.return_, 1) := by decide +kernel
set_option maxRecDepth 100000 in
theorem sgX5_scan_0 {d : Nat} {I : st_I} {L : st_L} {F : st_I → st_L → Prop}  (h : TV (d + 1) mX5_scan 4 [.ref 17, .int 0, .int 0, .null] [] I L F) : EV (d + 1) mX5_scan [.ref 17] I L F := by
  refine Ev_of (ls0 := 3) (by decide +kernel) rfl rfl rfl ?_
  refine T_iconst (v := 0) dX5_scan_0 (by decide +kernel) ?_
  refine T_istore_n (lv' := [.ref 17, .int 0, .null, .null]) dX5_scan_1 rfl (by decide) rfl ?_
  refine T_iconst (v := 0) dX5_scan_2 (by decide +kernel) ?_
  refine T_istore_n (lv' := [.ref 17, .int 0, .int 0, .null]) dX5_scan_3 rfl (by decide) rfl ?_
  exact h

set_option maxRecDepth 100000 in
theorem sgX5_scan_4 {d : Nat} {I : st_I} {L : st_L} {F : st_I → st_L → Prop} {x1 : Int32} {x2 : Int32} (h : (if 400 < x2 then F I L else TV (d + 1) mX5_scan 11 [.ref 17, .int x1, .int x2, .null] [] I L F)) : TV (d + 1) mX5_scan 4 [.ref 17, .int x1, .int x2, .null] [] I L F := by
  refine T_iload_n dX5_scan_4 rfl ?_
  refine T_sipush (v := 400) dX5_scan_5 (by decide +kernel) ?_
  refine T_icmp_gt (tgt := 90) dX5_scan_8 (by decide) (tq_ite h (fun h => ?_) (fun h => ?_))
  ·
    exact S_vret rfl dX5_scan_90 h
  ·
    exact h

set_option maxRecDepth 100000 in
theorem sgX5_scan_11 {d : Nat} {I : st_I} {L : st_L} {F : st_I → st_L → Prop} {x1 : Int32} {x2 : Int32} (h : (if (I 17 0) ≤ x1 then TV (d + 1) mX5_scan 37 [.ref 17, .int x1, .int x2, .null] [] I L F else vp_in x1 2000 ∧ EI d mX5_isBlank [.int (I 18 (x1.toNatClampNeg))] I L (fun r1 I1 L1 => (if r1 = 0 then TV (d + 1) mX5_scan 37 [.ref 17, .int x1, .int x2, .null] [] I1 L1 F else TV (d + 1) mX5_scan 11 [.ref 17, .int (x1 + 1), .int x2, .null] [] I1 L1 F)))) : TV (d + 1) mX5_scan 11 [.ref 17, .int x1, .int x2, .null] [] I L F := by
  refine T_iload_n dX5_scan_11 rfl ?_
  refine T_aload_n dX5_scan_12 rfl ?_
  refine T_getv (v := (I 17 0)) dX5_scan_13 fl_RX5_46 shp_17 rfl rfl ?_
  refine T_icmp_ge (tgt := 37) dX5_scan_16 (by decide) (tq_ite h (fun h => ?_) (fun h => ?_))
  ·
    exact h
  ·
    refine T_aload_n dX5_scan_19 rfl ?_
    refine T_getr dX5_scan_20 fl_RX5_22 shp_17 rfl ?_
    refine T_iload_n dX5_scan_23 rfl ?_
    refine T_baldv (v := (I 18 (x1.toNatClampNeg))) (j := x1.toNatClampNeg) dX5_scan_24 shp_18 h.1 rfl rfl ?_
    replace h := h.2
    refine S_callSI (M' := mX5_isBlank) [.int (I 18 (x1.toNatClampNeg))] [] dX5_scan_25 ml_RX5_73 mkX5_isBlank rfl rfl (Nat.le_of_ble_eq_true rfl) h (fun r1 I1 L1 h => ?_)
    refine T_if_eq (tgt := 37) dX5_scan_28 (by decide) (tq_ite h (fun h => ?_) (fun h => ?_))
    ·
      exact h
    ·
      refine T_iinc (lv' := [.ref 17, .int (x1 + 1), .int x2, .null]) dX5_scan_31 rfl (by decide) rfl ?_
      refine T_goto (tgt := 11) dX5_scan_34 (by decide) ?_
      exact h

set_option maxRecDepth 100000 in
theorem sgX5_scan_37 {d : Nat} {I : st_I} {L : st_L} {F : st_I → st_L → Prop} {x1 : Int32} {x2 : Int32} (h : EI d mX5_endOf [.ref 17, .int x1] I L (fun r1 I1 L1 => vp_in x2 401 ∧ EI d mX5_kindOf [.ref 17, .int x1, .int r1] (u_I I1 20 (x2.toNatClampNeg) x1) L1 (fun r2 I2 L2 => vp_in x2 401 ∧ vp_in x2 401 ∧ (if ((u_I I2 19 (x2.toNatClampNeg) r2) 19 (x2.toNatClampNeg)) = 0 then F (u_I I2 19 (x2.toNatClampNeg) r2) L2 else vp_in x2 401 ∧ (if ((u_I I2 19 (x2.toNatClampNeg) r2) 19 (x2.toNatClampNeg)) = 1 then F (u_I I2 19 (x2.toNatClampNeg) r2) L2 else TV (d + 1) mX5_scan 4 [.ref 17, .int r1, .int (x2 + 1), .null] [] (u_I I2 19 (x2.toNatClampNeg) r2) L2 F))))) : TV (d + 1) mX5_scan 37 [.ref 17, .int x1, .int x2, .null] [] I L F := by
  refine T_aload_n dX5_scan_37 rfl ?_
  refine T_iload_n dX5_scan_38 rfl ?_
  refine S_callVI (M' := mX5_endOf) [.int x1] [] dX5_scan_39 ml_RX5_77 mkX5_endOf rfl shp_17 rfl rfl rfl (Nat.le_of_ble_eq_true rfl) h (fun r1 I1 L1 h => ?_)
  refine T_istore_n (lv' := [.ref 17, .int x1, .int x2, .int r1]) dX5_scan_42 rfl (by decide) rfl ?_
  refine T_aload_n dX5_scan_43 rfl ?_
  refine T_getr dX5_scan_44 fl_RX5_30 shp_17 rfl ?_
  refine T_iload_n dX5_scan_47 rfl ?_
  refine T_iload_n dX5_scan_48 rfl ?_
  refine T_iastv (j := x2.toNatClampNeg) dX5_scan_49 shp_20 h.1 rfl ?_
  replace h := h.2
  refine T_aload_n dX5_scan_50 rfl ?_
  refine T_getr dX5_scan_51 fl_RX5_26 shp_17 rfl ?_
  refine T_iload_n dX5_scan_54 rfl ?_
  refine T_aload_n dX5_scan_55 rfl ?_
  refine T_iload_n dX5_scan_56 rfl ?_
  refine T_iload_n dX5_scan_57 rfl ?_
  refine S_callVI (M' := mX5_kindOf) [.int x1, .int r1] [.int x2, .ref 19] dX5_scan_58 ml_RX5_81 mkX5_kindOf rfl shp_17 rfl rfl rfl (Nat.le_of_ble_eq_true rfl) h (fun r2 I2 L2 h => ?_)
  refine T_iastv (j := x2.toNatClampNeg) dX5_scan_61 shp_19 h.1 rfl ?_
  replace h := h.2
  refine T_aload_n dX5_scan_62 rfl ?_
  refine T_getr dX5_scan_63 fl_RX5_26 shp_17 rfl ?_
  refine T_iload_n dX5_scan_66 rfl ?_
  refine T_ialdv (v := ((u_I I2 19 (x2.toNatClampNeg) r2) 19 (x2.toNatClampNeg))) (j := x2.toNatClampNeg) dX5_scan_67 shp_19 h.1 rfl rfl ?_
  replace h := h.2
  refine T_if_eq (tgt := 81) dX5_scan_68 (by decide) (tq_ite h (fun h => ?_) (fun h => ?_))
  ·
    exact S_vret rfl dX5_scan_81 h
  ·
    refine T_aload_n dX5_scan_71 rfl ?_
    refine T_getr dX5_scan_72 fl_RX5_26 shp_17 rfl ?_
    refine T_iload_n dX5_scan_75 rfl ?_
    refine T_ialdv (v := ((u_I I2 19 (x2.toNatClampNeg) r2) 19 (x2.toNatClampNeg))) (j := x2.toNatClampNeg) dX5_scan_76 shp_19 h.1 rfl rfl ?_
    replace h := h.2
    refine T_iconst (v := 1) dX5_scan_77 (by decide +kernel) ?_
    refine T_icmp_ne (tgt := 82) dX5_scan_78 (by decide) (tq_ite h (fun h => ?_) (fun h => ?_))
    ·
      exact S_vret rfl dX5_scan_81 h
    ·
      refine T_iload_n dX5_scan_82 rfl ?_
      refine T_istore_n (lv' := [.ref 17, .int r1, .int x2, .int r1]) dX5_scan_83 rfl (by decide) rfl ?_
      refine T_iinc (lv' := [.ref 17, .int r1, .int (x2 + 1), .int r1]) dX5_scan_84 rfl (by decide) rfl ?_
      refine T_goto (tgt := 4) dX5_scan_87 (by decide) ?_
      exact T_wk (lv' := [.ref 17, .int r1, .int (x2 + 1), .null]) ⟨Or.inr rfl, Or.inr rfl, Or.inr rfl, Or.inl rfl, trivial⟩ h

theorem dX5_isBlank_0 : decode cX5_isBlank 0 = .ok (.iload_n 0, 1) := by decide +kernel
theorem dX5_isBlank_1 : decode cX5_isBlank 1 = .ok (.bipush 9, 2) := by decide +kernel
theorem dX5_isBlank_3 : decode cX5_isBlank 3 = .ok (.if_icmp .eq 21, 3) := by decide +kernel
theorem dX5_isBlank_6 : decode cX5_isBlank 6 = .ok (.iload_n 0, 1) := by decide +kernel
theorem dX5_isBlank_7 : decode cX5_isBlank 7 = .ok (.bipush 10, 2) := by decide +kernel
theorem dX5_isBlank_9 : decode cX5_isBlank 9 = .ok (.if_icmp .eq 15, 3) := by decide +kernel
theorem dX5_isBlank_12 : decode cX5_isBlank 12 = .ok (.iload_n 0, 1) := by decide +kernel
theorem dX5_isBlank_13 : decode cX5_isBlank 13 = .ok (.bipush 13, 2) := by decide +kernel
theorem dX5_isBlank_15 : decode cX5_isBlank 15 = .ok (.if_icmp .eq 9, 3) := by decide +kernel
theorem dX5_isBlank_18 : decode cX5_isBlank 18 = .ok (.iload_n 0, 1) := by decide +kernel
theorem dX5_isBlank_19 : decode cX5_isBlank 19 = .ok (.bipush 32, 2) := by decide +kernel
theorem dX5_isBlank_21 : decode cX5_isBlank 21 = .ok (.if_icmp .ne 7, 3) := by decide +kernel
theorem dX5_isBlank_24 : decode cX5_isBlank 24 = .ok (.iconst 1, 1) := by decide +kernel
theorem dX5_isBlank_25 : decode cX5_isBlank 25 = .ok (.goto 4, 3) := by decide +kernel
theorem dX5_isBlank_28 : decode cX5_isBlank 28 = .ok (.iconst 0, 1) := by decide +kernel
theorem dX5_isBlank_29 : decode cX5_isBlank 29 = .ok (.ireturn, 1) := by decide +kernel
set_option maxRecDepth 100000 in
theorem sgX5_isBlank_0 {d : Nat} {I : st_I} {L : st_L} {F : Int32 → st_I → st_L → Prop} {a1 : Int32} (h : F (if a1 = 9 then (1 : Int32) else (if a1 = 10 then (1 : Int32) else (if a1 = 13 then (1 : Int32) else (if a1 = 32 then (1 : Int32) else 0)))) I L) : EI d mX5_isBlank [.int a1] I L F := by
  refine Ev_of (ls0 := 0) (by decide +kernel) rfl rfl rfl ?_
  refine T_iload_n dX5_isBlank_0 rfl ?_
  refine T_bipush (v := 9) dX5_isBlank_1 (by decide +kernel) ?_
  refine T_icmp_eq (tgt := 24) dX5_isBlank_3 (by decide) (tq_itv (fun v => T shp d mX5_isBlank 29 [.int a1] (.int v :: []) I L (kI F)) 1 (if a1 = 10 then (1 : Int32) else (if a1 = 13 then (1 : Int32) else (if a1 = 32 then (1 : Int32) else 0))) (fun hJ => ?_) (fun hJ => ?_) ?_)
  ·
      refine T_iconst (v := 1) dX5_isBlank_24 (by decide +kernel) ?_
      refine T_goto (tgt := 29) dX5_isBlank_25 (by decide) ?_
      exact hJ
  ·
      refine T_iload_n dX5_isBlank_6 rfl ?_
      refine T_bipush (v := 10) dX5_isBlank_7 (by decide +kernel) ?_
      refine T_icmp_eq (tgt := 24) dX5_isBlank_9 (by decide) (tq_itv (fun v => T shp d mX5_isBlank 29 [.int a1] (.int v :: []) I L (kI F)) 1 (if a1 = 13 then (1 : Int32) else (if a1 = 32 then (1 : Int32) else 0)) (fun hJ => ?_) (fun hJ => ?_) hJ)
      ·
        refine T_iconst (v := 1) dX5_isBlank_24 (by decide +kernel) ?_
        refine T_goto (tgt := 29) dX5_isBlank_25 (by decide) ?_
        exact hJ
      ·
        refine T_iload_n dX5_isBlank_12 rfl ?_
        refine T_bipush (v := 13) dX5_isBlank_13 (by decide +kernel) ?_
        refine T_icmp_eq (tgt := 24) dX5_isBlank_15 (by decide) (tq_itv (fun v => T shp d mX5_isBlank 29 [.int a1] (.int v :: []) I L (kI F)) 1 (if a1 = 32 then (1 : Int32) else 0) (fun hJ => ?_) (fun hJ => ?_) hJ)
        ·
          refine T_iconst (v := 1) dX5_isBlank_24 (by decide +kernel) ?_
          refine T_goto (tgt := 29) dX5_isBlank_25 (by decide) ?_
          exact hJ
        ·
          refine T_iload_n dX5_isBlank_18 rfl ?_
          refine T_bipush (v := 32) dX5_isBlank_19 (by decide +kernel) ?_
          refine T_icmp_ne (tgt := 28) dX5_isBlank_21 (by decide) (tq_itv (fun v => T shp d mX5_isBlank 29 [.int a1] (.int v :: []) I L (kI F)) 1 0 (fun hJ => ?_) (fun hJ => ?_) hJ)
          ·
            refine T_iconst (v := 1) dX5_isBlank_24 (by decide +kernel) ?_
            refine T_goto (tgt := 29) dX5_isBlank_25 (by decide) ?_
            exact hJ
          ·
            refine T_iconst (v := 0) dX5_isBlank_28 (by decide +kernel) ?_
            exact hJ
  exact S_zret rfl dX5_isBlank_29 (by (repeat' split) <;> first | exact Or.inl rfl | exact Or.inr rfl) h

theorem dX5_isLetter_0 : decode cX5_isLetter 0 = .ok (.iload_n 1, 1) := by decide +kernel
theorem dX5_isLetter_1 : decode cX5_isLetter 1 = .ok (.aload_n 0, 1) := by decide +kernel
theorem dX5_isLetter_2 : decode cX5_isLetter 2 = .ok (.getfield 46, 3) := by decide +kernel
theorem dX5_isLetter_5 : decode cX5_isLetter 5 = .ok (.if_icmp .ge 29, 3) := by decide +kernel
theorem dX5_isLetter_8 : decode cX5_isLetter 8 = .ok (.aload_n 0, 1) := by decide +kernel
theorem dX5_isLetter_9 : decode cX5_isLetter 9 = .ok (.getfield 22, 3) := by decide +kernel
theorem dX5_isLetter_12 : decode cX5_isLetter 12 = .ok (.iload_n 1, 1) := by decide +kernel
theorem dX5_isLetter_13 : decode cX5_isLetter 13 = .ok (.baload, 1) := by decide +kernel
theorem dX5_isLetter_14 : decode cX5_isLetter 14 = .ok (.bipush 97, 2) := by decide +kernel
theorem dX5_isLetter_16 : decode cX5_isLetter 16 = .ok (.if_icmp .lt 18, 3) := by decide +kernel
theorem dX5_isLetter_19 : decode cX5_isLetter 19 = .ok (.aload_n 0, 1) := by decide +kernel
theorem dX5_isLetter_20 : decode cX5_isLetter 20 = .ok (.getfield 22, 3) := by decide +kernel
theorem dX5_isLetter_23 : decode cX5_isLetter 23 = .ok (.iload_n 1, 1) := by decide +kernel
theorem dX5_isLetter_24 : decode cX5_isLetter 24 = .ok (.baload, 1) := by decide +kernel
theorem dX5_isLetter_25 : decode cX5_isLetter 25 = .ok (.bipush 122, 2) := by decide +kernel
theorem dX5_isLetter_27 : decode cX5_isLetter 27 = .ok (.if_icmp .gt 7, 3) := by decide +kernel
theorem dX5_isLetter_30 : decode cX5_isLetter 30 = .ok (.iconst 1, 1) := by decide +kernel
theorem dX5_isLetter_31 : decode cX5_isLetter 31 = .ok (.goto 4, 3) := by decide +kernel
theorem dX5_isLetter_34 : decode cX5_isLetter 34 = .ok (.iconst 0, 1) := by decide +kernel
theorem dX5_isLetter_35 : decode cX5_isLetter 35 = .ok (.ireturn, 1) := by decide +kernel
set_option maxRecDepth 100000 in
theorem sgX5_isLetter_0 {d : Nat} {I : st_I} {L : st_L} {F : Int32 → st_I → st_L → Prop} {a1 : Int32} (h : (if (I 17 0) ≤ a1 then F 0 I L else vp_in a1 2000 ∧ (if (I 18 (a1.toNatClampNeg)) < 97 then F 0 I L else vp_in a1 2000 ∧ (if 122 < (I 18 (a1.toNatClampNeg)) then F 0 I L else F 1 I L)))) : EI d mX5_isLetter [.ref 17, .int a1] I L F := by
  refine Ev_of (ls0 := 0) (by decide +kernel) rfl rfl rfl ?_
  refine T_iload_n dX5_isLetter_0 rfl ?_
  refine T_aload_n dX5_isLetter_1 rfl ?_
  refine T_getv (v := (I 17 0)) dX5_isLetter_2 fl_RX5_46 shp_17 rfl rfl ?_
  refine T_icmp_ge (tgt := 34) dX5_isLetter_5 (by decide) (tq_ite h (fun h => ?_) (fun h => ?_))
  ·
    refine T_iconst (v := 0) dX5_isLetter_34 (by decide +kernel) ?_
    exact S_zret rfl dX5_isLetter_35 (by decide) h
  ·
    refine T_aload_n dX5_isLetter_8 rfl ?_
    refine T_getr dX5_isLetter_9 fl_RX5_22 shp_17 rfl ?_
    refine T_iload_n dX5_isLetter_12 rfl ?_
    refine T_baldv (v := (I 18 (a1.toNatClampNeg))) (j := a1.toNatClampNeg) dX5_isLetter_13 shp_18 h.1 rfl rfl ?_
    replace h := h.2
    refine T_bipush (v := 97) dX5_isLetter_14 (by decide +kernel) ?_
    refine T_icmp_lt (tgt := 34) dX5_isLetter_16 (by decide) (tq_ite h (fun h => ?_) (fun h => ?_))
    ·
      refine T_iconst (v := 0) dX5_isLetter_34 (by decide +kernel) ?_
      exact S_zret rfl dX5_isLetter_35 (by decide) h
    ·
      refine T_aload_n dX5_isLetter_19 rfl ?_
      refine T_getr dX5_isLetter_20 fl_RX5_22 shp_17 rfl ?_
      refine T_iload_n dX5_isLetter_23 rfl ?_
      refine T_baldv (v := (I 18 (a1.toNatClampNeg))) (j := a1.toNatClampNeg) dX5_isLetter_24 shp_18 h.1 rfl rfl ?_
      replace h := h.2
      refine T_bipush (v := 122) dX5_isLetter_25 (by decide +kernel) ?_
      refine T_icmp_gt (tgt := 34) dX5_isLetter_27 (by decide) (tq_ite h (fun h => ?_) (fun h => ?_))
      ·
        refine T_iconst (v := 0) dX5_isLetter_34 (by decide +kernel) ?_
        exact S_zret rfl dX5_isLetter_35 (by decide) h
      ·
        refine T_iconst (v := 1) dX5_isLetter_30 (by decide +kernel) ?_
        refine T_goto (tgt := 35) dX5_isLetter_31 (by decide) ?_
        exact S_zret rfl dX5_isLetter_35 (by decide) h

theorem dX5_isDigit_0 : decode cX5_isDigit 0 = .ok (.iload_n 1, 1) := by decide +kernel
theorem dX5_isDigit_1 : decode cX5_isDigit 1 = .ok (.aload_n 0, 1) := by decide +kernel
theorem dX5_isDigit_2 : decode cX5_isDigit 2 = .ok (.getfield 46, 3) := by decide +kernel
theorem dX5_isDigit_5 : decode cX5_isDigit 5 = .ok (.if_icmp .ge 29, 3) := by decide +kernel
theorem dX5_isDigit_8 : decode cX5_isDigit 8 = .ok (.aload_n 0, 1) := by decide +kernel
theorem dX5_isDigit_9 : decode cX5_isDigit 9 = .ok (.getfield 22, 3) := by decide +kernel
theorem dX5_isDigit_12 : decode cX5_isDigit 12 = .ok (.iload_n 1, 1) := by decide +kernel
theorem dX5_isDigit_13 : decode cX5_isDigit 13 = .ok (.baload, 1) := by decide +kernel
theorem dX5_isDigit_14 : decode cX5_isDigit 14 = .ok (.bipush 48, 2) := by decide +kernel
theorem dX5_isDigit_16 : decode cX5_isDigit 16 = .ok (.if_icmp .lt 18, 3) := by decide +kernel
theorem dX5_isDigit_19 : decode cX5_isDigit 19 = .ok (.aload_n 0, 1) := by decide +kernel
theorem dX5_isDigit_20 : decode cX5_isDigit 20 = .ok (.getfield 22, 3) := by decide +kernel
theorem dX5_isDigit_23 : decode cX5_isDigit 23 = .ok (.iload_n 1, 1) := by decide +kernel
theorem dX5_isDigit_24 : decode cX5_isDigit 24 = .ok (.baload, 1) := by decide +kernel
theorem dX5_isDigit_25 : decode cX5_isDigit 25 = .ok (.bipush 57, 2) := by decide +kernel
theorem dX5_isDigit_27 : decode cX5_isDigit 27 = .ok (.if_icmp .gt 7, 3) := by decide +kernel
theorem dX5_isDigit_30 : decode cX5_isDigit 30 = .ok (.iconst 1, 1) := by decide +kernel
theorem dX5_isDigit_31 : decode cX5_isDigit 31 = .ok (.goto 4, 3) := by decide +kernel
theorem dX5_isDigit_34 : decode cX5_isDigit 34 = .ok (.iconst 0, 1) := by decide +kernel
theorem dX5_isDigit_35 : decode cX5_isDigit 35 = .ok (.ireturn, 1) := by decide +kernel
set_option maxRecDepth 100000 in
theorem sgX5_isDigit_0 {d : Nat} {I : st_I} {L : st_L} {F : Int32 → st_I → st_L → Prop} {a1 : Int32} (h : (if (I 17 0) ≤ a1 then F 0 I L else vp_in a1 2000 ∧ (if (I 18 (a1.toNatClampNeg)) < 48 then F 0 I L else vp_in a1 2000 ∧ (if 57 < (I 18 (a1.toNatClampNeg)) then F 0 I L else F 1 I L)))) : EI d mX5_isDigit [.ref 17, .int a1] I L F := by
  refine Ev_of (ls0 := 0) (by decide +kernel) rfl rfl rfl ?_
  refine T_iload_n dX5_isDigit_0 rfl ?_
  refine T_aload_n dX5_isDigit_1 rfl ?_
  refine T_getv (v := (I 17 0)) dX5_isDigit_2 fl_RX5_46 shp_17 rfl rfl ?_
  refine T_icmp_ge (tgt := 34) dX5_isDigit_5 (by decide) (tq_ite h (fun h => ?_) (fun h => ?_))
  ·
    refine T_iconst (v := 0) dX5_isDigit_34 (by decide +kernel) ?_
    exact S_zret rfl dX5_isDigit_35 (by decide) h
  ·
    refine T_aload_n dX5_isDigit_8 rfl ?_
    refine T_getr dX5_isDigit_9 fl_RX5_22 shp_17 rfl ?_
    refine T_iload_n dX5_isDigit_12 rfl ?_
    refine T_baldv (v := (I 18 (a1.toNatClampNeg))) (j := a1.toNatClampNeg) dX5_isDigit_13 shp_18 h.1 rfl rfl ?_
    replace h := h.2
    refine T_bipush (v := 48) dX5_isDigit_14 (by decide +kernel) ?_
    refine T_icmp_lt (tgt := 34) dX5_isDigit_16 (by decide) (tq_ite h (fun h => ?_) (fun h => ?_))
    ·
      refine T_iconst (v := 0) dX5_isDigit_34 (by decide +kernel) ?_
      exact S_zret rfl dX5_isDigit_35 (by decide) h
    ·
      refine T_aload_n dX5_isDigit_19 rfl ?_
      refine T_getr dX5_isDigit_20 fl_RX5_22 shp_17 rfl ?_
      refine T_iload_n dX5_isDigit_23 rfl ?_
      refine T_baldv (v := (I 18 (a1.toNatClampNeg))) (j := a1.toNatClampNeg) dX5_isDigit_24 shp_18 h.1 rfl rfl ?_
      replace h := h.2
      refine T_bipush (v := 57) dX5_isDigit_25 (by decide +kernel) ?_
      refine T_icmp_gt (tgt := 34) dX5_isDigit_27 (by decide) (tq_ite h (fun h => ?_) (fun h => ?_))
      ·
        refine T_iconst (v := 0) dX5_isDigit_34 (by decide +kernel) ?_
        exact S_zret rfl dX5_isDigit_35 (by decide) h
      ·
        refine T_iconst (v := 1) dX5_isDigit_30 (by decide +kernel) ?_
        refine T_goto (tgt := 35) dX5_isDigit_31 (by decide) ?_
        exact S_zret rfl dX5_isDigit_35 (by decide) h

theorem dX5_endOf_0 : decode cX5_endOf 0 = .ok (.iload_n 1, 1) := by decide +kernel
theorem dX5_endOf_1 : decode cX5_endOf 1 = .ok (.istore_n 2, 1) := by decide +kernel
theorem dX5_endOf_2 : decode cX5_endOf 2 = .ok (.iload_n 2, 1) := by decide +kernel
theorem dX5_endOf_3 : decode cX5_endOf 3 = .ok (.aload_n 0, 1) := by decide +kernel
theorem dX5_endOf_4 : decode cX5_endOf 4 = .ok (.getfield 46, 3) := by decide +kernel
theorem dX5_endOf_7 : decode cX5_endOf 7 = .ok (.if_icmp .ge 17, 3) := by decide +kernel
theorem dX5_endOf_10 : decode cX5_endOf 10 = .ok (.aload_n 0, 1) := by decide +kernel
theorem dX5_endOf_11 : decode cX5_endOf 11 = .ok (.iload_n 2, 1) := by decide +kernel
theorem dX5_endOf_12 : decode cX5_endOf 12 = .ok (.invokevirtual 85, 3) := by decide +kernel
theorem dX5_endOf_15 : decode cX5_endOf 15 = .ok (.ifCond .eq 9, 3) := by decide +kernel
theorem dX5_endOf_18 : decode cX5_endOf 18 = .ok (.iinc 2 1, 3) := by decide +kernel
theorem dX5_endOf_21 : decode cX5_endOf 21 = .ok (.goto (-19), 3) := by decide +kernel
theorem dX5_endOf_24 : decode cX5_endOf 24 = .ok (.iload_n 2, 1) := by decide +kernel
theorem dX5_endOf_25 : decode cX5_endOf 25 = .ok (.iload_n 1, 1) := by decide +kernel
theorem dX5_endOf_26 : decode cX5_endOf 26 = .ok (.if_icmp .le 5, 3) := by decide +kernel
theorem dX5_endOf_29 : decode cX5_endOf 29 = .ok (.iload_n 2, 1) := by decide +kernel
theorem dX5_endOf_30 : decode cX5_endOf 30 = .ok (.ireturn, 1) := by decide +kernel
theorem dX5_endOf_31 : decode cX5_endOf 31 = .ok (.iload_n 2, 1) := by decide +kernel
theorem dX5_endOf_32 : decode cX5_endOf 32 = .ok (.aload_n 0, 1) := by decide +kernel
theorem dX5_endOf_33 : decode cX5_endOf 33 = .ok (.getfield 46, 3) := by decide +kernel
theorem dX5_endOf_36 : decode cX5_endOf 36 = .ok (.if_icmp .ge 17, 3) := by decide +kernel
theorem dX5_endOf_39 : decode cX5_endOf 39 = .ok (.aload_n 0, 1) := by decide +kernel
theorem dX5_endOf_40 : decode cX5_endOf 40 = .ok (.iload_n 2, 1) := by decide +kernel
theorem dX5_endOf_41 : decode cX5_endOf 41 = .ok (.invokevirtual 88, 3) := by decide +kernel
theorem dX5_endOf_44 : decode cX5_endOf 44 = .ok (.ifCond .eq 9, 3) := by decide +kernel
theorem dX5_endOf_47 : decode cX5_endOf 47 = .ok (.iinc 2 1, 3) := by decide +kernel
theorem dX5_endOf_50 : decode cX5_endOf 50 = .ok (.goto (-19), 3) := by decide +kernel
theorem dX5_endOf_53 : decode cX5_endOf 53 = .ok (.iload_n 2, 1) := by decide +kernel
theorem dX5_endOf_54 : decode cX5_endOf 54 = .ok (.iload_n 1, 1) := by decide +kernel
theorem dX5_endOf_55 : decode cX5_endOf 55 = .ok (.if_icmp .gt 11, 3) := by decide +kernel
theorem dX5_endOf_58 : decode cX5_endOf 58 = .ok (.iload_n 1, 1) := by decide +kernel
theorem dX5_endOf_59 : decode cX5_endOf 59 = .ok (.aload_n 0, 1) := by decide +kernel
theorem dX5_endOf_60 : decode cX5_endOf 60 = .ok (.getfield 46, 3) := by decide +kernel
theorem dX5_endOf_63 : decode cX5_endOf 63 = .ok (.if_icmp .lt 5, 3) := by decide +kernel
theorem dX5_endOf_66 : decode cX5_endOf 66 = .ok (.iload_n 2, 1) := by decide +kernel
theorem dX5_endOf_67 : decode cX5_endOf 67 = .ok (.ireturn, 1) := by decide +kernel
theorem dX5_endOf_68 : decode cX5_endOf 68 = .ok (.aload_n 0, 1) := by decide +kernel
theorem dX5_endOf_69 : decode cX5_endOf 69 = .ok (.getfield 22, 3) := by decide +kernel
theorem dX5_endOf_72 : decode cX5_endOf 72 = .ok (.iload_n 1, 1) := by decide +kernel
theorem dX5_endOf_73 : decode cX5_endOf 73 = .ok (.baload, 1) := by decide +kernel
theorem dX5_endOf_74 : decode cX5_endOf 74 = .ok (.bipush 61, 2) := by decide +kernel
theorem dX5_endOf_76 : decode cX5_endOf 76 = .ok (.if_icmp .ne 30, 3) := by decide +kernel
theorem dX5_endOf_79 : decode cX5_endOf 79 = .ok (.iload_n 1, 1) := by decide +kernel
theorem dX5_endOf_80 : decode cX5_endOf 80 = .ok (.iconst 1, 1) := by decide +kernel
theorem dX5_endOf_81 : decode cX5_endOf 81 = .ok (.iadd, 1) := by decide +kernel
theorem dX5_endOf_82 : decode cX5_endOf 82 = .ok (.aload_n 0, 1) := by decide +kernel
theorem dX5_endOf_83 : decode cX5_endOf 83 = .ok (.getfield 46, 3) := by decide +kernel
theorem dX5_endOf_86 : decode cX5_endOf 86 = .ok (.if_icmp .ge 20, 3) := by decide +kernel
theorem dX5_endOf_89 : decode cX5_endOf 89 = .ok (.aload_n 0, 1) := by decide +kernel
theorem dX5_endOf_90 : decode cX5_endOf 90 = .ok (.getfield 22, 3) := by decide +kernel
theorem dX5_endOf_93 : decode cX5_endOf 93 = .ok (.iload_n 1, 1) := by decide +kernel
theorem dX5_endOf_94 : decode cX5_endOf 94 = .ok (.iconst 1, 1) := by decide +kernel
theorem dX5_endOf_95 : decode cX5_endOf 95 = .ok (.iadd, 1) := by decide +kernel
theorem dX5_endOf_96 : decode cX5_endOf 96 = .ok (.baload, 1) := by decide +kernel
theorem dX5_endOf_97 : decode cX5_endOf 97 = .ok (.bipush 61, 2) := by decide +kernel
theorem dX5_endOf_99 : decode cX5_endOf 99 = .ok (.if_icmp .ne 7, 3) := by decide +kernel
theorem dX5_endOf_102 : decode cX5_endOf 102 = .ok (.iconst 1, 1) := by decide +kernel
theorem dX5_endOf_103 : decode cX5_endOf 103 = .ok (.goto 4, 3) := by decide +kernel
theorem dX5_endOf_106 : decode cX5_endOf 106 = .ok (.iconst 0, 1) := by decide +kernel
theorem dX5_endOf_107 : decode cX5_endOf 107 = .ok (.istore_n 3, 1) := by decide +kernel
theorem dX5_endOf_108 : decode cX5_endOf 108 = .ok (.iload_n 3, 1) := by decide +kernel
theorem dX5_endOf_109 : decode cX5_endOf 109 = .ok (.ifCond .eq 9, 3) := by decide +kernel
theorem dX5_endOf_112 : decode cX5_endOf 112 = .ok (.iload_n 1, 1) := by decide +kernel
theorem dX5_endOf_113 : decode cX5_endOf 113 = .ok (.iconst 2, 1) := by decide +kernel
theorem dX5_endOf_114 : decode cX5_endOf 114 = .ok (.iadd, 1) := by decide +kernel
theorem dX5_endOf_115 : decode cX5_endOf 115 = .ok (.goto 6, 3) := by decide +kernel
theorem dX5_endOf_118 : decode cX5_endOf 118 = .ok (.iload_n 1, 1) := by decide +kernel
theorem dX5_endOf_119 : decode cX5_endOf 119 = .ok (.iconst 1, 1) := by decide +kernel
theorem dX5_endOf_120 : decode cX5_endOf 120 = .ok (.iadd, 1) := by decide +kernel
theorem dX5_endOf_121 : decode cX5_endOf 121 = .ok (.ireturn, 1) := by decide +kernel
set_option maxRecDepth 100000 in
theorem sgX5_endOf_0 {d : Nat} {I : st_I} {L : st_L} {F : Int32 → st_I → st_L → Prop} {a1 : Int32} (h : TI (d + 1) mX5_endOf 2 [.ref 17, .int a1, .int a1, .null] [] I L F) : EI (d + 1) mX5_endOf [.ref 17, .int a1] I L F := by
  refine Ev_of (ls0 := 2) (by decide +kernel) rfl rfl rfl ?_
  refine T_iload_n dX5_endOf_0 rfl ?_
  refine T_istore_n (lv' := [.ref 17, .int a1, .int a1, .null]) dX5_endOf_1 rfl (by decide) rfl ?_
  exact h

set_option maxRecDepth 100000 in
theorem sgX5_endOf_2 {d : Nat} {I : st_I} {L : st_L} {F : Int32 → st_I → st_L → Prop} {x1 : Int32} {x2 : Int32} (h : (if (I 17 0) ≤ x2 then (if x2 ≤ x1 then TI (d + 1) mX5_endOf 31 [.ref 17, .int x1, .int x2, .null] [] I L F else F x2 I L) else EI d mX5_isLetter [.ref 17, .int x2] I L (fun r1 I1 L1 => (if r1 = 0 then (if x2 ≤ x1 then TI (d + 1) mX5_endOf 31 [.ref 17, .int x1, .int x2, .null] [] I1 L1 F else F x2 I1 L1) else TI (d + 1) mX5_endOf 2 [.ref 17, .int x1, .int (x2 + 1), .null] [] I1 L1 F)))) : TI (d + 1) mX5_endOf 2 [.ref 17, .int x1, .int x2, .null] [] I L F := by
  refine T_iload_n dX5_endOf_2 rfl ?_
  refine T_aload_n dX5_endOf_3 rfl ?_
  refine T_getv (v := (I 17 0)) dX5_endOf_4 fl_RX5_46 shp_17 rfl rfl ?_
  refine T_icmp_ge (tgt := 24) dX5_endOf_7 (by decide) (tq_ite h (fun h => ?_) (fun h => ?_))
  ·
    refine T_iload_n dX5_endOf_24 rfl ?_
    refine T_iload_n dX5_endOf_25 rfl ?_
    refine T_icmp_le (tgt := 31) dX5_endOf_26 (by decide) (tq_ite h (fun h => ?_) (fun h => ?_))
    ·
      exact h
    ·
      refine T_iload_n dX5_endOf_29 rfl ?_
      exact S_iret rfl dX5_endOf_30 h
  ·
    refine T_aload_n dX5_endOf_10 rfl ?_
    refine T_iload_n dX5_endOf_11 rfl ?_
    refine S_callVI (M' := mX5_isLetter) [.int x2] [] dX5_endOf_12 ml_RX5_85 mkX5_isLetter rfl shp_17 rfl rfl rfl (Nat.le_of_ble_eq_true rfl) h (fun r1 I1 L1 h => ?_)
    refine T_if_eq (tgt := 24) dX5_endOf_15 (by decide) (tq_ite h (fun h => ?_) (fun h => ?_))
    ·
      refine T_iload_n dX5_endOf_24 rfl ?_
      refine T_iload_n dX5_endOf_25 rfl ?_
      refine T_icmp_le (tgt := 31) dX5_endOf_26 (by decide) (tq_ite h (fun h => ?_) (fun h => ?_))
      ·
        exact h
      ·
        refine T_iload_n dX5_endOf_29 rfl ?_
        exact S_iret rfl dX5_endOf_30 h
    ·
      refine T_iinc (lv' := [.ref 17, .int x1, .int (x2 + 1), .null]) dX5_endOf_18 rfl (by decide) rfl ?_
      refine T_goto (tgt := 2) dX5_endOf_21 (by decide) ?_
      exact h

set_option maxRecDepth 100000 in
theorem sgX5_endOf_31 {d : Nat} {I : st_I} {L : st_L} {F : Int32 → st_I → st_L → Prop} {x1 : Int32} {x2 : Int32} (h : (if (I 17 0) ≤ x2 then TI (d + 1) mX5_endOf 53 [.ref 17, .int x1, .int x2, .null] [] I L F else EI d mX5_isDigit [.ref 17, .int x2] I L (fun r1 I1 L1 => (if r1 = 0 then TI (d + 1) mX5_endOf 53 [.ref 17, .int x1, .int x2, .null] [] I1 L1 F else TI (d + 1) mX5_endOf 31 [.ref 17, .int x1, .int (x2 + 1), .null] [] I1 L1 F)))) : TI (d + 1) mX5_endOf 31 [.ref 17, .int x1, .int x2, .null] [] I L F := by
  refine T_iload_n dX5_endOf_31 rfl ?_
  refine T_aload_n dX5_endOf_32 rfl ?_
  refine T_getv (v := (I 17 0)) dX5_endOf_33 fl_RX5_46 shp_17 rfl rfl ?_
  refine T_icmp_ge (tgt := 53) dX5_endOf_36 (by decide) (tq_ite h (fun h => ?_) (fun h => ?_))
  ·
    exact h
  ·
    refine T_aload_n dX5_endOf_39 rfl ?_
    refine T_iload_n dX5_endOf_40 rfl ?_
    refine S_callVI (M' := mX5_isDigit) [.int x2] [] dX5_endOf_41 ml_RX5_88 mkX5_isDigit rfl shp_17 rfl rfl rfl (Nat.le_of_ble_eq_true rfl) h (fun r1 I1 L1 h => ?_)
    refine T_if_eq (tgt := 53) dX5_endOf_44 (by decide) (tq_ite h (fun h => ?_) (fun h => ?_))
    ·
      exact h
    ·
      refine T_iinc (lv' := [.ref 17, .int x1, .int (x2 + 1), .null]) dX5_endOf_47 rfl (by decide) rfl ?_
      refine T_goto (tgt := 31) dX5_endOf_50 (by decide) ?_
      exact h

set_option maxRecDepth 100000 in
theorem sgX5_endOf_53 {d : Nat} {I : st_I} {L : st_L} {F : Int32 → st_I → st_L → Prop} {x1 : Int32} {x2 : Int32} (h : (if x1 < x2 then F x2 I L else (if x1 < (I 17 0) then vp_in x1 2000 ∧ (if (I 18 (x1.toNatClampNeg)) = 61 then (if (I 17 0) ≤ (x1 + 1) then F (if 0 = 0 then (x1 + 1) else (x1 + 2)) I L else vp_in (x1 + 1) 2000 ∧ (if (I 18 ((x1 + 1).toNatClampNeg)) = 61 then F (if 1 = 0 then (x1 + 1) else (x1 + 2)) I L else F (if 0 = 0 then (x1 + 1) else (x1 + 2)) I L)) else F (if 0 = 0 then (x1 + 1) else (x1 + 2)) I L) else F x2 I L))) : TI (d + 1) mX5_endOf 53 [.ref 17, .int x1, .int x2, .null] [] I L F := by
  refine T_iload_n dX5_endOf_53 rfl ?_
  refine T_iload_n dX5_endOf_54 rfl ?_
  refine T_icmp_gt (tgt := 66) dX5_endOf_55 (by decide) (tq_ite h (fun h => ?_) (fun h => ?_))
  ·
    refine T_iload_n dX5_endOf_66 rfl ?_
    exact S_iret rfl dX5_endOf_67 h
  ·
    refine T_iload_n dX5_endOf_58 rfl ?_
    refine T_aload_n dX5_endOf_59 rfl ?_
    refine T_getv (v := (I 17 0)) dX5_endOf_60 fl_RX5_46 shp_17 rfl rfl ?_
    refine T_icmp_lt (tgt := 68) dX5_endOf_63 (by decide) (tq_ite h (fun h => ?_) (fun h => ?_))
    ·
      refine T_aload_n dX5_endOf_68 rfl ?_
      refine T_getr dX5_endOf_69 fl_RX5_22 shp_17 rfl ?_
      refine T_iload_n dX5_endOf_72 rfl ?_
      refine T_baldv (v := (I 18 (x1.toNatClampNeg))) (j := x1.toNatClampNeg) dX5_endOf_73 shp_18 h.1 rfl rfl ?_
      replace h := h.2
      refine T_bipush (v := 61) dX5_endOf_74 (by decide +kernel) ?_
      refine T_icmp_ne (tgt := 106) dX5_endOf_76 (by decide) (tq_ite h (fun h => ?_) (fun h => ?_))
      ·
        refine T_iload_n dX5_endOf_79 rfl ?_
        refine T_iconst (v := 1) dX5_endOf_80 (by decide +kernel) ?_
        refine T_iadd dX5_endOf_81 ?_
        refine T_aload_n dX5_endOf_82 rfl ?_
        refine T_getv (v := (I 17 0)) dX5_endOf_83 fl_RX5_46 shp_17 rfl rfl ?_
        refine T_icmp_ge (tgt := 106) dX5_endOf_86 (by decide) (tq_ite h (fun h => ?_) (fun h => ?_))
        ·
          refine T_iconst (v := 0) dX5_endOf_106 (by decide +kernel) ?_
          refine T_istore_n (lv' := [.ref 17, .int x1, .int x2, .int 0]) dX5_endOf_107 rfl (by decide) rfl ?_
          refine T_iload_n dX5_endOf_108 rfl ?_
          refine T_if_eq (tgt := 118) dX5_endOf_109 (by decide) (tq_itv (fun v => T shp (d + 1) mX5_endOf 121 [.ref 17, .int x1, .int x2, .int 0] (.int v :: []) I L (kI F)) (x1 + 1) (x1 + 2) (fun hJ => ?_) (fun hJ => ?_) ?_)
          ·
              refine T_iload_n dX5_endOf_118 rfl ?_
              refine T_iconst (v := 1) dX5_endOf_119 (by decide +kernel) ?_
              refine T_iadd dX5_endOf_120 ?_
              exact hJ
          ·
              refine T_iload_n dX5_endOf_112 rfl ?_
              refine T_iconst (v := 2) dX5_endOf_113 (by decide +kernel) ?_
              refine T_iadd dX5_endOf_114 ?_
              refine T_goto (tgt := 121) dX5_endOf_115 (by decide) ?_
              exact hJ
          exact S_iret rfl dX5_endOf_121 h
        ·
          refine T_aload_n dX5_endOf_89 rfl ?_
          refine T_getr dX5_endOf_90 fl_RX5_22 shp_17 rfl ?_
          refine T_iload_n dX5_endOf_93 rfl ?_
          refine T_iconst (v := 1) dX5_endOf_94 (by decide +kernel) ?_
          refine T_iadd dX5_endOf_95 ?_
          refine T_baldv (v := (I 18 ((x1 + 1).toNatClampNeg))) (j := (x1 + 1).toNatClampNeg) dX5_endOf_96 shp_18 h.1 rfl rfl ?_
          replace h := h.2
          refine T_bipush (v := 61) dX5_endOf_97 (by decide +kernel) ?_
          refine T_icmp_ne (tgt := 106) dX5_endOf_99 (by decide) (tq_ite h (fun h => ?_) (fun h => ?_))
          ·
            refine T_iconst (v := 1) dX5_endOf_102 (by decide +kernel) ?_
            refine T_goto (tgt := 107) dX5_endOf_103 (by decide) ?_
            refine T_istore_n (lv' := [.ref 17, .int x1, .int x2, .int 1]) dX5_endOf_107 rfl (by decide) rfl ?_
            refine T_iload_n dX5_endOf_108 rfl ?_
            refine T_if_eq (tgt := 118) dX5_endOf_109 (by decide) (tq_itv (fun v => T shp (d + 1) mX5_endOf 121 [.ref 17, .int x1, .int x2, .int 1] (.int v :: []) I L (kI F)) (x1 + 1) (x1 + 2) (fun hJ => ?_) (fun hJ => ?_) ?_)
            ·
                refine T_iload_n dX5_endOf_118 rfl ?_
                refine T_iconst (v := 1) dX5_endOf_119 (by decide +kernel) ?_
                refine T_iadd dX5_endOf_120 ?_
                exact hJ
            ·
                refine T_iload_n dX5_endOf_112 rfl ?_
                refine T_iconst (v := 2) dX5_endOf_113 (by decide +kernel) ?_
                refine T_iadd dX5_endOf_114 ?_
                refine T_goto (tgt := 121) dX5_endOf_115 (by decide) ?_
                exact hJ
            exact S_iret rfl dX5_endOf_121 h
          ·
            refine T_iconst (v := 0) dX5_endOf_106 (by decide +kernel) ?_
            refine T_istore_n (lv' := [.ref 17, .int x1, .int x2, .int 0]) dX5_endOf_107 rfl (by decide) rfl ?_
            refine T_iload_n dX5_endOf_108 rfl ?_
            refine T_if_eq (tgt := 118) dX5_endOf_109 (by decide) (tq_itv (fun v => T shp (d + 1) mX5_endOf 121 [.ref 17, .int x1, .int x2, .int 0] (.int v :: []) I L (kI F)) (x1 + 1) (x1 + 2) (fun hJ => ?_) (fun hJ => ?_) ?_)
            ·
                refine T_iload_n dX5_endOf_118 rfl ?_
                refine T_iconst (v := 1) dX5_endOf_119 (by decide +kernel) ?_
                refine T_iadd dX5_endOf_120 ?_
                exact hJ
            ·
                refine T_iload_n dX5_endOf_112 rfl ?_
                refine T_iconst (v := 2) dX5_endOf_113 (by decide +kernel) ?_
                refine T_iadd dX5_endOf_114 ?_
                refine T_goto (tgt := 121) dX5_endOf_115 (by decide) ?_
                exact hJ
            exact S_iret rfl dX5_endOf_121 h
      ·
        refine T_iconst (v := 0) dX5_endOf_106 (by decide +kernel) ?_
        refine T_istore_n (lv' := [.ref 17, .int x1, .int x2, .int 0]) dX5_endOf_107 rfl (by decide) rfl ?_
        refine T_iload_n dX5_endOf_108 rfl ?_
        refine T_if_eq (tgt := 118) dX5_endOf_109 (by decide) (tq_itv (fun v => T shp (d + 1) mX5_endOf 121 [.ref 17, .int x1, .int x2, .int 0] (.int v :: []) I L (kI F)) (x1 + 1) (x1 + 2) (fun hJ => ?_) (fun hJ => ?_) ?_)
        ·
            refine T_iload_n dX5_endOf_118 rfl ?_
            refine T_iconst (v := 1) dX5_endOf_119 (by decide +kernel) ?_
            refine T_iadd dX5_endOf_120 ?_
            exact hJ
        ·
            refine T_iload_n dX5_endOf_112 rfl ?_
            refine T_iconst (v := 2) dX5_endOf_113 (by decide +kernel) ?_
            refine T_iadd dX5_endOf_114 ?_
            refine T_goto (tgt := 121) dX5_endOf_115 (by decide) ?_
            exact hJ
        exact S_iret rfl dX5_endOf_121 h
    ·
      refine T_iload_n dX5_endOf_66 rfl ?_
      exact S_iret rfl dX5_endOf_67 h

theorem dX5_kindOf_0 : decode cX5_kindOf 0 = .ok (.iload_n 1, 1) := by decide +kernel
theorem dX5_kindOf_1 : decode cX5_kindOf 1 = .ok (.aload_n 0, 1) := by decide +kernel
theorem dX5_kindOf_2 : decode cX5_kindOf 2 = .ok (.getfield 46, 3) := by decide +kernel
theorem dX5_kindOf_5 : decode cX5_kindOf 5 = .ok (.if_icmp .lt 5, 3) := by decide +kernel
theorem dX5_kindOf_8 : decode cX5_kindOf 8 = .ok (.iconst 0, 1) := by decide +kernel
theorem dX5_kindOf_9 : decode cX5_kindOf 9 = .ok (.ireturn, 1) := by decide +kernel
theorem dX5_kindOf_10 : decode cX5_kindOf 10 = .ok (.aload_n 0, 1) := by decide +kernel
theorem dX5_kindOf_11 : decode cX5_kindOf 11 = .ok (.iload_n 1, 1) := by decide +kernel
theorem dX5_kindOf_12 : decode cX5_kindOf 12 = .ok (.invokevirtual 85, 3) := by decide +kernel
theorem dX5_kindOf_15 : decode cX5_kindOf 15 = .ok (.ifCond .eq 22, 3) := by decide +kernel
theorem dX5_kindOf_18 : decode cX5_kindOf 18 = .ok (.iload_n 2, 1) := by decide +kernel
theorem dX5_kindOf_19 : decode cX5_kindOf 19 = .ok (.iload_n 1, 1) := by decide +kernel
theorem dX5_kindOf_20 : decode cX5_kindOf 20 = .ok (.isub, 1) := by decide +kernel
theorem dX5_kindOf_21 : decode cX5_kindOf 21 = .ok (.bipush 8, 2) := by decide +kernel
theorem dX5_kindOf_23 : decode cX5_kindOf 23 = .ok (.if_icmp .le 7, 3) := by decide +kernel
theorem dX5_kindOf_26 : decode cX5_kindOf 26 = .ok (.iconst 1, 1) := by decide +kernel
theorem dX5_kindOf_27 : decode cX5_kindOf 27 = .ok (.goto 9, 3) := by decide +kernel
theorem dX5_kindOf_30 : decode cX5_kindOf 30 = .ok (.aload_n 0, 1) := by decide +kernel
theorem dX5_kindOf_31 : decode cX5_kindOf 31 = .ok (.iload_n 1, 1) := by decide +kernel
theorem dX5_kindOf_32 : decode cX5_kindOf 32 = .ok (.iload_n 2, 1) := by decide +kernel
theorem dX5_kindOf_33 : decode cX5_kindOf 33 = .ok (.invokevirtual 91, 3) := by decide +kernel
theorem dX5_kindOf_36 : decode cX5_kindOf 36 = .ok (.ireturn, 1) := by decide +kernel
theorem dX5_kindOf_37 : decode cX5_kindOf 37 = .ok (.aload_n 0, 1) := by decide +kernel
theorem dX5_kindOf_38 : decode cX5_kindOf 38 = .ok (.iload_n 1, 1) := by decide +kernel
theorem dX5_kindOf_39 : decode cX5_kindOf 39 = .ok (.invokevirtual 88, 3) := by decide +kernel
theorem dX5_kindOf_42 : decode cX5_kindOf 42 = .ok (.ifCond .eq 16, 3) := by decide +kernel
theorem dX5_kindOf_45 : decode cX5_kindOf 45 = .ok (.iload_n 2, 1) := by decide +kernel
theorem dX5_kindOf_46 : decode cX5_kindOf 46 = .ok (.iload_n 1, 1) := by decide +kernel
theorem dX5_kindOf_47 : decode cX5_kindOf 47 = .ok (.isub, 1) := by decide +kernel
theorem dX5_kindOf_48 : decode cX5_kindOf 48 = .ok (.iconst 4, 1) := by decide +kernel
theorem dX5_kindOf_49 : decode cX5_kindOf 49 = .ok (.if_icmp .le 7, 3) := by decide +kernel
theorem dX5_kindOf_52 : decode cX5_kindOf 52 = .ok (.iconst 1, 1) := by decide +kernel
theorem dX5_kindOf_53 : decode cX5_kindOf 53 = .ok (.goto 4, 3) := by decide +kernel
theorem dX5_kindOf_56 : decode cX5_kindOf 56 = .ok (.iconst 3, 1) := by decide +kernel
theorem dX5_kindOf_57 : decode cX5_kindOf 57 = .ok (.ireturn, 1) := by decide +kernel
theorem dX5_kindOf_58 : decode cX5_kindOf 58 = .ok (.iload_n 2, 1) := by decide +kernel
theorem dX5_kindOf_59 : decode cX5_kindOf 59 = .ok (.iload_n 1, 1) := by decide +kernel
theorem dX5_kindOf_60 : decode cX5_kindOf 60 = .ok (.isub, 1) := by decide +kernel
theorem dX5_kindOf_61 : decode cX5_kindOf 61 = .ok (.iconst 2, 1) := by decide +kernel
theorem dX5_kindOf_62 : decode cX5_kindOf 62 = .ok (.if_icmp .ne 5, 3) := by decide +kernel
theorem dX5_kindOf_65 : decode cX5_kindOf 65 = .ok (.iconst 4, 1) := by decide +kernel
theorem dX5_kindOf_66 : decode cX5_kindOf 66 = .ok (.ireturn, 1) := by decide +kernel
theorem dX5_kindOf_67 : decode cX5_kindOf 67 = .ok (.aload_n 0, 1) := by decide +kernel
theorem dX5_kindOf_68 : decode cX5_kindOf 68 = .ok (.getfield 22, 3) := by decide +kernel
theorem dX5_kindOf_71 : decode cX5_kindOf 71 = .ok (.iload_n 1, 1) := by decide +kernel
theorem dX5_kindOf_72 : decode cX5_kindOf 72 = .ok (.baload, 1) := by decide +kernel
theorem dX5_kindOf_73 : decode cX5_kindOf 73 = .ok (.sipush 255, 3) := by decide +kernel
theorem dX5_kindOf_76 : decode cX5_kindOf 76 = .ok (.iand, 1) := by decide +kernel
theorem dX5_kindOf_77 : decode cX5_kindOf 77 = .ok (.istore_n 3, 1) := by decide +kernel
theorem dX5_kindOf_78 : decode cX5_kindOf 78 = .ok (.ldc 94, 2) := by decide +kernel
theorem dX5_kindOf_80 : decode cX5_kindOf 80 = .ok (.iload_n 3, 1) := by decide +kernel
theorem dX5_kindOf_81 : decode cX5_kindOf 81 = .ok (.i2c, 1) := by decide +kernel
theorem dX5_kindOf_82 : decode cX5_kindOf 82 = .ok (.invokevirtual 96, 3) := by decide +kernel
theorem dX5_kindOf_85 : decode cX5_kindOf 85 = .ok (.ifCond .ge 7, 3) := by decide +kernel
theorem dX5_kindOf_88 : decode cX5_kindOf 88 = .ok (.iconst 1, 1) := by decide +kernel
theorem dX5_kindOf_89 : decode cX5_kindOf 89 = .ok (.goto 4, 3) := by decide +kernel
theorem dX5_kindOf_92 : decode cX5_kindOf 92 = .ok (.iload_n 3, 1) := by decide +kernel
theorem dX5_kindOf_93 : decode cX5_kindOf 93 = .ok (.ireturn, 1) := by decide +kernel
set_option maxRecDepth 100000 in
theorem sgX5_kindOf_0 {d : Nat} {I : st_I} {L : st_L} {F : Int32 → st_I → st_L → Prop} {a1 : Int32} {a2 : Int32} (h : (if a1 < (I 17 0) then EI d mX5_isLetter [.ref 17, .int a1] I L (fun r1 I1 L1 => (if r1 = 0 then EI d mX5_isDigit [.ref 17, .int a1] I1 L1 (fun r2 I2 L2 => (if r2 = 0 then (if (a2 - a1) = 2 then F 4 I2 L2 else vp_in a1 2000 ∧ EI d mJ0_indexOf_0f7a4 [.ref 1000, .int (((((I2 18 (a1.toNatClampNeg)) &&& 255) : Int32).toUInt32 % 65536).toInt32)] I2 L2 (fun r3 I3 L3 => F (if 0 ≤ r3 then ((I2 18 (a1.toNatClampNeg)) &&& 255) else 1) I3 L3)) else F (if (a2 - a1) ≤ 4 then (3 : Int32) else 1) I2 L2)) else (if (a2 - a1) ≤ 8 then EI d mX5_wordOf [.ref 17, .int a1, .int a2] I1 L1 (fun r4 I4 L4 => F r4 I4 L4) else F 1 I1 L1))) else F 0 I L)) : EI (d + 1) mX5_kindOf [.ref 17, .int a1, .int a2] I L F := by
  refine Ev_of (ls0 := 1) (by decide +kernel) rfl rfl rfl ?_
  refine T_iload_n dX5_kindOf_0 rfl ?_
  refine T_aload_n dX5_kindOf_1 rfl ?_
  refine T_getv (v := (I 17 0)) dX5_kindOf_2 fl_RX5_46 shp_17 rfl rfl ?_
  refine T_icmp_lt (tgt := 10) dX5_kindOf_5 (by decide) (tq_ite h (fun h => ?_) (fun h => ?_))
  ·
    refine T_aload_n dX5_kindOf_10 rfl ?_
    refine T_iload_n dX5_kindOf_11 rfl ?_
    refine S_callVI (M' := mX5_isLetter) [.int a1] [] dX5_kindOf_12 ml_RX5_85 mkX5_isLetter rfl shp_17 rfl rfl rfl (Nat.le_of_ble_eq_true rfl) h (fun r1 I1 L1 h => ?_)
    refine T_if_eq (tgt := 37) dX5_kindOf_15 (by decide) (tq_ite h (fun h => ?_) (fun h => ?_))
    ·
      refine T_aload_n dX5_kindOf_37 rfl ?_
      refine T_iload_n dX5_kindOf_38 rfl ?_
      refine S_callVI (M' := mX5_isDigit) [.int a1] [] dX5_kindOf_39 ml_RX5_88 mkX5_isDigit rfl shp_17 rfl rfl rfl (Nat.le_of_ble_eq_true rfl) h (fun r2 I2 L2 h => ?_)
      refine T_if_eq (tgt := 58) dX5_kindOf_42 (by decide) (tq_ite h (fun h => ?_) (fun h => ?_))
      ·
        refine T_iload_n dX5_kindOf_58 rfl ?_
        refine T_iload_n dX5_kindOf_59 rfl ?_
        refine T_isub dX5_kindOf_60 ?_
        refine T_iconst (v := 2) dX5_kindOf_61 (by decide +kernel) ?_
        refine T_icmp_ne (tgt := 67) dX5_kindOf_62 (by decide) (tq_ite h (fun h => ?_) (fun h => ?_))
        ·
          refine T_iconst (v := 4) dX5_kindOf_65 (by decide +kernel) ?_
          exact S_iret rfl dX5_kindOf_66 h
        ·
          refine T_aload_n dX5_kindOf_67 rfl ?_
          refine T_getr dX5_kindOf_68 fl_RX5_22 shp_17 rfl ?_
          refine T_iload_n dX5_kindOf_71 rfl ?_
          refine T_baldv (v := (I2 18 (a1.toNatClampNeg))) (j := a1.toNatClampNeg) dX5_kindOf_72 shp_18 h.1 rfl rfl ?_
          replace h := h.2
          refine T_sipush (v := 255) dX5_kindOf_73 (by decide +kernel) ?_
          refine T_iand dX5_kindOf_76 ?_
          refine T_istore_n (lv' := [.ref 17, .int a1, .int a2, .int ((I2 18 (a1.toNatClampNeg)) &&& 255)]) dX5_kindOf_77 rfl (by decide) rfl ?_
          refine T_ldcS0 dX5_kindOf_78 rfl ?_
          refine T_iload_n dX5_kindOf_80 rfl ?_
          refine T_i2c dX5_kindOf_81 ?_
          refine S_callVSI (M' := mJ0_indexOf_0f7a4) (i := 0) [.int (((((I2 18 (a1.toNatClampNeg)) &&& 255) : Int32).toUInt32 % 65536).toInt32)] [] (by decide) dX5_kindOf_82 ml_RX5_96 mkJ0_indexOf_0f7a4 rfl (by decide +kernel) rfl (Nat.le_of_ble_eq_true rfl) h (fun r3 I3 L3 h => ?_)
          refine T_if_ge (tgt := 92) dX5_kindOf_85 (by decide) (tq_itv (fun v => T shp (d + 1) mX5_kindOf 93 [.ref 17, .int a1, .int a2, .int ((I2 18 (a1.toNatClampNeg)) &&& 255)] (.int v :: []) I3 L3 (kI F)) ((I2 18 (a1.toNatClampNeg)) &&& 255) 1 (fun hJ => ?_) (fun hJ => ?_) ?_)
          ·
              refine T_iload_n dX5_kindOf_92 rfl ?_
              exact hJ
          ·
              refine T_iconst (v := 1) dX5_kindOf_88 (by decide +kernel) ?_
              refine T_goto (tgt := 93) dX5_kindOf_89 (by decide) ?_
              exact hJ
          exact S_iret rfl dX5_kindOf_93 h
      ·
        refine T_iload_n dX5_kindOf_45 rfl ?_
        refine T_iload_n dX5_kindOf_46 rfl ?_
        refine T_isub dX5_kindOf_47 ?_
        refine T_iconst (v := 4) dX5_kindOf_48 (by decide +kernel) ?_
        refine T_icmp_le (tgt := 56) dX5_kindOf_49 (by decide) (tq_itv (fun v => T shp (d + 1) mX5_kindOf 57 [.ref 17, .int a1, .int a2, .null] (.int v :: []) I2 L2 (kI F)) 3 1 (fun hJ => ?_) (fun hJ => ?_) ?_)
        ·
            refine T_iconst (v := 3) dX5_kindOf_56 (by decide +kernel) ?_
            exact hJ
        ·
            refine T_iconst (v := 1) dX5_kindOf_52 (by decide +kernel) ?_
            refine T_goto (tgt := 57) dX5_kindOf_53 (by decide) ?_
            exact hJ
        exact S_iret rfl dX5_kindOf_57 h
    ·
      refine T_iload_n dX5_kindOf_18 rfl ?_
      refine T_iload_n dX5_kindOf_19 rfl ?_
      refine T_isub dX5_kindOf_20 ?_
      refine T_bipush (v := 8) dX5_kindOf_21 (by decide +kernel) ?_
      refine T_icmp_le (tgt := 30) dX5_kindOf_23 (by decide) (tq_ite h (fun h => ?_) (fun h => ?_))
      ·
        refine T_aload_n dX5_kindOf_30 rfl ?_
        refine T_iload_n dX5_kindOf_31 rfl ?_
        refine T_iload_n dX5_kindOf_32 rfl ?_
        refine S_callVI (M' := mX5_wordOf) [.int a1, .int a2] [] dX5_kindOf_33 ml_RX5_91 mkX5_wordOf rfl shp_17 rfl rfl rfl (Nat.le_of_ble_eq_true rfl) h (fun r4 I4 L4 h => ?_)
        exact S_iret rfl dX5_kindOf_36 h
      ·
        refine T_iconst (v := 1) dX5_kindOf_26 (by decide +kernel) ?_
        refine T_goto (tgt := 36) dX5_kindOf_27 (by decide) ?_
        exact S_iret rfl dX5_kindOf_36 h
  ·
    refine T_iconst (v := 0) dX5_kindOf_8 (by decide +kernel) ?_
    exact S_iret rfl dX5_kindOf_9 h

theorem dX5_wordOf_0 : decode cX5_wordOf 0 = .ok (.iconst 0, 1) := by decide +kernel
theorem dX5_wordOf_1 : decode cX5_wordOf 1 = .ok (.istore_n 3, 1) := by decide +kernel
theorem dX5_wordOf_2 : decode cX5_wordOf 2 = .ok (.iload_n 3, 1) := by decide +kernel
theorem dX5_wordOf_3 : decode cX5_wordOf 3 = .ok (.bipush 22, 2) := by decide +kernel
theorem dX5_wordOf_5 : decode cX5_wordOf 5 = .ok (.if_icmp .ge 25, 3) := by decide +kernel
theorem dX5_wordOf_8 : decode cX5_wordOf 8 = .ok (.aload_n 0, 1) := by decide +kernel
theorem dX5_wordOf_9 : decode cX5_wordOf 9 = .ok (.iload_n 3, 1) := by decide +kernel
theorem dX5_wordOf_10 : decode cX5_wordOf 10 = .ok (.iload_n 1, 1) := by decide +kernel
theorem dX5_wordOf_11 : decode cX5_wordOf 11 = .ok (.iload_n 2, 1) := by decide +kernel
theorem dX5_wordOf_12 : decode cX5_wordOf 12 = .ok (.invokevirtual 101, 3) := by decide +kernel
theorem dX5_wordOf_15 : decode cX5_wordOf 15 = .ok (.ifCond .eq 9, 3) := by decide +kernel
theorem dX5_wordOf_18 : decode cX5_wordOf 18 = .ok (.sipush 128, 3) := by decide +kernel
theorem dX5_wordOf_21 : decode cX5_wordOf 21 = .ok (.iload_n 3, 1) := by decide +kernel
theorem dX5_wordOf_22 : decode cX5_wordOf 22 = .ok (.iadd, 1) := by decide +kernel
theorem dX5_wordOf_23 : decode cX5_wordOf 23 = .ok (.ireturn, 1) := by decide +kernel
theorem dX5_wordOf_24 : decode cX5_wordOf 24 = .ok (.iinc 3 1, 3) := by decide +kernel
theorem dX5_wordOf_27 : decode cX5_wordOf 27 = .ok (.goto (-25), 3) := by decide +kernel
theorem dX5_wordOf_30 : decode cX5_wordOf 30 = .ok (.iconst 2, 1) := by decide +kernel
theorem dX5_wordOf_31 : decode cX5_wordOf 31 = .ok (.ireturn, 1) := by decide +kernel
set_option maxRecDepth 100000 in
theorem sgX5_wordOf_0 {d : Nat} {I : st_I} {L : st_L} {F : Int32 → st_I → st_L → Prop} {a1 : Int32} {a2 : Int32} (h : TI (d + 1) mX5_wordOf 2 [.ref 17, .int a1, .int a2, .int 0] [] I L F) : EI (d + 1) mX5_wordOf [.ref 17, .int a1, .int a2] I L F := by
  refine Ev_of (ls0 := 1) (by decide +kernel) rfl rfl rfl ?_
  refine T_iconst (v := 0) dX5_wordOf_0 (by decide +kernel) ?_
  refine T_istore_n (lv' := [.ref 17, .int a1, .int a2, .int 0]) dX5_wordOf_1 rfl (by decide) rfl ?_
  exact h

set_option maxRecDepth 100000 in
theorem sgX5_wordOf_2 {d : Nat} {I : st_I} {L : st_L} {F : Int32 → st_I → st_L → Prop} {x1 : Int32} {x2 : Int32} {x3 : Int32} (h : (if 22 ≤ x3 then F 2 I L else EI d mX5_isWord [.ref 17, .int x3, .int x1, .int x2] I L (fun r1 I1 L1 => (if r1 = 0 then TI (d + 1) mX5_wordOf 2 [.ref 17, .int x1, .int x2, .int (x3 + 1)] [] I1 L1 F else F (128 + x3) I1 L1)))) : TI (d + 1) mX5_wordOf 2 [.ref 17, .int x1, .int x2, .int x3] [] I L F := by
  refine T_iload_n dX5_wordOf_2 rfl ?_
  refine T_bipush (v := 22) dX5_wordOf_3 (by decide +kernel) ?_
  refine T_icmp_ge (tgt := 30) dX5_wordOf_5 (by decide) (tq_ite h (fun h => ?_) (fun h => ?_))
  ·
    refine T_iconst (v := 2) dX5_wordOf_30 (by decide +kernel) ?_
    exact S_iret rfl dX5_wordOf_31 h
  ·
    refine T_aload_n dX5_wordOf_8 rfl ?_
    refine T_iload_n dX5_wordOf_9 rfl ?_
    refine T_iload_n dX5_wordOf_10 rfl ?_
    refine T_iload_n dX5_wordOf_11 rfl ?_
    refine S_callVI (M' := mX5_isWord) [.int x3, .int x1, .int x2] [] dX5_wordOf_12 ml_RX5_101 mkX5_isWord rfl shp_17 rfl rfl rfl (Nat.le_of_ble_eq_true rfl) h (fun r1 I1 L1 h => ?_)
    refine T_if_eq (tgt := 24) dX5_wordOf_15 (by decide) (tq_ite h (fun h => ?_) (fun h => ?_))
    ·
      refine T_iinc (lv' := [.ref 17, .int x1, .int x2, .int (x3 + 1)]) dX5_wordOf_24 rfl (by decide) rfl ?_
      refine T_goto (tgt := 2) dX5_wordOf_27 (by decide) ?_
      exact h
    ·
      refine T_sipush (v := 128) dX5_wordOf_18 (by decide +kernel) ?_
      refine T_iload_n dX5_wordOf_21 rfl ?_
      refine T_iadd dX5_wordOf_22 ?_
      exact S_iret rfl dX5_wordOf_23 h

theorem dX5_isWord_0 : decode cX5_isWord 0 = .ok (.iconst 0, 1) := by decide +kernel
theorem dX5_isWord_1 : decode cX5_isWord 1 = .ok (.istore 4, 2) := by decide +kernel
theorem dX5_isWord_3 : decode cX5_isWord 3 = .ok (.iload 4, 2) := by decide +kernel
theorem dX5_isWord_5 : decode cX5_isWord 5 = .ok (.bipush 8, 2) := by decide +kernel
theorem dX5_isWord_7 : decode cX5_isWord 7 = .ok (.if_icmp .ge 52, 3) := by decide +kernel
theorem dX5_isWord_10 : decode cX5_isWord 10 = .ok (.iload_n 2, 1) := by decide +kernel
theorem dX5_isWord_11 : decode cX5_isWord 11 = .ok (.iload 4, 2) := by decide +kernel
theorem dX5_isWord_13 : decode cX5_isWord 13 = .ok (.iadd, 1) := by decide +kernel
theorem dX5_isWord_14 : decode cX5_isWord 14 = .ok (.iload_n 3, 1) := by decide +kernel
theorem dX5_isWord_15 : decode cX5_isWord 15 = .ok (.if_icmp .ge 15, 3) := by decide +kernel
theorem dX5_isWord_18 : decode cX5_isWord 18 = .ok (.aload_n 0, 1) := by decide +kernel
theorem dX5_isWord_19 : decode cX5_isWord 19 = .ok (.getfield 22, 3) := by decide +kernel
theorem dX5_isWord_22 : decode cX5_isWord 22 = .ok (.iload_n 2, 1) := by decide +kernel
theorem dX5_isWord_23 : decode cX5_isWord 23 = .ok (.iload 4, 2) := by decide +kernel
theorem dX5_isWord_25 : decode cX5_isWord 25 = .ok (.iadd, 1) := by decide +kernel
theorem dX5_isWord_26 : decode cX5_isWord 26 = .ok (.baload, 1) := by decide +kernel
theorem dX5_isWord_27 : decode cX5_isWord 27 = .ok (.goto 5, 3) := by decide +kernel
theorem dX5_isWord_30 : decode cX5_isWord 30 = .ok (.bipush 32, 2) := by decide +kernel
theorem dX5_isWord_32 : decode cX5_isWord 32 = .ok (.istore 5, 2) := by decide +kernel
theorem dX5_isWord_34 : decode cX5_isWord 34 = .ok (.ldc 105, 2) := by decide +kernel
theorem dX5_isWord_36 : decode cX5_isWord 36 = .ok (.iload_n 1, 1) := by decide +kernel
theorem dX5_isWord_37 : decode cX5_isWord 37 = .ok (.bipush 8, 2) := by decide +kernel
theorem dX5_isWord_39 : decode cX5_isWord 39 = .ok (.imul, 1) := by decide +kernel
theorem dX5_isWord_40 : decode cX5_isWord 40 = .ok (.iload 4, 2) := by decide +kernel
theorem dX5_isWord_42 : decode cX5_isWord 42 = .ok (.iadd, 1) := by decide +kernel
theorem dX5_isWord_43 : decode cX5_isWord 43 = .ok (.invokevirtual 107, 3) := by decide +kernel
theorem dX5_isWord_46 : decode cX5_isWord 46 = .ok (.iload 5, 2) := by decide +kernel
theorem dX5_isWord_48 : decode cX5_isWord 48 = .ok (.if_icmp .eq 5, 3) := by decide +kernel
theorem dX5_isWord_51 : decode cX5_isWord 51 = .ok (.iconst 0, 1) := by decide +kernel
theorem dX5_isWord_52 : decode cX5_isWord 52 = .ok (.ireturn, 1) := by decide +kernel
theorem dX5_isWord_53 : decode cX5_isWord 53 = .ok (.iinc 4 1, 3) := by decide +kernel
theorem dX5_isWord_56 : decode cX5_isWord 56 = .ok (.goto (-53), 3) := by decide +kernel
theorem dX5_isWord_59 : decode cX5_isWord 59 = .ok (.iconst 1, 1) := by decide +kernel
theorem dX5_isWord_60 : decode cX5_isWord 60 = .ok (.ireturn, 1) := by decide +kernel
set_option maxRecDepth 100000 in
theorem sgX5_isWord_0 {d : Nat} {I : st_I} {L : st_L} {F : Int32 → st_I → st_L → Prop} {a1 : Int32} {a2 : Int32} {a3 : Int32} (h : TI (d + 1) mX5_isWord 3 [.ref 17, .int a1, .int a2, .int a3, .int 0, .null] [] I L F) : EI (d + 1) mX5_isWord [.ref 17, .int a1, .int a2, .int a3] I L F := by
  refine Ev_of (ls0 := 2) (by decide +kernel) rfl rfl rfl ?_
  refine T_iconst (v := 0) dX5_isWord_0 (by decide +kernel) ?_
  refine T_istore (lv' := [.ref 17, .int a1, .int a2, .int a3, .int 0, .null]) dX5_isWord_1 (by decide) rfl ?_
  exact h

set_option maxRecDepth 100000 in
theorem sgX5_isWord_3 {d : Nat} {I : st_I} {L : st_L} {F : Int32 → st_I → st_L → Prop} {x1 : Int32} {x2 : Int32} {x3 : Int32} {x4 : Int32} (h : (if 8 ≤ x4 then F 1 I L else (if x3 ≤ (x2 + x4) then TI (d + 1) mX5_isWord 32 [.ref 17, .int x1, .int x2, .int x3, .int x4, .null] [.int 32] I L F else vp_in (x2 + x4) 2000 ∧ TI (d + 1) mX5_isWord 32 [.ref 17, .int x1, .int x2, .int x3, .int x4, .null] [.int (I 18 ((x2 + x4).toNatClampNeg))] I L F))) : TI (d + 1) mX5_isWord 3 [.ref 17, .int x1, .int x2, .int x3, .int x4, .null] [] I L F := by
  refine T_iload dX5_isWord_3 rfl ?_
  refine T_bipush (v := 8) dX5_isWord_5 (by decide +kernel) ?_
  refine T_icmp_ge (tgt := 59) dX5_isWord_7 (by decide) (tq_ite h (fun h => ?_) (fun h => ?_))
  ·
    refine T_iconst (v := 1) dX5_isWord_59 (by decide +kernel) ?_
    exact S_zret rfl dX5_isWord_60 (by decide) h
  ·
    refine T_iload_n dX5_isWord_10 rfl ?_
    refine T_iload dX5_isWord_11 rfl ?_
    refine T_iadd dX5_isWord_13 ?_
    refine T_iload_n dX5_isWord_14 rfl ?_
    refine T_icmp_ge (tgt := 30) dX5_isWord_15 (by decide) (tq_ite h (fun h => ?_) (fun h => ?_))
    ·
      refine T_bipush (v := 32) dX5_isWord_30 (by decide +kernel) ?_
      exact h
    ·
      refine T_aload_n dX5_isWord_18 rfl ?_
      refine T_getr dX5_isWord_19 fl_RX5_22 shp_17 rfl ?_
      refine T_iload_n dX5_isWord_22 rfl ?_
      refine T_iload dX5_isWord_23 rfl ?_
      refine T_iadd dX5_isWord_25 ?_
      refine T_baldv (v := (I 18 ((x2 + x4).toNatClampNeg))) (j := (x2 + x4).toNatClampNeg) dX5_isWord_26 shp_18 h.1 rfl rfl ?_
      replace h := h.2
      refine T_goto (tgt := 32) dX5_isWord_27 (by decide) ?_
      exact h

set_option maxRecDepth 100000 in
theorem sgX5_isWord_32 {d : Nat} {I : st_I} {L : st_L} {F : Int32 → st_I → st_L → Prop} {x1 : Int32} {x2 : Int32} {x3 : Int32} {x4 : Int32} {s0 : Int32} (h : EI d mJ0_charAt_5068e [.ref 1001, .int ((x1 * 8) + x4)] I L (fun r1 I1 L1 => (if r1 = s0 then TI (d + 1) mX5_isWord 3 [.ref 17, .int x1, .int x2, .int x3, .int (x4 + 1), .null] [] I1 L1 F else F 0 I1 L1))) : TI (d + 1) mX5_isWord 32 [.ref 17, .int x1, .int x2, .int x3, .int x4, .null] [.int s0] I L F := by
  refine T_istore (lv' := [.ref 17, .int x1, .int x2, .int x3, .int x4, .int s0]) dX5_isWord_32 (by decide) rfl ?_
  refine T_ldcS1 dX5_isWord_34 rfl ?_
  refine T_iload_n dX5_isWord_36 rfl ?_
  refine T_bipush (v := 8) dX5_isWord_37 (by decide +kernel) ?_
  refine T_imul dX5_isWord_39 ?_
  refine T_iload dX5_isWord_40 rfl ?_
  refine T_iadd dX5_isWord_42 ?_
  refine S_callVSI (M' := mJ0_charAt_5068e) (i := 1) [.int ((x1 * 8) + x4)] [] (by decide) dX5_isWord_43 ml_RX5_107 mkJ0_charAt_5068e rfl (by decide +kernel) rfl (Nat.le_of_ble_eq_true rfl) h (fun r1 I1 L1 h => ?_)
  refine T_iload dX5_isWord_46 rfl ?_
  refine T_icmp_eq (tgt := 53) dX5_isWord_48 (by decide) (tq_ite h (fun h => ?_) (fun h => ?_))
  ·
    refine T_iinc (lv' := [.ref 17, .int x1, .int x2, .int x3, .int (x4 + 1), .int s0]) dX5_isWord_53 rfl (by decide) rfl ?_
    refine T_goto (tgt := 3) dX5_isWord_56 (by decide) ?_
    exact T_wk (lv' := [.ref 17, .int x1, .int x2, .int x3, .int (x4 + 1), .null]) ⟨Or.inr rfl, Or.inr rfl, Or.inr rfl, Or.inr rfl, Or.inr rfl, Or.inl rfl, trivial⟩ h
  ·
    refine T_iconst (v := 0) dX5_isWord_51 (by decide +kernel) ?_
    exact S_zret rfl dX5_isWord_52 (by decide) h

theorem dX5_failLater_0 : decode cX5_failLater 0 = .ok (.aload_n 0, 1) := by decide +kernel
theorem dX5_failLater_1 : decode cX5_failLater 1 = .ok (.getfield 58, 3) := by decide +kernel
theorem dX5_failLater_4 : decode cX5_failLater 4 = .ok (.ifCond .ne 13, 3) := by decide +kernel
theorem dX5_failLater_7 : decode cX5_failLater 7 = .ok (.aload_n 0, 1) := by decide +kernel
theorem dX5_failLater_8 : decode cX5_failLater 8 = .ok (.iload_n 1, 1) := by decide +kernel
theorem dX5_failLater_9 : decode cX5_failLater 9 = .ok (.putfield 58, 3) := by decide +kernel
theorem dX5_failLater_12 : decode cX5_failLater 12 = .ok (.aload_n 0, 1) := by decide +kernel
theorem dX5_failLater_13 : decode cX5_failLater 13 = .ok (.iload_n 2, 1) := by decide +kernel
theorem dX5_failLater_14 : decode cX5_failLater 14 = .ok (.putfield 70, 3) := by decide +kernel
theorem dX5_failLater_17 : decode cX5_failLater 17 = .ok (.return_, 1) := by decide +kernel
set_option maxRecDepth 100000 in
theorem sgX5_failLater_0 {d : Nat} {I : st_I} {L : st_L} {F : st_I → st_L → Prop} {a1 : Int32} {a2 : Int32} (h : (if (I 17 8) = 0 then F (u_I (u_I I 17 8 a1) 17 9 a2) L else F I L)) : EV d mX5_failLater [.ref 17, .int a1, .int a2] I L F := by
  refine Ev_of (ls0 := 0) (by decide +kernel) rfl rfl rfl ?_
  refine T_aload_n dX5_failLater_0 rfl ?_
  refine T_getv (v := (I 17 8)) dX5_failLater_1 fl_RX5_58 shp_17 rfl rfl ?_
  refine T_if_ne (tgt := 17) dX5_failLater_4 (by decide) (tq_ite h (fun h => ?_) (fun h => ?_))
  ·
    refine T_aload_n dX5_failLater_7 rfl ?_
    refine T_iload_n dX5_failLater_8 rfl ?_
    refine T_puti dX5_failLater_9 fl_RX5_58 pf_5_8 shp_17 rfl rfl rfl ?_
    refine T_aload_n dX5_failLater_12 rfl ?_
    refine T_iload_n dX5_failLater_13 rfl ?_
    refine T_puti dX5_failLater_14 fl_RX5_70 pf_5_9 shp_17 rfl rfl rfl ?_
    exact S_vret rfl dX5_failLater_17 h
  ·
    exact S_vret rfl dX5_failLater_17 h

theorem dX5_pass_0 : decode cX5_pass 0 = .ok (.aload_n 0, 1) := by decide +kernel
theorem dX5_pass_1 : decode cX5_pass 1 = .ok (.getfield 55, 3) := by decide +kernel
theorem dX5_pass_4 : decode cX5_pass 4 = .ok (.ifCond .ne 24, 3) := by decide +kernel
theorem dX5_pass_7 : decode cX5_pass 7 = .ok (.aload_n 0, 1) := by decide +kernel
theorem dX5_pass_8 : decode cX5_pass 8 = .ok (.getfield 26, 3) := by decide +kernel
theorem dX5_pass_11 : decode cX5_pass 11 = .ok (.aload_n 0, 1) := by decide +kernel
theorem dX5_pass_12 : decode cX5_pass 12 = .ok (.getfield 52, 3) := by decide +kernel
theorem dX5_pass_15 : decode cX5_pass 15 = .ok (.iaload, 1) := by decide +kernel
theorem dX5_pass_16 : decode cX5_pass 16 = .ok (.iload_n 1, 1) := by decide +kernel
theorem dX5_pass_17 : decode cX5_pass 17 = .ok (.if_icmp .eq 11, 3) := by decide +kernel
theorem dX5_pass_20 : decode cX5_pass 20 = .ok (.aload_n 0, 1) := by decide +kernel
theorem dX5_pass_21 : decode cX5_pass 21 = .ok (.iconst 1, 1) := by decide +kernel
theorem dX5_pass_22 : decode cX5_pass 22 = .ok (.putfield 55, 3) := by decide +kernel
theorem dX5_pass_25 : decode cX5_pass 25 = .ok (.goto 47, 3) := by decide +kernel
theorem dX5_pass_28 : decode cX5_pass 28 = .ok (.aload_n 0, 1) := by decide +kernel
theorem dX5_pass_29 : decode cX5_pass 29 = .ok (.getfield 55, 3) := by decide +kernel
theorem dX5_pass_32 : decode cX5_pass 32 = .ok (.ifCond .ne 21, 3) := by decide +kernel
theorem dX5_pass_35 : decode cX5_pass 35 = .ok (.aload_n 0, 1) := by decide +kernel
theorem dX5_pass_36 : decode cX5_pass 36 = .ok (.getfield 52, 3) := by decide +kernel
theorem dX5_pass_39 : decode cX5_pass 39 = .ok (.sipush 400, 3) := by decide +kernel
theorem dX5_pass_42 : decode cX5_pass 42 = .ok (.if_icmp .lt 11, 3) := by decide +kernel
theorem dX5_pass_45 : decode cX5_pass 45 = .ok (.aload_n 0, 1) := by decide +kernel
theorem dX5_pass_46 : decode cX5_pass 46 = .ok (.iconst 2, 1) := by decide +kernel
theorem dX5_pass_47 : decode cX5_pass 47 = .ok (.putfield 55, 3) := by decide +kernel
theorem dX5_pass_50 : decode cX5_pass 50 = .ok (.goto 22, 3) := by decide +kernel
theorem dX5_pass_53 : decode cX5_pass 53 = .ok (.aload_n 0, 1) := by decide +kernel
theorem dX5_pass_54 : decode cX5_pass 54 = .ok (.getfield 55, 3) := by decide +kernel
theorem dX5_pass_57 : decode cX5_pass 57 = .ok (.ifCond .ne 15, 3) := by decide +kernel
theorem dX5_pass_60 : decode cX5_pass 60 = .ok (.aload_n 0, 1) := by decide +kernel
theorem dX5_pass_61 : decode cX5_pass 61 = .ok (.dup, 1) := by decide +kernel
theorem dX5_pass_62 : decode cX5_pass 62 = .ok (.getfield 52, 3) := by decide +kernel
theorem dX5_pass_65 : decode cX5_pass 65 = .ok (.iconst 1, 1) := by decide +kernel
theorem dX5_pass_66 : decode cX5_pass 66 = .ok (.iadd, 1) := by decide +kernel
theorem dX5_pass_67 : decode cX5_pass 67 = .ok (.putfield 52, 3) := by decide +kernel
theorem dX5_pass_70 : decode cX5_pass 70 = .ok (.iconst 1, 1) := by decide +kernel
theorem dX5_pass_71 : decode cX5_pass 71 = .ok (.ireturn, 1) := by decide +kernel
theorem dX5_pass_72 : decode cX5_pass 72 = .ok (.iconst 0, 1) := by decide +kernel
theorem dX5_pass_73 : decode cX5_pass 73 = .ok (.ireturn, 1) := by decide +kernel
set_option maxRecDepth 100000 in
theorem sgX5_pass_0 {d : Nat} {I : st_I} {L : st_L} {F : Int32 → st_I → st_L → Prop} {a1 : Int32} (h : (if (I 17 7) = 0 then vp_in (I 17 6) 401 ∧ (if (I 19 ((I 17 6).toNatClampNeg)) = a1 then TI d mX5_pass 28 [.ref 17, .null] [] I L F else F 0 (u_I I 17 7 1) L) else TI d mX5_pass 28 [.ref 17, .null] [] I L F)) : EI d mX5_pass [.ref 17, .int a1] I L F := by
  refine Ev_of (ls0 := 0) (by decide +kernel) rfl rfl rfl ?_
  refine T_aload_n dX5_pass_0 rfl ?_
  refine T_getv (v := (I 17 7)) dX5_pass_1 fl_RX5_55 shp_17 rfl rfl ?_
  refine T_if_ne (tgt := 28) dX5_pass_4 (by decide) (tq_ite h (fun h => ?_) (fun h => ?_))
  ·
    refine T_aload_n dX5_pass_7 rfl ?_
    refine T_getr dX5_pass_8 fl_RX5_26 shp_17 rfl ?_
    refine T_aload_n dX5_pass_11 rfl ?_
    refine T_getv (v := (I 17 6)) dX5_pass_12 fl_RX5_52 shp_17 rfl rfl ?_
    refine T_ialdv (v := (I 19 ((I 17 6).toNatClampNeg))) (j := (I 17 6).toNatClampNeg) dX5_pass_15 shp_19 h.1 rfl rfl ?_
    replace h := h.2
    refine T_iload_n dX5_pass_16 rfl ?_
    refine T_icmp_eq (tgt := 28) dX5_pass_17 (by decide) (tq_ite h (fun h => ?_) (fun h => ?_))
    ·
      exact T_wk (lv' := [.ref 17, .null]) ⟨Or.inr rfl, Or.inl rfl, trivial⟩ h
    ·
      refine T_aload_n dX5_pass_20 rfl ?_
      refine T_iconst (v := 1) dX5_pass_21 (by decide +kernel) ?_
      refine T_puti dX5_pass_22 fl_RX5_55 pf_5_7 shp_17 rfl rfl rfl ?_
      refine T_goto (tgt := 72) dX5_pass_25 (by decide) ?_
      refine T_iconst (v := 0) dX5_pass_72 (by decide +kernel) ?_
      exact S_zret rfl dX5_pass_73 (by decide) h
  ·
    exact T_wk (lv' := [.ref 17, .null]) ⟨Or.inr rfl, Or.inl rfl, trivial⟩ h

set_option maxRecDepth 100000 in
theorem sgX5_pass_28 {d : Nat} {I : st_I} {L : st_L} {F : Int32 → st_I → st_L → Prop}  (h : (if (I 17 7) = 0 then (if (I 17 6) < 400 then TI d mX5_pass 53 [.ref 17, .null] [] I L F else F 0 (u_I I 17 7 2) L) else TI d mX5_pass 53 [.ref 17, .null] [] I L F)) : TI d mX5_pass 28 [.ref 17, .null] [] I L F := by
  refine T_aload_n dX5_pass_28 rfl ?_
  refine T_getv (v := (I 17 7)) dX5_pass_29 fl_RX5_55 shp_17 rfl rfl ?_
  refine T_if_ne (tgt := 53) dX5_pass_32 (by decide) (tq_ite h (fun h => ?_) (fun h => ?_))
  ·
    refine T_aload_n dX5_pass_35 rfl ?_
    refine T_getv (v := (I 17 6)) dX5_pass_36 fl_RX5_52 shp_17 rfl rfl ?_
    refine T_sipush (v := 400) dX5_pass_39 (by decide +kernel) ?_
    refine T_icmp_lt (tgt := 53) dX5_pass_42 (by decide) (tq_ite h (fun h => ?_) (fun h => ?_))
    ·
      exact h
    ·
      refine T_aload_n dX5_pass_45 rfl ?_
      refine T_iconst (v := 2) dX5_pass_46 (by decide +kernel) ?_
      refine T_puti dX5_pass_47 fl_RX5_55 pf_5_7 shp_17 rfl rfl rfl ?_
      refine T_goto (tgt := 72) dX5_pass_50 (by decide) ?_
      refine T_iconst (v := 0) dX5_pass_72 (by decide +kernel) ?_
      exact S_zret rfl dX5_pass_73 (by decide) h
  ·
    exact h

set_option maxRecDepth 100000 in
theorem sgX5_pass_53 {d : Nat} {I : st_I} {L : st_L} {F : Int32 → st_I → st_L → Prop}  (h : (if (I 17 7) = 0 then F 1 (u_I I 17 6 ((I 17 6) + 1)) L else F 0 I L)) : TI d mX5_pass 53 [.ref 17, .null] [] I L F := by
  refine T_aload_n dX5_pass_53 rfl ?_
  refine T_getv (v := (I 17 7)) dX5_pass_54 fl_RX5_55 shp_17 rfl rfl ?_
  refine T_if_ne (tgt := 72) dX5_pass_57 (by decide) (tq_ite h (fun h => ?_) (fun h => ?_))
  ·
    refine T_aload_n dX5_pass_60 rfl ?_
    refine T_dup dX5_pass_61 rfl ?_
    refine T_getv (v := (I 17 6)) dX5_pass_62 fl_RX5_52 shp_17 rfl rfl ?_
    refine T_iconst (v := 1) dX5_pass_65 (by decide +kernel) ?_
    refine T_iadd dX5_pass_66 ?_
    refine T_puti dX5_pass_67 fl_RX5_52 pf_5_6 shp_17 rfl rfl rfl ?_
    refine T_iconst (v := 1) dX5_pass_70 (by decide +kernel) ?_
    exact S_zret rfl dX5_pass_71 (by decide) h
  ·
    refine T_iconst (v := 0) dX5_pass_72 (by decide +kernel) ?_
    exact S_zret rfl dX5_pass_73 (by decide) h

theorem dX5_passIf_0 : decode cX5_passIf 0 = .ok (.aload_n 0, 1) := by decide +kernel
theorem dX5_passIf_1 : decode cX5_passIf 1 = .ok (.getfield 26, 3) := by decide +kernel
theorem dX5_passIf_4 : decode cX5_passIf 4 = .ok (.aload_n 0, 1) := by decide +kernel
theorem dX5_passIf_5 : decode cX5_passIf 5 = .ok (.getfield 52, 3) := by decide +kernel
theorem dX5_passIf_8 : decode cX5_passIf 8 = .ok (.iaload, 1) := by decide +kernel
theorem dX5_passIf_9 : decode cX5_passIf 9 = .ok (.iload_n 1, 1) := by decide +kernel
theorem dX5_passIf_10 : decode cX5_passIf 10 = .ok (.if_icmp .ne 15, 3) := by decide +kernel
theorem dX5_passIf_13 : decode cX5_passIf 13 = .ok (.aload_n 0, 1) := by decide +kernel
theorem dX5_passIf_14 : decode cX5_passIf 14 = .ok (.iload_n 1, 1) := by decide +kernel
theorem dX5_passIf_15 : decode cX5_passIf 15 = .ok (.invokevirtual 111, 3) := by decide +kernel
theorem dX5_passIf_18 : decode cX5_passIf 18 = .ok (.ifCond .eq 7, 3) := by decide +kernel
theorem dX5_passIf_21 : decode cX5_passIf 21 = .ok (.iconst 1, 1) := by decide +kernel
theorem dX5_passIf_22 : decode cX5_passIf 22 = .ok (.goto 4, 3) := by decide +kernel
theorem dX5_passIf_25 : decode cX5_passIf 25 = .ok (.iconst 0, 1) := by decide +kernel
theorem dX5_passIf_26 : decode cX5_passIf 26 = .ok (.ireturn, 1) := by decide +kernel
set_option maxRecDepth 100000 in
theorem sgX5_passIf_0 {d : Nat} {I : st_I} {L : st_L} {F : Int32 → st_I → st_L → Prop} {a1 : Int32} (h : vp_in (I 17 6) 401 ∧ (if (I 19 ((I 17 6).toNatClampNeg)) = a1 then EI d mX5_pass [.ref 17, .int a1] I L (fun r1 I1 L1 => (if r1 = 0 then F 0 I1 L1 else F 1 I1 L1)) else F 0 I L)) : EI (d + 1) mX5_passIf [.ref 17, .int a1] I L F := by
  refine Ev_of (ls0 := 0) (by decide +kernel) rfl rfl rfl ?_
  refine T_aload_n dX5_passIf_0 rfl ?_
  refine T_getr dX5_passIf_1 fl_RX5_26 shp_17 rfl ?_
  refine T_aload_n dX5_passIf_4 rfl ?_
  refine T_getv (v := (I 17 6)) dX5_passIf_5 fl_RX5_52 shp_17 rfl rfl ?_
  refine T_ialdv (v := (I 19 ((I 17 6).toNatClampNeg))) (j := (I 17 6).toNatClampNeg) dX5_passIf_8 shp_19 h.1 rfl rfl ?_
  replace h := h.2
  refine T_iload_n dX5_passIf_9 rfl ?_
  refine T_icmp_ne (tgt := 25) dX5_passIf_10 (by decide) (tq_ite h (fun h => ?_) (fun h => ?_))
  ·
    refine T_aload_n dX5_passIf_13 rfl ?_
    refine T_iload_n dX5_passIf_14 rfl ?_
    refine S_callVI (M' := mX5_pass) [.int a1] [] dX5_passIf_15 ml_RX5_111 mkX5_pass rfl shp_17 rfl rfl rfl (Nat.le_of_ble_eq_true rfl) h (fun r1 I1 L1 h => ?_)
    refine T_if_eq (tgt := 25) dX5_passIf_18 (by decide) (tq_ite h (fun h => ?_) (fun h => ?_))
    ·
      refine T_iconst (v := 0) dX5_passIf_25 (by decide +kernel) ?_
      exact S_zret rfl dX5_passIf_26 (by decide) h
    ·
      refine T_iconst (v := 1) dX5_passIf_21 (by decide +kernel) ?_
      refine T_goto (tgt := 26) dX5_passIf_22 (by decide) ?_
      exact S_zret rfl dX5_passIf_26 (by decide) h
  ·
    refine T_iconst (v := 0) dX5_passIf_25 (by decide +kernel) ?_
    exact S_zret rfl dX5_passIf_26 (by decide) h

theorem dX5_passFirst_0 : decode cX5_passFirst 0 = .ok (.aload_n 0, 1) := by decide +kernel
theorem dX5_passFirst_1 : decode cX5_passFirst 1 = .ok (.getfield 55, 3) := by decide +kernel
theorem dX5_passFirst_4 : decode cX5_passFirst 4 = .ok (.ifCond .ne 13, 3) := by decide +kernel
theorem dX5_passFirst_7 : decode cX5_passFirst 7 = .ok (.iload_n 1, 1) := by decide +kernel
theorem dX5_passFirst_8 : decode cX5_passFirst 8 = .ok (.iload_n 2, 1) := by decide +kernel
theorem dX5_passFirst_9 : decode cX5_passFirst 9 = .ok (.if_icmp .lt 8, 3) := by decide +kernel
theorem dX5_passFirst_12 : decode cX5_passFirst 12 = .ok (.aload_n 0, 1) := by decide +kernel
theorem dX5_passFirst_13 : decode cX5_passFirst 13 = .ok (.iconst 2, 1) := by decide +kernel
theorem dX5_passFirst_14 : decode cX5_passFirst 14 = .ok (.putfield 55, 3) := by decide +kernel
theorem dX5_passFirst_17 : decode cX5_passFirst 17 = .ok (.aload_n 0, 1) := by decide +kernel
theorem dX5_passFirst_18 : decode cX5_passFirst 18 = .ok (.aload_n 0, 1) := by decide +kernel
theorem dX5_passFirst_19 : decode cX5_passFirst 19 = .ok (.getfield 26, 3) := by decide +kernel
theorem dX5_passFirst_22 : decode cX5_passFirst 22 = .ok (.aload_n 0, 1) := by decide +kernel
theorem dX5_passFirst_23 : decode cX5_passFirst 23 = .ok (.getfield 52, 3) := by decide +kernel
theorem dX5_passFirst_26 : decode cX5_passFirst 26 = .ok (.iaload, 1) := by decide +kernel
theorem dX5_passFirst_27 : decode cX5_passFirst 27 = .ok (.invokevirtual 111, 3) := by decide +kernel
theorem dX5_passFirst_30 : decode cX5_passFirst 30 = .ok (.ireturn, 1) := by decide +kernel
set_option maxRecDepth 100000 in
theorem sgX5_passFirst_0 {d : Nat} {I : st_I} {L : st_L} {F : Int32 → st_I → st_L → Prop} {a1 : Int32} {a2 : Int32} (h : (if (I 17 7) = 0 then (if a1 < a2 then TI (d + 1) mX5_passFirst 17 [.ref 17, .null, .null] [] I L F else TI (d + 1) mX5_passFirst 17 [.ref 17, .null, .null] [] (u_I I 17 7 2) L F) else TI (d + 1) mX5_passFirst 17 [.ref 17, .null, .null] [] I L F)) : EI (d + 1) mX5_passFirst [.ref 17, .int a1, .int a2] I L F := by
  refine Ev_of (ls0 := 0) (by decide +kernel) rfl rfl rfl ?_
  refine T_aload_n dX5_passFirst_0 rfl ?_
  refine T_getv (v := (I 17 7)) dX5_passFirst_1 fl_RX5_55 shp_17 rfl rfl ?_
  refine T_if_ne (tgt := 17) dX5_passFirst_4 (by decide) (tq_ite h (fun h => ?_) (fun h => ?_))
  ·
    refine T_iload_n dX5_passFirst_7 rfl ?_
    refine T_iload_n dX5_passFirst_8 rfl ?_
    refine T_icmp_lt (tgt := 17) dX5_passFirst_9 (by decide) (tq_ite h (fun h => ?_) (fun h => ?_))
    ·
      exact T_wk (lv' := [.ref 17, .null, .null]) ⟨Or.inr rfl, Or.inl rfl, Or.inl rfl, trivial⟩ h
    ·
      refine T_aload_n dX5_passFirst_12 rfl ?_
      refine T_iconst (v := 2) dX5_passFirst_13 (by decide +kernel) ?_
      refine T_puti dX5_passFirst_14 fl_RX5_55 pf_5_7 shp_17 rfl rfl rfl ?_
      exact T_wk (lv' := [.ref 17, .null, .null]) ⟨Or.inr rfl, Or.inl rfl, Or.inl rfl, trivial⟩ h
  ·
    exact T_wk (lv' := [.ref 17, .null, .null]) ⟨Or.inr rfl, Or.inl rfl, Or.inl rfl, trivial⟩ h

set_option maxRecDepth 100000 in
theorem sgX5_passFirst_17 {d : Nat} {I : st_I} {L : st_L} {F : Int32 → st_I → st_L → Prop}  (h : vp_in (I 17 6) 401 ∧ EI d mX5_pass [.ref 17, .int (I 19 ((I 17 6).toNatClampNeg))] I L (fun r1 I1 L1 => (r1 = 0 ∨ r1 = 1) ∧ F r1 I1 L1)) : TI (d + 1) mX5_passFirst 17 [.ref 17, .null, .null] [] I L F := by
  refine T_aload_n dX5_passFirst_17 rfl ?_
  refine T_aload_n dX5_passFirst_18 rfl ?_
  refine T_getr dX5_passFirst_19 fl_RX5_26 shp_17 rfl ?_
  refine T_aload_n dX5_passFirst_22 rfl ?_
  refine T_getv (v := (I 17 6)) dX5_passFirst_23 fl_RX5_52 shp_17 rfl rfl ?_
  refine T_ialdv (v := (I 19 ((I 17 6).toNatClampNeg))) (j := (I 17 6).toNatClampNeg) dX5_passFirst_26 shp_19 h.1 rfl rfl ?_
  replace h := h.2
  refine S_callVI (M' := mX5_pass) [.int (I 19 ((I 17 6).toNatClampNeg))] [] dX5_passFirst_27 ml_RX5_111 mkX5_pass rfl shp_17 rfl rfl rfl (Nat.le_of_ble_eq_true rfl) h (fun r1 I1 L1 h => ?_)
  exact S_zret rfl dX5_passFirst_30 h.1 h.2

theorem dX5_takeTell_0 : decode cX5_takeTell 0 = .ok (.aload_n 0, 1) := by decide +kernel
theorem dX5_takeTell_1 : decode cX5_takeTell 1 = .ok (.getfield 26, 3) := by decide +kernel
theorem dX5_takeTell_4 : decode cX5_takeTell 4 = .ok (.aload_n 0, 1) := by decide +kernel
theorem dX5_takeTell_5 : decode cX5_takeTell 5 = .ok (.getfield 52, 3) := by decide +kernel
theorem dX5_takeTell_8 : decode cX5_takeTell 8 = .ok (.iaload, 1) := by decide +kernel
theorem dX5_takeTell_9 : decode cX5_takeTell 9 = .ok (.tableswitch 91 140 147 #[47, 91, 91, 54, 62, 70, 77, 84], 47) := by decide +kernel
theorem dX5_takeTell_56 : decode cX5_takeTell 56 = .ok (.aload_n 0, 1) := by decide +kernel
theorem dX5_takeTell_57 : decode cX5_takeTell 57 = .ok (.invokevirtual 114, 3) := by decide +kernel
theorem dX5_takeTell_60 : decode cX5_takeTell 60 = .ok (.goto 45, 3) := by decide +kernel
theorem dX5_takeTell_63 : decode cX5_takeTell 63 = .ok (.aload_n 0, 1) := by decide +kernel
theorem dX5_takeTell_64 : decode cX5_takeTell 64 = .ok (.iconst 0, 1) := by decide +kernel
theorem dX5_takeTell_65 : decode cX5_takeTell 65 = .ok (.invokevirtual 117, 3) := by decide +kernel
theorem dX5_takeTell_68 : decode cX5_takeTell 68 = .ok (.goto 37, 3) := by decide +kernel
theorem dX5_takeTell_71 : decode cX5_takeTell 71 = .ok (.aload_n 0, 1) := by decide +kernel
theorem dX5_takeTell_72 : decode cX5_takeTell 72 = .ok (.iconst 1, 1) := by decide +kernel
theorem dX5_takeTell_73 : decode cX5_takeTell 73 = .ok (.invokevirtual 117, 3) := by decide +kernel
theorem dX5_takeTell_76 : decode cX5_takeTell 76 = .ok (.goto 29, 3) := by decide +kernel
theorem dX5_takeTell_79 : decode cX5_takeTell 79 = .ok (.aload_n 0, 1) := by decide +kernel
theorem dX5_takeTell_80 : decode cX5_takeTell 80 = .ok (.invokevirtual 121, 3) := by decide +kernel
theorem dX5_takeTell_83 : decode cX5_takeTell 83 = .ok (.goto 22, 3) := by decide +kernel
theorem dX5_takeTell_86 : decode cX5_takeTell 86 = .ok (.aload_n 0, 1) := by decide +kernel
theorem dX5_takeTell_87 : decode cX5_takeTell 87 = .ok (.invokevirtual 124, 3) := by decide +kernel
theorem dX5_takeTell_90 : decode cX5_takeTell 90 = .ok (.goto 15, 3) := by decide +kernel
theorem dX5_takeTell_93 : decode cX5_takeTell 93 = .ok (.aload_n 0, 1) := by decide +kernel
theorem dX5_takeTell_94 : decode cX5_takeTell 94 = .ok (.invokevirtual 127, 3) := by decide +kernel
theorem dX5_takeTell_97 : decode cX5_takeTell 97 = .ok (.goto 8, 3) := by decide +kernel
theorem dX5_takeTell_100 : decode cX5_takeTell 100 = .ok (.aload_n 0, 1) := by decide +kernel
theorem dX5_takeTell_101 : decode cX5_takeTell 101 = .ok (.iconst 1, 1) := by decide +kernel
theorem dX5_takeTell_102 : decode cX5_takeTell 102 = .ok (.putfield 55, 3) := by decide +kernel
theorem dX5_takeTell_105 : decode cX5_takeTell 105 = .ok (.return_, 1) := by decide +kernel
set_option maxRecDepth 100000 in
theorem sgX5_takeTell_0 {d : Nat} {I : st_I} {L : st_L} {F : st_I → st_L → Prop}  (h : vp_in (I 17 6) 401 ∧ (if (I 19 ((I 17 6).toNatClampNeg)) = 140 then EV d mX5_takeFiddle [.ref 17] I L (fun I1 L1 => F I1 L1) else (if (I 19 ((I 17 6).toNatClampNeg)) = 143 then EV d mX5_takePerson [.ref 17, .int 0] I L (fun I2 L2 => F I2 L2) else (if (I 19 ((I 17 6).toNatClampNeg)) = 144 then EV d mX5_takePerson [.ref 17, .int 1] I L (fun I3 L3 => F I3 L3) else (if (I 19 ((I 17 6).toNatClampNeg)) = 145 then EV d mX5_takeBow [.ref 17] I L (fun I4 L4 => F I4 L4) else (if (I 19 ((I 17 6).toNatClampNeg)) = 146 then EV d mX5_takeLaw [.ref 17] I L (fun I5 L5 => F I5 L5) else (if (I 19 ((I 17 6).toNatClampNeg)) = 147 then EV d mX5_takePlan [.ref 17] I L (fun I6 L6 => F I6 L6) else F (u_I I 17 7 1) L))))))) : EV (d + 1) mX5_takeTell [.ref 17] I L F := by
  refine Ev_of (ls0 := 0) (by decide +kernel) rfl rfl rfl ?_
  refine T_aload_n dX5_takeTell_0 rfl ?_
  refine T_getr dX5_takeTell_1 fl_RX5_26 shp_17 rfl ?_
  refine T_aload_n dX5_takeTell_4 rfl ?_
  refine T_getv (v := (I 17 6)) dX5_takeTell_5 fl_RX5_52 shp_17 rfl rfl ?_
  refine T_ialdv (v := (I 19 ((I 17 6).toNatClampNeg))) (j := (I 17 6).toNatClampNeg) dX5_takeTell_8 shp_19 h.1 rfl rfl ?_
  replace h := h.2
  by_cases hc140 : (I 19 ((I 17 6).toNatClampNeg)) = 140
  · rw [if_pos hc140] at h
    refine T_tableIn (off := 47) (tgt := 56) dX5_takeTell_9 (by rw [hc140]; decide +kernel) (by rw [hc140]; decide +kernel) (by rw [hc140]; decide +kernel) (by decide) ?_
    refine T_aload_n dX5_takeTell_56 rfl ?_
    refine S_callVV (M' := mX5_takeFiddle) [] [] dX5_takeTell_57 ml_RX5_114 mkX5_takeFiddle rfl shp_17 rfl rfl rfl (Nat.le_of_ble_eq_true rfl) h (fun I1 L1 h => ?_)
    refine T_goto (tgt := 105) dX5_takeTell_60 (by decide) ?_
    exact S_vret rfl dX5_takeTell_105 h
  rw [if_neg hc140] at h
  by_cases hc143 : (I 19 ((I 17 6).toNatClampNeg)) = 143
  · rw [if_pos hc143] at h
    refine T_tableIn (off := 54) (tgt := 63) dX5_takeTell_9 (by rw [hc143]; decide +kernel) (by rw [hc143]; decide +kernel) (by rw [hc143]; decide +kernel) (by decide) ?_
    refine T_aload_n dX5_takeTell_63 rfl ?_
    refine T_iconst (v := 0) dX5_takeTell_64 (by decide +kernel) ?_
    refine S_callVV (M' := mX5_takePerson) [.int 0] [] dX5_takeTell_65 ml_RX5_117 mkX5_takePerson rfl shp_17 rfl rfl rfl (Nat.le_of_ble_eq_true rfl) h (fun I2 L2 h => ?_)
    refine T_goto (tgt := 105) dX5_takeTell_68 (by decide) ?_
    exact S_vret rfl dX5_takeTell_105 h
  rw [if_neg hc143] at h
  by_cases hc144 : (I 19 ((I 17 6).toNatClampNeg)) = 144
  · rw [if_pos hc144] at h
    refine T_tableIn (off := 62) (tgt := 71) dX5_takeTell_9 (by rw [hc144]; decide +kernel) (by rw [hc144]; decide +kernel) (by rw [hc144]; decide +kernel) (by decide) ?_
    refine T_aload_n dX5_takeTell_71 rfl ?_
    refine T_iconst (v := 1) dX5_takeTell_72 (by decide +kernel) ?_
    refine S_callVV (M' := mX5_takePerson) [.int 1] [] dX5_takeTell_73 ml_RX5_117 mkX5_takePerson rfl shp_17 rfl rfl rfl (Nat.le_of_ble_eq_true rfl) h (fun I3 L3 h => ?_)
    refine T_goto (tgt := 105) dX5_takeTell_76 (by decide) ?_
    exact S_vret rfl dX5_takeTell_105 h
  rw [if_neg hc144] at h
  by_cases hc145 : (I 19 ((I 17 6).toNatClampNeg)) = 145
  · rw [if_pos hc145] at h
    refine T_tableIn (off := 70) (tgt := 79) dX5_takeTell_9 (by rw [hc145]; decide +kernel) (by rw [hc145]; decide +kernel) (by rw [hc145]; decide +kernel) (by decide) ?_
    refine T_aload_n dX5_takeTell_79 rfl ?_
    refine S_callVV (M' := mX5_takeBow) [] [] dX5_takeTell_80 ml_RX5_121 mkX5_takeBow rfl shp_17 rfl rfl rfl (Nat.le_of_ble_eq_true rfl) h (fun I4 L4 h => ?_)
    refine T_goto (tgt := 105) dX5_takeTell_83 (by decide) ?_
    exact S_vret rfl dX5_takeTell_105 h
  rw [if_neg hc145] at h
  by_cases hc146 : (I 19 ((I 17 6).toNatClampNeg)) = 146
  · rw [if_pos hc146] at h
    refine T_tableIn (off := 77) (tgt := 86) dX5_takeTell_9 (by rw [hc146]; decide +kernel) (by rw [hc146]; decide +kernel) (by rw [hc146]; decide +kernel) (by decide) ?_
    refine T_aload_n dX5_takeTell_86 rfl ?_
    refine S_callVV (M' := mX5_takeLaw) [] [] dX5_takeTell_87 ml_RX5_124 mkX5_takeLaw rfl shp_17 rfl rfl rfl (Nat.le_of_ble_eq_true rfl) h (fun I5 L5 h => ?_)
    refine T_goto (tgt := 105) dX5_takeTell_90 (by decide) ?_
    exact S_vret rfl dX5_takeTell_105 h
  rw [if_neg hc146] at h
  by_cases hc147 : (I 19 ((I 17 6).toNatClampNeg)) = 147
  · rw [if_pos hc147] at h
    refine T_tableIn (off := 84) (tgt := 93) dX5_takeTell_9 (by rw [hc147]; decide +kernel) (by rw [hc147]; decide +kernel) (by rw [hc147]; decide +kernel) (by decide) ?_
    refine T_aload_n dX5_takeTell_93 rfl ?_
    refine S_callVV (M' := mX5_takePlan) [] [] dX5_takeTell_94 ml_RX5_127 mkX5_takePlan rfl shp_17 rfl rfl rfl (Nat.le_of_ble_eq_true rfl) h (fun I6 L6 h => ?_)
    refine T_goto (tgt := 105) dX5_takeTell_97 (by decide) ?_
    exact S_vret rfl dX5_takeTell_105 h
  rw [if_neg hc147] at h
  by_cases hc141 : (I 19 ((I 17 6).toNatClampNeg)) = 141
  · skip
    refine T_tableIn (off := 91) (tgt := 100) dX5_takeTell_9 (by rw [hc141]; decide +kernel) (by rw [hc141]; decide +kernel) (by rw [hc141]; decide +kernel) (by decide) ?_
    refine T_aload_n dX5_takeTell_100 rfl ?_
    refine T_iconst (v := 1) dX5_takeTell_101 (by decide +kernel) ?_
    refine T_puti dX5_takeTell_102 fl_RX5_55 pf_5_7 shp_17 rfl rfl rfl ?_
    exact S_vret rfl dX5_takeTell_105 h
  by_cases hc142 : (I 19 ((I 17 6).toNatClampNeg)) = 142
  · skip
    refine T_tableIn (off := 91) (tgt := 100) dX5_takeTell_9 (by rw [hc142]; decide +kernel) (by rw [hc142]; decide +kernel) (by rw [hc142]; decide +kernel) (by decide) ?_
    refine T_aload_n dX5_takeTell_100 rfl ?_
    refine T_iconst (v := 1) dX5_takeTell_101 (by decide +kernel) ?_
    refine T_puti dX5_takeTell_102 fl_RX5_55 pf_5_7 shp_17 rfl rfl rfl ?_
    exact S_vret rfl dX5_takeTell_105 h
  have hout : (I 19 ((I 17 6).toNatClampNeg)).toInt < 140 ∨ 147 < (I 19 ((I 17 6).toNatClampNeg)).toInt := by
    have g140 := lv_neT (a := 140) hc140 (by decide +kernel)
    have g141 := lv_neT (a := 141) hc141 (by decide +kernel)
    have g142 := lv_neT (a := 142) hc142 (by decide +kernel)
    have g143 := lv_neT (a := 143) hc143 (by decide +kernel)
    have g144 := lv_neT (a := 144) hc144 (by decide +kernel)
    have g145 := lv_neT (a := 145) hc145 (by decide +kernel)
    have g146 := lv_neT (a := 146) hc146 (by decide +kernel)
    have g147 := lv_neT (a := 147) hc147 (by decide +kernel)
    omega
  refine T_tableOut (tgt := 100) dX5_takeTell_9 hout (by decide) ?_
  refine T_aload_n dX5_takeTell_100 rfl ?_
  refine T_iconst (v := 1) dX5_takeTell_101 (by decide +kernel) ?_
  refine T_puti dX5_takeTell_102 fl_RX5_55 pf_5_7 shp_17 rfl rfl rfl ?_
  exact S_vret rfl dX5_takeTell_105 h

theorem dX5_takeFiddle_0 : decode cX5_takeFiddle 0 = .ok (.aload_n 0, 1) := by decide +kernel
theorem dX5_takeFiddle_1 : decode cX5_takeFiddle 1 = .ok (.getfield 18, 3) := by decide +kernel
theorem dX5_takeFiddle_4 : decode cX5_takeFiddle 4 = .ok (.getfield 130, 3) := by decide +kernel
theorem dX5_takeFiddle_7 : decode cX5_takeFiddle 7 = .ok (.istore_n 1, 1) := by decide +kernel
theorem dX5_takeFiddle_8 : decode cX5_takeFiddle 8 = .ok (.aload_n 0, 1) := by decide +kernel
theorem dX5_takeFiddle_9 : decode cX5_takeFiddle 9 = .ok (.iload_n 1, 1) := by decide +kernel
theorem dX5_takeFiddle_10 : decode cX5_takeFiddle 10 = .ok (.bipush 8, 2) := by decide +kernel
theorem dX5_takeFiddle_12 : decode cX5_takeFiddle 12 = .ok (.invokevirtual 133, 3) := by decide +kernel
theorem dX5_takeFiddle_15 : decode cX5_takeFiddle 15 = .ok (.ifCond .ne 4, 3) := by decide +kernel
theorem dX5_takeFiddle_18 : decode cX5_takeFiddle 18 = .ok (.return_, 1) := by decide +kernel
theorem dX5_takeFiddle_19 : decode cX5_takeFiddle 19 = .ok (.iload_n 1, 1) := by decide +kernel
theorem dX5_takeFiddle_20 : decode cX5_takeFiddle 20 = .ok (.iconst 5, 1) := by decide +kernel
theorem dX5_takeFiddle_21 : decode cX5_takeFiddle 21 = .ok (.imul, 1) := by decide +kernel
theorem dX5_takeFiddle_22 : decode cX5_takeFiddle 22 = .ok (.istore_n 2, 1) := by decide +kernel
theorem dX5_takeFiddle_23 : decode cX5_takeFiddle 23 = .ok (.aload_n 0, 1) := by decide +kernel
theorem dX5_takeFiddle_24 : decode cX5_takeFiddle 24 = .ok (.sipush 140, 3) := by decide +kernel
theorem dX5_takeFiddle_27 : decode cX5_takeFiddle 27 = .ok (.iload_n 1, 1) := by decide +kernel
theorem dX5_takeFiddle_28 : decode cX5_takeFiddle 28 = .ok (.invokevirtual 137, 3) := by decide +kernel
theorem dX5_takeFiddle_31 : decode cX5_takeFiddle 31 = .ok (.aload_n 0, 1) := by decide +kernel
theorem dX5_takeFiddle_32 : decode cX5_takeFiddle 32 = .ok (.sipush 135, 3) := by decide +kernel
theorem dX5_takeFiddle_35 : decode cX5_takeFiddle 35 = .ok (.invokevirtual 141, 3) := by decide +kernel
theorem dX5_takeFiddle_38 : decode cX5_takeFiddle 38 = .ok (.istore_n 3, 1) := by decide +kernel
theorem dX5_takeFiddle_39 : decode cX5_takeFiddle 39 = .ok (.iload_n 3, 1) := by decide +kernel
theorem dX5_takeFiddle_40 : decode cX5_takeFiddle 40 = .ok (.ifCond .ne 11, 3) := by decide +kernel
theorem dX5_takeFiddle_43 : decode cX5_takeFiddle 43 = .ok (.aload_n 0, 1) := by decide +kernel
theorem dX5_takeFiddle_44 : decode cX5_takeFiddle 44 = .ok (.sipush 141, 3) := by decide +kernel
theorem dX5_takeFiddle_47 : decode cX5_takeFiddle 47 = .ok (.invokevirtual 111, 3) := by decide +kernel
theorem dX5_takeFiddle_50 : decode cX5_takeFiddle 50 = .ok (.pop, 1) := by decide +kernel
theorem dX5_takeFiddle_51 : decode cX5_takeFiddle 51 = .ok (.aload_n 0, 1) := by decide +kernel
theorem dX5_takeFiddle_52 : decode cX5_takeFiddle 52 = .ok (.getfield 18, 3) := by decide +kernel
theorem dX5_takeFiddle_55 : decode cX5_takeFiddle 55 = .ok (.getfield 144, 3) := by decide +kernel
theorem dX5_takeFiddle_58 : decode cX5_takeFiddle 58 = .ok (.iload_n 2, 1) := by decide +kernel
theorem dX5_takeFiddle_59 : decode cX5_takeFiddle 59 = .ok (.iload_n 3, 1) := by decide +kernel
theorem dX5_takeFiddle_60 : decode cX5_takeFiddle 60 = .ok (.ifCond .eq 7, 3) := by decide +kernel
theorem dX5_takeFiddle_63 : decode cX5_takeFiddle 63 = .ok (.iconst 1, 1) := by decide +kernel
theorem dX5_takeFiddle_64 : decode cX5_takeFiddle 64 = .ok (.goto 4, 3) := by decide +kernel
theorem dX5_takeFiddle_67 : decode cX5_takeFiddle 67 = .ok (.iconst 0, 1) := by decide +kernel
theorem dX5_takeFiddle_68 : decode cX5_takeFiddle 68 = .ok (.iastore, 1) := by decide +kernel
theorem dX5_takeFiddle_69 : decode cX5_takeFiddle 69 = .ok (.iconst 1, 1) := by decide +kernel
theorem dX5_takeFiddle_70 : decode cX5_takeFiddle 70 = .ok (.istore 4, 2) := by decide +kernel
theorem dX5_takeFiddle_72 : decode cX5_takeFiddle 72 = .ok (.iload 4, 2) := by decide +kernel
theorem dX5_takeFiddle_74 : decode cX5_takeFiddle 74 = .ok (.iconst 3, 1) := by decide +kernel
theorem dX5_takeFiddle_75 : decode cX5_takeFiddle 75 = .ok (.if_icmp .gt 27, 3) := by decide +kernel
theorem dX5_takeFiddle_78 : decode cX5_takeFiddle 78 = .ok (.aload_n 0, 1) := by decide +kernel
theorem dX5_takeFiddle_79 : decode cX5_takeFiddle 79 = .ok (.getfield 18, 3) := by decide +kernel
theorem dX5_takeFiddle_82 : decode cX5_takeFiddle 82 = .ok (.getfield 144, 3) := by decide +kernel
theorem dX5_takeFiddle_85 : decode cX5_takeFiddle 85 = .ok (.iload_n 2, 1) := by decide +kernel
theorem dX5_takeFiddle_86 : decode cX5_takeFiddle 86 = .ok (.iload 4, 2) := by decide +kernel
theorem dX5_takeFiddle_88 : decode cX5_takeFiddle 88 = .ok (.iadd, 1) := by decide +kernel
theorem dX5_takeFiddle_89 : decode cX5_takeFiddle 89 = .ok (.aload_n 0, 1) := by decide +kernel
theorem dX5_takeFiddle_90 : decode cX5_takeFiddle 90 = .ok (.bipush 20, 2) := by decide +kernel
theorem dX5_takeFiddle_92 : decode cX5_takeFiddle 92 = .ok (.invokevirtual 147, 3) := by decide +kernel
theorem dX5_takeFiddle_95 : decode cX5_takeFiddle 95 = .ok (.iastore, 1) := by decide +kernel
theorem dX5_takeFiddle_96 : decode cX5_takeFiddle 96 = .ok (.iinc 4 1, 3) := by decide +kernel
theorem dX5_takeFiddle_99 : decode cX5_takeFiddle 99 = .ok (.goto (-27), 3) := by decide +kernel
theorem dX5_takeFiddle_102 : decode cX5_takeFiddle 102 = .ok (.aload_n 0, 1) := by decide +kernel
theorem dX5_takeFiddle_103 : decode cX5_takeFiddle 103 = .ok (.getfield 18, 3) := by decide +kernel
theorem dX5_takeFiddle_106 : decode cX5_takeFiddle 106 = .ok (.getfield 144, 3) := by decide +kernel
theorem dX5_takeFiddle_109 : decode cX5_takeFiddle 109 = .ok (.iload_n 2, 1) := by decide +kernel
theorem dX5_takeFiddle_110 : decode cX5_takeFiddle 110 = .ok (.iconst 4, 1) := by decide +kernel
theorem dX5_takeFiddle_111 : decode cX5_takeFiddle 111 = .ok (.iadd, 1) := by decide +kernel
theorem dX5_takeFiddle_112 : decode cX5_takeFiddle 112 = .ok (.aload_n 0, 1) := by decide +kernel
theorem dX5_takeFiddle_113 : decode cX5_takeFiddle 113 = .ok (.sipush 142, 3) := by decide +kernel
theorem dX5_takeFiddle_116 : decode cX5_takeFiddle 116 = .ok (.invokevirtual 141, 3) := by decide +kernel
theorem dX5_takeFiddle_119 : decode cX5_takeFiddle 119 = .ok (.ifCond .eq 7, 3) := by decide +kernel
theorem dX5_takeFiddle_122 : decode cX5_takeFiddle 122 = .ok (.iconst 1, 1) := by decide +kernel
theorem dX5_takeFiddle_123 : decode cX5_takeFiddle 123 = .ok (.goto 4, 3) := by decide +kernel
theorem dX5_takeFiddle_126 : decode cX5_takeFiddle 126 = .ok (.iconst 0, 1) := by decide +kernel
theorem dX5_takeFiddle_127 : decode cX5_takeFiddle 127 = .ok (.iastore, 1) := by decide +kernel
theorem dX5_takeFiddle_128 : decode cX5_takeFiddle 128 = .ok (.aload_n 0, 1) := by decide +kernel
theorem dX5_takeFiddle_129 : decode cX5_takeFiddle 129 = .ok (.bipush 59, 2) := by decide +kernel
theorem dX5_takeFiddle_131 : decode cX5_takeFiddle 131 = .ok (.invokevirtual 111, 3) := by decide +kernel
theorem dX5_takeFiddle_134 : decode cX5_takeFiddle 134 = .ok (.pop, 1) := by decide +kernel
theorem dX5_takeFiddle_135 : decode cX5_takeFiddle 135 = .ok (.aload_n 0, 1) := by decide +kernel
theorem dX5_takeFiddle_136 : decode cX5_takeFiddle 136 = .ok (.getfield 18, 3) := by decide +kernel
theorem dX5_takeFiddle_139 : decode cX5_takeFiddle 139 = .ok (.dup, 1) := by decide +kernel
theorem dX5_takeFiddle_140 : decode cX5_takeFiddle 140 = .ok (.getfield 130, 3) := by decide +kernel
theorem dX5_takeFiddle_143 : decode cX5_takeFiddle 143 = .ok (.iconst 1, 1) := by decide +kernel
theorem dX5_takeFiddle_144 : decode cX5_takeFiddle 144 = .ok (.iadd, 1) := by decide +kernel
theorem dX5_takeFiddle_145 : decode cX5_takeFiddle 145 = .ok (.putfield 130, 3) := by decide +kernel
theorem dX5_takeFiddle_148 : decode cX5_takeFiddle 148 = .ok (.return_, 1) := by decide +kernel
set_option maxRecDepth 100000 in
theorem sgX5_takeFiddle_0 {d : Nat} {I : st_I} {L : st_L} {F : st_I → st_L → Prop}  (h : EI d mX5_passFirst [.ref 17, .int (I 9 0), .int 8] I L (fun r1 I1 L1 => (if r1 = 0 then F I1 L1 else EV d mX5_takeNewName [.ref 17, .int 140, .int (I 9 0)] I1 L1 (fun I2 L2 => EI d mX5_passIf [.ref 17, .int 135] I2 L2 (fun r3 I3 L3 => (if r3 = 0 then EI d mX5_pass [.ref 17, .int 141] I3 L3 (fun r4 I4 L4 => TV (d + 1) mX5_takeFiddle 51 [.ref 17, .null, .int ((I 9 0) * 5), .int r3, .null] [] I4 L4 F) else TV (d + 1) mX5_takeFiddle 51 [.ref 17, .null, .int ((I 9 0) * 5), .int r3, .null] [] I3 L3 F)))))) : EV (d + 1) mX5_takeFiddle [.ref 17] I L F := by
  refine Ev_of (ls0 := 4) (by decide +kernel) rfl rfl rfl ?_
  refine T_aload_n dX5_takeFiddle_0 rfl ?_
  refine T_getr dX5_takeFiddle_1 fl_RX5_18 shp_17 rfl ?_
  refine T_getv (v := (I 9 0)) dX5_takeFiddle_4 fl_RX5_130 shp_9 rfl rfl ?_
  refine T_istore_n (lv' := [.ref 17, .int (I 9 0), .null, .null, .null]) dX5_takeFiddle_7 rfl (by decide) rfl ?_
  refine T_aload_n dX5_takeFiddle_8 rfl ?_
  refine T_iload_n dX5_takeFiddle_9 rfl ?_
  refine T_bipush (v := 8) dX5_takeFiddle_10 (by decide +kernel) ?_
  refine S_callVI (M' := mX5_passFirst) [.int (I 9 0), .int 8] [] dX5_takeFiddle_12 ml_RX5_133 mkX5_passFirst rfl shp_17 rfl rfl rfl (Nat.le_of_ble_eq_true rfl) h (fun r1 I1 L1 h => ?_)
  refine T_if_ne (tgt := 19) dX5_takeFiddle_15 (by decide) (tq_ite h (fun h => ?_) (fun h => ?_))
  ·
    exact S_vret rfl dX5_takeFiddle_18 h
  ·
    refine T_iload_n dX5_takeFiddle_19 rfl ?_
    refine T_iconst (v := 5) dX5_takeFiddle_20 (by decide +kernel) ?_
    refine T_imul dX5_takeFiddle_21 ?_
    refine T_istore_n (lv' := [.ref 17, .int (I 9 0), .int ((I 9 0) * 5), .null, .null]) dX5_takeFiddle_22 rfl (by decide) rfl ?_
    refine T_aload_n dX5_takeFiddle_23 rfl ?_
    refine T_sipush (v := 140) dX5_takeFiddle_24 (by decide +kernel) ?_
    refine T_iload_n dX5_takeFiddle_27 rfl ?_
    refine S_callVV (M' := mX5_takeNewName) [.int 140, .int (I 9 0)] [] dX5_takeFiddle_28 ml_RX5_137 mkX5_takeNewName rfl shp_17 rfl rfl rfl (Nat.le_of_ble_eq_true rfl) h (fun I2 L2 h => ?_)
    refine T_aload_n dX5_takeFiddle_31 rfl ?_
    refine T_sipush (v := 135) dX5_takeFiddle_32 (by decide +kernel) ?_
    refine S_callVI (M' := mX5_passIf) [.int 135] [] dX5_takeFiddle_35 ml_RX5_141 mkX5_passIf rfl shp_17 rfl rfl rfl (Nat.le_of_ble_eq_true rfl) h (fun r3 I3 L3 h => ?_)
    refine T_istore_n (lv' := [.ref 17, .int (I 9 0), .int ((I 9 0) * 5), .int r3, .null]) dX5_takeFiddle_38 rfl (by decide) rfl ?_
    refine T_iload_n dX5_takeFiddle_39 rfl ?_
    refine T_if_ne (tgt := 51) dX5_takeFiddle_40 (by decide) (tq_ite h (fun h => ?_) (fun h => ?_))
    ·
      refine T_aload_n dX5_takeFiddle_43 rfl ?_
      refine T_sipush (v := 141) dX5_takeFiddle_44 (by decide +kernel) ?_
      refine S_callVI (M' := mX5_pass) [.int 141] [] dX5_takeFiddle_47 ml_RX5_111 mkX5_pass rfl shp_17 rfl rfl rfl (Nat.le_of_ble_eq_true rfl) h (fun r4 I4 L4 h => ?_)
      refine T_pop dX5_takeFiddle_50 rfl ?_
      exact T_wk (lv' := [.ref 17, .null, .int ((I 9 0) * 5), .int r3, .null]) ⟨Or.inr rfl, Or.inl rfl, Or.inr rfl, Or.inr rfl, Or.inr rfl, trivial⟩ h
    ·
      exact T_wk (lv' := [.ref 17, .null, .int ((I 9 0) * 5), .int r3, .null]) ⟨Or.inr rfl, Or.inl rfl, Or.inr rfl, Or.inr rfl, Or.inr rfl, trivial⟩ h

set_option maxRecDepth 100000 in
theorem sgX5_takeFiddle_51 {d : Nat} {I : st_I} {L : st_L} {F : st_I → st_L → Prop} {x2 : Int32} {x3 : Int32} (h : vp_in x2 40 ∧ TV (d + 1) mX5_takeFiddle 72 [.ref 17, .null, .int x2, .null, .int 1] [] (u_I I 10 (x2.toNatClampNeg) (if x3 = 0 then (0 : Int32) else 1)) L F) : TV (d + 1) mX5_takeFiddle 51 [.ref 17, .null, .int x2, .int x3, .null] [] I L F := by
  refine T_aload_n dX5_takeFiddle_51 rfl ?_
  refine T_getr dX5_takeFiddle_52 fl_RX5_18 shp_17 rfl ?_
  refine T_getr dX5_takeFiddle_55 fl_RX5_144 shp_9 rfl ?_
  refine T_iload_n dX5_takeFiddle_58 rfl ?_
  refine T_iload_n dX5_takeFiddle_59 rfl ?_
  refine T_if_eq (tgt := 67) dX5_takeFiddle_60 (by decide) (tq_itv (fun v => T shp (d + 1) mX5_takeFiddle 68 [.ref 17, .null, .int x2, .int x3, .null] (.int v :: [.int x2, .ref 10]) I L (kV F)) 0 1 (fun hJ => ?_) (fun hJ => ?_) ?_)
  ·
      refine T_iconst (v := 0) dX5_takeFiddle_67 (by decide +kernel) ?_
      exact hJ
  ·
      refine T_iconst (v := 1) dX5_takeFiddle_63 (by decide +kernel) ?_
      refine T_goto (tgt := 68) dX5_takeFiddle_64 (by decide) ?_
      exact hJ
  refine T_iastv (j := x2.toNatClampNeg) dX5_takeFiddle_68 shp_10 h.1 rfl ?_
  replace h := h.2
  refine T_iconst (v := 1) dX5_takeFiddle_69 (by decide +kernel) ?_
  refine T_istore (lv' := [.ref 17, .null, .int x2, .int x3, .int 1]) dX5_takeFiddle_70 (by decide) rfl ?_
  exact T_wk (lv' := [.ref 17, .null, .int x2, .null, .int 1]) ⟨Or.inr rfl, Or.inr rfl, Or.inr rfl, Or.inl rfl, Or.inr rfl, trivial⟩ h

set_option maxRecDepth 100000 in
theorem sgX5_takeFiddle_72 {d : Nat} {I : st_I} {L : st_L} {F : st_I → st_L → Prop} {x2 : Int32} {x4 : Int32} (h : (if 3 < x4 then EI d mX5_passIf [.ref 17, .int 142] I L (fun r1 I1 L1 => vp_in (x2 + 4) 40 ∧ EI d mX5_pass [.ref 17, .int 59] (u_I I1 10 ((x2 + 4).toNatClampNeg) (if r1 = 0 then (0 : Int32) else 1)) L1 (fun r2 I2 L2 => F (u_I I2 9 0 ((I2 9 0) + 1)) L2)) else EI d mX5_takeInt [.ref 17, .int 20] I L (fun r3 I3 L3 => vp_in (x2 + x4) 40 ∧ TV (d + 1) mX5_takeFiddle 72 [.ref 17, .null, .int x2, .null, .int (x4 + 1)] [] (u_I I3 10 ((x2 + x4).toNatClampNeg) r3) L3 F))) : TV (d + 1) mX5_takeFiddle 72 [.ref 17, .null, .int x2, .null, .int x4] [] I L F := by
  refine T_iload dX5_takeFiddle_72 rfl ?_
  refine T_iconst (v := 3) dX5_takeFiddle_74 (by decide +kernel) ?_
  refine T_icmp_gt (tgt := 102) dX5_takeFiddle_75 (by decide) (tq_ite h (fun h => ?_) (fun h => ?_))
  ·
    refine T_aload_n dX5_takeFiddle_102 rfl ?_
    refine T_getr dX5_takeFiddle_103 fl_RX5_18 shp_17 rfl ?_
    refine T_getr dX5_takeFiddle_106 fl_RX5_144 shp_9 rfl ?_
    refine T_iload_n dX5_takeFiddle_109 rfl ?_
    refine T_iconst (v := 4) dX5_takeFiddle_110 (by decide +kernel) ?_
    refine T_iadd dX5_takeFiddle_111 ?_
    refine T_aload_n dX5_takeFiddle_112 rfl ?_
    refine T_sipush (v := 142) dX5_takeFiddle_113 (by decide +kernel) ?_
    refine S_callVI (M' := mX5_passIf) [.int 142] [.int (x2 + 4), .ref 10] dX5_takeFiddle_116 ml_RX5_141 mkX5_passIf rfl shp_17 rfl rfl rfl (Nat.le_of_ble_eq_true rfl) h (fun r1 I1 L1 h => ?_)
    refine T_if_eq (tgt := 126) dX5_takeFiddle_119 (by decide) (tq_itv (fun v => T shp (d + 1) mX5_takeFiddle 127 [.ref 17, .null, .int x2, .null, .int x4] (.int v :: [.int (x2 + 4), .ref 10]) I1 L1 (kV F)) 0 1 (fun hJ => ?_) (fun hJ => ?_) ?_)
    ·
        refine T_iconst (v := 0) dX5_takeFiddle_126 (by decide +kernel) ?_
        exact hJ
    ·
        refine T_iconst (v := 1) dX5_takeFiddle_122 (by decide +kernel) ?_
        refine T_goto (tgt := 127) dX5_takeFiddle_123 (by decide) ?_
        exact hJ
    refine T_iastv (j := (x2 + 4).toNatClampNeg) dX5_takeFiddle_127 shp_10 h.1 rfl ?_
    replace h := h.2
    refine T_aload_n dX5_takeFiddle_128 rfl ?_
    refine T_bipush (v := 59) dX5_takeFiddle_129 (by decide +kernel) ?_
    refine S_callVI (M' := mX5_pass) [.int 59] [] dX5_takeFiddle_131 ml_RX5_111 mkX5_pass rfl shp_17 rfl rfl rfl (Nat.le_of_ble_eq_true rfl) h (fun r2 I2 L2 h => ?_)
    refine T_pop dX5_takeFiddle_134 rfl ?_
    refine T_aload_n dX5_takeFiddle_135 rfl ?_
    refine T_getr dX5_takeFiddle_136 fl_RX5_18 shp_17 rfl ?_
    refine T_dup dX5_takeFiddle_139 rfl ?_
    refine T_getv (v := (I2 9 0)) dX5_takeFiddle_140 fl_RX5_130 shp_9 rfl rfl ?_
    refine T_iconst (v := 1) dX5_takeFiddle_143 (by decide +kernel) ?_
    refine T_iadd dX5_takeFiddle_144 ?_
    refine T_puti dX5_takeFiddle_145 fl_RX5_130 pf_8_0 shp_9 rfl rfl rfl ?_
    exact S_vret rfl dX5_takeFiddle_148 h
  ·
    refine T_aload_n dX5_takeFiddle_78 rfl ?_
    refine T_getr dX5_takeFiddle_79 fl_RX5_18 shp_17 rfl ?_
    refine T_getr dX5_takeFiddle_82 fl_RX5_144 shp_9 rfl ?_
    refine T_iload_n dX5_takeFiddle_85 rfl ?_
    refine T_iload dX5_takeFiddle_86 rfl ?_
    refine T_iadd dX5_takeFiddle_88 ?_
    refine T_aload_n dX5_takeFiddle_89 rfl ?_
    refine T_bipush (v := 20) dX5_takeFiddle_90 (by decide +kernel) ?_
    refine S_callVI (M' := mX5_takeInt) [.int 20] [.int (x2 + x4), .ref 10] dX5_takeFiddle_92 ml_RX5_147 mkX5_takeInt rfl shp_17 rfl rfl rfl (Nat.le_of_ble_eq_true rfl) h (fun r3 I3 L3 h => ?_)
    refine T_iastv (j := (x2 + x4).toNatClampNeg) dX5_takeFiddle_95 shp_10 h.1 rfl ?_
    replace h := h.2
    refine T_iinc (lv' := [.ref 17, .null, .int x2, .null, .int (x4 + 1)]) dX5_takeFiddle_96 rfl (by decide) rfl ?_
    refine T_goto (tgt := 72) dX5_takeFiddle_99 (by decide) ?_
    exact h

theorem dX5_takePerson_0 : decode cX5_takePerson 0 = .ok (.aload_n 0, 1) := by decide +kernel
theorem dX5_takePerson_1 : decode cX5_takePerson 1 = .ok (.getfield 18, 3) := by decide +kernel
theorem dX5_takePerson_4 : decode cX5_takePerson 4 = .ok (.getfield 150, 3) := by decide +kernel
theorem dX5_takePerson_7 : decode cX5_takePerson 7 = .ok (.istore_n 2, 1) := by decide +kernel
theorem dX5_takePerson_8 : decode cX5_takePerson 8 = .ok (.aload_n 0, 1) := by decide +kernel
theorem dX5_takePerson_9 : decode cX5_takePerson 9 = .ok (.iload_n 2, 1) := by decide +kernel
theorem dX5_takePerson_10 : decode cX5_takePerson 10 = .ok (.bipush 10, 2) := by decide +kernel
theorem dX5_takePerson_12 : decode cX5_takePerson 12 = .ok (.invokevirtual 133, 3) := by decide +kernel
theorem dX5_takePerson_15 : decode cX5_takePerson 15 = .ok (.ifCond .ne 4, 3) := by decide +kernel
theorem dX5_takePerson_18 : decode cX5_takePerson 18 = .ok (.return_, 1) := by decide +kernel
theorem dX5_takePerson_19 : decode cX5_takePerson 19 = .ok (.iload_n 2, 1) := by decide +kernel
theorem dX5_takePerson_20 : decode cX5_takePerson 20 = .ok (.iconst 5, 1) := by decide +kernel
theorem dX5_takePerson_21 : decode cX5_takePerson 21 = .ok (.imul, 1) := by decide +kernel
theorem dX5_takePerson_22 : decode cX5_takePerson 22 = .ok (.istore_n 3, 1) := by decide +kernel
theorem dX5_takePerson_23 : decode cX5_takePerson 23 = .ok (.aload_n 0, 1) := by decide +kernel
theorem dX5_takePerson_24 : decode cX5_takePerson 24 = .ok (.sipush 143, 3) := by decide +kernel
theorem dX5_takePerson_27 : decode cX5_takePerson 27 = .ok (.iload_n 2, 1) := by decide +kernel
theorem dX5_takePerson_28 : decode cX5_takePerson 28 = .ok (.invokevirtual 137, 3) := by decide +kernel
theorem dX5_takePerson_31 : decode cX5_takePerson 31 = .ok (.aload_n 0, 1) := by decide +kernel
theorem dX5_takePerson_32 : decode cX5_takePerson 32 = .ok (.getfield 18, 3) := by decide +kernel
theorem dX5_takePerson_35 : decode cX5_takePerson 35 = .ok (.getfield 153, 3) := by decide +kernel
theorem dX5_takePerson_38 : decode cX5_takePerson 38 = .ok (.iload_n 3, 1) := by decide +kernel
theorem dX5_takePerson_39 : decode cX5_takePerson 39 = .ok (.iload_n 1, 1) := by decide +kernel
theorem dX5_takePerson_40 : decode cX5_takePerson 40 = .ok (.iastore, 1) := by decide +kernel
theorem dX5_takePerson_41 : decode cX5_takePerson 41 = .ok (.iconst 1, 1) := by decide +kernel
theorem dX5_takePerson_42 : decode cX5_takePerson 42 = .ok (.istore 4, 2) := by decide +kernel
theorem dX5_takePerson_44 : decode cX5_takePerson 44 = .ok (.iload 4, 2) := by decide +kernel
theorem dX5_takePerson_46 : decode cX5_takePerson 46 = .ok (.iconst 5, 1) := by decide +kernel
theorem dX5_takePerson_47 : decode cX5_takePerson 47 = .ok (.if_icmp .ge 27, 3) := by decide +kernel
theorem dX5_takePerson_50 : decode cX5_takePerson 50 = .ok (.aload_n 0, 1) := by decide +kernel
theorem dX5_takePerson_51 : decode cX5_takePerson 51 = .ok (.getfield 18, 3) := by decide +kernel
theorem dX5_takePerson_54 : decode cX5_takePerson 54 = .ok (.getfield 153, 3) := by decide +kernel
theorem dX5_takePerson_57 : decode cX5_takePerson 57 = .ok (.iload_n 3, 1) := by decide +kernel
theorem dX5_takePerson_58 : decode cX5_takePerson 58 = .ok (.iload 4, 2) := by decide +kernel
theorem dX5_takePerson_60 : decode cX5_takePerson 60 = .ok (.iadd, 1) := by decide +kernel
theorem dX5_takePerson_61 : decode cX5_takePerson 61 = .ok (.aload_n 0, 1) := by decide +kernel
theorem dX5_takePerson_62 : decode cX5_takePerson 62 = .ok (.bipush 9, 2) := by decide +kernel
theorem dX5_takePerson_64 : decode cX5_takePerson 64 = .ok (.invokevirtual 147, 3) := by decide +kernel
theorem dX5_takePerson_67 : decode cX5_takePerson 67 = .ok (.iastore, 1) := by decide +kernel
theorem dX5_takePerson_68 : decode cX5_takePerson 68 = .ok (.iinc 4 1, 3) := by decide +kernel
theorem dX5_takePerson_71 : decode cX5_takePerson 71 = .ok (.goto (-27), 3) := by decide +kernel
theorem dX5_takePerson_74 : decode cX5_takePerson 74 = .ok (.aload_n 0, 1) := by decide +kernel
theorem dX5_takePerson_75 : decode cX5_takePerson 75 = .ok (.bipush 59, 2) := by decide +kernel
theorem dX5_takePerson_77 : decode cX5_takePerson 77 = .ok (.invokevirtual 111, 3) := by decide +kernel
theorem dX5_takePerson_80 : decode cX5_takePerson 80 = .ok (.pop, 1) := by decide +kernel
theorem dX5_takePerson_81 : decode cX5_takePerson 81 = .ok (.aload_n 0, 1) := by decide +kernel
theorem dX5_takePerson_82 : decode cX5_takePerson 82 = .ok (.getfield 18, 3) := by decide +kernel
theorem dX5_takePerson_85 : decode cX5_takePerson 85 = .ok (.dup, 1) := by decide +kernel
theorem dX5_takePerson_86 : decode cX5_takePerson 86 = .ok (.getfield 150, 3) := by decide +kernel
theorem dX5_takePerson_89 : decode cX5_takePerson 89 = .ok (.iconst 1, 1) := by decide +kernel
theorem dX5_takePerson_90 : decode cX5_takePerson 90 = .ok (.iadd, 1) := by decide +kernel
theorem dX5_takePerson_91 : decode cX5_takePerson 91 = .ok (.putfield 150, 3) := by decide +kernel
theorem dX5_takePerson_94 : decode cX5_takePerson 94 = .ok (.return_, 1) := by decide +kernel
set_option maxRecDepth 100000 in
theorem sgX5_takePerson_0 {d : Nat} {I : st_I} {L : st_L} {F : st_I → st_L → Prop} {a1 : Int32} (h : EI d mX5_passFirst [.ref 17, .int (I 9 1), .int 10] I L (fun r1 I1 L1 => (if r1 = 0 then F I1 L1 else EV d mX5_takeNewName [.ref 17, .int 143, .int (I 9 1)] I1 L1 (fun I2 L2 => vp_in ((I 9 1) * 5) 50 ∧ TV (d + 1) mX5_takePerson 44 [.ref 17, .null, .null, .int ((I 9 1) * 5), .int 1] [] (u_I I2 11 (((I 9 1) * 5).toNatClampNeg) a1) L2 F)))) : EV (d + 1) mX5_takePerson [.ref 17, .int a1] I L F := by
  refine Ev_of (ls0 := 3) (by decide +kernel) rfl rfl rfl ?_
  refine T_aload_n dX5_takePerson_0 rfl ?_
  refine T_getr dX5_takePerson_1 fl_RX5_18 shp_17 rfl ?_
  refine T_getv (v := (I 9 1)) dX5_takePerson_4 fl_RX5_150 shp_9 rfl rfl ?_
  refine T_istore_n (lv' := [.ref 17, .int a1, .int (I 9 1), .null, .null]) dX5_takePerson_7 rfl (by decide) rfl ?_
  refine T_aload_n dX5_takePerson_8 rfl ?_
  refine T_iload_n dX5_takePerson_9 rfl ?_
  refine T_bipush (v := 10) dX5_takePerson_10 (by decide +kernel) ?_
  refine S_callVI (M' := mX5_passFirst) [.int (I 9 1), .int 10] [] dX5_takePerson_12 ml_RX5_133 mkX5_passFirst rfl shp_17 rfl rfl rfl (Nat.le_of_ble_eq_true rfl) h (fun r1 I1 L1 h => ?_)
  refine T_if_ne (tgt := 19) dX5_takePerson_15 (by decide) (tq_ite h (fun h => ?_) (fun h => ?_))
  ·
    exact S_vret rfl dX5_takePerson_18 h
  ·
    refine T_iload_n dX5_takePerson_19 rfl ?_
    refine T_iconst (v := 5) dX5_takePerson_20 (by decide +kernel) ?_
    refine T_imul dX5_takePerson_21 ?_
    refine T_istore_n (lv' := [.ref 17, .int a1, .int (I 9 1), .int ((I 9 1) * 5), .null]) dX5_takePerson_22 rfl (by decide) rfl ?_
    refine T_aload_n dX5_takePerson_23 rfl ?_
    refine T_sipush (v := 143) dX5_takePerson_24 (by decide +kernel) ?_
    refine T_iload_n dX5_takePerson_27 rfl ?_
    refine S_callVV (M' := mX5_takeNewName) [.int 143, .int (I 9 1)] [] dX5_takePerson_28 ml_RX5_137 mkX5_takeNewName rfl shp_17 rfl rfl rfl (Nat.le_of_ble_eq_true rfl) h (fun I2 L2 h => ?_)
    refine T_aload_n dX5_takePerson_31 rfl ?_
    refine T_getr dX5_takePerson_32 fl_RX5_18 shp_17 rfl ?_
    refine T_getr dX5_takePerson_35 fl_RX5_153 shp_9 rfl ?_
    refine T_iload_n dX5_takePerson_38 rfl ?_
    refine T_iload_n dX5_takePerson_39 rfl ?_
    refine T_iastv (j := ((I 9 1) * 5).toNatClampNeg) dX5_takePerson_40 shp_11 h.1 rfl ?_
    replace h := h.2
    refine T_iconst (v := 1) dX5_takePerson_41 (by decide +kernel) ?_
    refine T_istore (lv' := [.ref 17, .int a1, .int (I 9 1), .int ((I 9 1) * 5), .int 1]) dX5_takePerson_42 (by decide) rfl ?_
    exact T_wk (lv' := [.ref 17, .null, .null, .int ((I 9 1) * 5), .int 1]) ⟨Or.inr rfl, Or.inl rfl, Or.inl rfl, Or.inr rfl, Or.inr rfl, trivial⟩ h

set_option maxRecDepth 100000 in
theorem sgX5_takePerson_44 {d : Nat} {I : st_I} {L : st_L} {F : st_I → st_L → Prop} {x3 : Int32} {x4 : Int32} (h : (if 5 ≤ x4 then EI d mX5_pass [.ref 17, .int 59] I L (fun r1 I1 L1 => F (u_I I1 9 1 ((I1 9 1) + 1)) L1) else EI d mX5_takeInt [.ref 17, .int 9] I L (fun r2 I2 L2 => vp_in (x3 + x4) 50 ∧ TV (d + 1) mX5_takePerson 44 [.ref 17, .null, .null, .int x3, .int (x4 + 1)] [] (u_I I2 11 ((x3 + x4).toNatClampNeg) r2) L2 F))) : TV (d + 1) mX5_takePerson 44 [.ref 17, .null, .null, .int x3, .int x4] [] I L F := by
  refine T_iload dX5_takePerson_44 rfl ?_
  refine T_iconst (v := 5) dX5_takePerson_46 (by decide +kernel) ?_
  refine T_icmp_ge (tgt := 74) dX5_takePerson_47 (by decide) (tq_ite h (fun h => ?_) (fun h => ?_))
  ·
    refine T_aload_n dX5_takePerson_74 rfl ?_
    refine T_bipush (v := 59) dX5_takePerson_75 (by decide +kernel) ?_
    refine S_callVI (M' := mX5_pass) [.int 59] [] dX5_takePerson_77 ml_RX5_111 mkX5_pass rfl shp_17 rfl rfl rfl (Nat.le_of_ble_eq_true rfl) h (fun r1 I1 L1 h => ?_)
    refine T_pop dX5_takePerson_80 rfl ?_
    refine T_aload_n dX5_takePerson_81 rfl ?_
    refine T_getr dX5_takePerson_82 fl_RX5_18 shp_17 rfl ?_
    refine T_dup dX5_takePerson_85 rfl ?_
    refine T_getv (v := (I1 9 1)) dX5_takePerson_86 fl_RX5_150 shp_9 rfl rfl ?_
    refine T_iconst (v := 1) dX5_takePerson_89 (by decide +kernel) ?_
    refine T_iadd dX5_takePerson_90 ?_
    refine T_puti dX5_takePerson_91 fl_RX5_150 pf_8_1 shp_9 rfl rfl rfl ?_
    exact S_vret rfl dX5_takePerson_94 h
  ·
    refine T_aload_n dX5_takePerson_50 rfl ?_
    refine T_getr dX5_takePerson_51 fl_RX5_18 shp_17 rfl ?_
    refine T_getr dX5_takePerson_54 fl_RX5_153 shp_9 rfl ?_
    refine T_iload_n dX5_takePerson_57 rfl ?_
    refine T_iload dX5_takePerson_58 rfl ?_
    refine T_iadd dX5_takePerson_60 ?_
    refine T_aload_n dX5_takePerson_61 rfl ?_
    refine T_bipush (v := 9) dX5_takePerson_62 (by decide +kernel) ?_
    refine S_callVI (M' := mX5_takeInt) [.int 9] [.int (x3 + x4), .ref 11] dX5_takePerson_64 ml_RX5_147 mkX5_takeInt rfl shp_17 rfl rfl rfl (Nat.le_of_ble_eq_true rfl) h (fun r2 I2 L2 h => ?_)
    refine T_iastv (j := (x3 + x4).toNatClampNeg) dX5_takePerson_67 shp_11 h.1 rfl ?_
    replace h := h.2
    refine T_iinc (lv' := [.ref 17, .null, .null, .int x3, .int (x4 + 1)]) dX5_takePerson_68 rfl (by decide) rfl ?_
    refine T_goto (tgt := 44) dX5_takePerson_71 (by decide) ?_
    exact h

theorem dX5_takeBow_0 : decode cX5_takeBow 0 = .ok (.aload_n 0, 1) := by decide +kernel
theorem dX5_takeBow_1 : decode cX5_takeBow 1 = .ok (.getfield 18, 3) := by decide +kernel
theorem dX5_takeBow_4 : decode cX5_takeBow 4 = .ok (.getfield 156, 3) := by decide +kernel
theorem dX5_takeBow_7 : decode cX5_takeBow 7 = .ok (.istore_n 1, 1) := by decide +kernel
theorem dX5_takeBow_8 : decode cX5_takeBow 8 = .ok (.aload_n 0, 1) := by decide +kernel
theorem dX5_takeBow_9 : decode cX5_takeBow 9 = .ok (.iload_n 1, 1) := by decide +kernel
theorem dX5_takeBow_10 : decode cX5_takeBow 10 = .ok (.iconst 4, 1) := by decide +kernel
theorem dX5_takeBow_11 : decode cX5_takeBow 11 = .ok (.invokevirtual 133, 3) := by decide +kernel
theorem dX5_takeBow_14 : decode cX5_takeBow 14 = .ok (.ifCond .ne 4, 3) := by decide +kernel
theorem dX5_takeBow_17 : decode cX5_takeBow 17 = .ok (.return_, 1) := by decide +kernel
theorem dX5_takeBow_18 : decode cX5_takeBow 18 = .ok (.aload_n 0, 1) := by decide +kernel
theorem dX5_takeBow_19 : decode cX5_takeBow 19 = .ok (.sipush 145, 3) := by decide +kernel
theorem dX5_takeBow_22 : decode cX5_takeBow 22 = .ok (.iload_n 1, 1) := by decide +kernel
theorem dX5_takeBow_23 : decode cX5_takeBow 23 = .ok (.invokevirtual 137, 3) := by decide +kernel
theorem dX5_takeBow_26 : decode cX5_takeBow 26 = .ok (.iconst 0, 1) := by decide +kernel
theorem dX5_takeBow_27 : decode cX5_takeBow 27 = .ok (.istore_n 2, 1) := by decide +kernel
theorem dX5_takeBow_28 : decode cX5_takeBow 28 = .ok (.iload_n 2, 1) := by decide +kernel
theorem dX5_takeBow_29 : decode cX5_takeBow 29 = .ok (.iconst 3, 1) := by decide +kernel
theorem dX5_takeBow_30 : decode cX5_takeBow 30 = .ok (.if_icmp .ge 49, 3) := by decide +kernel
theorem dX5_takeBow_33 : decode cX5_takeBow 33 = .ok (.aload_n 0, 1) := by decide +kernel
theorem dX5_takeBow_34 : decode cX5_takeBow 34 = .ok (.bipush 45, 2) := by decide +kernel
theorem dX5_takeBow_36 : decode cX5_takeBow 36 = .ok (.invokevirtual 141, 3) := by decide +kernel
theorem dX5_takeBow_39 : decode cX5_takeBow 39 = .ok (.istore_n 3, 1) := by decide +kernel
theorem dX5_takeBow_40 : decode cX5_takeBow 40 = .ok (.aload_n 0, 1) := by decide +kernel
theorem dX5_takeBow_41 : decode cX5_takeBow 41 = .ok (.bipush 9, 2) := by decide +kernel
theorem dX5_takeBow_43 : decode cX5_takeBow 43 = .ok (.invokevirtual 147, 3) := by decide +kernel
theorem dX5_takeBow_46 : decode cX5_takeBow 46 = .ok (.istore 4, 2) := by decide +kernel
theorem dX5_takeBow_48 : decode cX5_takeBow 48 = .ok (.aload_n 0, 1) := by decide +kernel
theorem dX5_takeBow_49 : decode cX5_takeBow 49 = .ok (.getfield 18, 3) := by decide +kernel
theorem dX5_takeBow_52 : decode cX5_takeBow 52 = .ok (.getfield 159, 3) := by decide +kernel
theorem dX5_takeBow_55 : decode cX5_takeBow 55 = .ok (.iload_n 1, 1) := by decide +kernel
theorem dX5_takeBow_56 : decode cX5_takeBow 56 = .ok (.iconst 3, 1) := by decide +kernel
theorem dX5_takeBow_57 : decode cX5_takeBow 57 = .ok (.imul, 1) := by decide +kernel
theorem dX5_takeBow_58 : decode cX5_takeBow 58 = .ok (.iload_n 2, 1) := by decide +kernel
theorem dX5_takeBow_59 : decode cX5_takeBow 59 = .ok (.iadd, 1) := by decide +kernel
theorem dX5_takeBow_60 : decode cX5_takeBow 60 = .ok (.iload_n 3, 1) := by decide +kernel
theorem dX5_takeBow_61 : decode cX5_takeBow 61 = .ok (.ifCond .eq 9, 3) := by decide +kernel
theorem dX5_takeBow_64 : decode cX5_takeBow 64 = .ok (.iload 4, 2) := by decide +kernel
theorem dX5_takeBow_66 : decode cX5_takeBow 66 = .ok (.ineg, 1) := by decide +kernel
theorem dX5_takeBow_67 : decode cX5_takeBow 67 = .ok (.goto 5, 3) := by decide +kernel
theorem dX5_takeBow_70 : decode cX5_takeBow 70 = .ok (.iload 4, 2) := by decide +kernel
theorem dX5_takeBow_72 : decode cX5_takeBow 72 = .ok (.iastore, 1) := by decide +kernel
theorem dX5_takeBow_73 : decode cX5_takeBow 73 = .ok (.iinc 2 1, 3) := by decide +kernel
theorem dX5_takeBow_76 : decode cX5_takeBow 76 = .ok (.goto (-48), 3) := by decide +kernel
theorem dX5_takeBow_79 : decode cX5_takeBow 79 = .ok (.aload_n 0, 1) := by decide +kernel
theorem dX5_takeBow_80 : decode cX5_takeBow 80 = .ok (.bipush 59, 2) := by decide +kernel
theorem dX5_takeBow_82 : decode cX5_takeBow 82 = .ok (.invokevirtual 111, 3) := by decide +kernel
theorem dX5_takeBow_85 : decode cX5_takeBow 85 = .ok (.pop, 1) := by decide +kernel
theorem dX5_takeBow_86 : decode cX5_takeBow 86 = .ok (.aload_n 0, 1) := by decide +kernel
theorem dX5_takeBow_87 : decode cX5_takeBow 87 = .ok (.getfield 18, 3) := by decide +kernel
theorem dX5_takeBow_90 : decode cX5_takeBow 90 = .ok (.dup, 1) := by decide +kernel
theorem dX5_takeBow_91 : decode cX5_takeBow 91 = .ok (.getfield 156, 3) := by decide +kernel
theorem dX5_takeBow_94 : decode cX5_takeBow 94 = .ok (.iconst 1, 1) := by decide +kernel
theorem dX5_takeBow_95 : decode cX5_takeBow 95 = .ok (.iadd, 1) := by decide +kernel
theorem dX5_takeBow_96 : decode cX5_takeBow 96 = .ok (.putfield 156, 3) := by decide +kernel
theorem dX5_takeBow_99 : decode cX5_takeBow 99 = .ok (.return_, 1) := by decide +kernel
set_option maxRecDepth 100000 in
theorem sgX5_takeBow_0 {d : Nat} {I : st_I} {L : st_L} {F : st_I → st_L → Prop}  (h : EI d mX5_passFirst [.ref 17, .int (I 9 2), .int 4] I L (fun r1 I1 L1 => (if r1 = 0 then F I1 L1 else EV d mX5_takeNewName [.ref 17, .int 145, .int (I 9 2)] I1 L1 (fun I2 L2 => TV (d + 1) mX5_takeBow 28 [.ref 17, .int (I 9 2), .int 0, .null, .null] [] I2 L2 F)))) : EV (d + 1) mX5_takeBow [.ref 17] I L F := by
  refine Ev_of (ls0 := 4) (by decide +kernel) rfl rfl rfl ?_
  refine T_aload_n dX5_takeBow_0 rfl ?_
  refine T_getr dX5_takeBow_1 fl_RX5_18 shp_17 rfl ?_
  refine T_getv (v := (I 9 2)) dX5_takeBow_4 fl_RX5_156 shp_9 rfl rfl ?_
  refine T_istore_n (lv' := [.ref 17, .int (I 9 2), .null, .null, .null]) dX5_takeBow_7 rfl (by decide) rfl ?_
  refine T_aload_n dX5_takeBow_8 rfl ?_
  refine T_iload_n dX5_takeBow_9 rfl ?_
  refine T_iconst (v := 4) dX5_takeBow_10 (by decide +kernel) ?_
  refine S_callVI (M' := mX5_passFirst) [.int (I 9 2), .int 4] [] dX5_takeBow_11 ml_RX5_133 mkX5_passFirst rfl shp_17 rfl rfl rfl (Nat.le_of_ble_eq_true rfl) h (fun r1 I1 L1 h => ?_)
  refine T_if_ne (tgt := 18) dX5_takeBow_14 (by decide) (tq_ite h (fun h => ?_) (fun h => ?_))
  ·
    exact S_vret rfl dX5_takeBow_17 h
  ·
    refine T_aload_n dX5_takeBow_18 rfl ?_
    refine T_sipush (v := 145) dX5_takeBow_19 (by decide +kernel) ?_
    refine T_iload_n dX5_takeBow_22 rfl ?_
    refine S_callVV (M' := mX5_takeNewName) [.int 145, .int (I 9 2)] [] dX5_takeBow_23 ml_RX5_137 mkX5_takeNewName rfl shp_17 rfl rfl rfl (Nat.le_of_ble_eq_true rfl) h (fun I2 L2 h => ?_)
    refine T_iconst (v := 0) dX5_takeBow_26 (by decide +kernel) ?_
    refine T_istore_n (lv' := [.ref 17, .int (I 9 2), .int 0, .null, .null]) dX5_takeBow_27 rfl (by decide) rfl ?_
    exact h

set_option maxRecDepth 100000 in
theorem sgX5_takeBow_28 {d : Nat} {I : st_I} {L : st_L} {F : st_I → st_L → Prop} {x1 : Int32} {x2 : Int32} (h : (if 3 ≤ x2 then EI d mX5_pass [.ref 17, .int 59] I L (fun r1 I1 L1 => F (u_I I1 9 2 ((I1 9 2) + 1)) L1) else EI d mX5_passIf [.ref 17, .int 45] I L (fun r2 I2 L2 => EI d mX5_takeInt [.ref 17, .int 9] I2 L2 (fun r3 I3 L3 => vp_in ((x1 * 3) + x2) 12 ∧ TV (d + 1) mX5_takeBow 28 [.ref 17, .int x1, .int (x2 + 1), .null, .null] [] (u_I I3 12 (((x1 * 3) + x2).toNatClampNeg) (if r2 = 0 then r3 else (-r3))) L3 F)))) : TV (d + 1) mX5_takeBow 28 [.ref 17, .int x1, .int x2, .null, .null] [] I L F := by
  refine T_iload_n dX5_takeBow_28 rfl ?_
  refine T_iconst (v := 3) dX5_takeBow_29 (by decide +kernel) ?_
  refine T_icmp_ge (tgt := 79) dX5_takeBow_30 (by decide) (tq_ite h (fun h => ?_) (fun h => ?_))
  ·
    refine T_aload_n dX5_takeBow_79 rfl ?_
    refine T_bipush (v := 59) dX5_takeBow_80 (by decide +kernel) ?_
    refine S_callVI (M' := mX5_pass) [.int 59] [] dX5_takeBow_82 ml_RX5_111 mkX5_pass rfl shp_17 rfl rfl rfl (Nat.le_of_ble_eq_true rfl) h (fun r1 I1 L1 h => ?_)
    refine T_pop dX5_takeBow_85 rfl ?_
    refine T_aload_n dX5_takeBow_86 rfl ?_
    refine T_getr dX5_takeBow_87 fl_RX5_18 shp_17 rfl ?_
    refine T_dup dX5_takeBow_90 rfl ?_
    refine T_getv (v := (I1 9 2)) dX5_takeBow_91 fl_RX5_156 shp_9 rfl rfl ?_
    refine T_iconst (v := 1) dX5_takeBow_94 (by decide +kernel) ?_
    refine T_iadd dX5_takeBow_95 ?_
    refine T_puti dX5_takeBow_96 fl_RX5_156 pf_8_2 shp_9 rfl rfl rfl ?_
    exact S_vret rfl dX5_takeBow_99 h
  ·
    refine T_aload_n dX5_takeBow_33 rfl ?_
    refine T_bipush (v := 45) dX5_takeBow_34 (by decide +kernel) ?_
    refine S_callVI (M' := mX5_passIf) [.int 45] [] dX5_takeBow_36 ml_RX5_141 mkX5_passIf rfl shp_17 rfl rfl rfl (Nat.le_of_ble_eq_true rfl) h (fun r2 I2 L2 h => ?_)
    refine T_istore_n (lv' := [.ref 17, .int x1, .int x2, .int r2, .null]) dX5_takeBow_39 rfl (by decide) rfl ?_
    refine T_aload_n dX5_takeBow_40 rfl ?_
    refine T_bipush (v := 9) dX5_takeBow_41 (by decide +kernel) ?_
    refine S_callVI (M' := mX5_takeInt) [.int 9] [] dX5_takeBow_43 ml_RX5_147 mkX5_takeInt rfl shp_17 rfl rfl rfl (Nat.le_of_ble_eq_true rfl) h (fun r3 I3 L3 h => ?_)
    refine T_istore (lv' := [.ref 17, .int x1, .int x2, .int r2, .int r3]) dX5_takeBow_46 (by decide) rfl ?_
    refine T_aload_n dX5_takeBow_48 rfl ?_
    refine T_getr dX5_takeBow_49 fl_RX5_18 shp_17 rfl ?_
    refine T_getr dX5_takeBow_52 fl_RX5_159 shp_9 rfl ?_
    refine T_iload_n dX5_takeBow_55 rfl ?_
    refine T_iconst (v := 3) dX5_takeBow_56 (by decide +kernel) ?_
    refine T_imul dX5_takeBow_57 ?_
    refine T_iload_n dX5_takeBow_58 rfl ?_
    refine T_iadd dX5_takeBow_59 ?_
    refine T_iload_n dX5_takeBow_60 rfl ?_
    refine T_if_eq (tgt := 70) dX5_takeBow_61 (by decide) (tq_itv (fun v => T shp (d + 1) mX5_takeBow 72 [.ref 17, .int x1, .int x2, .int r2, .int r3] (.int v :: [.int ((x1 * 3) + x2), .ref 12]) I3 L3 (kV F)) r3 (-r3) (fun hJ => ?_) (fun hJ => ?_) ?_)
    ·
        refine T_iload dX5_takeBow_70 rfl ?_
        exact hJ
    ·
        refine T_iload dX5_takeBow_64 rfl ?_
        refine T_ineg dX5_takeBow_66 ?_
        refine T_goto (tgt := 72) dX5_takeBow_67 (by decide) ?_
        exact hJ
    refine T_iastv (j := ((x1 * 3) + x2).toNatClampNeg) dX5_takeBow_72 shp_12 h.1 rfl ?_
    replace h := h.2
    refine T_iinc (lv' := [.ref 17, .int x1, .int (x2 + 1), .int r2, .int r3]) dX5_takeBow_73 rfl (by decide) rfl ?_
    refine T_goto (tgt := 28) dX5_takeBow_76 (by decide) ?_
    exact T_wk (lv' := [.ref 17, .int x1, .int (x2 + 1), .null, .null]) ⟨Or.inr rfl, Or.inr rfl, Or.inr rfl, Or.inl rfl, Or.inl rfl, trivial⟩ h

theorem dX5_takeLaw_0 : decode cX5_takeLaw 0 = .ok (.aload_n 0, 1) := by decide +kernel
theorem dX5_takeLaw_1 : decode cX5_takeLaw 1 = .ok (.getfield 18, 3) := by decide +kernel
theorem dX5_takeLaw_4 : decode cX5_takeLaw 4 = .ok (.getfield 162, 3) := by decide +kernel
theorem dX5_takeLaw_7 : decode cX5_takeLaw 7 = .ok (.istore_n 1, 1) := by decide +kernel
theorem dX5_takeLaw_8 : decode cX5_takeLaw 8 = .ok (.aload_n 0, 1) := by decide +kernel
theorem dX5_takeLaw_9 : decode cX5_takeLaw 9 = .ok (.iload_n 1, 1) := by decide +kernel
theorem dX5_takeLaw_10 : decode cX5_takeLaw 10 = .ok (.bipush 6, 2) := by decide +kernel
theorem dX5_takeLaw_12 : decode cX5_takeLaw 12 = .ok (.invokevirtual 133, 3) := by decide +kernel
theorem dX5_takeLaw_15 : decode cX5_takeLaw 15 = .ok (.ifCond .ne 4, 3) := by decide +kernel
theorem dX5_takeLaw_18 : decode cX5_takeLaw 18 = .ok (.return_, 1) := by decide +kernel
theorem dX5_takeLaw_19 : decode cX5_takeLaw 19 = .ok (.aload_n 0, 1) := by decide +kernel
theorem dX5_takeLaw_20 : decode cX5_takeLaw 20 = .ok (.sipush 146, 3) := by decide +kernel
theorem dX5_takeLaw_23 : decode cX5_takeLaw 23 = .ok (.iload_n 1, 1) := by decide +kernel
theorem dX5_takeLaw_24 : decode cX5_takeLaw 24 = .ok (.invokevirtual 137, 3) := by decide +kernel
theorem dX5_takeLaw_27 : decode cX5_takeLaw 27 = .ok (.aload_n 0, 1) := by decide +kernel
theorem dX5_takeLaw_28 : decode cX5_takeLaw 28 = .ok (.bipush 61, 2) := by decide +kernel
theorem dX5_takeLaw_30 : decode cX5_takeLaw 30 = .ok (.invokevirtual 111, 3) := by decide +kernel
theorem dX5_takeLaw_33 : decode cX5_takeLaw 33 = .ok (.pop, 1) := by decide +kernel
theorem dX5_takeLaw_34 : decode cX5_takeLaw 34 = .ok (.aload_n 0, 1) := by decide +kernel
theorem dX5_takeLaw_35 : decode cX5_takeLaw 35 = .ok (.invokevirtual 165, 3) := by decide +kernel
theorem dX5_takeLaw_38 : decode cX5_takeLaw 38 = .ok (.aload_n 0, 1) := by decide +kernel
theorem dX5_takeLaw_39 : decode cX5_takeLaw 39 = .ok (.bipush 59, 2) := by decide +kernel
theorem dX5_takeLaw_41 : decode cX5_takeLaw 41 = .ok (.invokevirtual 111, 3) := by decide +kernel
theorem dX5_takeLaw_44 : decode cX5_takeLaw 44 = .ok (.pop, 1) := by decide +kernel
theorem dX5_takeLaw_45 : decode cX5_takeLaw 45 = .ok (.aload_n 0, 1) := by decide +kernel
theorem dX5_takeLaw_46 : decode cX5_takeLaw 46 = .ok (.getfield 18, 3) := by decide +kernel
theorem dX5_takeLaw_49 : decode cX5_takeLaw 49 = .ok (.getfield 168, 3) := by decide +kernel
theorem dX5_takeLaw_52 : decode cX5_takeLaw 52 = .ok (.iload_n 1, 1) := by decide +kernel
theorem dX5_takeLaw_53 : decode cX5_takeLaw 53 = .ok (.aload_n 0, 1) := by decide +kernel
theorem dX5_takeLaw_54 : decode cX5_takeLaw 54 = .ok (.getfield 64, 3) := by decide +kernel
theorem dX5_takeLaw_57 : decode cX5_takeLaw 57 = .ok (.iastore, 1) := by decide +kernel
theorem dX5_takeLaw_58 : decode cX5_takeLaw 58 = .ok (.aload_n 0, 1) := by decide +kernel
theorem dX5_takeLaw_59 : decode cX5_takeLaw 59 = .ok (.getfield 18, 3) := by decide +kernel
theorem dX5_takeLaw_62 : decode cX5_takeLaw 62 = .ok (.dup, 1) := by decide +kernel
theorem dX5_takeLaw_63 : decode cX5_takeLaw 63 = .ok (.getfield 162, 3) := by decide +kernel
theorem dX5_takeLaw_66 : decode cX5_takeLaw 66 = .ok (.iconst 1, 1) := by decide +kernel
theorem dX5_takeLaw_67 : decode cX5_takeLaw 67 = .ok (.iadd, 1) := by decide +kernel
theorem dX5_takeLaw_68 : decode cX5_takeLaw 68 = .ok (.putfield 162, 3) := by decide +kernel
theorem dX5_takeLaw_71 : decode cX5_takeLaw 71 = .ok (.return_, 1) := by decide +kernel
set_option maxRecDepth 100000 in
theorem sgX5_takeLaw_0 {d : Nat} {I : st_I} {L : st_L} {F : st_I → st_L → Prop}  (h : EI d mX5_passFirst [.ref 17, .int (I 9 3), .int 6] I L (fun r1 I1 L1 => (if r1 = 0 then F I1 L1 else EV d mX5_takeNewName [.ref 17, .int 146, .int (I 9 3)] I1 L1 (fun I2 L2 => EI d mX5_pass [.ref 17, .int 61] I2 L2 (fun r3 I3 L3 => EV d mX5_takeExpression [.ref 17] I3 L3 (fun I4 L4 => EI d mX5_pass [.ref 17, .int 59] I4 L4 (fun r5 I5 L5 => vp_in (I 9 3) 6 ∧ F (u_I (u_I I5 14 ((I 9 3).toNatClampNeg) (I5 17 18)) 9 3 ((I5 9 3) + 1)) L5))))))) : EV (d + 1) mX5_takeLaw [.ref 17] I L F := by
  refine Ev_of (ls0 := 1) (by decide +kernel) rfl rfl rfl ?_
  refine T_aload_n dX5_takeLaw_0 rfl ?_
  refine T_getr dX5_takeLaw_1 fl_RX5_18 shp_17 rfl ?_
  refine T_getv (v := (I 9 3)) dX5_takeLaw_4 fl_RX5_162 shp_9 rfl rfl ?_
  refine T_istore_n (lv' := [.ref 17, .int (I 9 3)]) dX5_takeLaw_7 rfl (by decide) rfl ?_
  refine T_aload_n dX5_takeLaw_8 rfl ?_
  refine T_iload_n dX5_takeLaw_9 rfl ?_
  refine T_bipush (v := 6) dX5_takeLaw_10 (by decide +kernel) ?_
  refine S_callVI (M' := mX5_passFirst) [.int (I 9 3), .int 6] [] dX5_takeLaw_12 ml_RX5_133 mkX5_passFirst rfl shp_17 rfl rfl rfl (Nat.le_of_ble_eq_true rfl) h (fun r1 I1 L1 h => ?_)
  refine T_if_ne (tgt := 19) dX5_takeLaw_15 (by decide) (tq_ite h (fun h => ?_) (fun h => ?_))
  ·
    exact S_vret rfl dX5_takeLaw_18 h
  ·
    refine T_aload_n dX5_takeLaw_19 rfl ?_
    refine T_sipush (v := 146) dX5_takeLaw_20 (by decide +kernel) ?_
    refine T_iload_n dX5_takeLaw_23 rfl ?_
    refine S_callVV (M' := mX5_takeNewName) [.int 146, .int (I 9 3)] [] dX5_takeLaw_24 ml_RX5_137 mkX5_takeNewName rfl shp_17 rfl rfl rfl (Nat.le_of_ble_eq_true rfl) h (fun I2 L2 h => ?_)
    refine T_aload_n dX5_takeLaw_27 rfl ?_
    refine T_bipush (v := 61) dX5_takeLaw_28 (by decide +kernel) ?_
    refine S_callVI (M' := mX5_pass) [.int 61] [] dX5_takeLaw_30 ml_RX5_111 mkX5_pass rfl shp_17 rfl rfl rfl (Nat.le_of_ble_eq_true rfl) h (fun r3 I3 L3 h => ?_)
    refine T_pop dX5_takeLaw_33 rfl ?_
    refine T_aload_n dX5_takeLaw_34 rfl ?_
    refine S_callVV (M' := mX5_takeExpression) [] [] dX5_takeLaw_35 ml_RX5_165 mkX5_takeExpression rfl shp_17 rfl rfl rfl (Nat.le_of_ble_eq_true rfl) h (fun I4 L4 h => ?_)
    refine T_aload_n dX5_takeLaw_38 rfl ?_
    refine T_bipush (v := 59) dX5_takeLaw_39 (by decide +kernel) ?_
    refine S_callVI (M' := mX5_pass) [.int 59] [] dX5_takeLaw_41 ml_RX5_111 mkX5_pass rfl shp_17 rfl rfl rfl (Nat.le_of_ble_eq_true rfl) h (fun r5 I5 L5 h => ?_)
    refine T_pop dX5_takeLaw_44 rfl ?_
    refine T_aload_n dX5_takeLaw_45 rfl ?_
    refine T_getr dX5_takeLaw_46 fl_RX5_18 shp_17 rfl ?_
    refine T_getr dX5_takeLaw_49 fl_RX5_168 shp_9 rfl ?_
    refine T_iload_n dX5_takeLaw_52 rfl ?_
    refine T_aload_n dX5_takeLaw_53 rfl ?_
    refine T_getv (v := (I5 17 18)) dX5_takeLaw_54 fl_RX5_64 shp_17 rfl rfl ?_
    refine T_iastv (j := (I 9 3).toNatClampNeg) dX5_takeLaw_57 shp_14 h.1 rfl ?_
    replace h := h.2
    refine T_aload_n dX5_takeLaw_58 rfl ?_
    refine T_getr dX5_takeLaw_59 fl_RX5_18 shp_17 rfl ?_
    refine T_dup dX5_takeLaw_62 rfl ?_
    refine T_getv (v := (I5 9 3)) dX5_takeLaw_63 fl_RX5_162 shp_9 rfl rfl ?_
    refine T_iconst (v := 1) dX5_takeLaw_66 (by decide +kernel) ?_
    refine T_iadd dX5_takeLaw_67 ?_
    refine T_puti dX5_takeLaw_68 fl_RX5_162 pf_8_3 shp_9 rfl rfl rfl ?_
    exact S_vret rfl dX5_takeLaw_71 h

theorem dX5_takePlan_0 : decode cX5_takePlan 0 = .ok (.aload_n 0, 1) := by decide +kernel
theorem dX5_takePlan_1 : decode cX5_takePlan 1 = .ok (.getfield 18, 3) := by decide +kernel
theorem dX5_takePlan_4 : decode cX5_takePlan 4 = .ok (.getfield 171, 3) := by decide +kernel
theorem dX5_takePlan_7 : decode cX5_takePlan 7 = .ok (.istore_n 1, 1) := by decide +kernel
theorem dX5_takePlan_8 : decode cX5_takePlan 8 = .ok (.aload_n 0, 1) := by decide +kernel
theorem dX5_takePlan_9 : decode cX5_takePlan 9 = .ok (.iload_n 1, 1) := by decide +kernel
theorem dX5_takePlan_10 : decode cX5_takePlan 10 = .ok (.iconst 4, 1) := by decide +kernel
theorem dX5_takePlan_11 : decode cX5_takePlan 11 = .ok (.invokevirtual 133, 3) := by decide +kernel
theorem dX5_takePlan_14 : decode cX5_takePlan 14 = .ok (.ifCond .ne 4, 3) := by decide +kernel
theorem dX5_takePlan_17 : decode cX5_takePlan 17 = .ok (.return_, 1) := by decide +kernel
theorem dX5_takePlan_18 : decode cX5_takePlan 18 = .ok (.aload_n 0, 1) := by decide +kernel
theorem dX5_takePlan_19 : decode cX5_takePlan 19 = .ok (.sipush 147, 3) := by decide +kernel
theorem dX5_takePlan_22 : decode cX5_takePlan 22 = .ok (.iload_n 1, 1) := by decide +kernel
theorem dX5_takePlan_23 : decode cX5_takePlan 23 = .ok (.invokevirtual 137, 3) := by decide +kernel
theorem dX5_takePlan_26 : decode cX5_takePlan 26 = .ok (.aload_n 0, 1) := by decide +kernel
theorem dX5_takePlan_27 : decode cX5_takePlan 27 = .ok (.bipush 123, 2) := by decide +kernel
theorem dX5_takePlan_29 : decode cX5_takePlan 29 = .ok (.invokevirtual 111, 3) := by decide +kernel
theorem dX5_takePlan_32 : decode cX5_takePlan 32 = .ok (.pop, 1) := by decide +kernel
theorem dX5_takePlan_33 : decode cX5_takePlan 33 = .ok (.aload_n 0, 1) := by decide +kernel
theorem dX5_takePlan_34 : decode cX5_takePlan 34 = .ok (.getfield 18, 3) := by decide +kernel
theorem dX5_takePlan_37 : decode cX5_takePlan 37 = .ok (.getfield 174, 3) := by decide +kernel
theorem dX5_takePlan_40 : decode cX5_takePlan 40 = .ok (.iload_n 1, 1) := by decide +kernel
theorem dX5_takePlan_41 : decode cX5_takePlan 41 = .ok (.iconst 0, 1) := by decide +kernel
theorem dX5_takePlan_42 : decode cX5_takePlan 42 = .ok (.iastore, 1) := by decide +kernel
theorem dX5_takePlan_43 : decode cX5_takePlan 43 = .ok (.iconst 0, 1) := by decide +kernel
theorem dX5_takePlan_44 : decode cX5_takePlan 44 = .ok (.istore_n 2, 1) := by decide +kernel
theorem dX5_takePlan_45 : decode cX5_takePlan 45 = .ok (.iload_n 2, 1) := by decide +kernel
theorem dX5_takePlan_46 : decode cX5_takePlan 46 = .ok (.bipush 12, 2) := by decide +kernel
theorem dX5_takePlan_48 : decode cX5_takePlan 48 = .ok (.if_icmp .gt 36, 3) := by decide +kernel
theorem dX5_takePlan_51 : decode cX5_takePlan 51 = .ok (.aload_n 0, 1) := by decide +kernel
theorem dX5_takePlan_52 : decode cX5_takePlan 52 = .ok (.getfield 55, 3) := by decide +kernel
theorem dX5_takePlan_55 : decode cX5_takePlan 55 = .ok (.ifCond .ne 29, 3) := by decide +kernel
theorem dX5_takePlan_58 : decode cX5_takePlan 58 = .ok (.aload_n 0, 1) := by decide +kernel
theorem dX5_takePlan_59 : decode cX5_takePlan 59 = .ok (.getfield 26, 3) := by decide +kernel
theorem dX5_takePlan_62 : decode cX5_takePlan 62 = .ok (.aload_n 0, 1) := by decide +kernel
theorem dX5_takePlan_63 : decode cX5_takePlan 63 = .ok (.getfield 52, 3) := by decide +kernel
theorem dX5_takePlan_66 : decode cX5_takePlan 66 = .ok (.iaload, 1) := by decide +kernel
theorem dX5_takePlan_67 : decode cX5_takePlan 67 = .ok (.sipush 148, 3) := by decide +kernel
theorem dX5_takePlan_70 : decode cX5_takePlan 70 = .ok (.if_icmp .ne 14, 3) := by decide +kernel
theorem dX5_takePlan_73 : decode cX5_takePlan 73 = .ok (.aload_n 0, 1) := by decide +kernel
theorem dX5_takePlan_74 : decode cX5_takePlan 74 = .ok (.iload_n 1, 1) := by decide +kernel
theorem dX5_takePlan_75 : decode cX5_takePlan 75 = .ok (.invokevirtual 177, 3) := by decide +kernel
theorem dX5_takePlan_78 : decode cX5_takePlan 78 = .ok (.iinc 2 1, 3) := by decide +kernel
theorem dX5_takePlan_81 : decode cX5_takePlan 81 = .ok (.goto (-36), 3) := by decide +kernel
theorem dX5_takePlan_84 : decode cX5_takePlan 84 = .ok (.aload_n 0, 1) := by decide +kernel
theorem dX5_takePlan_85 : decode cX5_takePlan 85 = .ok (.bipush 125, 2) := by decide +kernel
theorem dX5_takePlan_87 : decode cX5_takePlan 87 = .ok (.invokevirtual 111, 3) := by decide +kernel
theorem dX5_takePlan_90 : decode cX5_takePlan 90 = .ok (.pop, 1) := by decide +kernel
theorem dX5_takePlan_91 : decode cX5_takePlan 91 = .ok (.aload_n 0, 1) := by decide +kernel
theorem dX5_takePlan_92 : decode cX5_takePlan 92 = .ok (.getfield 18, 3) := by decide +kernel
theorem dX5_takePlan_95 : decode cX5_takePlan 95 = .ok (.dup, 1) := by decide +kernel
theorem dX5_takePlan_96 : decode cX5_takePlan 96 = .ok (.getfield 171, 3) := by decide +kernel
theorem dX5_takePlan_99 : decode cX5_takePlan 99 = .ok (.iconst 1, 1) := by decide +kernel
theorem dX5_takePlan_100 : decode cX5_takePlan 100 = .ok (.iadd, 1) := by decide +kernel
theorem dX5_takePlan_101 : decode cX5_takePlan 101 = .ok (.putfield 171, 3) := by decide +kernel
theorem dX5_takePlan_104 : decode cX5_takePlan 104 = .ok (.return_, 1) := by decide +kernel
set_option maxRecDepth 100000 in
theorem sgX5_takePlan_0 {d : Nat} {I : st_I} {L : st_L} {F : st_I → st_L → Prop}  (h : EI d mX5_passFirst [.ref 17, .int (I 9 4), .int 4] I L (fun r1 I1 L1 => (if r1 = 0 then F I1 L1 else EV d mX5_takeNewName [.ref 17, .int 147, .int (I 9 4)] I1 L1 (fun I2 L2 => EI d mX5_pass [.ref 17, .int 123] I2 L2 (fun r3 I3 L3 => vp_in (I 9 4) 4 ∧ TV (d + 1) mX5_takePlan 45 [.ref 17, .int (I 9 4), .int 0] [] (u_I I3 15 ((I 9 4).toNatClampNeg) 0) L3 F))))) : EV (d + 1) mX5_takePlan [.ref 17] I L F := by
  refine Ev_of (ls0 := 2) (by decide +kernel) rfl rfl rfl ?_
  refine T_aload_n dX5_takePlan_0 rfl ?_
  refine T_getr dX5_takePlan_1 fl_RX5_18 shp_17 rfl ?_
  refine T_getv (v := (I 9 4)) dX5_takePlan_4 fl_RX5_171 shp_9 rfl rfl ?_
  refine T_istore_n (lv' := [.ref 17, .int (I 9 4), .null]) dX5_takePlan_7 rfl (by decide) rfl ?_
  refine T_aload_n dX5_takePlan_8 rfl ?_
  refine T_iload_n dX5_takePlan_9 rfl ?_
  refine T_iconst (v := 4) dX5_takePlan_10 (by decide +kernel) ?_
  refine S_callVI (M' := mX5_passFirst) [.int (I 9 4), .int 4] [] dX5_takePlan_11 ml_RX5_133 mkX5_passFirst rfl shp_17 rfl rfl rfl (Nat.le_of_ble_eq_true rfl) h (fun r1 I1 L1 h => ?_)
  refine T_if_ne (tgt := 18) dX5_takePlan_14 (by decide) (tq_ite h (fun h => ?_) (fun h => ?_))
  ·
    exact S_vret rfl dX5_takePlan_17 h
  ·
    refine T_aload_n dX5_takePlan_18 rfl ?_
    refine T_sipush (v := 147) dX5_takePlan_19 (by decide +kernel) ?_
    refine T_iload_n dX5_takePlan_22 rfl ?_
    refine S_callVV (M' := mX5_takeNewName) [.int 147, .int (I 9 4)] [] dX5_takePlan_23 ml_RX5_137 mkX5_takeNewName rfl shp_17 rfl rfl rfl (Nat.le_of_ble_eq_true rfl) h (fun I2 L2 h => ?_)
    refine T_aload_n dX5_takePlan_26 rfl ?_
    refine T_bipush (v := 123) dX5_takePlan_27 (by decide +kernel) ?_
    refine S_callVI (M' := mX5_pass) [.int 123] [] dX5_takePlan_29 ml_RX5_111 mkX5_pass rfl shp_17 rfl rfl rfl (Nat.le_of_ble_eq_true rfl) h (fun r3 I3 L3 h => ?_)
    refine T_pop dX5_takePlan_32 rfl ?_
    refine T_aload_n dX5_takePlan_33 rfl ?_
    refine T_getr dX5_takePlan_34 fl_RX5_18 shp_17 rfl ?_
    refine T_getr dX5_takePlan_37 fl_RX5_174 shp_9 rfl ?_
    refine T_iload_n dX5_takePlan_40 rfl ?_
    refine T_iconst (v := 0) dX5_takePlan_41 (by decide +kernel) ?_
    refine T_iastv (j := (I 9 4).toNatClampNeg) dX5_takePlan_42 shp_15 h.1 rfl ?_
    replace h := h.2
    refine T_iconst (v := 0) dX5_takePlan_43 (by decide +kernel) ?_
    refine T_istore_n (lv' := [.ref 17, .int (I 9 4), .int 0]) dX5_takePlan_44 rfl (by decide) rfl ?_
    exact h

set_option maxRecDepth 100000 in
theorem sgX5_takePlan_45 {d : Nat} {I : st_I} {L : st_L} {F : st_I → st_L → Prop} {x1 : Int32} {x2 : Int32} (h : (if 12 < x2 then TV (d + 1) mX5_takePlan 84 [.ref 17, .null, .null] [] I L F else (if (I 17 7) = 0 then vp_in (I 17 6) 401 ∧ (if (I 19 ((I 17 6).toNatClampNeg)) = 148 then EV d mX5_takeSit [.ref 17, .int x1] I L (fun I1 L1 => TV (d + 1) mX5_takePlan 45 [.ref 17, .int x1, .int (x2 + 1)] [] I1 L1 F) else TV (d + 1) mX5_takePlan 84 [.ref 17, .null, .null] [] I L F) else TV (d + 1) mX5_takePlan 84 [.ref 17, .null, .null] [] I L F))) : TV (d + 1) mX5_takePlan 45 [.ref 17, .int x1, .int x2] [] I L F := by
  refine T_iload_n dX5_takePlan_45 rfl ?_
  refine T_bipush (v := 12) dX5_takePlan_46 (by decide +kernel) ?_
  refine T_icmp_gt (tgt := 84) dX5_takePlan_48 (by decide) (tq_ite h (fun h => ?_) (fun h => ?_))
  ·
    exact T_wk (lv' := [.ref 17, .null, .null]) ⟨Or.inr rfl, Or.inl rfl, Or.inl rfl, trivial⟩ h
  ·
    refine T_aload_n dX5_takePlan_51 rfl ?_
    refine T_getv (v := (I 17 7)) dX5_takePlan_52 fl_RX5_55 shp_17 rfl rfl ?_
    refine T_if_ne (tgt := 84) dX5_takePlan_55 (by decide) (tq_ite h (fun h => ?_) (fun h => ?_))
    ·
      refine T_aload_n dX5_takePlan_58 rfl ?_
      refine T_getr dX5_takePlan_59 fl_RX5_26 shp_17 rfl ?_
      refine T_aload_n dX5_takePlan_62 rfl ?_
      refine T_getv (v := (I 17 6)) dX5_takePlan_63 fl_RX5_52 shp_17 rfl rfl ?_
      refine T_ialdv (v := (I 19 ((I 17 6).toNatClampNeg))) (j := (I 17 6).toNatClampNeg) dX5_takePlan_66 shp_19 h.1 rfl rfl ?_
      replace h := h.2
      refine T_sipush (v := 148) dX5_takePlan_67 (by decide +kernel) ?_
      refine T_icmp_ne (tgt := 84) dX5_takePlan_70 (by decide) (tq_ite h (fun h => ?_) (fun h => ?_))
      ·
        refine T_aload_n dX5_takePlan_73 rfl ?_
        refine T_iload_n dX5_takePlan_74 rfl ?_
        refine S_callVV (M' := mX5_takeSit) [.int x1] [] dX5_takePlan_75 ml_RX5_177 mkX5_takeSit rfl shp_17 rfl rfl rfl (Nat.le_of_ble_eq_true rfl) h (fun I1 L1 h => ?_)
        refine T_iinc (lv' := [.ref 17, .int x1, .int (x2 + 1)]) dX5_takePlan_78 rfl (by decide) rfl ?_
        refine T_goto (tgt := 45) dX5_takePlan_81 (by decide) ?_
        exact h
      ·
        exact T_wk (lv' := [.ref 17, .null, .null]) ⟨Or.inr rfl, Or.inl rfl, Or.inl rfl, trivial⟩ h
    ·
      exact T_wk (lv' := [.ref 17, .null, .null]) ⟨Or.inr rfl, Or.inl rfl, Or.inl rfl, trivial⟩ h

set_option maxRecDepth 100000 in
theorem sgX5_takePlan_84 {d : Nat} {I : st_I} {L : st_L} {F : st_I → st_L → Prop}  (h : EI d mX5_pass [.ref 17, .int 125] I L (fun r1 I1 L1 => F (u_I I1 9 4 ((I1 9 4) + 1)) L1)) : TV (d + 1) mX5_takePlan 84 [.ref 17, .null, .null] [] I L F := by
  refine T_aload_n dX5_takePlan_84 rfl ?_
  refine T_bipush (v := 125) dX5_takePlan_85 (by decide +kernel) ?_
  refine S_callVI (M' := mX5_pass) [.int 125] [] dX5_takePlan_87 ml_RX5_111 mkX5_pass rfl shp_17 rfl rfl rfl (Nat.le_of_ble_eq_true rfl) h (fun r1 I1 L1 h => ?_)
  refine T_pop dX5_takePlan_90 rfl ?_
  refine T_aload_n dX5_takePlan_91 rfl ?_
  refine T_getr dX5_takePlan_92 fl_RX5_18 shp_17 rfl ?_
  refine T_dup dX5_takePlan_95 rfl ?_
  refine T_getv (v := (I1 9 4)) dX5_takePlan_96 fl_RX5_171 shp_9 rfl rfl ?_
  refine T_iconst (v := 1) dX5_takePlan_99 (by decide +kernel) ?_
  refine T_iadd dX5_takePlan_100 ?_
  refine T_puti dX5_takePlan_101 fl_RX5_171 pf_8_4 shp_9 rfl rfl rfl ?_
  exact S_vret rfl dX5_takePlan_104 h

theorem dX5_takeSit_0 : decode cX5_takeSit 0 = .ok (.aload_n 0, 1) := by decide +kernel
theorem dX5_takeSit_1 : decode cX5_takeSit 1 = .ok (.getfield 18, 3) := by decide +kernel
theorem dX5_takeSit_4 : decode cX5_takeSit 4 = .ok (.getfield 174, 3) := by decide +kernel
theorem dX5_takeSit_7 : decode cX5_takeSit 7 = .ok (.iload_n 1, 1) := by decide +kernel
theorem dX5_takeSit_8 : decode cX5_takeSit 8 = .ok (.iaload, 1) := by decide +kernel
theorem dX5_takeSit_9 : decode cX5_takeSit 9 = .ok (.istore_n 2, 1) := by decide +kernel
theorem dX5_takeSit_10 : decode cX5_takeSit 10 = .ok (.aload_n 0, 1) := by decide +kernel
theorem dX5_takeSit_11 : decode cX5_takeSit 11 = .ok (.iload_n 2, 1) := by decide +kernel
theorem dX5_takeSit_12 : decode cX5_takeSit 12 = .ok (.bipush 12, 2) := by decide +kernel
theorem dX5_takeSit_14 : decode cX5_takeSit 14 = .ok (.invokevirtual 133, 3) := by decide +kernel
theorem dX5_takeSit_17 : decode cX5_takeSit 17 = .ok (.ifCond .ne 4, 3) := by decide +kernel
theorem dX5_takeSit_20 : decode cX5_takeSit 20 = .ok (.return_, 1) := by decide +kernel
theorem dX5_takeSit_21 : decode cX5_takeSit 21 = .ok (.iload_n 1, 1) := by decide +kernel
theorem dX5_takeSit_22 : decode cX5_takeSit 22 = .ok (.bipush 12, 2) := by decide +kernel
theorem dX5_takeSit_24 : decode cX5_takeSit 24 = .ok (.imul, 1) := by decide +kernel
theorem dX5_takeSit_25 : decode cX5_takeSit 25 = .ok (.iload_n 2, 1) := by decide +kernel
theorem dX5_takeSit_26 : decode cX5_takeSit 26 = .ok (.iadd, 1) := by decide +kernel
theorem dX5_takeSit_27 : decode cX5_takeSit 27 = .ok (.bipush 10, 2) := by decide +kernel
theorem dX5_takeSit_29 : decode cX5_takeSit 29 = .ok (.imul, 1) := by decide +kernel
theorem dX5_takeSit_30 : decode cX5_takeSit 30 = .ok (.istore_n 3, 1) := by decide +kernel
theorem dX5_takeSit_31 : decode cX5_takeSit 31 = .ok (.aload_n 0, 1) := by decide +kernel
theorem dX5_takeSit_32 : decode cX5_takeSit 32 = .ok (.getfield 18, 3) := by decide +kernel
theorem dX5_takeSit_35 : decode cX5_takeSit 35 = .ok (.getfield 180, 3) := by decide +kernel
theorem dX5_takeSit_38 : decode cX5_takeSit 38 = .ok (.iload_n 3, 1) := by decide +kernel
theorem dX5_takeSit_39 : decode cX5_takeSit 39 = .ok (.aload_n 0, 1) := by decide +kernel
theorem dX5_takeSit_40 : decode cX5_takeSit 40 = .ok (.sipush 143, 3) := by decide +kernel
theorem dX5_takeSit_43 : decode cX5_takeSit 43 = .ok (.invokevirtual 183, 3) := by decide +kernel
theorem dX5_takeSit_46 : decode cX5_takeSit 46 = .ok (.iastore, 1) := by decide +kernel
theorem dX5_takeSit_47 : decode cX5_takeSit 47 = .ok (.aload_n 0, 1) := by decide +kernel
theorem dX5_takeSit_48 : decode cX5_takeSit 48 = .ok (.sipush 149, 3) := by decide +kernel
theorem dX5_takeSit_51 : decode cX5_takeSit 51 = .ok (.invokevirtual 111, 3) := by decide +kernel
theorem dX5_takeSit_54 : decode cX5_takeSit 54 = .ok (.pop, 1) := by decide +kernel
theorem dX5_takeSit_55 : decode cX5_takeSit 55 = .ok (.aload_n 0, 1) := by decide +kernel
theorem dX5_takeSit_56 : decode cX5_takeSit 56 = .ok (.getfield 18, 3) := by decide +kernel
theorem dX5_takeSit_59 : decode cX5_takeSit 59 = .ok (.getfield 180, 3) := by decide +kernel
theorem dX5_takeSit_62 : decode cX5_takeSit 62 = .ok (.iload_n 3, 1) := by decide +kernel
theorem dX5_takeSit_63 : decode cX5_takeSit 63 = .ok (.iconst 1, 1) := by decide +kernel
theorem dX5_takeSit_64 : decode cX5_takeSit 64 = .ok (.iadd, 1) := by decide +kernel
theorem dX5_takeSit_65 : decode cX5_takeSit 65 = .ok (.aload_n 0, 1) := by decide +kernel
theorem dX5_takeSit_66 : decode cX5_takeSit 66 = .ok (.sipush 145, 3) := by decide +kernel
theorem dX5_takeSit_69 : decode cX5_takeSit 69 = .ok (.invokevirtual 183, 3) := by decide +kernel
theorem dX5_takeSit_72 : decode cX5_takeSit 72 = .ok (.iastore, 1) := by decide +kernel
theorem dX5_takeSit_73 : decode cX5_takeSit 73 = .ok (.aload_n 0, 1) := by decide +kernel
theorem dX5_takeSit_74 : decode cX5_takeSit 74 = .ok (.getfield 18, 3) := by decide +kernel
theorem dX5_takeSit_77 : decode cX5_takeSit 77 = .ok (.getfield 180, 3) := by decide +kernel
theorem dX5_takeSit_80 : decode cX5_takeSit 80 = .ok (.iload_n 3, 1) := by decide +kernel
theorem dX5_takeSit_81 : decode cX5_takeSit 81 = .ok (.iconst 2, 1) := by decide +kernel
theorem dX5_takeSit_82 : decode cX5_takeSit 82 = .ok (.iadd, 1) := by decide +kernel
theorem dX5_takeSit_83 : decode cX5_takeSit 83 = .ok (.aload_n 0, 1) := by decide +kernel
theorem dX5_takeSit_84 : decode cX5_takeSit 84 = .ok (.sipush 136, 3) := by decide +kernel
theorem dX5_takeSit_87 : decode cX5_takeSit 87 = .ok (.invokevirtual 141, 3) := by decide +kernel
theorem dX5_takeSit_90 : decode cX5_takeSit 90 = .ok (.ifCond .eq 7, 3) := by decide +kernel
theorem dX5_takeSit_93 : decode cX5_takeSit 93 = .ok (.iconst 1, 1) := by decide +kernel
theorem dX5_takeSit_94 : decode cX5_takeSit 94 = .ok (.goto 4, 3) := by decide +kernel
theorem dX5_takeSit_97 : decode cX5_takeSit 97 = .ok (.iconst 0, 1) := by decide +kernel
theorem dX5_takeSit_98 : decode cX5_takeSit 98 = .ok (.iastore, 1) := by decide +kernel
theorem dX5_takeSit_99 : decode cX5_takeSit 99 = .ok (.aload_n 0, 1) := by decide +kernel
theorem dX5_takeSit_100 : decode cX5_takeSit 100 = .ok (.getfield 18, 3) := by decide +kernel
theorem dX5_takeSit_103 : decode cX5_takeSit 103 = .ok (.getfield 180, 3) := by decide +kernel
theorem dX5_takeSit_106 : decode cX5_takeSit 106 = .ok (.iload_n 3, 1) := by decide +kernel
theorem dX5_takeSit_107 : decode cX5_takeSit 107 = .ok (.iconst 3, 1) := by decide +kernel
theorem dX5_takeSit_108 : decode cX5_takeSit 108 = .ok (.iadd, 1) := by decide +kernel
theorem dX5_takeSit_109 : decode cX5_takeSit 109 = .ok (.iconst 0, 1) := by decide +kernel
theorem dX5_takeSit_110 : decode cX5_takeSit 110 = .ok (.iastore, 1) := by decide +kernel
theorem dX5_takeSit_111 : decode cX5_takeSit 111 = .ok (.aload_n 0, 1) := by decide +kernel
theorem dX5_takeSit_112 : decode cX5_takeSit 112 = .ok (.bipush 58, 2) := by decide +kernel
theorem dX5_takeSit_114 : decode cX5_takeSit 114 = .ok (.invokevirtual 111, 3) := by decide +kernel
theorem dX5_takeSit_117 : decode cX5_takeSit 117 = .ok (.pop, 1) := by decide +kernel
theorem dX5_takeSit_118 : decode cX5_takeSit 118 = .ok (.aload_n 0, 1) := by decide +kernel
theorem dX5_takeSit_119 : decode cX5_takeSit 119 = .ok (.iload_n 3, 1) := by decide +kernel
theorem dX5_takeSit_120 : decode cX5_takeSit 120 = .ok (.invokevirtual 186, 3) := by decide +kernel
theorem dX5_takeSit_123 : decode cX5_takeSit 123 = .ok (.iconst 0, 1) := by decide +kernel
theorem dX5_takeSit_124 : decode cX5_takeSit 124 = .ok (.istore 4, 2) := by decide +kernel
theorem dX5_takeSit_126 : decode cX5_takeSit 126 = .ok (.iload 4, 2) := by decide +kernel
theorem dX5_takeSit_128 : decode cX5_takeSit 128 = .ok (.bipush 6, 2) := by decide +kernel
theorem dX5_takeSit_130 : decode cX5_takeSit 130 = .ok (.if_icmp .ge 23, 3) := by decide +kernel
theorem dX5_takeSit_133 : decode cX5_takeSit 133 = .ok (.aload_n 0, 1) := by decide +kernel
theorem dX5_takeSit_134 : decode cX5_takeSit 134 = .ok (.bipush 44, 2) := by decide +kernel
theorem dX5_takeSit_136 : decode cX5_takeSit 136 = .ok (.invokevirtual 141, 3) := by decide +kernel
theorem dX5_takeSit_139 : decode cX5_takeSit 139 = .ok (.ifCond .eq 14, 3) := by decide +kernel
theorem dX5_takeSit_142 : decode cX5_takeSit 142 = .ok (.aload_n 0, 1) := by decide +kernel
theorem dX5_takeSit_143 : decode cX5_takeSit 143 = .ok (.iload_n 3, 1) := by decide +kernel
theorem dX5_takeSit_144 : decode cX5_takeSit 144 = .ok (.invokevirtual 186, 3) := by decide +kernel
theorem dX5_takeSit_147 : decode cX5_takeSit 147 = .ok (.iinc 4 1, 3) := by decide +kernel
theorem dX5_takeSit_150 : decode cX5_takeSit 150 = .ok (.goto (-24), 3) := by decide +kernel
theorem dX5_takeSit_153 : decode cX5_takeSit 153 = .ok (.aload_n 0, 1) := by decide +kernel
theorem dX5_takeSit_154 : decode cX5_takeSit 154 = .ok (.bipush 59, 2) := by decide +kernel
theorem dX5_takeSit_156 : decode cX5_takeSit 156 = .ok (.invokevirtual 111, 3) := by decide +kernel
theorem dX5_takeSit_159 : decode cX5_takeSit 159 = .ok (.pop, 1) := by decide +kernel
theorem dX5_takeSit_160 : decode cX5_takeSit 160 = .ok (.aload_n 0, 1) := by decide +kernel
theorem dX5_takeSit_161 : decode cX5_takeSit 161 = .ok (.getfield 18, 3) := by decide +kernel
theorem dX5_takeSit_164 : decode cX5_takeSit 164 = .ok (.getfield 174, 3) := by decide +kernel
theorem dX5_takeSit_167 : decode cX5_takeSit 167 = .ok (.iload_n 1, 1) := by decide +kernel
theorem dX5_takeSit_168 : decode cX5_takeSit 168 = .ok (.dup2, 1) := by decide +kernel
theorem dX5_takeSit_169 : decode cX5_takeSit 169 = .ok (.iaload, 1) := by decide +kernel
theorem dX5_takeSit_170 : decode cX5_takeSit 170 = .ok (.iconst 1, 1) := by decide +kernel
theorem dX5_takeSit_171 : decode cX5_takeSit 171 = .ok (.iadd, 1) := by decide +kernel
theorem dX5_takeSit_172 : decode cX5_takeSit 172 = .ok (.iastore, 1) := by decide +kernel
theorem dX5_takeSit_173 : decode cX5_takeSit 173 = .ok (.return_, 1) := by decide +kernel
set_option maxRecDepth 100000 in
theorem sgX5_takeSit_0 {d : Nat} {I : st_I} {L : st_L} {F : st_I → st_L → Prop} {a1 : Int32} (h : vp_in a1 4 ∧ EI d mX5_passFirst [.ref 17, .int (I 15 (a1.toNatClampNeg)), .int 12] I L (fun r1 I1 L1 => (if r1 = 0 then F I1 L1 else EI d mX5_takeToldName [.ref 17, .int 143] I1 L1 (fun r2 I2 L2 => vp_in (((a1 * 12) + (I 15 (a1.toNatClampNeg))) * 10) 480 ∧ EI d mX5_pass [.ref 17, .int 149] (u_I I2 16 ((((a1 * 12) + (I 15 (a1.toNatClampNeg))) * 10).toNatClampNeg) r2) L2 (fun r3 I3 L3 => EI d mX5_takeToldName [.ref 17, .int 145] I3 L3 (fun r4 I4 L4 => vp_in ((((a1 * 12) + (I 15 (a1.toNatClampNeg))) * 10) + 1) 480 ∧ EI d mX5_passIf [.ref 17, .int 136] (u_I I4 16 (((((a1 * 12) + (I 15 (a1.toNatClampNeg))) * 10) + 1).toNatClampNeg) r4) L4 (fun r5 I5 L5 => vp_in ((((a1 * 12) + (I 15 (a1.toNatClampNeg))) * 10) + 2) 480 ∧ vp_in ((((a1 * 12) + (I 15 (a1.toNatClampNeg))) * 10) + 3) 480 ∧ EI d mX5_pass [.ref 17, .int 58] (u_I (u_I I5 16 (((((a1 * 12) + (I 15 (a1.toNatClampNeg))) * 10) + 2).toNatClampNeg) (if r5 = 0 then (0 : Int32) else 1)) 16 (((((a1 * 12) + (I 15 (a1.toNatClampNeg))) * 10) + 3).toNatClampNeg) 0) L5 (fun r6 I6 L6 => EV d mX5_takeOrdered [.ref 17, .int (((a1 * 12) + (I 15 (a1.toNatClampNeg))) * 10)] I6 L6 (fun I7 L7 => TV (d + 1) mX5_takeSit 126 [.ref 17, .int a1, .null, .int (((a1 * 12) + (I 15 (a1.toNatClampNeg))) * 10), .int 0] [] I7 L7 F))))))))) : EV (d + 1) mX5_takeSit [.ref 17, .int a1] I L F := by
  refine Ev_of (ls0 := 3) (by decide +kernel) rfl rfl rfl ?_
  refine T_aload_n dX5_takeSit_0 rfl ?_
  refine T_getr dX5_takeSit_1 fl_RX5_18 shp_17 rfl ?_
  refine T_getr dX5_takeSit_4 fl_RX5_174 shp_9 rfl ?_
  refine T_iload_n dX5_takeSit_7 rfl ?_
  refine T_ialdv (v := (I 15 (a1.toNatClampNeg))) (j := a1.toNatClampNeg) dX5_takeSit_8 shp_15 h.1 rfl rfl ?_
  replace h := h.2
  refine T_istore_n (lv' := [.ref 17, .int a1, .int (I 15 (a1.toNatClampNeg)), .null, .null]) dX5_takeSit_9 rfl (by decide) rfl ?_
  refine T_aload_n dX5_takeSit_10 rfl ?_
  refine T_iload_n dX5_takeSit_11 rfl ?_
  refine T_bipush (v := 12) dX5_takeSit_12 (by decide +kernel) ?_
  refine S_callVI (M' := mX5_passFirst) [.int (I 15 (a1.toNatClampNeg)), .int 12] [] dX5_takeSit_14 ml_RX5_133 mkX5_passFirst rfl shp_17 rfl rfl rfl (Nat.le_of_ble_eq_true rfl) h (fun r1 I1 L1 h => ?_)
  refine T_if_ne (tgt := 21) dX5_takeSit_17 (by decide) (tq_ite h (fun h => ?_) (fun h => ?_))
  ·
    exact S_vret rfl dX5_takeSit_20 h
  ·
    refine T_iload_n dX5_takeSit_21 rfl ?_
    refine T_bipush (v := 12) dX5_takeSit_22 (by decide +kernel) ?_
    refine T_imul dX5_takeSit_24 ?_
    refine T_iload_n dX5_takeSit_25 rfl ?_
    refine T_iadd dX5_takeSit_26 ?_
    refine T_bipush (v := 10) dX5_takeSit_27 (by decide +kernel) ?_
    refine T_imul dX5_takeSit_29 ?_
    refine T_istore_n (lv' := [.ref 17, .int a1, .int (I 15 (a1.toNatClampNeg)), .int (((a1 * 12) + (I 15 (a1.toNatClampNeg))) * 10), .null]) dX5_takeSit_30 rfl (by decide) rfl ?_
    refine T_aload_n dX5_takeSit_31 rfl ?_
    refine T_getr dX5_takeSit_32 fl_RX5_18 shp_17 rfl ?_
    refine T_getr dX5_takeSit_35 fl_RX5_180 shp_9 rfl ?_
    refine T_iload_n dX5_takeSit_38 rfl ?_
    refine T_aload_n dX5_takeSit_39 rfl ?_
    refine T_sipush (v := 143) dX5_takeSit_40 (by decide +kernel) ?_
    refine S_callVI (M' := mX5_takeToldName) [.int 143] [.int (((a1 * 12) + (I 15 (a1.toNatClampNeg))) * 10), .ref 16] dX5_takeSit_43 ml_RX5_183 mkX5_takeToldName rfl shp_17 rfl rfl rfl (Nat.le_of_ble_eq_true rfl) h (fun r2 I2 L2 h => ?_)
    refine T_iastv (j := (((a1 * 12) + (I 15 (a1.toNatClampNeg))) * 10).toNatClampNeg) dX5_takeSit_46 shp_16 h.1 rfl ?_
    replace h := h.2
    refine T_aload_n dX5_takeSit_47 rfl ?_
    refine T_sipush (v := 149) dX5_takeSit_48 (by decide +kernel) ?_
    refine S_callVI (M' := mX5_pass) [.int 149] [] dX5_takeSit_51 ml_RX5_111 mkX5_pass rfl shp_17 rfl rfl rfl (Nat.le_of_ble_eq_true rfl) h (fun r3 I3 L3 h => ?_)
    refine T_pop dX5_takeSit_54 rfl ?_
    refine T_aload_n dX5_takeSit_55 rfl ?_
    refine T_getr dX5_takeSit_56 fl_RX5_18 shp_17 rfl ?_
    refine T_getr dX5_takeSit_59 fl_RX5_180 shp_9 rfl ?_
    refine T_iload_n dX5_takeSit_62 rfl ?_
    refine T_iconst (v := 1) dX5_takeSit_63 (by decide +kernel) ?_
    refine T_iadd dX5_takeSit_64 ?_
    refine T_aload_n dX5_takeSit_65 rfl ?_
    refine T_sipush (v := 145) dX5_takeSit_66 (by decide +kernel) ?_
    refine S_callVI (M' := mX5_takeToldName) [.int 145] [.int ((((a1 * 12) + (I 15 (a1.toNatClampNeg))) * 10) + 1), .ref 16] dX5_takeSit_69 ml_RX5_183 mkX5_takeToldName rfl shp_17 rfl rfl rfl (Nat.le_of_ble_eq_true rfl) h (fun r4 I4 L4 h => ?_)
    refine T_iastv (j := ((((a1 * 12) + (I 15 (a1.toNatClampNeg))) * 10) + 1).toNatClampNeg) dX5_takeSit_72 shp_16 h.1 rfl ?_
    replace h := h.2
    refine T_aload_n dX5_takeSit_73 rfl ?_
    refine T_getr dX5_takeSit_74 fl_RX5_18 shp_17 rfl ?_
    refine T_getr dX5_takeSit_77 fl_RX5_180 shp_9 rfl ?_
    refine T_iload_n dX5_takeSit_80 rfl ?_
    refine T_iconst (v := 2) dX5_takeSit_81 (by decide +kernel) ?_
    refine T_iadd dX5_takeSit_82 ?_
    refine T_aload_n dX5_takeSit_83 rfl ?_
    refine T_sipush (v := 136) dX5_takeSit_84 (by decide +kernel) ?_
    refine S_callVI (M' := mX5_passIf) [.int 136] [.int ((((a1 * 12) + (I 15 (a1.toNatClampNeg))) * 10) + 2), .ref 16] dX5_takeSit_87 ml_RX5_141 mkX5_passIf rfl shp_17 rfl rfl rfl (Nat.le_of_ble_eq_true rfl) h (fun r5 I5 L5 h => ?_)
    refine T_if_eq (tgt := 97) dX5_takeSit_90 (by decide) (tq_itv (fun v => T shp (d + 1) mX5_takeSit 98 [.ref 17, .int a1, .int (I 15 (a1.toNatClampNeg)), .int (((a1 * 12) + (I 15 (a1.toNatClampNeg))) * 10), .null] (.int v :: [.int ((((a1 * 12) + (I 15 (a1.toNatClampNeg))) * 10) + 2), .ref 16]) I5 L5 (kV F)) 0 1 (fun hJ => ?_) (fun hJ => ?_) ?_)
    ·
        refine T_iconst (v := 0) dX5_takeSit_97 (by decide +kernel) ?_
        exact hJ
    ·
        refine T_iconst (v := 1) dX5_takeSit_93 (by decide +kernel) ?_
        refine T_goto (tgt := 98) dX5_takeSit_94 (by decide) ?_
        exact hJ
    refine T_iastv (j := ((((a1 * 12) + (I 15 (a1.toNatClampNeg))) * 10) + 2).toNatClampNeg) dX5_takeSit_98 shp_16 h.1 rfl ?_
    replace h := h.2
    refine T_aload_n dX5_takeSit_99 rfl ?_
    refine T_getr dX5_takeSit_100 fl_RX5_18 shp_17 rfl ?_
    refine T_getr dX5_takeSit_103 fl_RX5_180 shp_9 rfl ?_
    refine T_iload_n dX5_takeSit_106 rfl ?_
    refine T_iconst (v := 3) dX5_takeSit_107 (by decide +kernel) ?_
    refine T_iadd dX5_takeSit_108 ?_
    refine T_iconst (v := 0) dX5_takeSit_109 (by decide +kernel) ?_
    refine T_iastv (j := ((((a1 * 12) + (I 15 (a1.toNatClampNeg))) * 10) + 3).toNatClampNeg) dX5_takeSit_110 shp_16 h.1 rfl ?_
    replace h := h.2
    refine T_aload_n dX5_takeSit_111 rfl ?_
    refine T_bipush (v := 58) dX5_takeSit_112 (by decide +kernel) ?_
    refine S_callVI (M' := mX5_pass) [.int 58] [] dX5_takeSit_114 ml_RX5_111 mkX5_pass rfl shp_17 rfl rfl rfl (Nat.le_of_ble_eq_true rfl) h (fun r6 I6 L6 h => ?_)
    refine T_pop dX5_takeSit_117 rfl ?_
    refine T_aload_n dX5_takeSit_118 rfl ?_
    refine T_iload_n dX5_takeSit_119 rfl ?_
    refine S_callVV (M' := mX5_takeOrdered) [.int (((a1 * 12) + (I 15 (a1.toNatClampNeg))) * 10)] [] dX5_takeSit_120 ml_RX5_186 mkX5_takeOrdered rfl shp_17 rfl rfl rfl (Nat.le_of_ble_eq_true rfl) h (fun I7 L7 h => ?_)
    refine T_iconst (v := 0) dX5_takeSit_123 (by decide +kernel) ?_
    refine T_istore (lv' := [.ref 17, .int a1, .int (I 15 (a1.toNatClampNeg)), .int (((a1 * 12) + (I 15 (a1.toNatClampNeg))) * 10), .int 0]) dX5_takeSit_124 (by decide) rfl ?_
    exact T_wk (lv' := [.ref 17, .int a1, .null, .int (((a1 * 12) + (I 15 (a1.toNatClampNeg))) * 10), .int 0]) ⟨Or.inr rfl, Or.inr rfl, Or.inl rfl, Or.inr rfl, Or.inr rfl, trivial⟩ h

set_option maxRecDepth 100000 in
theorem sgX5_takeSit_126 {d : Nat} {I : st_I} {L : st_L} {F : st_I → st_L → Prop} {x1 : Int32} {x3 : Int32} {x4 : Int32} (h : (if 6 ≤ x4 then TV (d + 1) mX5_takeSit 153 [.ref 17, .int x1, .null, .null, .null] [] I L F else EI d mX5_passIf [.ref 17, .int 44] I L (fun r1 I1 L1 => (if r1 = 0 then TV (d + 1) mX5_takeSit 153 [.ref 17, .int x1, .null, .null, .null] [] I1 L1 F else EV d mX5_takeOrdered [.ref 17, .int x3] I1 L1 (fun I2 L2 => TV (d + 1) mX5_takeSit 126 [.ref 17, .int x1, .null, .int x3, .int (x4 + 1)] [] I2 L2 F))))) : TV (d + 1) mX5_takeSit 126 [.ref 17, .int x1, .null, .int x3, .int x4] [] I L F := by
  refine T_iload dX5_takeSit_126 rfl ?_
  refine T_bipush (v := 6) dX5_takeSit_128 (by decide +kernel) ?_
  refine T_icmp_ge (tgt := 153) dX5_takeSit_130 (by decide) (tq_ite h (fun h => ?_) (fun h => ?_))
  ·
    exact T_wk (lv' := [.ref 17, .int x1, .null, .null, .null]) ⟨Or.inr rfl, Or.inr rfl, Or.inr rfl, Or.inl rfl, Or.inl rfl, trivial⟩ h
  ·
    refine T_aload_n dX5_takeSit_133 rfl ?_
    refine T_bipush (v := 44) dX5_takeSit_134 (by decide +kernel) ?_
    refine S_callVI (M' := mX5_passIf) [.int 44] [] dX5_takeSit_136 ml_RX5_141 mkX5_passIf rfl shp_17 rfl rfl rfl (Nat.le_of_ble_eq_true rfl) h (fun r1 I1 L1 h => ?_)
    refine T_if_eq (tgt := 153) dX5_takeSit_139 (by decide) (tq_ite h (fun h => ?_) (fun h => ?_))
    ·
      exact T_wk (lv' := [.ref 17, .int x1, .null, .null, .null]) ⟨Or.inr rfl, Or.inr rfl, Or.inr rfl, Or.inl rfl, Or.inl rfl, trivial⟩ h
    ·
      refine T_aload_n dX5_takeSit_142 rfl ?_
      refine T_iload_n dX5_takeSit_143 rfl ?_
      refine S_callVV (M' := mX5_takeOrdered) [.int x3] [] dX5_takeSit_144 ml_RX5_186 mkX5_takeOrdered rfl shp_17 rfl rfl rfl (Nat.le_of_ble_eq_true rfl) h (fun I2 L2 h => ?_)
      refine T_iinc (lv' := [.ref 17, .int x1, .null, .int x3, .int (x4 + 1)]) dX5_takeSit_147 rfl (by decide) rfl ?_
      refine T_goto (tgt := 126) dX5_takeSit_150 (by decide) ?_
      exact h

set_option maxRecDepth 100000 in
theorem sgX5_takeSit_153 {d : Nat} {I : st_I} {L : st_L} {F : st_I → st_L → Prop} {x1 : Int32} (h : EI d mX5_pass [.ref 17, .int 59] I L (fun r1 I1 L1 => vp_in x1 4 ∧ vp_in x1 4 ∧ F (u_I I1 15 (x1.toNatClampNeg) ((I1 15 (x1.toNatClampNeg)) + 1)) L1)) : TV (d + 1) mX5_takeSit 153 [.ref 17, .int x1, .null, .null, .null] [] I L F := by
  refine T_aload_n dX5_takeSit_153 rfl ?_
  refine T_bipush (v := 59) dX5_takeSit_154 (by decide +kernel) ?_
  refine S_callVI (M' := mX5_pass) [.int 59] [] dX5_takeSit_156 ml_RX5_111 mkX5_pass rfl shp_17 rfl rfl rfl (Nat.le_of_ble_eq_true rfl) h (fun r1 I1 L1 h => ?_)
  refine T_pop dX5_takeSit_159 rfl ?_
  refine T_aload_n dX5_takeSit_160 rfl ?_
  refine T_getr dX5_takeSit_161 fl_RX5_18 shp_17 rfl ?_
  refine T_getr dX5_takeSit_164 fl_RX5_174 shp_9 rfl ?_
  refine T_iload_n dX5_takeSit_167 rfl ?_
  refine T_dup2 dX5_takeSit_168 rfl rfl ?_
  refine T_ialdv (v := (I1 15 (x1.toNatClampNeg))) (j := x1.toNatClampNeg) dX5_takeSit_169 shp_15 h.1 rfl rfl ?_
  replace h := h.2
  refine T_iconst (v := 1) dX5_takeSit_170 (by decide +kernel) ?_
  refine T_iadd dX5_takeSit_171 ?_
  refine T_iastv (j := x1.toNatClampNeg) dX5_takeSit_172 shp_15 h.1 rfl ?_
  replace h := h.2
  exact S_vret rfl dX5_takeSit_173 h

theorem dX5_takeOrdered_0 : decode cX5_takeOrdered 0 = .ok (.aload_n 0, 1) := by decide +kernel
theorem dX5_takeOrdered_1 : decode cX5_takeOrdered 1 = .ok (.getfield 18, 3) := by decide +kernel
theorem dX5_takeOrdered_4 : decode cX5_takeOrdered 4 = .ok (.getfield 180, 3) := by decide +kernel
theorem dX5_takeOrdered_7 : decode cX5_takeOrdered 7 = .ok (.iload_n 1, 1) := by decide +kernel
theorem dX5_takeOrdered_8 : decode cX5_takeOrdered 8 = .ok (.iconst 3, 1) := by decide +kernel
theorem dX5_takeOrdered_9 : decode cX5_takeOrdered 9 = .ok (.iadd, 1) := by decide +kernel
theorem dX5_takeOrdered_10 : decode cX5_takeOrdered 10 = .ok (.iaload, 1) := by decide +kernel
theorem dX5_takeOrdered_11 : decode cX5_takeOrdered 11 = .ok (.istore_n 2, 1) := by decide +kernel
theorem dX5_takeOrdered_12 : decode cX5_takeOrdered 12 = .ok (.iload_n 2, 1) := by decide +kernel
theorem dX5_takeOrdered_13 : decode cX5_takeOrdered 13 = .ok (.bipush 6, 2) := by decide +kernel
theorem dX5_takeOrdered_15 : decode cX5_takeOrdered 15 = .ok (.if_icmp .lt 28, 3) := by decide +kernel
theorem dX5_takeOrdered_18 : decode cX5_takeOrdered 18 = .ok (.aload_n 0, 1) := by decide +kernel
theorem dX5_takeOrdered_19 : decode cX5_takeOrdered 19 = .ok (.getfield 55, 3) := by decide +kernel
theorem dX5_takeOrdered_22 : decode cX5_takeOrdered 22 = .ok (.ifCond .ne 21, 3) := by decide +kernel
theorem dX5_takeOrdered_25 : decode cX5_takeOrdered 25 = .ok (.aload_n 0, 1) := by decide +kernel
theorem dX5_takeOrdered_26 : decode cX5_takeOrdered 26 = .ok (.getfield 26, 3) := by decide +kernel
theorem dX5_takeOrdered_29 : decode cX5_takeOrdered 29 = .ok (.aload_n 0, 1) := by decide +kernel
theorem dX5_takeOrdered_30 : decode cX5_takeOrdered 30 = .ok (.getfield 52, 3) := by decide +kernel
theorem dX5_takeOrdered_33 : decode cX5_takeOrdered 33 = .ok (.iaload, 1) := by decide +kernel
theorem dX5_takeOrdered_34 : decode cX5_takeOrdered 34 = .ok (.iconst 2, 1) := by decide +kernel
theorem dX5_takeOrdered_35 : decode cX5_takeOrdered 35 = .ok (.if_icmp .ne 8, 3) := by decide +kernel
theorem dX5_takeOrdered_38 : decode cX5_takeOrdered 38 = .ok (.aload_n 0, 1) := by decide +kernel
theorem dX5_takeOrdered_39 : decode cX5_takeOrdered 39 = .ok (.iconst 2, 1) := by decide +kernel
theorem dX5_takeOrdered_40 : decode cX5_takeOrdered 40 = .ok (.putfield 55, 3) := by decide +kernel
theorem dX5_takeOrdered_43 : decode cX5_takeOrdered 43 = .ok (.aload_n 0, 1) := by decide +kernel
theorem dX5_takeOrdered_44 : decode cX5_takeOrdered 44 = .ok (.getfield 30, 3) := by decide +kernel
theorem dX5_takeOrdered_47 : decode cX5_takeOrdered 47 = .ok (.aload_n 0, 1) := by decide +kernel
theorem dX5_takeOrdered_48 : decode cX5_takeOrdered 48 = .ok (.getfield 52, 3) := by decide +kernel
theorem dX5_takeOrdered_51 : decode cX5_takeOrdered 51 = .ok (.iaload, 1) := by decide +kernel
theorem dX5_takeOrdered_52 : decode cX5_takeOrdered 52 = .ok (.istore_n 3, 1) := by decide +kernel
theorem dX5_takeOrdered_53 : decode cX5_takeOrdered 53 = .ok (.aload_n 0, 1) := by decide +kernel
theorem dX5_takeOrdered_54 : decode cX5_takeOrdered 54 = .ok (.sipush 140, 3) := by decide +kernel
theorem dX5_takeOrdered_57 : decode cX5_takeOrdered 57 = .ok (.invokevirtual 183, 3) := by decide +kernel
theorem dX5_takeOrdered_60 : decode cX5_takeOrdered 60 = .ok (.istore 4, 2) := by decide +kernel
theorem dX5_takeOrdered_62 : decode cX5_takeOrdered 62 = .ok (.aload_n 0, 1) := by decide +kernel
theorem dX5_takeOrdered_63 : decode cX5_takeOrdered 63 = .ok (.getfield 55, 3) := by decide +kernel
theorem dX5_takeOrdered_66 : decode cX5_takeOrdered 66 = .ok (.ifCond .ne 9, 3) := by decide +kernel
theorem dX5_takeOrdered_69 : decode cX5_takeOrdered 69 = .ok (.iload_n 2, 1) := by decide +kernel
theorem dX5_takeOrdered_70 : decode cX5_takeOrdered 70 = .ok (.bipush 6, 2) := by decide +kernel
theorem dX5_takeOrdered_72 : decode cX5_takeOrdered 72 = .ok (.if_icmp .lt 4, 3) := by decide +kernel
theorem dX5_takeOrdered_75 : decode cX5_takeOrdered 75 = .ok (.return_, 1) := by decide +kernel
theorem dX5_takeOrdered_76 : decode cX5_takeOrdered 76 = .ok (.iconst 0, 1) := by decide +kernel
theorem dX5_takeOrdered_77 : decode cX5_takeOrdered 77 = .ok (.istore 5, 2) := by decide +kernel
theorem dX5_takeOrdered_79 : decode cX5_takeOrdered 79 = .ok (.iload 5, 2) := by decide +kernel
theorem dX5_takeOrdered_81 : decode cX5_takeOrdered 81 = .ok (.iload_n 2, 1) := by decide +kernel
theorem dX5_takeOrdered_82 : decode cX5_takeOrdered 82 = .ok (.if_icmp .ge 40, 3) := by decide +kernel
theorem dX5_takeOrdered_85 : decode cX5_takeOrdered 85 = .ok (.iload 4, 2) := by decide +kernel
theorem dX5_takeOrdered_87 : decode cX5_takeOrdered 87 = .ok (.iconst (-1), 1) := by decide +kernel
theorem dX5_takeOrdered_88 : decode cX5_takeOrdered 88 = .ok (.if_icmp .eq 28, 3) := by decide +kernel
theorem dX5_takeOrdered_91 : decode cX5_takeOrdered 91 = .ok (.aload_n 0, 1) := by decide +kernel
theorem dX5_takeOrdered_92 : decode cX5_takeOrdered 92 = .ok (.getfield 18, 3) := by decide +kernel
theorem dX5_takeOrdered_95 : decode cX5_takeOrdered 95 = .ok (.getfield 180, 3) := by decide +kernel
theorem dX5_takeOrdered_98 : decode cX5_takeOrdered 98 = .ok (.iload_n 1, 1) := by decide +kernel
theorem dX5_takeOrdered_99 : decode cX5_takeOrdered 99 = .ok (.iconst 4, 1) := by decide +kernel
theorem dX5_takeOrdered_100 : decode cX5_takeOrdered 100 = .ok (.iadd, 1) := by decide +kernel
theorem dX5_takeOrdered_101 : decode cX5_takeOrdered 101 = .ok (.iload 5, 2) := by decide +kernel
theorem dX5_takeOrdered_103 : decode cX5_takeOrdered 103 = .ok (.iadd, 1) := by decide +kernel
theorem dX5_takeOrdered_104 : decode cX5_takeOrdered 104 = .ok (.iaload, 1) := by decide +kernel
theorem dX5_takeOrdered_105 : decode cX5_takeOrdered 105 = .ok (.iload 4, 2) := by decide +kernel
theorem dX5_takeOrdered_107 : decode cX5_takeOrdered 107 = .ok (.if_icmp .ne 9, 3) := by decide +kernel
theorem dX5_takeOrdered_110 : decode cX5_takeOrdered 110 = .ok (.aload_n 0, 1) := by decide +kernel
theorem dX5_takeOrdered_111 : decode cX5_takeOrdered 111 = .ok (.iconst 3, 1) := by decide +kernel
theorem dX5_takeOrdered_112 : decode cX5_takeOrdered 112 = .ok (.iload_n 3, 1) := by decide +kernel
theorem dX5_takeOrdered_113 : decode cX5_takeOrdered 113 = .ok (.invokevirtual 189, 3) := by decide +kernel
theorem dX5_takeOrdered_116 : decode cX5_takeOrdered 116 = .ok (.iinc 5 1, 3) := by decide +kernel
theorem dX5_takeOrdered_119 : decode cX5_takeOrdered 119 = .ok (.goto (-40), 3) := by decide +kernel
theorem dX5_takeOrdered_122 : decode cX5_takeOrdered 122 = .ok (.aload_n 0, 1) := by decide +kernel
theorem dX5_takeOrdered_123 : decode cX5_takeOrdered 123 = .ok (.getfield 18, 3) := by decide +kernel
theorem dX5_takeOrdered_126 : decode cX5_takeOrdered 126 = .ok (.getfield 180, 3) := by decide +kernel
theorem dX5_takeOrdered_129 : decode cX5_takeOrdered 129 = .ok (.iload_n 1, 1) := by decide +kernel
theorem dX5_takeOrdered_130 : decode cX5_takeOrdered 130 = .ok (.iconst 4, 1) := by decide +kernel
theorem dX5_takeOrdered_131 : decode cX5_takeOrdered 131 = .ok (.iadd, 1) := by decide +kernel
theorem dX5_takeOrdered_132 : decode cX5_takeOrdered 132 = .ok (.iload_n 2, 1) := by decide +kernel
theorem dX5_takeOrdered_133 : decode cX5_takeOrdered 133 = .ok (.iadd, 1) := by decide +kernel
theorem dX5_takeOrdered_134 : decode cX5_takeOrdered 134 = .ok (.iload 4, 2) := by decide +kernel
theorem dX5_takeOrdered_136 : decode cX5_takeOrdered 136 = .ok (.iastore, 1) := by decide +kernel
theorem dX5_takeOrdered_137 : decode cX5_takeOrdered 137 = .ok (.aload_n 0, 1) := by decide +kernel
theorem dX5_takeOrdered_138 : decode cX5_takeOrdered 138 = .ok (.getfield 18, 3) := by decide +kernel
theorem dX5_takeOrdered_141 : decode cX5_takeOrdered 141 = .ok (.getfield 180, 3) := by decide +kernel
theorem dX5_takeOrdered_144 : decode cX5_takeOrdered 144 = .ok (.iload_n 1, 1) := by decide +kernel
theorem dX5_takeOrdered_145 : decode cX5_takeOrdered 145 = .ok (.iconst 3, 1) := by decide +kernel
theorem dX5_takeOrdered_146 : decode cX5_takeOrdered 146 = .ok (.iadd, 1) := by decide +kernel
theorem dX5_takeOrdered_147 : decode cX5_takeOrdered 147 = .ok (.iload_n 2, 1) := by decide +kernel
theorem dX5_takeOrdered_148 : decode cX5_takeOrdered 148 = .ok (.iconst 1, 1) := by decide +kernel
theorem dX5_takeOrdered_149 : decode cX5_takeOrdered 149 = .ok (.iadd, 1) := by decide +kernel
theorem dX5_takeOrdered_150 : decode cX5_takeOrdered 150 = .ok (.iastore, 1) := by decide +kernel
theorem dX5_takeOrdered_151 : decode cX5_takeOrdered 151 = .ok (.return_, 1) := by decide +kernel
set_option maxRecDepth 100000 in
theorem sgX5_takeOrdered_0 {d : Nat} {I : st_I} {L : st_L} {F : st_I → st_L → Prop} {a1 : Int32} (h : vp_in (a1 + 3) 480 ∧ (if (I 16 ((a1 + 3).toNatClampNeg)) < 6 then TV (d + 1) mX5_takeOrdered 43 [.ref 17, .int a1, .int (I 16 ((a1 + 3).toNatClampNeg)), .null, .null, .null] [] I L F else (if (I 17 7) = 0 then vp_in (I 17 6) 401 ∧ (if (I 19 ((I 17 6).toNatClampNeg)) = 2 then TV (d + 1) mX5_takeOrdered 43 [.ref 17, .int a1, .int (I 16 ((a1 + 3).toNatClampNeg)), .null, .null, .null] [] (u_I I 17 7 2) L F else TV (d + 1) mX5_takeOrdered 43 [.ref 17, .int a1, .int (I 16 ((a1 + 3).toNatClampNeg)), .null, .null, .null] [] I L F) else TV (d + 1) mX5_takeOrdered 43 [.ref 17, .int a1, .int (I 16 ((a1 + 3).toNatClampNeg)), .null, .null, .null] [] I L F))) : EV (d + 1) mX5_takeOrdered [.ref 17, .int a1] I L F := by
  refine Ev_of (ls0 := 4) (by decide +kernel) rfl rfl rfl ?_
  refine T_aload_n dX5_takeOrdered_0 rfl ?_
  refine T_getr dX5_takeOrdered_1 fl_RX5_18 shp_17 rfl ?_
  refine T_getr dX5_takeOrdered_4 fl_RX5_180 shp_9 rfl ?_
  refine T_iload_n dX5_takeOrdered_7 rfl ?_
  refine T_iconst (v := 3) dX5_takeOrdered_8 (by decide +kernel) ?_
  refine T_iadd dX5_takeOrdered_9 ?_
  refine T_ialdv (v := (I 16 ((a1 + 3).toNatClampNeg))) (j := (a1 + 3).toNatClampNeg) dX5_takeOrdered_10 shp_16 h.1 rfl rfl ?_
  replace h := h.2
  refine T_istore_n (lv' := [.ref 17, .int a1, .int (I 16 ((a1 + 3).toNatClampNeg)), .null, .null, .null]) dX5_takeOrdered_11 rfl (by decide) rfl ?_
  refine T_iload_n dX5_takeOrdered_12 rfl ?_
  refine T_bipush (v := 6) dX5_takeOrdered_13 (by decide +kernel) ?_
  refine T_icmp_lt (tgt := 43) dX5_takeOrdered_15 (by decide) (tq_ite h (fun h => ?_) (fun h => ?_))
  ·
    exact h
  ·
    refine T_aload_n dX5_takeOrdered_18 rfl ?_
    refine T_getv (v := (I 17 7)) dX5_takeOrdered_19 fl_RX5_55 shp_17 rfl rfl ?_
    refine T_if_ne (tgt := 43) dX5_takeOrdered_22 (by decide) (tq_ite h (fun h => ?_) (fun h => ?_))
    ·
      refine T_aload_n dX5_takeOrdered_25 rfl ?_
      refine T_getr dX5_takeOrdered_26 fl_RX5_26 shp_17 rfl ?_
      refine T_aload_n dX5_takeOrdered_29 rfl ?_
      refine T_getv (v := (I 17 6)) dX5_takeOrdered_30 fl_RX5_52 shp_17 rfl rfl ?_
      refine T_ialdv (v := (I 19 ((I 17 6).toNatClampNeg))) (j := (I 17 6).toNatClampNeg) dX5_takeOrdered_33 shp_19 h.1 rfl rfl ?_
      replace h := h.2
      refine T_iconst (v := 2) dX5_takeOrdered_34 (by decide +kernel) ?_
      refine T_icmp_ne (tgt := 43) dX5_takeOrdered_35 (by decide) (tq_ite h (fun h => ?_) (fun h => ?_))
      ·
        refine T_aload_n dX5_takeOrdered_38 rfl ?_
        refine T_iconst (v := 2) dX5_takeOrdered_39 (by decide +kernel) ?_
        refine T_puti dX5_takeOrdered_40 fl_RX5_55 pf_5_7 shp_17 rfl rfl rfl ?_
        exact h
      ·
        exact h
    ·
      exact h

set_option maxRecDepth 100000 in
theorem sgX5_takeOrdered_43 {d : Nat} {I : st_I} {L : st_L} {F : st_I → st_L → Prop} {x1 : Int32} {x2 : Int32} (h : vp_in (I 17 6) 401 ∧ EI d mX5_takeToldName [.ref 17, .int 140] I L (fun r1 I1 L1 => (if (I1 17 7) = 0 then (if x2 < 6 then TV (d + 1) mX5_takeOrdered 79 [.ref 17, .int x1, .int x2, .int (I 20 ((I 17 6).toNatClampNeg)), .int r1, .int 0] [] I1 L1 F else F I1 L1) else F I1 L1))) : TV (d + 1) mX5_takeOrdered 43 [.ref 17, .int x1, .int x2, .null, .null, .null] [] I L F := by
  refine T_aload_n dX5_takeOrdered_43 rfl ?_
  refine T_getr dX5_takeOrdered_44 fl_RX5_30 shp_17 rfl ?_
  refine T_aload_n dX5_takeOrdered_47 rfl ?_
  refine T_getv (v := (I 17 6)) dX5_takeOrdered_48 fl_RX5_52 shp_17 rfl rfl ?_
  refine T_ialdv (v := (I 20 ((I 17 6).toNatClampNeg))) (j := (I 17 6).toNatClampNeg) dX5_takeOrdered_51 shp_20 h.1 rfl rfl ?_
  replace h := h.2
  refine T_istore_n (lv' := [.ref 17, .int x1, .int x2, .int (I 20 ((I 17 6).toNatClampNeg)), .null, .null]) dX5_takeOrdered_52 rfl (by decide) rfl ?_
  refine T_aload_n dX5_takeOrdered_53 rfl ?_
  refine T_sipush (v := 140) dX5_takeOrdered_54 (by decide +kernel) ?_
  refine S_callVI (M' := mX5_takeToldName) [.int 140] [] dX5_takeOrdered_57 ml_RX5_183 mkX5_takeToldName rfl shp_17 rfl rfl rfl (Nat.le_of_ble_eq_true rfl) h (fun r1 I1 L1 h => ?_)
  refine T_istore (lv' := [.ref 17, .int x1, .int x2, .int (I 20 ((I 17 6).toNatClampNeg)), .int r1, .null]) dX5_takeOrdered_60 (by decide) rfl ?_
  refine T_aload_n dX5_takeOrdered_62 rfl ?_
  refine T_getv (v := (I1 17 7)) dX5_takeOrdered_63 fl_RX5_55 shp_17 rfl rfl ?_
  refine T_if_ne (tgt := 75) dX5_takeOrdered_66 (by decide) (tq_ite h (fun h => ?_) (fun h => ?_))
  ·
    refine T_iload_n dX5_takeOrdered_69 rfl ?_
    refine T_bipush (v := 6) dX5_takeOrdered_70 (by decide +kernel) ?_
    refine T_icmp_lt (tgt := 76) dX5_takeOrdered_72 (by decide) (tq_ite h (fun h => ?_) (fun h => ?_))
    ·
      refine T_iconst (v := 0) dX5_takeOrdered_76 (by decide +kernel) ?_
      refine T_istore (lv' := [.ref 17, .int x1, .int x2, .int (I 20 ((I 17 6).toNatClampNeg)), .int r1, .int 0]) dX5_takeOrdered_77 (by decide) rfl ?_
      exact h
    ·
      exact S_vret rfl dX5_takeOrdered_75 h
  ·
    exact S_vret rfl dX5_takeOrdered_75 h

set_option maxRecDepth 100000 in
theorem sgX5_takeOrdered_79 {d : Nat} {I : st_I} {L : st_L} {F : st_I → st_L → Prop} {x1 : Int32} {x2 : Int32} {x3 : Int32} {x4 : Int32} {x5 : Int32} (h : (if x2 ≤ x5 then vp_in ((x1 + 4) + x2) 480 ∧ vp_in (x1 + 3) 480 ∧ F (u_I (u_I I 16 (((x1 + 4) + x2).toNatClampNeg) x4) 16 ((x1 + 3).toNatClampNeg) (x2 + 1)) L else (if x4 = (-1) then TV (d + 1) mX5_takeOrdered 79 [.ref 17, .int x1, .int x2, .int x3, .int x4, .int (x5 + 1)] [] I L F else vp_in ((x1 + 4) + x5) 480 ∧ (if (I 16 (((x1 + 4) + x5).toNatClampNeg)) = x4 then EV d mX5_failLater [.ref 17, .int 3, .int x3] I L (fun I1 L1 => TV (d + 1) mX5_takeOrdered 79 [.ref 17, .int x1, .int x2, .int x3, .int x4, .int (x5 + 1)] [] I1 L1 F) else TV (d + 1) mX5_takeOrdered 79 [.ref 17, .int x1, .int x2, .int x3, .int x4, .int (x5 + 1)] [] I L F)))) : TV (d + 1) mX5_takeOrdered 79 [.ref 17, .int x1, .int x2, .int x3, .int x4, .int x5] [] I L F := by
  refine T_iload dX5_takeOrdered_79 rfl ?_
  refine T_iload_n dX5_takeOrdered_81 rfl ?_
  refine T_icmp_ge (tgt := 122) dX5_takeOrdered_82 (by decide) (tq_ite h (fun h => ?_) (fun h => ?_))
  ·
    refine T_aload_n dX5_takeOrdered_122 rfl ?_
    refine T_getr dX5_takeOrdered_123 fl_RX5_18 shp_17 rfl ?_
    refine T_getr dX5_takeOrdered_126 fl_RX5_180 shp_9 rfl ?_
    refine T_iload_n dX5_takeOrdered_129 rfl ?_
    refine T_iconst (v := 4) dX5_takeOrdered_130 (by decide +kernel) ?_
    refine T_iadd dX5_takeOrdered_131 ?_
    refine T_iload_n dX5_takeOrdered_132 rfl ?_
    refine T_iadd dX5_takeOrdered_133 ?_
    refine T_iload dX5_takeOrdered_134 rfl ?_
    refine T_iastv (j := ((x1 + 4) + x2).toNatClampNeg) dX5_takeOrdered_136 shp_16 h.1 rfl ?_
    replace h := h.2
    refine T_aload_n dX5_takeOrdered_137 rfl ?_
    refine T_getr dX5_takeOrdered_138 fl_RX5_18 shp_17 rfl ?_
    refine T_getr dX5_takeOrdered_141 fl_RX5_180 shp_9 rfl ?_
    refine T_iload_n dX5_takeOrdered_144 rfl ?_
    refine T_iconst (v := 3) dX5_takeOrdered_145 (by decide +kernel) ?_
    refine T_iadd dX5_takeOrdered_146 ?_
    refine T_iload_n dX5_takeOrdered_147 rfl ?_
    refine T_iconst (v := 1) dX5_takeOrdered_148 (by decide +kernel) ?_
    refine T_iadd dX5_takeOrdered_149 ?_
    refine T_iastv (j := (x1 + 3).toNatClampNeg) dX5_takeOrdered_150 shp_16 h.1 rfl ?_
    replace h := h.2
    exact S_vret rfl dX5_takeOrdered_151 h
  ·
    refine T_iload dX5_takeOrdered_85 rfl ?_
    refine T_iconst (v := (-1)) dX5_takeOrdered_87 (by decide +kernel) ?_
    refine T_icmp_eq (tgt := 116) dX5_takeOrdered_88 (by decide) (tq_ite h (fun h => ?_) (fun h => ?_))
    ·
      refine T_iinc (lv' := [.ref 17, .int x1, .int x2, .int x3, .int x4, .int (x5 + 1)]) dX5_takeOrdered_116 rfl (by decide) rfl ?_
      refine T_goto (tgt := 79) dX5_takeOrdered_119 (by decide) ?_
      exact h
    ·
      refine T_aload_n dX5_takeOrdered_91 rfl ?_
      refine T_getr dX5_takeOrdered_92 fl_RX5_18 shp_17 rfl ?_
      refine T_getr dX5_takeOrdered_95 fl_RX5_180 shp_9 rfl ?_
      refine T_iload_n dX5_takeOrdered_98 rfl ?_
      refine T_iconst (v := 4) dX5_takeOrdered_99 (by decide +kernel) ?_
      refine T_iadd dX5_takeOrdered_100 ?_
      refine T_iload dX5_takeOrdered_101 rfl ?_
      refine T_iadd dX5_takeOrdered_103 ?_
      refine T_ialdv (v := (I 16 (((x1 + 4) + x5).toNatClampNeg))) (j := ((x1 + 4) + x5).toNatClampNeg) dX5_takeOrdered_104 shp_16 h.1 rfl rfl ?_
      replace h := h.2
      refine T_iload dX5_takeOrdered_105 rfl ?_
      refine T_icmp_ne (tgt := 116) dX5_takeOrdered_107 (by decide) (tq_ite h (fun h => ?_) (fun h => ?_))
      ·
        refine T_aload_n dX5_takeOrdered_110 rfl ?_
        refine T_iconst (v := 3) dX5_takeOrdered_111 (by decide +kernel) ?_
        refine T_iload_n dX5_takeOrdered_112 rfl ?_
        refine S_callVV (M' := mX5_failLater) [.int 3, .int x3] [] dX5_takeOrdered_113 ml_RX5_189 mkX5_failLater rfl shp_17 rfl rfl rfl (Nat.le_of_ble_eq_true rfl) h (fun I1 L1 h => ?_)
        refine T_iinc (lv' := [.ref 17, .int x1, .int x2, .int x3, .int x4, .int (x5 + 1)]) dX5_takeOrdered_116 rfl (by decide) rfl ?_
        refine T_goto (tgt := 79) dX5_takeOrdered_119 (by decide) ?_
        exact h
      ·
        refine T_iinc (lv' := [.ref 17, .int x1, .int x2, .int x3, .int x4, .int (x5 + 1)]) dX5_takeOrdered_116 rfl (by decide) rfl ?_
        refine T_goto (tgt := 79) dX5_takeOrdered_119 (by decide) ?_
        exact h

theorem dX5_takeInt_0 : decode cX5_takeInt 0 = .ok (.aload_n 0, 1) := by decide +kernel
theorem dX5_takeInt_1 : decode cX5_takeInt 1 = .ok (.getfield 30, 3) := by decide +kernel
theorem dX5_takeInt_4 : decode cX5_takeInt 4 = .ok (.aload_n 0, 1) := by decide +kernel
theorem dX5_takeInt_5 : decode cX5_takeInt 5 = .ok (.getfield 52, 3) := by decide +kernel
theorem dX5_takeInt_8 : decode cX5_takeInt 8 = .ok (.iaload, 1) := by decide +kernel
theorem dX5_takeInt_9 : decode cX5_takeInt 9 = .ok (.istore_n 2, 1) := by decide +kernel
theorem dX5_takeInt_10 : decode cX5_takeInt 10 = .ok (.aload_n 0, 1) := by decide +kernel
theorem dX5_takeInt_11 : decode cX5_takeInt 11 = .ok (.iconst 3, 1) := by decide +kernel
theorem dX5_takeInt_12 : decode cX5_takeInt 12 = .ok (.invokevirtual 111, 3) := by decide +kernel
theorem dX5_takeInt_15 : decode cX5_takeInt 15 = .ok (.ifCond .ne 5, 3) := by decide +kernel
theorem dX5_takeInt_18 : decode cX5_takeInt 18 = .ok (.iconst 0, 1) := by decide +kernel
theorem dX5_takeInt_19 : decode cX5_takeInt 19 = .ok (.ireturn, 1) := by decide +kernel
theorem dX5_takeInt_20 : decode cX5_takeInt 20 = .ok (.iconst 0, 1) := by decide +kernel
theorem dX5_takeInt_21 : decode cX5_takeInt 21 = .ok (.istore_n 3, 1) := by decide +kernel
theorem dX5_takeInt_22 : decode cX5_takeInt 22 = .ok (.iload_n 2, 1) := by decide +kernel
theorem dX5_takeInt_23 : decode cX5_takeInt 23 = .ok (.istore 4, 2) := by decide +kernel
theorem dX5_takeInt_25 : decode cX5_takeInt 25 = .ok (.iload 4, 2) := by decide +kernel
theorem dX5_takeInt_27 : decode cX5_takeInt 27 = .ok (.iload_n 2, 1) := by decide +kernel
theorem dX5_takeInt_28 : decode cX5_takeInt 28 = .ok (.iconst 4, 1) := by decide +kernel
theorem dX5_takeInt_29 : decode cX5_takeInt 29 = .ok (.iadd, 1) := by decide +kernel
theorem dX5_takeInt_30 : decode cX5_takeInt 30 = .ok (.if_icmp .ge 34, 3) := by decide +kernel
theorem dX5_takeInt_33 : decode cX5_takeInt 33 = .ok (.aload_n 0, 1) := by decide +kernel
theorem dX5_takeInt_34 : decode cX5_takeInt 34 = .ok (.iload 4, 2) := by decide +kernel
theorem dX5_takeInt_36 : decode cX5_takeInt 36 = .ok (.invokevirtual 88, 3) := by decide +kernel
theorem dX5_takeInt_39 : decode cX5_takeInt 39 = .ok (.ifCond .eq 25, 3) := by decide +kernel
theorem dX5_takeInt_42 : decode cX5_takeInt 42 = .ok (.iload_n 3, 1) := by decide +kernel
theorem dX5_takeInt_43 : decode cX5_takeInt 43 = .ok (.bipush 10, 2) := by decide +kernel
theorem dX5_takeInt_45 : decode cX5_takeInt 45 = .ok (.imul, 1) := by decide +kernel
theorem dX5_takeInt_46 : decode cX5_takeInt 46 = .ok (.aload_n 0, 1) := by decide +kernel
theorem dX5_takeInt_47 : decode cX5_takeInt 47 = .ok (.getfield 22, 3) := by decide +kernel
theorem dX5_takeInt_50 : decode cX5_takeInt 50 = .ok (.iload 4, 2) := by decide +kernel
theorem dX5_takeInt_52 : decode cX5_takeInt 52 = .ok (.baload, 1) := by decide +kernel
theorem dX5_takeInt_53 : decode cX5_takeInt 53 = .ok (.iadd, 1) := by decide +kernel
theorem dX5_takeInt_54 : decode cX5_takeInt 54 = .ok (.bipush 48, 2) := by decide +kernel
theorem dX5_takeInt_56 : decode cX5_takeInt 56 = .ok (.isub, 1) := by decide +kernel
theorem dX5_takeInt_57 : decode cX5_takeInt 57 = .ok (.istore_n 3, 1) := by decide +kernel
theorem dX5_takeInt_58 : decode cX5_takeInt 58 = .ok (.iinc 4 1, 3) := by decide +kernel
theorem dX5_takeInt_61 : decode cX5_takeInt 61 = .ok (.goto (-36), 3) := by decide +kernel
theorem dX5_takeInt_64 : decode cX5_takeInt 64 = .ok (.iload_n 3, 1) := by decide +kernel
theorem dX5_takeInt_65 : decode cX5_takeInt 65 = .ok (.iload_n 1, 1) := by decide +kernel
theorem dX5_takeInt_66 : decode cX5_takeInt 66 = .ok (.if_icmp .le 9, 3) := by decide +kernel
theorem dX5_takeInt_69 : decode cX5_takeInt 69 = .ok (.aload_n 0, 1) := by decide +kernel
theorem dX5_takeInt_70 : decode cX5_takeInt 70 = .ok (.iconst 5, 1) := by decide +kernel
theorem dX5_takeInt_71 : decode cX5_takeInt 71 = .ok (.iload_n 2, 1) := by decide +kernel
theorem dX5_takeInt_72 : decode cX5_takeInt 72 = .ok (.invokevirtual 189, 3) := by decide +kernel
theorem dX5_takeInt_75 : decode cX5_takeInt 75 = .ok (.iload_n 3, 1) := by decide +kernel
theorem dX5_takeInt_76 : decode cX5_takeInt 76 = .ok (.ireturn, 1) := by decide +kernel
set_option maxRecDepth 100000 in
theorem sgX5_takeInt_0 {d : Nat} {I : st_I} {L : st_L} {F : Int32 → st_I → st_L → Prop} {a1 : Int32} (h : vp_in (I 17 6) 401 ∧ EI d mX5_pass [.ref 17, .int 3] I L (fun r1 I1 L1 => (if r1 = 0 then F 0 I1 L1 else TI (d + 1) mX5_takeInt 25 [.ref 17, .int a1, .int (I 20 ((I 17 6).toNatClampNeg)), .int 0, .int (I 20 ((I 17 6).toNatClampNeg))] [] I1 L1 F))) : EI (d + 1) mX5_takeInt [.ref 17, .int a1] I L F := by
  refine Ev_of (ls0 := 3) (by decide +kernel) rfl rfl rfl ?_
  refine T_aload_n dX5_takeInt_0 rfl ?_
  refine T_getr dX5_takeInt_1 fl_RX5_30 shp_17 rfl ?_
  refine T_aload_n dX5_takeInt_4 rfl ?_
  refine T_getv (v := (I 17 6)) dX5_takeInt_5 fl_RX5_52 shp_17 rfl rfl ?_
  refine T_ialdv (v := (I 20 ((I 17 6).toNatClampNeg))) (j := (I 17 6).toNatClampNeg) dX5_takeInt_8 shp_20 h.1 rfl rfl ?_
  replace h := h.2
  refine T_istore_n (lv' := [.ref 17, .int a1, .int (I 20 ((I 17 6).toNatClampNeg)), .null, .null]) dX5_takeInt_9 rfl (by decide) rfl ?_
  refine T_aload_n dX5_takeInt_10 rfl ?_
  refine T_iconst (v := 3) dX5_takeInt_11 (by decide +kernel) ?_
  refine S_callVI (M' := mX5_pass) [.int 3] [] dX5_takeInt_12 ml_RX5_111 mkX5_pass rfl shp_17 rfl rfl rfl (Nat.le_of_ble_eq_true rfl) h (fun r1 I1 L1 h => ?_)
  refine T_if_ne (tgt := 20) dX5_takeInt_15 (by decide) (tq_ite h (fun h => ?_) (fun h => ?_))
  ·
    refine T_iconst (v := 0) dX5_takeInt_18 (by decide +kernel) ?_
    exact S_iret rfl dX5_takeInt_19 h
  ·
    refine T_iconst (v := 0) dX5_takeInt_20 (by decide +kernel) ?_
    refine T_istore_n (lv' := [.ref 17, .int a1, .int (I 20 ((I 17 6).toNatClampNeg)), .int 0, .null]) dX5_takeInt_21 rfl (by decide) rfl ?_
    refine T_iload_n dX5_takeInt_22 rfl ?_
    refine T_istore (lv' := [.ref 17, .int a1, .int (I 20 ((I 17 6).toNatClampNeg)), .int 0, .int (I 20 ((I 17 6).toNatClampNeg))]) dX5_takeInt_23 (by decide) rfl ?_
    exact h

set_option maxRecDepth 100000 in
theorem sgX5_takeInt_25 {d : Nat} {I : st_I} {L : st_L} {F : Int32 → st_I → st_L → Prop} {x1 : Int32} {x2 : Int32} {x3 : Int32} {x4 : Int32} (h : (if (x2 + 4) ≤ x4 then TI (d + 1) mX5_takeInt 64 [.ref 17, .int x1, .int x2, .int x3, .null] [] I L F else EI d mX5_isDigit [.ref 17, .int x4] I L (fun r1 I1 L1 => (if r1 = 0 then TI (d + 1) mX5_takeInt 64 [.ref 17, .int x1, .int x2, .int x3, .null] [] I1 L1 F else vp_in x4 2000 ∧ TI (d + 1) mX5_takeInt 25 [.ref 17, .int x1, .int x2, .int (((x3 * 10) + (I1 18 (x4.toNatClampNeg))) - 48), .int (x4 + 1)] [] I1 L1 F)))) : TI (d + 1) mX5_takeInt 25 [.ref 17, .int x1, .int x2, .int x3, .int x4] [] I L F := by
  refine T_iload dX5_takeInt_25 rfl ?_
  refine T_iload_n dX5_takeInt_27 rfl ?_
  refine T_iconst (v := 4) dX5_takeInt_28 (by decide +kernel) ?_
  refine T_iadd dX5_takeInt_29 ?_
  refine T_icmp_ge (tgt := 64) dX5_takeInt_30 (by decide) (tq_ite h (fun h => ?_) (fun h => ?_))
  ·
    exact T_wk (lv' := [.ref 17, .int x1, .int x2, .int x3, .null]) ⟨Or.inr rfl, Or.inr rfl, Or.inr rfl, Or.inr rfl, Or.inl rfl, trivial⟩ h
  ·
    refine T_aload_n dX5_takeInt_33 rfl ?_
    refine T_iload dX5_takeInt_34 rfl ?_
    refine S_callVI (M' := mX5_isDigit) [.int x4] [] dX5_takeInt_36 ml_RX5_88 mkX5_isDigit rfl shp_17 rfl rfl rfl (Nat.le_of_ble_eq_true rfl) h (fun r1 I1 L1 h => ?_)
    refine T_if_eq (tgt := 64) dX5_takeInt_39 (by decide) (tq_ite h (fun h => ?_) (fun h => ?_))
    ·
      exact T_wk (lv' := [.ref 17, .int x1, .int x2, .int x3, .null]) ⟨Or.inr rfl, Or.inr rfl, Or.inr rfl, Or.inr rfl, Or.inl rfl, trivial⟩ h
    ·
      refine T_iload_n dX5_takeInt_42 rfl ?_
      refine T_bipush (v := 10) dX5_takeInt_43 (by decide +kernel) ?_
      refine T_imul dX5_takeInt_45 ?_
      refine T_aload_n dX5_takeInt_46 rfl ?_
      refine T_getr dX5_takeInt_47 fl_RX5_22 shp_17 rfl ?_
      refine T_iload dX5_takeInt_50 rfl ?_
      refine T_baldv (v := (I1 18 (x4.toNatClampNeg))) (j := x4.toNatClampNeg) dX5_takeInt_52 shp_18 h.1 rfl rfl ?_
      replace h := h.2
      refine T_iadd dX5_takeInt_53 ?_
      refine T_bipush (v := 48) dX5_takeInt_54 (by decide +kernel) ?_
      refine T_isub dX5_takeInt_56 ?_
      refine T_istore_n (lv' := [.ref 17, .int x1, .int x2, .int (((x3 * 10) + (I1 18 (x4.toNatClampNeg))) - 48), .int x4]) dX5_takeInt_57 rfl (by decide) rfl ?_
      refine T_iinc (lv' := [.ref 17, .int x1, .int x2, .int (((x3 * 10) + (I1 18 (x4.toNatClampNeg))) - 48), .int (x4 + 1)]) dX5_takeInt_58 rfl (by decide) rfl ?_
      refine T_goto (tgt := 25) dX5_takeInt_61 (by decide) ?_
      exact h

set_option maxRecDepth 100000 in
theorem sgX5_takeInt_64 {d : Nat} {I : st_I} {L : st_L} {F : Int32 → st_I → st_L → Prop} {x1 : Int32} {x2 : Int32} {x3 : Int32} (h : (if x3 ≤ x1 then F x3 I L else EV d mX5_failLater [.ref 17, .int 5, .int x2] I L (fun I1 L1 => F x3 I1 L1))) : TI (d + 1) mX5_takeInt 64 [.ref 17, .int x1, .int x2, .int x3, .null] [] I L F := by
  refine T_iload_n dX5_takeInt_64 rfl ?_
  refine T_iload_n dX5_takeInt_65 rfl ?_
  refine T_icmp_le (tgt := 75) dX5_takeInt_66 (by decide) (tq_ite h (fun h => ?_) (fun h => ?_))
  ·
    refine T_iload_n dX5_takeInt_75 rfl ?_
    exact S_iret rfl dX5_takeInt_76 h
  ·
    refine T_aload_n dX5_takeInt_69 rfl ?_
    refine T_iconst (v := 5) dX5_takeInt_70 (by decide +kernel) ?_
    refine T_iload_n dX5_takeInt_71 rfl ?_
    refine S_callVV (M' := mX5_failLater) [.int 5, .int x2] [] dX5_takeInt_72 ml_RX5_189 mkX5_failLater rfl shp_17 rfl rfl rfl (Nat.le_of_ble_eq_true rfl) h (fun I1 L1 h => ?_)
    refine T_iload_n dX5_takeInt_75 rfl ?_
    exact S_iret rfl dX5_takeInt_76 h

theorem dX5_keyAt_0 : decode cX5_keyAt 0 = .ok (.lconst 0, 1) := by decide +kernel
theorem dX5_keyAt_1 : decode cX5_keyAt 1 = .ok (.lstore_n 2, 1) := by decide +kernel
theorem dX5_keyAt_2 : decode cX5_keyAt 2 = .ok (.iload_n 1, 1) := by decide +kernel
theorem dX5_keyAt_3 : decode cX5_keyAt 3 = .ok (.istore 4, 2) := by decide +kernel
theorem dX5_keyAt_5 : decode cX5_keyAt 5 = .ok (.iload 4, 2) := by decide +kernel
theorem dX5_keyAt_7 : decode cX5_keyAt 7 = .ok (.iload_n 1, 1) := by decide +kernel
theorem dX5_keyAt_8 : decode cX5_keyAt 8 = .ok (.bipush 8, 2) := by decide +kernel
theorem dX5_keyAt_10 : decode cX5_keyAt 10 = .ok (.iadd, 1) := by decide +kernel
theorem dX5_keyAt_11 : decode cX5_keyAt 11 = .ok (.if_icmp .ge 39, 3) := by decide +kernel
theorem dX5_keyAt_14 : decode cX5_keyAt 14 = .ok (.aload_n 0, 1) := by decide +kernel
theorem dX5_keyAt_15 : decode cX5_keyAt 15 = .ok (.iload 4, 2) := by decide +kernel
theorem dX5_keyAt_17 : decode cX5_keyAt 17 = .ok (.invokevirtual 85, 3) := by decide +kernel
theorem dX5_keyAt_20 : decode cX5_keyAt 20 = .ok (.ifCond .eq 30, 3) := by decide +kernel
theorem dX5_keyAt_23 : decode cX5_keyAt 23 = .ok (.lload_n 2, 1) := by decide +kernel
theorem dX5_keyAt_24 : decode cX5_keyAt 24 = .ok (.ldc2_w 192, 3) := by decide +kernel
theorem dX5_keyAt_27 : decode cX5_keyAt 27 = .ok (.lmul, 1) := by decide +kernel
theorem dX5_keyAt_28 : decode cX5_keyAt 28 = .ok (.aload_n 0, 1) := by decide +kernel
theorem dX5_keyAt_29 : decode cX5_keyAt 29 = .ok (.getfield 22, 3) := by decide +kernel
theorem dX5_keyAt_32 : decode cX5_keyAt 32 = .ok (.iload 4, 2) := by decide +kernel
theorem dX5_keyAt_34 : decode cX5_keyAt 34 = .ok (.baload, 1) := by decide +kernel
theorem dX5_keyAt_35 : decode cX5_keyAt 35 = .ok (.i2l, 1) := by decide +kernel
theorem dX5_keyAt_36 : decode cX5_keyAt 36 = .ok (.ladd, 1) := by decide +kernel
theorem dX5_keyAt_37 : decode cX5_keyAt 37 = .ok (.ldc2_w 194, 3) := by decide +kernel
theorem dX5_keyAt_40 : decode cX5_keyAt 40 = .ok (.lsub, 1) := by decide +kernel
theorem dX5_keyAt_41 : decode cX5_keyAt 41 = .ok (.lconst 1, 1) := by decide +kernel
theorem dX5_keyAt_42 : decode cX5_keyAt 42 = .ok (.ladd, 1) := by decide +kernel
theorem dX5_keyAt_43 : decode cX5_keyAt 43 = .ok (.lstore_n 2, 1) := by decide +kernel
theorem dX5_keyAt_44 : decode cX5_keyAt 44 = .ok (.iinc 4 1, 3) := by decide +kernel
theorem dX5_keyAt_47 : decode cX5_keyAt 47 = .ok (.goto (-42), 3) := by decide +kernel
theorem dX5_keyAt_50 : decode cX5_keyAt 50 = .ok (.lload_n 2, 1) := by decide +kernel
theorem dX5_keyAt_51 : decode cX5_keyAt 51 = .ok (.lreturn, 1) := by decide +kernel
set_option maxRecDepth 100000 in
theorem sgX5_keyAt_0 {d : Nat} {I : st_I} {L : st_L} {F : Int64 → st_I → st_L → Prop} {a1 : Int32} (h : TL (d + 1) mX5_keyAt 5 [.ref 17, .int a1, .long 0, .null, .int a1] [] I L F) : EL (d + 1) mX5_keyAt [.ref 17, .int a1] I L F := by
  refine Ev_of (ls0 := 3) (by decide +kernel) rfl rfl rfl ?_
  refine T_lconst (v := 0) dX5_keyAt_0 (by decide +kernel) ?_
  refine T_lstore_n (lv' := [.ref 17, .int a1, .long 0, .null, .null]) dX5_keyAt_1 rfl (by decide) rfl ?_
  refine T_iload_n dX5_keyAt_2 rfl ?_
  refine T_istore (lv' := [.ref 17, .int a1, .long 0, .null, .int a1]) dX5_keyAt_3 (by decide) rfl ?_
  exact h

set_option maxRecDepth 100000 in
theorem sgX5_keyAt_5 {d : Nat} {I : st_I} {L : st_L} {F : Int64 → st_I → st_L → Prop} {x1 : Int32} {x2 : Int64} {x4 : Int32} (h : (if (x1 + 8) ≤ x4 then F x2 I L else EI d mX5_isLetter [.ref 17, .int x4] I L (fun r1 I1 L1 => (if r1 = 0 then F x2 I1 L1 else vp_in x4 2000 ∧ TL (d + 1) mX5_keyAt 5 [.ref 17, .int x1, .long ((((x2 * 32) + (((I1 18 (x4.toNatClampNeg)) : Int32).toInt64)) - 97) + 1), .null, .int (x4 + 1)] [] I1 L1 F)))) : TL (d + 1) mX5_keyAt 5 [.ref 17, .int x1, .long x2, .null, .int x4] [] I L F := by
  refine T_iload dX5_keyAt_5 rfl ?_
  refine T_iload_n dX5_keyAt_7 rfl ?_
  refine T_bipush (v := 8) dX5_keyAt_8 (by decide +kernel) ?_
  refine T_iadd dX5_keyAt_10 ?_
  refine T_icmp_ge (tgt := 50) dX5_keyAt_11 (by decide) (tq_ite h (fun h => ?_) (fun h => ?_))
  ·
    refine T_lload_n dX5_keyAt_50 rfl ?_
    exact S_lret rfl dX5_keyAt_51 h
  ·
    refine T_aload_n dX5_keyAt_14 rfl ?_
    refine T_iload dX5_keyAt_15 rfl ?_
    refine S_callVI (M' := mX5_isLetter) [.int x4] [] dX5_keyAt_17 ml_RX5_85 mkX5_isLetter rfl shp_17 rfl rfl rfl (Nat.le_of_ble_eq_true rfl) h (fun r1 I1 L1 h => ?_)
    refine T_if_eq (tgt := 50) dX5_keyAt_20 (by decide) (tq_ite h (fun h => ?_) (fun h => ?_))
    ·
      refine T_lload_n dX5_keyAt_50 rfl ?_
      exact S_lret rfl dX5_keyAt_51 h
    ·
      refine T_lload_n dX5_keyAt_23 rfl ?_
      refine T_ldc2 (v := 32) dX5_keyAt_24 ki_RX5_192 ?_
      refine T_lmul dX5_keyAt_27 ?_
      refine T_aload_n dX5_keyAt_28 rfl ?_
      refine T_getr dX5_keyAt_29 fl_RX5_22 shp_17 rfl ?_
      refine T_iload dX5_keyAt_32 rfl ?_
      refine T_baldv (v := (I1 18 (x4.toNatClampNeg))) (j := x4.toNatClampNeg) dX5_keyAt_34 shp_18 h.1 rfl rfl ?_
      replace h := h.2
      refine T_i2l dX5_keyAt_35 ?_
      refine T_ladd dX5_keyAt_36 ?_
      refine T_ldc2 (v := 97) dX5_keyAt_37 ki_RX5_194 ?_
      refine T_lsub dX5_keyAt_40 ?_
      refine T_lconst (v := 1) dX5_keyAt_41 (by decide +kernel) ?_
      refine T_ladd dX5_keyAt_42 ?_
      refine T_lstore_n (lv' := [.ref 17, .int x1, .long ((((x2 * 32) + (((I1 18 (x4.toNatClampNeg)) : Int32).toInt64)) - 97) + 1), .null, .int x4]) dX5_keyAt_43 rfl (by decide) rfl ?_
      refine T_iinc (lv' := [.ref 17, .int x1, .long ((((x2 * 32) + (((I1 18 (x4.toNatClampNeg)) : Int32).toInt64)) - 97) + 1), .null, .int (x4 + 1)]) dX5_keyAt_44 rfl (by decide) rfl ?_
      refine T_goto (tgt := 5) dX5_keyAt_47 (by decide) ?_
      exact h

theorem dX5_nameOf_0 : decode cX5_nameOf 0 = .ok (.iconst 0, 1) := by decide +kernel
theorem dX5_nameOf_1 : decode cX5_nameOf 1 = .ok (.istore_n 3, 1) := by decide +kernel
theorem dX5_nameOf_2 : decode cX5_nameOf 2 = .ok (.iload_n 3, 1) := by decide +kernel
theorem dX5_nameOf_3 : decode cX5_nameOf 3 = .ok (.aload_n 0, 1) := by decide +kernel
theorem dX5_nameOf_4 : decode cX5_nameOf 4 = .ok (.getfield 61, 3) := by decide +kernel
theorem dX5_nameOf_7 : decode cX5_nameOf 7 = .ok (.if_icmp .ge 22, 3) := by decide +kernel
theorem dX5_nameOf_10 : decode cX5_nameOf 10 = .ok (.aload_n 0, 1) := by decide +kernel
theorem dX5_nameOf_11 : decode cX5_nameOf 11 = .ok (.getfield 33, 3) := by decide +kernel
theorem dX5_nameOf_14 : decode cX5_nameOf 14 = .ok (.iload_n 3, 1) := by decide +kernel
theorem dX5_nameOf_15 : decode cX5_nameOf 15 = .ok (.laload, 1) := by decide +kernel
theorem dX5_nameOf_16 : decode cX5_nameOf 16 = .ok (.lload_n 1, 1) := by decide +kernel
theorem dX5_nameOf_17 : decode cX5_nameOf 17 = .ok (.lcmp, 1) := by decide +kernel
theorem dX5_nameOf_18 : decode cX5_nameOf 18 = .ok (.ifCond .ne 5, 3) := by decide +kernel
theorem dX5_nameOf_21 : decode cX5_nameOf 21 = .ok (.iload_n 3, 1) := by decide +kernel
theorem dX5_nameOf_22 : decode cX5_nameOf 22 = .ok (.ireturn, 1) := by decide +kernel
theorem dX5_nameOf_23 : decode cX5_nameOf 23 = .ok (.iinc 3 1, 3) := by decide +kernel
theorem dX5_nameOf_26 : decode cX5_nameOf 26 = .ok (.goto (-24), 3) := by decide +kernel
theorem dX5_nameOf_29 : decode cX5_nameOf 29 = .ok (.iconst (-1), 1) := by decide +kernel
theorem dX5_nameOf_30 : decode cX5_nameOf 30 = .ok (.ireturn, 1) := by decide +kernel
set_option maxRecDepth 100000 in
theorem sgX5_nameOf_0 {d : Nat} {I : st_I} {L : st_L} {F : Int32 → st_I → st_L → Prop} {a1 : Int64} (h : TI d mX5_nameOf 2 [.ref 17, .long a1, .null, .int 0] [] I L F) : EI d mX5_nameOf [.ref 17, .long a1] I L F := by
  refine Ev_of (ls0 := 1) (by decide +kernel) rfl rfl rfl ?_
  refine T_iconst (v := 0) dX5_nameOf_0 (by decide +kernel) ?_
  refine T_istore_n (lv' := [.ref 17, .long a1, .null, .int 0]) dX5_nameOf_1 rfl (by decide) rfl ?_
  exact h

set_option maxRecDepth 100000 in
theorem sgX5_nameOf_2 {d : Nat} {I : st_I} {L : st_L} {F : Int32 → st_I → st_L → Prop} {x1 : Int64} {x3 : Int32} (h : (if (I 17 13) ≤ x3 then F (-1) I L else vp_in x3 32 ∧ (if (lg_cmp (L 21 (x3.toNatClampNeg)) x1) = 0 then F x3 I L else TI d mX5_nameOf 2 [.ref 17, .long x1, .null, .int (x3 + 1)] [] I L F))) : TI d mX5_nameOf 2 [.ref 17, .long x1, .null, .int x3] [] I L F := by
  refine T_iload_n dX5_nameOf_2 rfl ?_
  refine T_aload_n dX5_nameOf_3 rfl ?_
  refine T_getv (v := (I 17 13)) dX5_nameOf_4 fl_RX5_61 shp_17 rfl rfl ?_
  refine T_icmp_ge (tgt := 29) dX5_nameOf_7 (by decide) (tq_ite h (fun h => ?_) (fun h => ?_))
  ·
    refine T_iconst (v := (-1)) dX5_nameOf_29 (by decide +kernel) ?_
    exact S_iret rfl dX5_nameOf_30 h
  ·
    refine T_aload_n dX5_nameOf_10 rfl ?_
    refine T_getr dX5_nameOf_11 fl_RX5_33 shp_17 rfl ?_
    refine T_iload_n dX5_nameOf_14 rfl ?_
    refine T_laldv (v := (L 21 (x3.toNatClampNeg))) (j := x3.toNatClampNeg) dX5_nameOf_15 shp_21 h.1 rfl rfl ?_
    replace h := h.2
    refine T_lload_n dX5_nameOf_16 rfl ?_
    refine T_lcmp dX5_nameOf_17 ?_
    refine T_if_ne (tgt := 23) dX5_nameOf_18 (by decide) (tq_ite h (fun h => ?_) (fun h => ?_))
    ·
      refine T_iload_n dX5_nameOf_21 rfl ?_
      exact S_iret rfl dX5_nameOf_22 h
    ·
      refine T_iinc (lv' := [.ref 17, .long x1, .null, .int (x3 + 1)]) dX5_nameOf_23 rfl (by decide) rfl ?_
      refine T_goto (tgt := 2) dX5_nameOf_26 (by decide) ?_
      exact h

theorem dX5_takeNewName_0 : decode cX5_takeNewName 0 = .ok (.aload_n 0, 1) := by decide +kernel
theorem dX5_takeNewName_1 : decode cX5_takeNewName 1 = .ok (.getfield 30, 3) := by decide +kernel
theorem dX5_takeNewName_4 : decode cX5_takeNewName 4 = .ok (.aload_n 0, 1) := by decide +kernel
theorem dX5_takeNewName_5 : decode cX5_takeNewName 5 = .ok (.getfield 52, 3) := by decide +kernel
theorem dX5_takeNewName_8 : decode cX5_takeNewName 8 = .ok (.iaload, 1) := by decide +kernel
theorem dX5_takeNewName_9 : decode cX5_takeNewName 9 = .ok (.istore_n 3, 1) := by decide +kernel
theorem dX5_takeNewName_10 : decode cX5_takeNewName 10 = .ok (.aload_n 0, 1) := by decide +kernel
theorem dX5_takeNewName_11 : decode cX5_takeNewName 11 = .ok (.iconst 2, 1) := by decide +kernel
theorem dX5_takeNewName_12 : decode cX5_takeNewName 12 = .ok (.invokevirtual 111, 3) := by decide +kernel
theorem dX5_takeNewName_15 : decode cX5_takeNewName 15 = .ok (.ifCond .ne 4, 3) := by decide +kernel
theorem dX5_takeNewName_18 : decode cX5_takeNewName 18 = .ok (.return_, 1) := by decide +kernel
theorem dX5_takeNewName_19 : decode cX5_takeNewName 19 = .ok (.aload_n 0, 1) := by decide +kernel
theorem dX5_takeNewName_20 : decode cX5_takeNewName 20 = .ok (.iload_n 3, 1) := by decide +kernel
theorem dX5_takeNewName_21 : decode cX5_takeNewName 21 = .ok (.invokevirtual 196, 3) := by decide +kernel
theorem dX5_takeNewName_24 : decode cX5_takeNewName 24 = .ok (.lstore 4, 2) := by decide +kernel
theorem dX5_takeNewName_26 : decode cX5_takeNewName 26 = .ok (.aload_n 0, 1) := by decide +kernel
theorem dX5_takeNewName_27 : decode cX5_takeNewName 27 = .ok (.lload 4, 2) := by decide +kernel
theorem dX5_takeNewName_29 : decode cX5_takeNewName 29 = .ok (.invokevirtual 200, 3) := by decide +kernel
theorem dX5_takeNewName_32 : decode cX5_takeNewName 32 = .ok (.iconst (-1), 1) := by decide +kernel
theorem dX5_takeNewName_33 : decode cX5_takeNewName 33 = .ok (.if_icmp .eq 12, 3) := by decide +kernel
theorem dX5_takeNewName_36 : decode cX5_takeNewName 36 = .ok (.aload_n 0, 1) := by decide +kernel
theorem dX5_takeNewName_37 : decode cX5_takeNewName 37 = .ok (.iconst 3, 1) := by decide +kernel
theorem dX5_takeNewName_38 : decode cX5_takeNewName 38 = .ok (.iload_n 3, 1) := by decide +kernel
theorem dX5_takeNewName_39 : decode cX5_takeNewName 39 = .ok (.invokevirtual 189, 3) := by decide +kernel
theorem dX5_takeNewName_42 : decode cX5_takeNewName 42 = .ok (.goto 53, 3) := by decide +kernel
theorem dX5_takeNewName_45 : decode cX5_takeNewName 45 = .ok (.aload_n 0, 1) := by decide +kernel
theorem dX5_takeNewName_46 : decode cX5_takeNewName 46 = .ok (.getfield 61, 3) := by decide +kernel
theorem dX5_takeNewName_49 : decode cX5_takeNewName 49 = .ok (.bipush 32, 2) := by decide +kernel
theorem dX5_takeNewName_51 : decode cX5_takeNewName 51 = .ok (.if_icmp .ge 44, 3) := by decide +kernel
theorem dX5_takeNewName_54 : decode cX5_takeNewName 54 = .ok (.aload_n 0, 1) := by decide +kernel
theorem dX5_takeNewName_55 : decode cX5_takeNewName 55 = .ok (.getfield 33, 3) := by decide +kernel
theorem dX5_takeNewName_58 : decode cX5_takeNewName 58 = .ok (.aload_n 0, 1) := by decide +kernel
theorem dX5_takeNewName_59 : decode cX5_takeNewName 59 = .ok (.getfield 61, 3) := by decide +kernel
theorem dX5_takeNewName_62 : decode cX5_takeNewName 62 = .ok (.lload 4, 2) := by decide +kernel
theorem dX5_takeNewName_64 : decode cX5_takeNewName 64 = .ok (.lastore, 1) := by decide +kernel
theorem dX5_takeNewName_65 : decode cX5_takeNewName 65 = .ok (.aload_n 0, 1) := by decide +kernel
theorem dX5_takeNewName_66 : decode cX5_takeNewName 66 = .ok (.getfield 37, 3) := by decide +kernel
theorem dX5_takeNewName_69 : decode cX5_takeNewName 69 = .ok (.aload_n 0, 1) := by decide +kernel
theorem dX5_takeNewName_70 : decode cX5_takeNewName 70 = .ok (.getfield 61, 3) := by decide +kernel
theorem dX5_takeNewName_73 : decode cX5_takeNewName 73 = .ok (.iload_n 1, 1) := by decide +kernel
theorem dX5_takeNewName_74 : decode cX5_takeNewName 74 = .ok (.iastore, 1) := by decide +kernel
theorem dX5_takeNewName_75 : decode cX5_takeNewName 75 = .ok (.aload_n 0, 1) := by decide +kernel
theorem dX5_takeNewName_76 : decode cX5_takeNewName 76 = .ok (.getfield 40, 3) := by decide +kernel
theorem dX5_takeNewName_79 : decode cX5_takeNewName 79 = .ok (.aload_n 0, 1) := by decide +kernel
theorem dX5_takeNewName_80 : decode cX5_takeNewName 80 = .ok (.getfield 61, 3) := by decide +kernel
theorem dX5_takeNewName_83 : decode cX5_takeNewName 83 = .ok (.iload_n 2, 1) := by decide +kernel
theorem dX5_takeNewName_84 : decode cX5_takeNewName 84 = .ok (.iastore, 1) := by decide +kernel
theorem dX5_takeNewName_85 : decode cX5_takeNewName 85 = .ok (.aload_n 0, 1) := by decide +kernel
theorem dX5_takeNewName_86 : decode cX5_takeNewName 86 = .ok (.dup, 1) := by decide +kernel
theorem dX5_takeNewName_87 : decode cX5_takeNewName 87 = .ok (.getfield 61, 3) := by decide +kernel
theorem dX5_takeNewName_90 : decode cX5_takeNewName 90 = .ok (.iconst 1, 1) := by decide +kernel
theorem dX5_takeNewName_91 : decode cX5_takeNewName 91 = .ok (.iadd, 1) := by decide +kernel
theorem dX5_takeNewName_92 : decode cX5_takeNewName 92 = .ok (.putfield 61, 3) := by decide +kernel
theorem dX5_takeNewName_95 : decode cX5_takeNewName 95 = .ok (.return_, 1) := by decide +kernel
set_option maxRecDepth 100000 in
theorem sgX5_takeNewName_0 {d : Nat} {I : st_I} {L : st_L} {F : st_I → st_L → Prop} {a1 : Int32} {a2 : Int32} (h : vp_in (I 17 6) 401 ∧ EI d mX5_pass [.ref 17, .int 2] I L (fun r1 I1 L1 => (if r1 = 0 then F I1 L1 else EL d mX5_keyAt [.ref 17, .int (I 20 ((I 17 6).toNatClampNeg))] I1 L1 (fun r2 I2 L2 => EI d mX5_nameOf [.ref 17, .long r2] I2 L2 (fun r3 I3 L3 => (if r3 = (-1) then (if 32 ≤ (I3 17 13) then F I3 L3 else vp_in (I3 17 13) 32 ∧ vp_in (I3 17 13) 32 ∧ vp_in (I3 17 13) 32 ∧ F (u_I (u_I (u_I I3 22 ((I3 17 13).toNatClampNeg) a1) 23 ((I3 17 13).toNatClampNeg) a2) 17 13 ((I3 17 13) + 1)) (u_L L3 21 ((I3 17 13).toNatClampNeg) r2)) else EV d mX5_failLater [.ref 17, .int 3, .int (I 20 ((I 17 6).toNatClampNeg))] I3 L3 (fun I4 L4 => F I4 L4))))))) : EV (d + 1) mX5_takeNewName [.ref 17, .int a1, .int a2] I L F := by
  refine Ev_of (ls0 := 3) (by decide +kernel) rfl rfl rfl ?_
  refine T_aload_n dX5_takeNewName_0 rfl ?_
  refine T_getr dX5_takeNewName_1 fl_RX5_30 shp_17 rfl ?_
  refine T_aload_n dX5_takeNewName_4 rfl ?_
  refine T_getv (v := (I 17 6)) dX5_takeNewName_5 fl_RX5_52 shp_17 rfl rfl ?_
  refine T_ialdv (v := (I 20 ((I 17 6).toNatClampNeg))) (j := (I 17 6).toNatClampNeg) dX5_takeNewName_8 shp_20 h.1 rfl rfl ?_
  replace h := h.2
  refine T_istore_n (lv' := [.ref 17, .int a1, .int a2, .int (I 20 ((I 17 6).toNatClampNeg)), .null, .null]) dX5_takeNewName_9 rfl (by decide) rfl ?_
  refine T_aload_n dX5_takeNewName_10 rfl ?_
  refine T_iconst (v := 2) dX5_takeNewName_11 (by decide +kernel) ?_
  refine S_callVI (M' := mX5_pass) [.int 2] [] dX5_takeNewName_12 ml_RX5_111 mkX5_pass rfl shp_17 rfl rfl rfl (Nat.le_of_ble_eq_true rfl) h (fun r1 I1 L1 h => ?_)
  refine T_if_ne (tgt := 19) dX5_takeNewName_15 (by decide) (tq_ite h (fun h => ?_) (fun h => ?_))
  ·
    exact S_vret rfl dX5_takeNewName_18 h
  ·
    refine T_aload_n dX5_takeNewName_19 rfl ?_
    refine T_iload_n dX5_takeNewName_20 rfl ?_
    refine S_callVL (M' := mX5_keyAt) [.int (I 20 ((I 17 6).toNatClampNeg))] [] dX5_takeNewName_21 ml_RX5_196 mkX5_keyAt rfl shp_17 rfl rfl rfl (Nat.le_of_ble_eq_true rfl) h (fun r2 I2 L2 h => ?_)
    refine T_lstore (lv' := [.ref 17, .int a1, .int a2, .int (I 20 ((I 17 6).toNatClampNeg)), .long r2, .null]) dX5_takeNewName_24 (by decide) rfl ?_
    refine T_aload_n dX5_takeNewName_26 rfl ?_
    refine T_lload dX5_takeNewName_27 rfl ?_
    refine S_callVI (M' := mX5_nameOf) [.long r2] [] dX5_takeNewName_29 ml_RX5_200 mkX5_nameOf rfl shp_17 rfl rfl rfl (Nat.le_of_ble_eq_true rfl) h (fun r3 I3 L3 h => ?_)
    refine T_iconst (v := (-1)) dX5_takeNewName_32 (by decide +kernel) ?_
    refine T_icmp_eq (tgt := 45) dX5_takeNewName_33 (by decide) (tq_ite h (fun h => ?_) (fun h => ?_))
    ·
      refine T_aload_n dX5_takeNewName_45 rfl ?_
      refine T_getv (v := (I3 17 13)) dX5_takeNewName_46 fl_RX5_61 shp_17 rfl rfl ?_
      refine T_bipush (v := 32) dX5_takeNewName_49 (by decide +kernel) ?_
      refine T_icmp_ge (tgt := 95) dX5_takeNewName_51 (by decide) (tq_ite h (fun h => ?_) (fun h => ?_))
      ·
        exact S_vret rfl dX5_takeNewName_95 h
      ·
        refine T_aload_n dX5_takeNewName_54 rfl ?_
        refine T_getr dX5_takeNewName_55 fl_RX5_33 shp_17 rfl ?_
        refine T_aload_n dX5_takeNewName_58 rfl ?_
        refine T_getv (v := (I3 17 13)) dX5_takeNewName_59 fl_RX5_61 shp_17 rfl rfl ?_
        refine T_lload dX5_takeNewName_62 rfl ?_
        refine T_lastv (j := (I3 17 13).toNatClampNeg) dX5_takeNewName_64 shp_21 h.1 rfl ?_
        replace h := h.2
        refine T_aload_n dX5_takeNewName_65 rfl ?_
        refine T_getr dX5_takeNewName_66 fl_RX5_37 shp_17 rfl ?_
        refine T_aload_n dX5_takeNewName_69 rfl ?_
        refine T_getv (v := (I3 17 13)) dX5_takeNewName_70 fl_RX5_61 shp_17 rfl rfl ?_
        refine T_iload_n dX5_takeNewName_73 rfl ?_
        refine T_iastv (j := (I3 17 13).toNatClampNeg) dX5_takeNewName_74 shp_22 h.1 rfl ?_
        replace h := h.2
        refine T_aload_n dX5_takeNewName_75 rfl ?_
        refine T_getr dX5_takeNewName_76 fl_RX5_40 shp_17 rfl ?_
        refine T_aload_n dX5_takeNewName_79 rfl ?_
        refine T_getv (v := (I3 17 13)) dX5_takeNewName_80 fl_RX5_61 shp_17 rfl rfl ?_
        refine T_iload_n dX5_takeNewName_83 rfl ?_
        refine T_iastv (j := (I3 17 13).toNatClampNeg) dX5_takeNewName_84 shp_23 h.1 rfl ?_
        replace h := h.2
        refine T_aload_n dX5_takeNewName_85 rfl ?_
        refine T_dup dX5_takeNewName_86 rfl ?_
        refine T_getv (v := (I3 17 13)) dX5_takeNewName_87 fl_RX5_61 shp_17 rfl rfl ?_
        refine T_iconst (v := 1) dX5_takeNewName_90 (by decide +kernel) ?_
        refine T_iadd dX5_takeNewName_91 ?_
        refine T_puti dX5_takeNewName_92 fl_RX5_61 pf_5_13 shp_17 rfl rfl rfl ?_
        exact S_vret rfl dX5_takeNewName_95 h
    ·
      refine T_aload_n dX5_takeNewName_36 rfl ?_
      refine T_iconst (v := 3) dX5_takeNewName_37 (by decide +kernel) ?_
      refine T_iload_n dX5_takeNewName_38 rfl ?_
      refine S_callVV (M' := mX5_failLater) [.int 3, .int (I 20 ((I 17 6).toNatClampNeg))] [] dX5_takeNewName_39 ml_RX5_189 mkX5_failLater rfl shp_17 rfl rfl rfl (Nat.le_of_ble_eq_true rfl) h (fun I4 L4 h => ?_)
      refine T_goto (tgt := 95) dX5_takeNewName_42 (by decide) ?_
      exact S_vret rfl dX5_takeNewName_95 h

theorem dX5_takeToldName_0 : decode cX5_takeToldName 0 = .ok (.aload_n 0, 1) := by decide +kernel
theorem dX5_takeToldName_1 : decode cX5_takeToldName 1 = .ok (.getfield 30, 3) := by decide +kernel
theorem dX5_takeToldName_4 : decode cX5_takeToldName 4 = .ok (.aload_n 0, 1) := by decide +kernel
theorem dX5_takeToldName_5 : decode cX5_takeToldName 5 = .ok (.getfield 52, 3) := by decide +kernel
theorem dX5_takeToldName_8 : decode cX5_takeToldName 8 = .ok (.iaload, 1) := by decide +kernel
theorem dX5_takeToldName_9 : decode cX5_takeToldName 9 = .ok (.istore_n 2, 1) := by decide +kernel
theorem dX5_takeToldName_10 : decode cX5_takeToldName 10 = .ok (.aload_n 0, 1) := by decide +kernel
theorem dX5_takeToldName_11 : decode cX5_takeToldName 11 = .ok (.iconst 2, 1) := by decide +kernel
theorem dX5_takeToldName_12 : decode cX5_takeToldName 12 = .ok (.invokevirtual 111, 3) := by decide +kernel
theorem dX5_takeToldName_15 : decode cX5_takeToldName 15 = .ok (.ifCond .ne 5, 3) := by decide +kernel
theorem dX5_takeToldName_18 : decode cX5_takeToldName 18 = .ok (.iconst (-1), 1) := by decide +kernel
theorem dX5_takeToldName_19 : decode cX5_takeToldName 19 = .ok (.ireturn, 1) := by decide +kernel
theorem dX5_takeToldName_20 : decode cX5_takeToldName 20 = .ok (.aload_n 0, 1) := by decide +kernel
theorem dX5_takeToldName_21 : decode cX5_takeToldName 21 = .ok (.aload_n 0, 1) := by decide +kernel
theorem dX5_takeToldName_22 : decode cX5_takeToldName 22 = .ok (.iload_n 2, 1) := by decide +kernel
theorem dX5_takeToldName_23 : decode cX5_takeToldName 23 = .ok (.invokevirtual 196, 3) := by decide +kernel
theorem dX5_takeToldName_26 : decode cX5_takeToldName 26 = .ok (.invokevirtual 200, 3) := by decide +kernel
theorem dX5_takeToldName_29 : decode cX5_takeToldName 29 = .ok (.istore_n 3, 1) := by decide +kernel
theorem dX5_takeToldName_30 : decode cX5_takeToldName 30 = .ok (.iload_n 3, 1) := by decide +kernel
theorem dX5_takeToldName_31 : decode cX5_takeToldName 31 = .ok (.iconst (-1), 1) := by decide +kernel
theorem dX5_takeToldName_32 : decode cX5_takeToldName 32 = .ok (.if_icmp .eq 13, 3) := by decide +kernel
theorem dX5_takeToldName_35 : decode cX5_takeToldName 35 = .ok (.aload_n 0, 1) := by decide +kernel
theorem dX5_takeToldName_36 : decode cX5_takeToldName 36 = .ok (.getfield 37, 3) := by decide +kernel
theorem dX5_takeToldName_39 : decode cX5_takeToldName 39 = .ok (.iload_n 3, 1) := by decide +kernel
theorem dX5_takeToldName_40 : decode cX5_takeToldName 40 = .ok (.iaload, 1) := by decide +kernel
theorem dX5_takeToldName_41 : decode cX5_takeToldName 41 = .ok (.iload_n 1, 1) := by decide +kernel
theorem dX5_takeToldName_42 : decode cX5_takeToldName 42 = .ok (.if_icmp .eq 11, 3) := by decide +kernel
theorem dX5_takeToldName_45 : decode cX5_takeToldName 45 = .ok (.aload_n 0, 1) := by decide +kernel
theorem dX5_takeToldName_46 : decode cX5_takeToldName 46 = .ok (.iconst 4, 1) := by decide +kernel
theorem dX5_takeToldName_47 : decode cX5_takeToldName 47 = .ok (.iload_n 2, 1) := by decide +kernel
theorem dX5_takeToldName_48 : decode cX5_takeToldName 48 = .ok (.invokevirtual 189, 3) := by decide +kernel
theorem dX5_takeToldName_51 : decode cX5_takeToldName 51 = .ok (.iconst (-1), 1) := by decide +kernel
theorem dX5_takeToldName_52 : decode cX5_takeToldName 52 = .ok (.ireturn, 1) := by decide +kernel
theorem dX5_takeToldName_53 : decode cX5_takeToldName 53 = .ok (.aload_n 0, 1) := by decide +kernel
theorem dX5_takeToldName_54 : decode cX5_takeToldName 54 = .ok (.getfield 40, 3) := by decide +kernel
theorem dX5_takeToldName_57 : decode cX5_takeToldName 57 = .ok (.iload_n 3, 1) := by decide +kernel
theorem dX5_takeToldName_58 : decode cX5_takeToldName 58 = .ok (.iaload, 1) := by decide +kernel
theorem dX5_takeToldName_59 : decode cX5_takeToldName 59 = .ok (.ireturn, 1) := by decide +kernel
set_option maxRecDepth 100000 in
theorem sgX5_takeToldName_0 {d : Nat} {I : st_I} {L : st_L} {F : Int32 → st_I → st_L → Prop} {a1 : Int32} (h : vp_in (I 17 6) 401 ∧ EI d mX5_pass [.ref 17, .int 2] I L (fun r1 I1 L1 => (if r1 = 0 then F (-1) I1 L1 else EL d mX5_keyAt [.ref 17, .int (I 20 ((I 17 6).toNatClampNeg))] I1 L1 (fun r2 I2 L2 => EI d mX5_nameOf [.ref 17, .long r2] I2 L2 (fun r3 I3 L3 => (if r3 = (-1) then EV d mX5_failLater [.ref 17, .int 4, .int (I 20 ((I 17 6).toNatClampNeg))] I3 L3 (fun I4 L4 => F (-1) I4 L4) else vp_in r3 32 ∧ (if (I3 22 (r3.toNatClampNeg)) = a1 then vp_in r3 32 ∧ F (I3 23 (r3.toNatClampNeg)) I3 L3 else EV d mX5_failLater [.ref 17, .int 4, .int (I 20 ((I 17 6).toNatClampNeg))] I3 L3 (fun I5 L5 => F (-1) I5 L5)))))))) : EI (d + 1) mX5_takeToldName [.ref 17, .int a1] I L F := by
  refine Ev_of (ls0 := 2) (by decide +kernel) rfl rfl rfl ?_
  refine T_aload_n dX5_takeToldName_0 rfl ?_
  refine T_getr dX5_takeToldName_1 fl_RX5_30 shp_17 rfl ?_
  refine T_aload_n dX5_takeToldName_4 rfl ?_
  refine T_getv (v := (I 17 6)) dX5_takeToldName_5 fl_RX5_52 shp_17 rfl rfl ?_
  refine T_ialdv (v := (I 20 ((I 17 6).toNatClampNeg))) (j := (I 17 6).toNatClampNeg) dX5_takeToldName_8 shp_20 h.1 rfl rfl ?_
  replace h := h.2
  refine T_istore_n (lv' := [.ref 17, .int a1, .int (I 20 ((I 17 6).toNatClampNeg)), .null]) dX5_takeToldName_9 rfl (by decide) rfl ?_
  refine T_aload_n dX5_takeToldName_10 rfl ?_
  refine T_iconst (v := 2) dX5_takeToldName_11 (by decide +kernel) ?_
  refine S_callVI (M' := mX5_pass) [.int 2] [] dX5_takeToldName_12 ml_RX5_111 mkX5_pass rfl shp_17 rfl rfl rfl (Nat.le_of_ble_eq_true rfl) h (fun r1 I1 L1 h => ?_)
  refine T_if_ne (tgt := 20) dX5_takeToldName_15 (by decide) (tq_ite h (fun h => ?_) (fun h => ?_))
  ·
    refine T_iconst (v := (-1)) dX5_takeToldName_18 (by decide +kernel) ?_
    exact S_iret rfl dX5_takeToldName_19 h
  ·
    refine T_aload_n dX5_takeToldName_20 rfl ?_
    refine T_aload_n dX5_takeToldName_21 rfl ?_
    refine T_iload_n dX5_takeToldName_22 rfl ?_
    refine S_callVL (M' := mX5_keyAt) [.int (I 20 ((I 17 6).toNatClampNeg))] [.ref 17] dX5_takeToldName_23 ml_RX5_196 mkX5_keyAt rfl shp_17 rfl rfl rfl (Nat.le_of_ble_eq_true rfl) h (fun r2 I2 L2 h => ?_)
    refine S_callVI (M' := mX5_nameOf) [.long r2] [] dX5_takeToldName_26 ml_RX5_200 mkX5_nameOf rfl shp_17 rfl rfl rfl (Nat.le_of_ble_eq_true rfl) h (fun r3 I3 L3 h => ?_)
    refine T_istore_n (lv' := [.ref 17, .int a1, .int (I 20 ((I 17 6).toNatClampNeg)), .int r3]) dX5_takeToldName_29 rfl (by decide) rfl ?_
    refine T_iload_n dX5_takeToldName_30 rfl ?_
    refine T_iconst (v := (-1)) dX5_takeToldName_31 (by decide +kernel) ?_
    refine T_icmp_eq (tgt := 45) dX5_takeToldName_32 (by decide) (tq_ite h (fun h => ?_) (fun h => ?_))
    ·
      refine T_aload_n dX5_takeToldName_45 rfl ?_
      refine T_iconst (v := 4) dX5_takeToldName_46 (by decide +kernel) ?_
      refine T_iload_n dX5_takeToldName_47 rfl ?_
      refine S_callVV (M' := mX5_failLater) [.int 4, .int (I 20 ((I 17 6).toNatClampNeg))] [] dX5_takeToldName_48 ml_RX5_189 mkX5_failLater rfl shp_17 rfl rfl rfl (Nat.le_of_ble_eq_true rfl) h (fun I4 L4 h => ?_)
      refine T_iconst (v := (-1)) dX5_takeToldName_51 (by decide +kernel) ?_
      exact S_iret rfl dX5_takeToldName_52 h
    ·
      refine T_aload_n dX5_takeToldName_35 rfl ?_
      refine T_getr dX5_takeToldName_36 fl_RX5_37 shp_17 rfl ?_
      refine T_iload_n dX5_takeToldName_39 rfl ?_
      refine T_ialdv (v := (I3 22 (r3.toNatClampNeg))) (j := r3.toNatClampNeg) dX5_takeToldName_40 shp_22 h.1 rfl rfl ?_
      replace h := h.2
      refine T_iload_n dX5_takeToldName_41 rfl ?_
      refine T_icmp_eq (tgt := 53) dX5_takeToldName_42 (by decide) (tq_ite h (fun h => ?_) (fun h => ?_))
      ·
        refine T_aload_n dX5_takeToldName_53 rfl ?_
        refine T_getr dX5_takeToldName_54 fl_RX5_40 shp_17 rfl ?_
        refine T_iload_n dX5_takeToldName_57 rfl ?_
        refine T_ialdv (v := (I3 23 (r3.toNatClampNeg))) (j := r3.toNatClampNeg) dX5_takeToldName_58 shp_23 h.1 rfl rfl ?_
        replace h := h.2
        exact S_iret rfl dX5_takeToldName_59 h
      ·
        refine T_aload_n dX5_takeToldName_45 rfl ?_
        refine T_iconst (v := 4) dX5_takeToldName_46 (by decide +kernel) ?_
        refine T_iload_n dX5_takeToldName_47 rfl ?_
        refine S_callVV (M' := mX5_failLater) [.int 4, .int (I 20 ((I 17 6).toNatClampNeg))] [] dX5_takeToldName_48 ml_RX5_189 mkX5_failLater rfl shp_17 rfl rfl rfl (Nat.le_of_ble_eq_true rfl) h (fun I5 L5 h => ?_)
        refine T_iconst (v := (-1)) dX5_takeToldName_51 (by decide +kernel) ?_
        exact S_iret rfl dX5_takeToldName_52 h

theorem dX5_takeExpression_0 : decode cX5_takeExpression 0 = .ok (.aload_n 0, 1) := by decide +kernel
theorem dX5_takeExpression_1 : decode cX5_takeExpression 1 = .ok (.iconst 0, 1) := by decide +kernel
theorem dX5_takeExpression_2 : decode cX5_takeExpression 2 = .ok (.putfield 204, 3) := by decide +kernel
theorem dX5_takeExpression_5 : decode cX5_takeExpression 5 = .ok (.aload_n 0, 1) := by decide +kernel
theorem dX5_takeExpression_6 : decode cX5_takeExpression 6 = .ok (.iconst 0, 1) := by decide +kernel
theorem dX5_takeExpression_7 : decode cX5_takeExpression 7 = .ok (.putfield 207, 3) := by decide +kernel
theorem dX5_takeExpression_10 : decode cX5_takeExpression 10 = .ok (.aload_n 0, 1) := by decide +kernel
theorem dX5_takeExpression_11 : decode cX5_takeExpression 11 = .ok (.iconst 1, 1) := by decide +kernel
theorem dX5_takeExpression_12 : decode cX5_takeExpression 12 = .ok (.putfield 210, 3) := by decide +kernel
theorem dX5_takeExpression_15 : decode cX5_takeExpression 15 = .ok (.iconst 1, 1) := by decide +kernel
theorem dX5_takeExpression_16 : decode cX5_takeExpression 16 = .ok (.istore_n 1, 1) := by decide +kernel
theorem dX5_takeExpression_17 : decode cX5_takeExpression 17 = .ok (.iconst 0, 1) := by decide +kernel
theorem dX5_takeExpression_18 : decode cX5_takeExpression 18 = .ok (.istore_n 2, 1) := by decide +kernel
theorem dX5_takeExpression_19 : decode cX5_takeExpression 19 = .ok (.iload_n 2, 1) := by decide +kernel
theorem dX5_takeExpression_20 : decode cX5_takeExpression 20 = .ok (.sipush 400, 3) := by decide +kernel
theorem dX5_takeExpression_23 : decode cX5_takeExpression 23 = .ok (.if_icmp .gt 39, 3) := by decide +kernel
theorem dX5_takeExpression_26 : decode cX5_takeExpression 26 = .ok (.iload_n 1, 1) := by decide +kernel
theorem dX5_takeExpression_27 : decode cX5_takeExpression 27 = .ok (.ifCond .eq 35, 3) := by decide +kernel
theorem dX5_takeExpression_30 : decode cX5_takeExpression 30 = .ok (.aload_n 0, 1) := by decide +kernel
theorem dX5_takeExpression_31 : decode cX5_takeExpression 31 = .ok (.getfield 55, 3) := by decide +kernel
theorem dX5_takeExpression_34 : decode cX5_takeExpression 34 = .ok (.ifCond .ne 28, 3) := by decide +kernel
theorem dX5_takeExpression_37 : decode cX5_takeExpression 37 = .ok (.aload_n 0, 1) := by decide +kernel
theorem dX5_takeExpression_38 : decode cX5_takeExpression 38 = .ok (.getfield 210, 3) := by decide +kernel
theorem dX5_takeExpression_41 : decode cX5_takeExpression 41 = .ok (.ifCond .eq 10, 3) := by decide +kernel
theorem dX5_takeExpression_44 : decode cX5_takeExpression 44 = .ok (.aload_n 0, 1) := by decide +kernel
theorem dX5_takeExpression_45 : decode cX5_takeExpression 45 = .ok (.invokevirtual 214, 3) := by decide +kernel
theorem dX5_takeExpression_48 : decode cX5_takeExpression 48 = .ok (.goto 8, 3) := by decide +kernel
theorem dX5_takeExpression_51 : decode cX5_takeExpression 51 = .ok (.aload_n 0, 1) := by decide +kernel
theorem dX5_takeExpression_52 : decode cX5_takeExpression 52 = .ok (.invokevirtual 217, 3) := by decide +kernel
theorem dX5_takeExpression_55 : decode cX5_takeExpression 55 = .ok (.istore_n 1, 1) := by decide +kernel
theorem dX5_takeExpression_56 : decode cX5_takeExpression 56 = .ok (.iinc 2 1, 3) := by decide +kernel
theorem dX5_takeExpression_59 : decode cX5_takeExpression 59 = .ok (.goto (-40), 3) := by decide +kernel
theorem dX5_takeExpression_62 : decode cX5_takeExpression 62 = .ok (.return_, 1) := by decide +kernel
set_option maxRecDepth 100000 in
theorem sgX5_takeExpression_0 {d : Nat} {I : st_I} {L : st_L} {F : st_I → st_L → Prop}  (h : TV (d + 1) mX5_takeExpression 19 [.ref 17, .int 1, .int 0] [] (u_I (u_I (u_I I 17 15 0) 17 16 0) 17 17 1) L F) : EV (d + 1) mX5_takeExpression [.ref 17] I L F := by
  refine Ev_of (ls0 := 2) (by decide +kernel) rfl rfl rfl ?_
  refine T_aload_n dX5_takeExpression_0 rfl ?_
  refine T_iconst (v := 0) dX5_takeExpression_1 (by decide +kernel) ?_
  refine T_puti dX5_takeExpression_2 fl_RX5_204 pf_5_15 shp_17 rfl rfl rfl ?_
  refine T_aload_n dX5_takeExpression_5 rfl ?_
  refine T_iconst (v := 0) dX5_takeExpression_6 (by decide +kernel) ?_
  refine T_puti dX5_takeExpression_7 fl_RX5_207 pf_5_16 shp_17 rfl rfl rfl ?_
  refine T_aload_n dX5_takeExpression_10 rfl ?_
  refine T_iconst (v := 1) dX5_takeExpression_11 (by decide +kernel) ?_
  refine T_puti dX5_takeExpression_12 fl_RX5_210 pf_5_17 shp_17 rfl (by decide +kernel) (by decide +kernel) ?_
  refine T_iconst (v := 1) dX5_takeExpression_15 (by decide +kernel) ?_
  refine T_istore_n (lv' := [.ref 17, .int 1, .null]) dX5_takeExpression_16 rfl (by decide) rfl ?_
  refine T_iconst (v := 0) dX5_takeExpression_17 (by decide +kernel) ?_
  refine T_istore_n (lv' := [.ref 17, .int 1, .int 0]) dX5_takeExpression_18 rfl (by decide) rfl ?_
  exact h

set_option maxRecDepth 100000 in
theorem sgX5_takeExpression_19 {d : Nat} {I : st_I} {L : st_L} {F : st_I → st_L → Prop} {x1 : Int32} {x2 : Int32} (h : (if 400 < x2 then F I L else (if x1 = 0 then F I L else (if (I 17 7) = 0 then (if (I 17 17) = 0 then EI d mX5_goOn [.ref 17] I L (fun r1 I1 L1 => TV (d + 1) mX5_takeExpression 19 [.ref 17, .int r1, .int (x2 + 1)] [] I1 L1 F) else EV d mX5_startUnit [.ref 17] I L (fun I2 L2 => TV (d + 1) mX5_takeExpression 19 [.ref 17, .int x1, .int (x2 + 1)] [] I2 L2 F)) else F I L)))) : TV (d + 1) mX5_takeExpression 19 [.ref 17, .int x1, .int x2] [] I L F := by
  refine T_iload_n dX5_takeExpression_19 rfl ?_
  refine T_sipush (v := 400) dX5_takeExpression_20 (by decide +kernel) ?_
  refine T_icmp_gt (tgt := 62) dX5_takeExpression_23 (by decide) (tq_ite h (fun h => ?_) (fun h => ?_))
  ·
    exact S_vret rfl dX5_takeExpression_62 h
  ·
    refine T_iload_n dX5_takeExpression_26 rfl ?_
    refine T_if_eq (tgt := 62) dX5_takeExpression_27 (by decide) (tq_ite h (fun h => ?_) (fun h => ?_))
    ·
      exact S_vret rfl dX5_takeExpression_62 h
    ·
      refine T_aload_n dX5_takeExpression_30 rfl ?_
      refine T_getv (v := (I 17 7)) dX5_takeExpression_31 fl_RX5_55 shp_17 rfl rfl ?_
      refine T_if_ne (tgt := 62) dX5_takeExpression_34 (by decide) (tq_ite h (fun h => ?_) (fun h => ?_))
      ·
        refine T_aload_n dX5_takeExpression_37 rfl ?_
        refine T_getv (v := (I 17 17)) dX5_takeExpression_38 fl_RX5_210 shp_17 rfl rfl ?_
        refine T_if_eq (tgt := 51) dX5_takeExpression_41 (by decide) (tq_ite h (fun h => ?_) (fun h => ?_))
        ·
          refine T_aload_n dX5_takeExpression_51 rfl ?_
          refine S_callVI (M' := mX5_goOn) [] [] dX5_takeExpression_52 ml_RX5_217 mkX5_goOn rfl shp_17 rfl rfl rfl (Nat.le_of_ble_eq_true rfl) h (fun r1 I1 L1 h => ?_)
          refine T_istore_n (lv' := [.ref 17, .int r1, .int x2]) dX5_takeExpression_55 rfl (by decide) rfl ?_
          refine T_iinc (lv' := [.ref 17, .int r1, .int (x2 + 1)]) dX5_takeExpression_56 rfl (by decide) rfl ?_
          refine T_goto (tgt := 19) dX5_takeExpression_59 (by decide) ?_
          exact h
        ·
          refine T_aload_n dX5_takeExpression_44 rfl ?_
          refine S_callVV (M' := mX5_startUnit) [] [] dX5_takeExpression_45 ml_RX5_214 mkX5_startUnit rfl shp_17 rfl rfl rfl (Nat.le_of_ble_eq_true rfl) h (fun I2 L2 h => ?_)
          refine T_goto (tgt := 56) dX5_takeExpression_48 (by decide) ?_
          refine T_iinc (lv' := [.ref 17, .int x1, .int (x2 + 1)]) dX5_takeExpression_56 rfl (by decide) rfl ?_
          refine T_goto (tgt := 19) dX5_takeExpression_59 (by decide) ?_
          exact h
      ·
        exact S_vret rfl dX5_takeExpression_62 h

theorem dX5_startUnit_0 : decode cX5_startUnit 0 = .ok (.aload_n 0, 1) := by decide +kernel
theorem dX5_startUnit_1 : decode cX5_startUnit 1 = .ok (.getfield 26, 3) := by decide +kernel
theorem dX5_startUnit_4 : decode cX5_startUnit 4 = .ok (.aload_n 0, 1) := by decide +kernel
theorem dX5_startUnit_5 : decode cX5_startUnit 5 = .ok (.getfield 52, 3) := by decide +kernel
theorem dX5_startUnit_8 : decode cX5_startUnit 8 = .ok (.iaload, 1) := by decide +kernel
theorem dX5_startUnit_9 : decode cX5_startUnit 9 = .ok (.istore_n 1, 1) := by decide +kernel
theorem dX5_startUnit_10 : decode cX5_startUnit 10 = .ok (.iload_n 1, 1) := by decide +kernel
theorem dX5_startUnit_11 : decode cX5_startUnit 11 = .ok (.bipush 40, 2) := by decide +kernel
theorem dX5_startUnit_13 : decode cX5_startUnit 13 = .ok (.if_icmp .eq 9, 3) := by decide +kernel
theorem dX5_startUnit_16 : decode cX5_startUnit 16 = .ok (.iload_n 1, 1) := by decide +kernel
theorem dX5_startUnit_17 : decode cX5_startUnit 17 = .ok (.bipush 91, 2) := by decide +kernel
theorem dX5_startUnit_19 : decode cX5_startUnit 19 = .ok (.if_icmp .ne 32, 3) := by decide +kernel
theorem dX5_startUnit_22 : decode cX5_startUnit 22 = .ok (.aload_n 0, 1) := by decide +kernel
theorem dX5_startUnit_23 : decode cX5_startUnit 23 = .ok (.aload_n 0, 1) := by decide +kernel
theorem dX5_startUnit_24 : decode cX5_startUnit 24 = .ok (.getfield 207, 3) := by decide +kernel
theorem dX5_startUnit_27 : decode cX5_startUnit 27 = .ok (.bipush 6, 2) := by decide +kernel
theorem dX5_startUnit_29 : decode cX5_startUnit 29 = .ok (.invokevirtual 133, 3) := by decide +kernel
theorem dX5_startUnit_32 : decode cX5_startUnit 32 = .ok (.ifCond .eq 18, 3) := by decide +kernel
theorem dX5_startUnit_35 : decode cX5_startUnit 35 = .ok (.aload_n 0, 1) := by decide +kernel
theorem dX5_startUnit_36 : decode cX5_startUnit 36 = .ok (.dup, 1) := by decide +kernel
theorem dX5_startUnit_37 : decode cX5_startUnit 37 = .ok (.getfield 207, 3) := by decide +kernel
theorem dX5_startUnit_40 : decode cX5_startUnit 40 = .ok (.iconst 1, 1) := by decide +kernel
theorem dX5_startUnit_41 : decode cX5_startUnit 41 = .ok (.iadd, 1) := by decide +kernel
theorem dX5_startUnit_42 : decode cX5_startUnit 42 = .ok (.putfield 207, 3) := by decide +kernel
theorem dX5_startUnit_45 : decode cX5_startUnit 45 = .ok (.aload_n 0, 1) := by decide +kernel
theorem dX5_startUnit_46 : decode cX5_startUnit 46 = .ok (.iload_n 1, 1) := by decide +kernel
theorem dX5_startUnit_47 : decode cX5_startUnit 47 = .ok (.invokevirtual 221, 3) := by decide +kernel
theorem dX5_startUnit_50 : decode cX5_startUnit 50 = .ok (.return_, 1) := by decide +kernel
theorem dX5_startUnit_51 : decode cX5_startUnit 51 = .ok (.aload_n 0, 1) := by decide +kernel
theorem dX5_startUnit_52 : decode cX5_startUnit 52 = .ok (.iconst 0, 1) := by decide +kernel
theorem dX5_startUnit_53 : decode cX5_startUnit 53 = .ok (.putfield 210, 3) := by decide +kernel
theorem dX5_startUnit_56 : decode cX5_startUnit 56 = .ok (.iload_n 1, 1) := by decide +kernel
theorem dX5_startUnit_57 : decode cX5_startUnit 57 = .ok (.sipush 128, 3) := by decide +kernel
theorem dX5_startUnit_60 : decode cX5_startUnit 60 = .ok (.if_icmp .lt 25, 3) := by decide +kernel
theorem dX5_startUnit_63 : decode cX5_startUnit 63 = .ok (.iload_n 1, 1) := by decide +kernel
theorem dX5_startUnit_64 : decode cX5_startUnit 64 = .ok (.sipush 140, 3) := by decide +kernel
theorem dX5_startUnit_67 : decode cX5_startUnit 67 = .ok (.if_icmp .ge 18, 3) := by decide +kernel
theorem dX5_startUnit_70 : decode cX5_startUnit 70 = .ok (.aload_n 0, 1) := by decide +kernel
theorem dX5_startUnit_71 : decode cX5_startUnit 71 = .ok (.iload_n 1, 1) := by decide +kernel
theorem dX5_startUnit_72 : decode cX5_startUnit 72 = .ok (.invokevirtual 111, 3) := by decide +kernel
theorem dX5_startUnit_75 : decode cX5_startUnit 75 = .ok (.pop, 1) := by decide +kernel
theorem dX5_startUnit_76 : decode cX5_startUnit 76 = .ok (.aload_n 0, 1) := by decide +kernel
theorem dX5_startUnit_77 : decode cX5_startUnit 77 = .ok (.iload_n 1, 1) := by decide +kernel
theorem dX5_startUnit_78 : decode cX5_startUnit 78 = .ok (.ineg, 1) := by decide +kernel
theorem dX5_startUnit_79 : decode cX5_startUnit 79 = .ok (.invokevirtual 224, 3) := by decide +kernel
theorem dX5_startUnit_82 : decode cX5_startUnit 82 = .ok (.goto 14, 3) := by decide +kernel
theorem dX5_startUnit_85 : decode cX5_startUnit 85 = .ok (.aload_n 0, 1) := by decide +kernel
theorem dX5_startUnit_86 : decode cX5_startUnit 86 = .ok (.aload_n 0, 1) := by decide +kernel
theorem dX5_startUnit_87 : decode cX5_startUnit 87 = .ok (.sipush 9999, 3) := by decide +kernel
theorem dX5_startUnit_90 : decode cX5_startUnit 90 = .ok (.invokevirtual 147, 3) := by decide +kernel
theorem dX5_startUnit_93 : decode cX5_startUnit 93 = .ok (.invokevirtual 224, 3) := by decide +kernel
theorem dX5_startUnit_96 : decode cX5_startUnit 96 = .ok (.return_, 1) := by decide +kernel
set_option maxRecDepth 100000 in
theorem sgX5_startUnit_0 {d : Nat} {I : st_I} {L : st_L} {F : st_I → st_L → Prop}  (h : vp_in (I 17 6) 401 ∧ (if (I 19 ((I 17 6).toNatClampNeg)) = 40 then TV (d + 1) mX5_startUnit 22 [.ref 17, .int (I 19 ((I 17 6).toNatClampNeg))] [] I L F else (if (I 19 ((I 17 6).toNatClampNeg)) = 91 then TV (d + 1) mX5_startUnit 22 [.ref 17, .int (I 19 ((I 17 6).toNatClampNeg))] [] I L F else (if (I 19 ((I 17 6).toNatClampNeg)) < 128 then TV (d + 1) mX5_startUnit 85 [.ref 17, .null] [] (u_I I 17 17 0) L F else (if 140 ≤ (I 19 ((I 17 6).toNatClampNeg)) then TV (d + 1) mX5_startUnit 85 [.ref 17, .null] [] (u_I I 17 17 0) L F else EI d mX5_pass [.ref 17, .int (I 19 ((I 17 6).toNatClampNeg))] (u_I I 17 17 0) L (fun r1 I1 L1 => EV d mX5_write [.ref 17, .int (-(I 19 ((I 17 6).toNatClampNeg)))] I1 L1 (fun I2 L2 => F I2 L2))))))) : EV (d + 1) mX5_startUnit [.ref 17] I L F := by
  refine Ev_of (ls0 := 1) (by decide +kernel) rfl rfl rfl ?_
  refine T_aload_n dX5_startUnit_0 rfl ?_
  refine T_getr dX5_startUnit_1 fl_RX5_26 shp_17 rfl ?_
  refine T_aload_n dX5_startUnit_4 rfl ?_
  refine T_getv (v := (I 17 6)) dX5_startUnit_5 fl_RX5_52 shp_17 rfl rfl ?_
  refine T_ialdv (v := (I 19 ((I 17 6).toNatClampNeg))) (j := (I 17 6).toNatClampNeg) dX5_startUnit_8 shp_19 h.1 rfl rfl ?_
  replace h := h.2
  refine T_istore_n (lv' := [.ref 17, .int (I 19 ((I 17 6).toNatClampNeg))]) dX5_startUnit_9 rfl (by decide) rfl ?_
  refine T_iload_n dX5_startUnit_10 rfl ?_
  refine T_bipush (v := 40) dX5_startUnit_11 (by decide +kernel) ?_
  refine T_icmp_eq (tgt := 22) dX5_startUnit_13 (by decide) (tq_ite h (fun h => ?_) (fun h => ?_))
  ·
    exact h
  ·
    refine T_iload_n dX5_startUnit_16 rfl ?_
    refine T_bipush (v := 91) dX5_startUnit_17 (by decide +kernel) ?_
    refine T_icmp_ne (tgt := 51) dX5_startUnit_19 (by decide) (tq_ite h (fun h => ?_) (fun h => ?_))
    ·
      exact h
    ·
      refine T_aload_n dX5_startUnit_51 rfl ?_
      refine T_iconst (v := 0) dX5_startUnit_52 (by decide +kernel) ?_
      refine T_puti dX5_startUnit_53 fl_RX5_210 pf_5_17 shp_17 rfl (by decide +kernel) (by decide +kernel) ?_
      refine T_iload_n dX5_startUnit_56 rfl ?_
      refine T_sipush (v := 128) dX5_startUnit_57 (by decide +kernel) ?_
      refine T_icmp_lt (tgt := 85) dX5_startUnit_60 (by decide) (tq_ite h (fun h => ?_) (fun h => ?_))
      ·
        exact T_wk (lv' := [.ref 17, .null]) ⟨Or.inr rfl, Or.inl rfl, trivial⟩ h
      ·
        refine T_iload_n dX5_startUnit_63 rfl ?_
        refine T_sipush (v := 140) dX5_startUnit_64 (by decide +kernel) ?_
        refine T_icmp_ge (tgt := 85) dX5_startUnit_67 (by decide) (tq_ite h (fun h => ?_) (fun h => ?_))
        ·
          exact T_wk (lv' := [.ref 17, .null]) ⟨Or.inr rfl, Or.inl rfl, trivial⟩ h
        ·
          refine T_aload_n dX5_startUnit_70 rfl ?_
          refine T_iload_n dX5_startUnit_71 rfl ?_
          refine S_callVI (M' := mX5_pass) [.int (I 19 ((I 17 6).toNatClampNeg))] [] dX5_startUnit_72 ml_RX5_111 mkX5_pass rfl shp_17 rfl rfl rfl (Nat.le_of_ble_eq_true rfl) h (fun r1 I1 L1 h => ?_)
          refine T_pop dX5_startUnit_75 rfl ?_
          refine T_aload_n dX5_startUnit_76 rfl ?_
          refine T_iload_n dX5_startUnit_77 rfl ?_
          refine T_ineg dX5_startUnit_78 ?_
          refine S_callVV (M' := mX5_write) [.int (-(I 19 ((I 17 6).toNatClampNeg)))] [] dX5_startUnit_79 ml_RX5_224 mkX5_write rfl shp_17 rfl rfl rfl (Nat.le_of_ble_eq_true rfl) h (fun I2 L2 h => ?_)
          refine T_goto (tgt := 96) dX5_startUnit_82 (by decide) ?_
          exact S_vret rfl dX5_startUnit_96 h

set_option maxRecDepth 100000 in
theorem sgX5_startUnit_22 {d : Nat} {I : st_I} {L : st_L} {F : st_I → st_L → Prop} {x1 : Int32} (h : EI d mX5_passFirst [.ref 17, .int (I 17 16), .int 6] I L (fun r1 I1 L1 => (if r1 = 0 then F I1 L1 else EV d mX5_hold [.ref 17, .int x1] (u_I I1 17 16 ((I1 17 16) + 1)) L1 (fun I2 L2 => F I2 L2)))) : TV (d + 1) mX5_startUnit 22 [.ref 17, .int x1] [] I L F := by
  refine T_aload_n dX5_startUnit_22 rfl ?_
  refine T_aload_n dX5_startUnit_23 rfl ?_
  refine T_getv (v := (I 17 16)) dX5_startUnit_24 fl_RX5_207 shp_17 rfl rfl ?_
  refine T_bipush (v := 6) dX5_startUnit_27 (by decide +kernel) ?_
  refine S_callVI (M' := mX5_passFirst) [.int (I 17 16), .int 6] [] dX5_startUnit_29 ml_RX5_133 mkX5_passFirst rfl shp_17 rfl rfl rfl (Nat.le_of_ble_eq_true rfl) h (fun r1 I1 L1 h => ?_)
  refine T_if_eq (tgt := 50) dX5_startUnit_32 (by decide) (tq_ite h (fun h => ?_) (fun h => ?_))
  ·
    exact S_vret rfl dX5_startUnit_50 h
  ·
    refine T_aload_n dX5_startUnit_35 rfl ?_
    refine T_dup dX5_startUnit_36 rfl ?_
    refine T_getv (v := (I1 17 16)) dX5_startUnit_37 fl_RX5_207 shp_17 rfl rfl ?_
    refine T_iconst (v := 1) dX5_startUnit_40 (by decide +kernel) ?_
    refine T_iadd dX5_startUnit_41 ?_
    refine T_puti dX5_startUnit_42 fl_RX5_207 pf_5_16 shp_17 rfl rfl rfl ?_
    refine T_aload_n dX5_startUnit_45 rfl ?_
    refine T_iload_n dX5_startUnit_46 rfl ?_
    refine S_callVV (M' := mX5_hold) [.int x1] [] dX5_startUnit_47 ml_RX5_221 mkX5_hold rfl shp_17 rfl rfl rfl (Nat.le_of_ble_eq_true rfl) h (fun I2 L2 h => ?_)
    exact S_vret rfl dX5_startUnit_50 h

set_option maxRecDepth 100000 in
theorem sgX5_startUnit_85 {d : Nat} {I : st_I} {L : st_L} {F : st_I → st_L → Prop}  (h : EI d mX5_takeInt [.ref 17, .int 9999] I L (fun r1 I1 L1 => EV d mX5_write [.ref 17, .int r1] I1 L1 (fun I2 L2 => F I2 L2))) : TV (d + 1) mX5_startUnit 85 [.ref 17, .null] [] I L F := by
  refine T_aload_n dX5_startUnit_85 rfl ?_
  refine T_aload_n dX5_startUnit_86 rfl ?_
  refine T_sipush (v := 9999) dX5_startUnit_87 (by decide +kernel) ?_
  refine S_callVI (M' := mX5_takeInt) [.int 9999] [.ref 17] dX5_startUnit_90 ml_RX5_147 mkX5_takeInt rfl shp_17 rfl rfl rfl (Nat.le_of_ble_eq_true rfl) h (fun r1 I1 L1 h => ?_)
  refine S_callVV (M' := mX5_write) [.int r1] [] dX5_startUnit_93 ml_RX5_224 mkX5_write rfl shp_17 rfl rfl rfl (Nat.le_of_ble_eq_true rfl) h (fun I2 L2 h => ?_)
  exact S_vret rfl dX5_startUnit_96 h

theorem dX5_goOn_0 : decode cX5_goOn 0 = .ok (.aload_n 0, 1) := by decide +kernel
theorem dX5_goOn_1 : decode cX5_goOn 1 = .ok (.getfield 26, 3) := by decide +kernel
theorem dX5_goOn_4 : decode cX5_goOn 4 = .ok (.aload_n 0, 1) := by decide +kernel
theorem dX5_goOn_5 : decode cX5_goOn 5 = .ok (.getfield 52, 3) := by decide +kernel
theorem dX5_goOn_8 : decode cX5_goOn 8 = .ok (.iaload, 1) := by decide +kernel
theorem dX5_goOn_9 : decode cX5_goOn 9 = .ok (.istore_n 1, 1) := by decide +kernel
theorem dX5_goOn_10 : decode cX5_goOn 10 = .ok (.aload_n 0, 1) := by decide +kernel
theorem dX5_goOn_11 : decode cX5_goOn 11 = .ok (.bipush 42, 2) := by decide +kernel
theorem dX5_goOn_13 : decode cX5_goOn 13 = .ok (.bipush 42, 2) := by decide +kernel
theorem dX5_goOn_15 : decode cX5_goOn 15 = .ok (.invokevirtual 227, 3) := by decide +kernel
theorem dX5_goOn_18 : decode cX5_goOn 18 = .ok (.iload_n 1, 1) := by decide +kernel
theorem dX5_goOn_19 : decode cX5_goOn 19 = .ok (.bipush 42, 2) := by decide +kernel
theorem dX5_goOn_21 : decode cX5_goOn 21 = .ok (.if_icmp .ne 9, 3) := by decide +kernel
theorem dX5_goOn_24 : decode cX5_goOn 24 = .ok (.aload_n 0, 1) := by decide +kernel
theorem dX5_goOn_25 : decode cX5_goOn 25 = .ok (.iload_n 1, 1) := by decide +kernel
theorem dX5_goOn_26 : decode cX5_goOn 26 = .ok (.invokevirtual 230, 3) := by decide +kernel
theorem dX5_goOn_29 : decode cX5_goOn 29 = .ok (.ireturn, 1) := by decide +kernel
theorem dX5_goOn_30 : decode cX5_goOn 30 = .ok (.aload_n 0, 1) := by decide +kernel
theorem dX5_goOn_31 : decode cX5_goOn 31 = .ok (.bipush 43, 2) := by decide +kernel
theorem dX5_goOn_33 : decode cX5_goOn 33 = .ok (.bipush 45, 2) := by decide +kernel
theorem dX5_goOn_35 : decode cX5_goOn 35 = .ok (.invokevirtual 227, 3) := by decide +kernel
theorem dX5_goOn_38 : decode cX5_goOn 38 = .ok (.iload_n 1, 1) := by decide +kernel
theorem dX5_goOn_39 : decode cX5_goOn 39 = .ok (.bipush 43, 2) := by decide +kernel
theorem dX5_goOn_41 : decode cX5_goOn 41 = .ok (.if_icmp .eq 9, 3) := by decide +kernel
theorem dX5_goOn_44 : decode cX5_goOn 44 = .ok (.iload_n 1, 1) := by decide +kernel
theorem dX5_goOn_45 : decode cX5_goOn 45 = .ok (.bipush 45, 2) := by decide +kernel
theorem dX5_goOn_47 : decode cX5_goOn 47 = .ok (.if_icmp .ne 9, 3) := by decide +kernel
theorem dX5_goOn_50 : decode cX5_goOn 50 = .ok (.aload_n 0, 1) := by decide +kernel
theorem dX5_goOn_51 : decode cX5_goOn 51 = .ok (.iload_n 1, 1) := by decide +kernel
theorem dX5_goOn_52 : decode cX5_goOn 52 = .ok (.invokevirtual 230, 3) := by decide +kernel
theorem dX5_goOn_55 : decode cX5_goOn 55 = .ok (.ireturn, 1) := by decide +kernel
theorem dX5_goOn_56 : decode cX5_goOn 56 = .ok (.aload_n 0, 1) := by decide +kernel
theorem dX5_goOn_57 : decode cX5_goOn 57 = .ok (.getfield 207, 3) := by decide +kernel
theorem dX5_goOn_60 : decode cX5_goOn 60 = .ok (.ifCond .le 15, 3) := by decide +kernel
theorem dX5_goOn_63 : decode cX5_goOn 63 = .ok (.aload_n 0, 1) := by decide +kernel
theorem dX5_goOn_64 : decode cX5_goOn 64 = .ok (.iload_n 1, 1) := by decide +kernel
theorem dX5_goOn_65 : decode cX5_goOn 65 = .ok (.invokevirtual 233, 3) := by decide +kernel
theorem dX5_goOn_68 : decode cX5_goOn 68 = .ok (.ifCond .eq 7, 3) := by decide +kernel
theorem dX5_goOn_71 : decode cX5_goOn 71 = .ok (.iconst 1, 1) := by decide +kernel
theorem dX5_goOn_72 : decode cX5_goOn 72 = .ok (.goto 4, 3) := by decide +kernel
theorem dX5_goOn_75 : decode cX5_goOn 75 = .ok (.iconst 0, 1) := by decide +kernel
theorem dX5_goOn_76 : decode cX5_goOn 76 = .ok (.ireturn, 1) := by decide +kernel
set_option maxRecDepth 100000 in
theorem sgX5_goOn_0 {d : Nat} {I : st_I} {L : st_L} {F : Int32 → st_I → st_L → Prop}  (h : vp_in (I 17 6) 401 ∧ EV d mX5_settle [.ref 17, .int 42, .int 42] I L (fun I1 L1 => (if (I 19 ((I 17 6).toNatClampNeg)) = 42 then EI d mX5_join [.ref 17, .int (I 19 ((I 17 6).toNatClampNeg))] I1 L1 (fun r2 I2 L2 => (r2 = 0 ∨ r2 = 1) ∧ F r2 I2 L2) else EV d mX5_settle [.ref 17, .int 43, .int 45] I1 L1 (fun I3 L3 => (if (I 19 ((I 17 6).toNatClampNeg)) = 43 then EI d mX5_join [.ref 17, .int (I 19 ((I 17 6).toNatClampNeg))] I3 L3 (fun r4 I4 L4 => (r4 = 0 ∨ r4 = 1) ∧ F r4 I4 L4) else (if (I 19 ((I 17 6).toNatClampNeg)) = 45 then EI d mX5_join [.ref 17, .int (I 19 ((I 17 6).toNatClampNeg))] I3 L3 (fun r5 I5 L5 => (r5 = 0 ∨ r5 = 1) ∧ F r5 I5 L5) else (if (I3 17 16) ≤ 0 then F 0 I3 L3 else EI d mX5_closeOrCompare [.ref 17, .int (I 19 ((I 17 6).toNatClampNeg))] I3 L3 (fun r6 I6 L6 => (if r6 = 0 then F 0 I6 L6 else F 1 I6 L6))))))))) : EI (d + 1) mX5_goOn [.ref 17] I L F := by
  refine Ev_of (ls0 := 1) (by decide +kernel) rfl rfl rfl ?_
  refine T_aload_n dX5_goOn_0 rfl ?_
  refine T_getr dX5_goOn_1 fl_RX5_26 shp_17 rfl ?_
  refine T_aload_n dX5_goOn_4 rfl ?_
  refine T_getv (v := (I 17 6)) dX5_goOn_5 fl_RX5_52 shp_17 rfl rfl ?_
  refine T_ialdv (v := (I 19 ((I 17 6).toNatClampNeg))) (j := (I 17 6).toNatClampNeg) dX5_goOn_8 shp_19 h.1 rfl rfl ?_
  replace h := h.2
  refine T_istore_n (lv' := [.ref 17, .int (I 19 ((I 17 6).toNatClampNeg))]) dX5_goOn_9 rfl (by decide) rfl ?_
  refine T_aload_n dX5_goOn_10 rfl ?_
  refine T_bipush (v := 42) dX5_goOn_11 (by decide +kernel) ?_
  refine T_bipush (v := 42) dX5_goOn_13 (by decide +kernel) ?_
  refine S_callVV (M' := mX5_settle) [.int 42, .int 42] [] dX5_goOn_15 ml_RX5_227 mkX5_settle rfl shp_17 rfl rfl rfl (Nat.le_of_ble_eq_true rfl) h (fun I1 L1 h => ?_)
  refine T_iload_n dX5_goOn_18 rfl ?_
  refine T_bipush (v := 42) dX5_goOn_19 (by decide +kernel) ?_
  refine T_icmp_ne (tgt := 30) dX5_goOn_21 (by decide) (tq_ite h (fun h => ?_) (fun h => ?_))
  ·
    refine T_aload_n dX5_goOn_24 rfl ?_
    refine T_iload_n dX5_goOn_25 rfl ?_
    refine S_callVI (M' := mX5_join) [.int (I 19 ((I 17 6).toNatClampNeg))] [] dX5_goOn_26 ml_RX5_230 mkX5_join rfl shp_17 rfl rfl rfl (Nat.le_of_ble_eq_true rfl) h (fun r2 I2 L2 h => ?_)
    exact S_zret rfl dX5_goOn_29 h.1 h.2
  ·
    refine T_aload_n dX5_goOn_30 rfl ?_
    refine T_bipush (v := 43) dX5_goOn_31 (by decide +kernel) ?_
    refine T_bipush (v := 45) dX5_goOn_33 (by decide +kernel) ?_
    refine S_callVV (M' := mX5_settle) [.int 43, .int 45] [] dX5_goOn_35 ml_RX5_227 mkX5_settle rfl shp_17 rfl rfl rfl (Nat.le_of_ble_eq_true rfl) h (fun I3 L3 h => ?_)
    refine T_iload_n dX5_goOn_38 rfl ?_
    refine T_bipush (v := 43) dX5_goOn_39 (by decide +kernel) ?_
    refine T_icmp_eq (tgt := 50) dX5_goOn_41 (by decide) (tq_ite h (fun h => ?_) (fun h => ?_))
    ·
      refine T_aload_n dX5_goOn_50 rfl ?_
      refine T_iload_n dX5_goOn_51 rfl ?_
      refine S_callVI (M' := mX5_join) [.int (I 19 ((I 17 6).toNatClampNeg))] [] dX5_goOn_52 ml_RX5_230 mkX5_join rfl shp_17 rfl rfl rfl (Nat.le_of_ble_eq_true rfl) h (fun r4 I4 L4 h => ?_)
      exact S_zret rfl dX5_goOn_55 h.1 h.2
    ·
      refine T_iload_n dX5_goOn_44 rfl ?_
      refine T_bipush (v := 45) dX5_goOn_45 (by decide +kernel) ?_
      refine T_icmp_ne (tgt := 56) dX5_goOn_47 (by decide) (tq_ite h (fun h => ?_) (fun h => ?_))
      ·
        refine T_aload_n dX5_goOn_50 rfl ?_
        refine T_iload_n dX5_goOn_51 rfl ?_
        refine S_callVI (M' := mX5_join) [.int (I 19 ((I 17 6).toNatClampNeg))] [] dX5_goOn_52 ml_RX5_230 mkX5_join rfl shp_17 rfl rfl rfl (Nat.le_of_ble_eq_true rfl) h (fun r5 I5 L5 h => ?_)
        exact S_zret rfl dX5_goOn_55 h.1 h.2
      ·
        refine T_aload_n dX5_goOn_56 rfl ?_
        refine T_getv (v := (I3 17 16)) dX5_goOn_57 fl_RX5_207 shp_17 rfl rfl ?_
        refine T_if_le (tgt := 75) dX5_goOn_60 (by decide) (tq_ite h (fun h => ?_) (fun h => ?_))
        ·
          refine T_iconst (v := 0) dX5_goOn_75 (by decide +kernel) ?_
          exact S_zret rfl dX5_goOn_76 (by decide) h
        ·
          refine T_aload_n dX5_goOn_63 rfl ?_
          refine T_iload_n dX5_goOn_64 rfl ?_
          refine S_callVI (M' := mX5_closeOrCompare) [.int (I 19 ((I 17 6).toNatClampNeg))] [] dX5_goOn_65 ml_RX5_233 mkX5_closeOrCompare rfl shp_17 rfl rfl rfl (Nat.le_of_ble_eq_true rfl) h (fun r6 I6 L6 h => ?_)
          refine T_if_eq (tgt := 75) dX5_goOn_68 (by decide) (tq_ite h (fun h => ?_) (fun h => ?_))
          ·
            refine T_iconst (v := 0) dX5_goOn_75 (by decide +kernel) ?_
            exact S_zret rfl dX5_goOn_76 (by decide) h
          ·
            refine T_iconst (v := 1) dX5_goOn_71 (by decide +kernel) ?_
            refine T_goto (tgt := 76) dX5_goOn_72 (by decide) ?_
            exact S_zret rfl dX5_goOn_76 (by decide) h

theorem dX5_join_0 : decode cX5_join 0 = .ok (.aload_n 0, 1) := by decide +kernel
theorem dX5_join_1 : decode cX5_join 1 = .ok (.iconst 1, 1) := by decide +kernel
theorem dX5_join_2 : decode cX5_join 2 = .ok (.putfield 210, 3) := by decide +kernel
theorem dX5_join_5 : decode cX5_join 5 = .ok (.aload_n 0, 1) := by decide +kernel
theorem dX5_join_6 : decode cX5_join 6 = .ok (.iload_n 1, 1) := by decide +kernel
theorem dX5_join_7 : decode cX5_join 7 = .ok (.invokevirtual 221, 3) := by decide +kernel
theorem dX5_join_10 : decode cX5_join 10 = .ok (.aload_n 0, 1) := by decide +kernel
theorem dX5_join_11 : decode cX5_join 11 = .ok (.iload_n 1, 1) := by decide +kernel
theorem dX5_join_12 : decode cX5_join 12 = .ok (.invokevirtual 111, 3) := by decide +kernel
theorem dX5_join_15 : decode cX5_join 15 = .ok (.ireturn, 1) := by decide +kernel
set_option maxRecDepth 100000 in
theorem sgX5_join_0 {d : Nat} {I : st_I} {L : st_L} {F : Int32 → st_I → st_L → Prop} {a1 : Int32} (h : EV d mX5_hold [.ref 17, .int a1] (u_I I 17 17 1) L (fun I1 L1 => EI d mX5_pass [.ref 17, .int a1] I1 L1 (fun r2 I2 L2 => (r2 = 0 ∨ r2 = 1) ∧ F r2 I2 L2))) : EI (d + 1) mX5_join [.ref 17, .int a1] I L F := by
  refine Ev_of (ls0 := 0) (by decide +kernel) rfl rfl rfl ?_
  refine T_aload_n dX5_join_0 rfl ?_
  refine T_iconst (v := 1) dX5_join_1 (by decide +kernel) ?_
  refine T_puti dX5_join_2 fl_RX5_210 pf_5_17 shp_17 rfl (by decide +kernel) (by decide +kernel) ?_
  refine T_aload_n dX5_join_5 rfl ?_
  refine T_iload_n dX5_join_6 rfl ?_
  refine S_callVV (M' := mX5_hold) [.int a1] [] dX5_join_7 ml_RX5_221 mkX5_hold rfl shp_17 rfl rfl rfl (Nat.le_of_ble_eq_true rfl) h (fun I1 L1 h => ?_)
  refine T_aload_n dX5_join_10 rfl ?_
  refine T_iload_n dX5_join_11 rfl ?_
  refine S_callVI (M' := mX5_pass) [.int a1] [] dX5_join_12 ml_RX5_111 mkX5_pass rfl shp_17 rfl rfl rfl (Nat.le_of_ble_eq_true rfl) h (fun r2 I2 L2 h => ?_)
  exact S_zret rfl dX5_join_15 h.1 h.2

theorem dX5_closeOrCompare_0 : decode cX5_closeOrCompare 0 = .ok (.aload_n 0, 1) := by decide +kernel
theorem dX5_closeOrCompare_1 : decode cX5_closeOrCompare 1 = .ok (.getfield 204, 3) := by decide +kernel
theorem dX5_closeOrCompare_4 : decode cX5_closeOrCompare 4 = .ok (.ifCond .ne 5, 3) := by decide +kernel
theorem dX5_closeOrCompare_7 : decode cX5_closeOrCompare 7 = .ok (.iconst 0, 1) := by decide +kernel
theorem dX5_closeOrCompare_8 : decode cX5_closeOrCompare 8 = .ok (.ireturn, 1) := by decide +kernel
theorem dX5_closeOrCompare_9 : decode cX5_closeOrCompare 9 = .ok (.aload_n 0, 1) := by decide +kernel
theorem dX5_closeOrCompare_10 : decode cX5_closeOrCompare 10 = .ok (.getfield 43, 3) := by decide +kernel
theorem dX5_closeOrCompare_13 : decode cX5_closeOrCompare 13 = .ok (.aload_n 0, 1) := by decide +kernel
theorem dX5_closeOrCompare_14 : decode cX5_closeOrCompare 14 = .ok (.getfield 204, 3) := by decide +kernel
theorem dX5_closeOrCompare_17 : decode cX5_closeOrCompare 17 = .ok (.iconst 1, 1) := by decide +kernel
theorem dX5_closeOrCompare_18 : decode cX5_closeOrCompare 18 = .ok (.isub, 1) := by decide +kernel
theorem dX5_closeOrCompare_19 : decode cX5_closeOrCompare 19 = .ok (.iaload, 1) := by decide +kernel
theorem dX5_closeOrCompare_20 : decode cX5_closeOrCompare 20 = .ok (.istore_n 2, 1) := by decide +kernel
theorem dX5_closeOrCompare_21 : decode cX5_closeOrCompare 21 = .ok (.iload_n 2, 1) := by decide +kernel
theorem dX5_closeOrCompare_22 : decode cX5_closeOrCompare 22 = .ok (.bipush 91, 2) := by decide +kernel
theorem dX5_closeOrCompare_24 : decode cX5_closeOrCompare 24 = .ok (.if_icmp .ne 36, 3) := by decide +kernel
theorem dX5_closeOrCompare_27 : decode cX5_closeOrCompare 27 = .ok (.aload_n 0, 1) := by decide +kernel
theorem dX5_closeOrCompare_28 : decode cX5_closeOrCompare 28 = .ok (.getfield 43, 3) := by decide +kernel
theorem dX5_closeOrCompare_31 : decode cX5_closeOrCompare 31 = .ok (.aload_n 0, 1) := by decide +kernel
theorem dX5_closeOrCompare_32 : decode cX5_closeOrCompare 32 = .ok (.getfield 204, 3) := by decide +kernel
theorem dX5_closeOrCompare_35 : decode cX5_closeOrCompare 35 = .ok (.iconst 1, 1) := by decide +kernel
theorem dX5_closeOrCompare_36 : decode cX5_closeOrCompare 36 = .ok (.isub, 1) := by decide +kernel
theorem dX5_closeOrCompare_37 : decode cX5_closeOrCompare 37 = .ok (.iload_n 1, 1) := by decide +kernel
theorem dX5_closeOrCompare_38 : decode cX5_closeOrCompare 38 = .ok (.iastore, 1) := by decide +kernel
theorem dX5_closeOrCompare_39 : decode cX5_closeOrCompare 39 = .ok (.aload_n 0, 1) := by decide +kernel
theorem dX5_closeOrCompare_40 : decode cX5_closeOrCompare 40 = .ok (.iconst 1, 1) := by decide +kernel
theorem dX5_closeOrCompare_41 : decode cX5_closeOrCompare 41 = .ok (.putfield 210, 3) := by decide +kernel
theorem dX5_closeOrCompare_44 : decode cX5_closeOrCompare 44 = .ok (.aload_n 0, 1) := by decide +kernel
theorem dX5_closeOrCompare_45 : decode cX5_closeOrCompare 45 = .ok (.iload_n 1, 1) := by decide +kernel
theorem dX5_closeOrCompare_46 : decode cX5_closeOrCompare 46 = .ok (.iconst 4, 1) := by decide +kernel
theorem dX5_closeOrCompare_47 : decode cX5_closeOrCompare 47 = .ok (.if_icmp .ne 7, 3) := by decide +kernel
theorem dX5_closeOrCompare_50 : decode cX5_closeOrCompare 50 = .ok (.iconst 4, 1) := by decide +kernel
theorem dX5_closeOrCompare_51 : decode cX5_closeOrCompare 51 = .ok (.goto 5, 3) := by decide +kernel
theorem dX5_closeOrCompare_54 : decode cX5_closeOrCompare 54 = .ok (.bipush 60, 2) := by decide +kernel
theorem dX5_closeOrCompare_56 : decode cX5_closeOrCompare 56 = .ok (.invokevirtual 111, 3) := by decide +kernel
theorem dX5_closeOrCompare_59 : decode cX5_closeOrCompare 59 = .ok (.ireturn, 1) := by decide +kernel
theorem dX5_closeOrCompare_60 : decode cX5_closeOrCompare 60 = .ok (.aload_n 0, 1) := by decide +kernel
theorem dX5_closeOrCompare_61 : decode cX5_closeOrCompare 61 = .ok (.iload_n 2, 1) := by decide +kernel
theorem dX5_closeOrCompare_62 : decode cX5_closeOrCompare 62 = .ok (.bipush 40, 2) := by decide +kernel
theorem dX5_closeOrCompare_64 : decode cX5_closeOrCompare 64 = .ok (.if_icmp .ne 8, 3) := by decide +kernel
theorem dX5_closeOrCompare_67 : decode cX5_closeOrCompare 67 = .ok (.bipush 41, 2) := by decide +kernel
theorem dX5_closeOrCompare_69 : decode cX5_closeOrCompare 69 = .ok (.goto 5, 3) := by decide +kernel
theorem dX5_closeOrCompare_72 : decode cX5_closeOrCompare 72 = .ok (.bipush 93, 2) := by decide +kernel
theorem dX5_closeOrCompare_74 : decode cX5_closeOrCompare 74 = .ok (.invokevirtual 111, 3) := by decide +kernel
theorem dX5_closeOrCompare_77 : decode cX5_closeOrCompare 77 = .ok (.ifCond .ne 5, 3) := by decide +kernel
theorem dX5_closeOrCompare_80 : decode cX5_closeOrCompare 80 = .ok (.iconst 0, 1) := by decide +kernel
theorem dX5_closeOrCompare_81 : decode cX5_closeOrCompare 81 = .ok (.ireturn, 1) := by decide +kernel
theorem dX5_closeOrCompare_82 : decode cX5_closeOrCompare 82 = .ok (.iload_n 2, 1) := by decide +kernel
theorem dX5_closeOrCompare_83 : decode cX5_closeOrCompare 83 = .ok (.bipush 40, 2) := by decide +kernel
theorem dX5_closeOrCompare_85 : decode cX5_closeOrCompare 85 = .ok (.if_icmp .eq 9, 3) := by decide +kernel
theorem dX5_closeOrCompare_88 : decode cX5_closeOrCompare 88 = .ok (.aload_n 0, 1) := by decide +kernel
theorem dX5_closeOrCompare_89 : decode cX5_closeOrCompare 89 = .ok (.iload_n 2, 1) := by decide +kernel
theorem dX5_closeOrCompare_90 : decode cX5_closeOrCompare 90 = .ok (.ineg, 1) := by decide +kernel
theorem dX5_closeOrCompare_91 : decode cX5_closeOrCompare 91 = .ok (.invokevirtual 224, 3) := by decide +kernel
theorem dX5_closeOrCompare_94 : decode cX5_closeOrCompare 94 = .ok (.aload_n 0, 1) := by decide +kernel
theorem dX5_closeOrCompare_95 : decode cX5_closeOrCompare 95 = .ok (.dup, 1) := by decide +kernel
theorem dX5_closeOrCompare_96 : decode cX5_closeOrCompare 96 = .ok (.getfield 204, 3) := by decide +kernel
theorem dX5_closeOrCompare_99 : decode cX5_closeOrCompare 99 = .ok (.iconst 1, 1) := by decide +kernel
theorem dX5_closeOrCompare_100 : decode cX5_closeOrCompare 100 = .ok (.isub, 1) := by decide +kernel
theorem dX5_closeOrCompare_101 : decode cX5_closeOrCompare 101 = .ok (.putfield 204, 3) := by decide +kernel
theorem dX5_closeOrCompare_104 : decode cX5_closeOrCompare 104 = .ok (.aload_n 0, 1) := by decide +kernel
theorem dX5_closeOrCompare_105 : decode cX5_closeOrCompare 105 = .ok (.dup, 1) := by decide +kernel
theorem dX5_closeOrCompare_106 : decode cX5_closeOrCompare 106 = .ok (.getfield 207, 3) := by decide +kernel
theorem dX5_closeOrCompare_109 : decode cX5_closeOrCompare 109 = .ok (.iconst 1, 1) := by decide +kernel
theorem dX5_closeOrCompare_110 : decode cX5_closeOrCompare 110 = .ok (.isub, 1) := by decide +kernel
theorem dX5_closeOrCompare_111 : decode cX5_closeOrCompare 111 = .ok (.putfield 207, 3) := by decide +kernel
theorem dX5_closeOrCompare_114 : decode cX5_closeOrCompare 114 = .ok (.iconst 1, 1) := by decide +kernel
theorem dX5_closeOrCompare_115 : decode cX5_closeOrCompare 115 = .ok (.ireturn, 1) := by decide +kernel
set_option maxRecDepth 100000 in
theorem sgX5_closeOrCompare_0 {d : Nat} {I : st_I} {L : st_L} {F : Int32 → st_I → st_L → Prop} {a1 : Int32} (h : (if (I 17 15) = 0 then F 0 I L else vp_in ((I 17 15) - 1) 24 ∧ (if (I 24 (((I 17 15) - 1).toNatClampNeg)) = 91 then vp_in ((I 17 15) - 1) 24 ∧ EI d mX5_pass [.ref 17, .int (if a1 = 4 then (4 : Int32) else 60)] (u_I (u_I I 24 (((I 17 15) - 1).toNatClampNeg) a1) 17 17 1) L (fun r1 I1 L1 => (r1 = 0 ∨ r1 = 1) ∧ F r1 I1 L1) else EI d mX5_pass [.ref 17, .int (if (I 24 (((I 17 15) - 1).toNatClampNeg)) = 40 then (41 : Int32) else 93)] I L (fun r2 I2 L2 => (if r2 = 0 then F 0 I2 L2 else (if (I 24 (((I 17 15) - 1).toNatClampNeg)) = 40 then TI (d + 1) mX5_closeOrCompare 94 [.ref 17, .null, .null] [] I2 L2 F else EV d mX5_write [.ref 17, .int (-(I 24 (((I 17 15) - 1).toNatClampNeg)))] I2 L2 (fun I3 L3 => TI (d + 1) mX5_closeOrCompare 94 [.ref 17, .null, .null] [] I3 L3 F))))))) : EI (d + 1) mX5_closeOrCompare [.ref 17, .int a1] I L F := by
  refine Ev_of (ls0 := 1) (by decide +kernel) rfl rfl rfl ?_
  refine T_aload_n dX5_closeOrCompare_0 rfl ?_
  refine T_getv (v := (I 17 15)) dX5_closeOrCompare_1 fl_RX5_204 shp_17 rfl rfl ?_
  refine T_if_ne (tgt := 9) dX5_closeOrCompare_4 (by decide) (tq_ite h (fun h => ?_) (fun h => ?_))
  ·
    refine T_iconst (v := 0) dX5_closeOrCompare_7 (by decide +kernel) ?_
    exact S_zret rfl dX5_closeOrCompare_8 (by decide) h
  ·
    refine T_aload_n dX5_closeOrCompare_9 rfl ?_
    refine T_getr dX5_closeOrCompare_10 fl_RX5_43 shp_17 rfl ?_
    refine T_aload_n dX5_closeOrCompare_13 rfl ?_
    refine T_getv (v := (I 17 15)) dX5_closeOrCompare_14 fl_RX5_204 shp_17 rfl rfl ?_
    refine T_iconst (v := 1) dX5_closeOrCompare_17 (by decide +kernel) ?_
    refine T_isub dX5_closeOrCompare_18 ?_
    refine T_ialdv (v := (I 24 (((I 17 15) - 1).toNatClampNeg))) (j := ((I 17 15) - 1).toNatClampNeg) dX5_closeOrCompare_19 shp_24 h.1 rfl rfl ?_
    replace h := h.2
    refine T_istore_n (lv' := [.ref 17, .int a1, .int (I 24 (((I 17 15) - 1).toNatClampNeg))]) dX5_closeOrCompare_20 rfl (by decide) rfl ?_
    refine T_iload_n dX5_closeOrCompare_21 rfl ?_
    refine T_bipush (v := 91) dX5_closeOrCompare_22 (by decide +kernel) ?_
    refine T_icmp_ne (tgt := 60) dX5_closeOrCompare_24 (by decide) (tq_ite h (fun h => ?_) (fun h => ?_))
    ·
      refine T_aload_n dX5_closeOrCompare_27 rfl ?_
      refine T_getr dX5_closeOrCompare_28 fl_RX5_43 shp_17 rfl ?_
      refine T_aload_n dX5_closeOrCompare_31 rfl ?_
      refine T_getv (v := (I 17 15)) dX5_closeOrCompare_32 fl_RX5_204 shp_17 rfl rfl ?_
      refine T_iconst (v := 1) dX5_closeOrCompare_35 (by decide +kernel) ?_
      refine T_isub dX5_closeOrCompare_36 ?_
      refine T_iload_n dX5_closeOrCompare_37 rfl ?_
      refine T_iastv (j := ((I 17 15) - 1).toNatClampNeg) dX5_closeOrCompare_38 shp_24 h.1 rfl ?_
      replace h := h.2
      refine T_aload_n dX5_closeOrCompare_39 rfl ?_
      refine T_iconst (v := 1) dX5_closeOrCompare_40 (by decide +kernel) ?_
      refine T_puti dX5_closeOrCompare_41 fl_RX5_210 pf_5_17 shp_17 rfl (by decide +kernel) (by decide +kernel) ?_
      refine T_aload_n dX5_closeOrCompare_44 rfl ?_
      refine T_iload_n dX5_closeOrCompare_45 rfl ?_
      refine T_iconst (v := 4) dX5_closeOrCompare_46 (by decide +kernel) ?_
      refine T_icmp_ne (tgt := 54) dX5_closeOrCompare_47 (by decide) (tq_itv (fun v => T shp (d + 1) mX5_closeOrCompare 56 [.ref 17, .int a1, .int (I 24 (((I 17 15) - 1).toNatClampNeg))] (.int v :: [.ref 17]) (u_I (u_I I 24 (((I 17 15) - 1).toNatClampNeg) a1) 17 17 1) L (kI F)) 4 60 (fun hJ => ?_) (fun hJ => ?_) ?_)
      ·
          refine T_iconst (v := 4) dX5_closeOrCompare_50 (by decide +kernel) ?_
          refine T_goto (tgt := 56) dX5_closeOrCompare_51 (by decide) ?_
          exact hJ
      ·
          refine T_bipush (v := 60) dX5_closeOrCompare_54 (by decide +kernel) ?_
          exact hJ
      refine S_callVI (M' := mX5_pass) [.int (if a1 = 4 then (4 : Int32) else 60)] [] dX5_closeOrCompare_56 ml_RX5_111 mkX5_pass rfl shp_17 rfl rfl rfl (Nat.le_of_ble_eq_true rfl) h (fun r1 I1 L1 h => ?_)
      exact S_zret rfl dX5_closeOrCompare_59 h.1 h.2
    ·
      refine T_aload_n dX5_closeOrCompare_60 rfl ?_
      refine T_iload_n dX5_closeOrCompare_61 rfl ?_
      refine T_bipush (v := 40) dX5_closeOrCompare_62 (by decide +kernel) ?_
      refine T_icmp_ne (tgt := 72) dX5_closeOrCompare_64 (by decide) (tq_itv (fun v => T shp (d + 1) mX5_closeOrCompare 74 [.ref 17, .int a1, .int (I 24 (((I 17 15) - 1).toNatClampNeg))] (.int v :: [.ref 17]) I L (kI F)) 41 93 (fun hJ => ?_) (fun hJ => ?_) ?_)
      ·
          refine T_bipush (v := 41) dX5_closeOrCompare_67 (by decide +kernel) ?_
          refine T_goto (tgt := 74) dX5_closeOrCompare_69 (by decide) ?_
          exact hJ
      ·
          refine T_bipush (v := 93) dX5_closeOrCompare_72 (by decide +kernel) ?_
          exact hJ
      refine S_callVI (M' := mX5_pass) [.int (if (I 24 (((I 17 15) - 1).toNatClampNeg)) = 40 then (41 : Int32) else 93)] [] dX5_closeOrCompare_74 ml_RX5_111 mkX5_pass rfl shp_17 rfl rfl rfl (Nat.le_of_ble_eq_true rfl) h (fun r2 I2 L2 h => ?_)
      refine T_if_ne (tgt := 82) dX5_closeOrCompare_77 (by decide) (tq_ite h (fun h => ?_) (fun h => ?_))
      ·
        refine T_iconst (v := 0) dX5_closeOrCompare_80 (by decide +kernel) ?_
        exact S_zret rfl dX5_closeOrCompare_81 (by decide) h
      ·
        refine T_iload_n dX5_closeOrCompare_82 rfl ?_
        refine T_bipush (v := 40) dX5_closeOrCompare_83 (by decide +kernel) ?_
        refine T_icmp_eq (tgt := 94) dX5_closeOrCompare_85 (by decide) (tq_ite h (fun h => ?_) (fun h => ?_))
        ·
          exact T_wk (lv' := [.ref 17, .null, .null]) ⟨Or.inr rfl, Or.inl rfl, Or.inl rfl, trivial⟩ h
        ·
          refine T_aload_n dX5_closeOrCompare_88 rfl ?_
          refine T_iload_n dX5_closeOrCompare_89 rfl ?_
          refine T_ineg dX5_closeOrCompare_90 ?_
          refine S_callVV (M' := mX5_write) [.int (-(I 24 (((I 17 15) - 1).toNatClampNeg)))] [] dX5_closeOrCompare_91 ml_RX5_224 mkX5_write rfl shp_17 rfl rfl rfl (Nat.le_of_ble_eq_true rfl) h (fun I3 L3 h => ?_)
          exact T_wk (lv' := [.ref 17, .null, .null]) ⟨Or.inr rfl, Or.inl rfl, Or.inl rfl, trivial⟩ h

set_option maxRecDepth 100000 in
theorem sgX5_closeOrCompare_94 {d : Nat} {I : st_I} {L : st_L} {F : Int32 → st_I → st_L → Prop}  (h : F 1 (u_I (u_I I 17 15 ((I 17 15) - 1)) 17 16 ((I 17 16) - 1)) L) : TI (d + 1) mX5_closeOrCompare 94 [.ref 17, .null, .null] [] I L F := by
  refine T_aload_n dX5_closeOrCompare_94 rfl ?_
  refine T_dup dX5_closeOrCompare_95 rfl ?_
  refine T_getv (v := (I 17 15)) dX5_closeOrCompare_96 fl_RX5_204 shp_17 rfl rfl ?_
  refine T_iconst (v := 1) dX5_closeOrCompare_99 (by decide +kernel) ?_
  refine T_isub dX5_closeOrCompare_100 ?_
  refine T_puti dX5_closeOrCompare_101 fl_RX5_204 pf_5_15 shp_17 rfl rfl rfl ?_
  refine T_aload_n dX5_closeOrCompare_104 rfl ?_
  refine T_dup dX5_closeOrCompare_105 rfl ?_
  refine T_getv (v := (I 17 16)) dX5_closeOrCompare_106 fl_RX5_207 shp_17 rfl rfl ?_
  refine T_iconst (v := 1) dX5_closeOrCompare_109 (by decide +kernel) ?_
  refine T_isub dX5_closeOrCompare_110 ?_
  refine T_puti dX5_closeOrCompare_111 fl_RX5_207 pf_5_16 shp_17 rfl rfl rfl ?_
  refine T_iconst (v := 1) dX5_closeOrCompare_114 (by decide +kernel) ?_
  exact S_zret rfl dX5_closeOrCompare_115 (by decide) h

theorem dX5_hold_0 : decode cX5_hold 0 = .ok (.aload_n 0, 1) := by decide +kernel
theorem dX5_hold_1 : decode cX5_hold 1 = .ok (.getfield 204, 3) := by decide +kernel
theorem dX5_hold_4 : decode cX5_hold 4 = .ok (.bipush 24, 2) := by decide +kernel
theorem dX5_hold_6 : decode cX5_hold 6 = .ok (.if_icmp .ge 23, 3) := by decide +kernel
theorem dX5_hold_9 : decode cX5_hold 9 = .ok (.aload_n 0, 1) := by decide +kernel
theorem dX5_hold_10 : decode cX5_hold 10 = .ok (.getfield 43, 3) := by decide +kernel
theorem dX5_hold_13 : decode cX5_hold 13 = .ok (.aload_n 0, 1) := by decide +kernel
theorem dX5_hold_14 : decode cX5_hold 14 = .ok (.getfield 204, 3) := by decide +kernel
theorem dX5_hold_17 : decode cX5_hold 17 = .ok (.iload_n 1, 1) := by decide +kernel
theorem dX5_hold_18 : decode cX5_hold 18 = .ok (.iastore, 1) := by decide +kernel
theorem dX5_hold_19 : decode cX5_hold 19 = .ok (.aload_n 0, 1) := by decide +kernel
theorem dX5_hold_20 : decode cX5_hold 20 = .ok (.dup, 1) := by decide +kernel
theorem dX5_hold_21 : decode cX5_hold 21 = .ok (.getfield 204, 3) := by decide +kernel
theorem dX5_hold_24 : decode cX5_hold 24 = .ok (.iconst 1, 1) := by decide +kernel
theorem dX5_hold_25 : decode cX5_hold 25 = .ok (.iadd, 1) := by decide +kernel
theorem dX5_hold_26 : decode cX5_hold 26 = .ok (.putfield 204, 3) := by decide +kernel
theorem dX5_hold_29 : decode cX5_hold 29 = .ok (.return_, 1) := by decide +kernel
set_option maxRecDepth 100000 in
theorem sgX5_hold_0 {d : Nat} {I : st_I} {L : st_L} {F : st_I → st_L → Prop} {a1 : Int32} (h : (if 24 ≤ (I 17 15) then F I L else vp_in (I 17 15) 24 ∧ F (u_I (u_I I 24 ((I 17 15).toNatClampNeg) a1) 17 15 ((I 17 15) + 1)) L)) : EV d mX5_hold [.ref 17, .int a1] I L F := by
  refine Ev_of (ls0 := 0) (by decide +kernel) rfl rfl rfl ?_
  refine T_aload_n dX5_hold_0 rfl ?_
  refine T_getv (v := (I 17 15)) dX5_hold_1 fl_RX5_204 shp_17 rfl rfl ?_
  refine T_bipush (v := 24) dX5_hold_4 (by decide +kernel) ?_
  refine T_icmp_ge (tgt := 29) dX5_hold_6 (by decide) (tq_ite h (fun h => ?_) (fun h => ?_))
  ·
    exact S_vret rfl dX5_hold_29 h
  ·
    refine T_aload_n dX5_hold_9 rfl ?_
    refine T_getr dX5_hold_10 fl_RX5_43 shp_17 rfl ?_
    refine T_aload_n dX5_hold_13 rfl ?_
    refine T_getv (v := (I 17 15)) dX5_hold_14 fl_RX5_204 shp_17 rfl rfl ?_
    refine T_iload_n dX5_hold_17 rfl ?_
    refine T_iastv (j := (I 17 15).toNatClampNeg) dX5_hold_18 shp_24 h.1 rfl ?_
    replace h := h.2
    refine T_aload_n dX5_hold_19 rfl ?_
    refine T_dup dX5_hold_20 rfl ?_
    refine T_getv (v := (I 17 15)) dX5_hold_21 fl_RX5_204 shp_17 rfl rfl ?_
    refine T_iconst (v := 1) dX5_hold_24 (by decide +kernel) ?_
    refine T_iadd dX5_hold_25 ?_
    refine T_puti dX5_hold_26 fl_RX5_204 pf_5_15 shp_17 rfl rfl rfl ?_
    exact S_vret rfl dX5_hold_29 h

theorem dX5_settle_0 : decode cX5_settle 0 = .ok (.aload_n 0, 1) := by decide +kernel
theorem dX5_settle_1 : decode cX5_settle 1 = .ok (.getfield 204, 3) := by decide +kernel
theorem dX5_settle_4 : decode cX5_settle 4 = .ok (.ifCond .le 60, 3) := by decide +kernel
theorem dX5_settle_7 : decode cX5_settle 7 = .ok (.aload_n 0, 1) := by decide +kernel
theorem dX5_settle_8 : decode cX5_settle 8 = .ok (.getfield 43, 3) := by decide +kernel
theorem dX5_settle_11 : decode cX5_settle 11 = .ok (.aload_n 0, 1) := by decide +kernel
theorem dX5_settle_12 : decode cX5_settle 12 = .ok (.getfield 204, 3) := by decide +kernel
theorem dX5_settle_15 : decode cX5_settle 15 = .ok (.iconst 1, 1) := by decide +kernel
theorem dX5_settle_16 : decode cX5_settle 16 = .ok (.isub, 1) := by decide +kernel
theorem dX5_settle_17 : decode cX5_settle 17 = .ok (.iaload, 1) := by decide +kernel
theorem dX5_settle_18 : decode cX5_settle 18 = .ok (.iload_n 1, 1) := by decide +kernel
theorem dX5_settle_19 : decode cX5_settle 19 = .ok (.if_icmp .eq 18, 3) := by decide +kernel
theorem dX5_settle_22 : decode cX5_settle 22 = .ok (.aload_n 0, 1) := by decide +kernel
theorem dX5_settle_23 : decode cX5_settle 23 = .ok (.getfield 43, 3) := by decide +kernel
theorem dX5_settle_26 : decode cX5_settle 26 = .ok (.aload_n 0, 1) := by decide +kernel
theorem dX5_settle_27 : decode cX5_settle 27 = .ok (.getfield 204, 3) := by decide +kernel
theorem dX5_settle_30 : decode cX5_settle 30 = .ok (.iconst 1, 1) := by decide +kernel
theorem dX5_settle_31 : decode cX5_settle 31 = .ok (.isub, 1) := by decide +kernel
theorem dX5_settle_32 : decode cX5_settle 32 = .ok (.iaload, 1) := by decide +kernel
theorem dX5_settle_33 : decode cX5_settle 33 = .ok (.iload_n 2, 1) := by decide +kernel
theorem dX5_settle_34 : decode cX5_settle 34 = .ok (.if_icmp .ne 30, 3) := by decide +kernel
theorem dX5_settle_37 : decode cX5_settle 37 = .ok (.aload_n 0, 1) := by decide +kernel
theorem dX5_settle_38 : decode cX5_settle 38 = .ok (.dup, 1) := by decide +kernel
theorem dX5_settle_39 : decode cX5_settle 39 = .ok (.getfield 204, 3) := by decide +kernel
theorem dX5_settle_42 : decode cX5_settle 42 = .ok (.iconst 1, 1) := by decide +kernel
theorem dX5_settle_43 : decode cX5_settle 43 = .ok (.isub, 1) := by decide +kernel
theorem dX5_settle_44 : decode cX5_settle 44 = .ok (.putfield 204, 3) := by decide +kernel
theorem dX5_settle_47 : decode cX5_settle 47 = .ok (.aload_n 0, 1) := by decide +kernel
theorem dX5_settle_48 : decode cX5_settle 48 = .ok (.aload_n 0, 1) := by decide +kernel
theorem dX5_settle_49 : decode cX5_settle 49 = .ok (.getfield 43, 3) := by decide +kernel
theorem dX5_settle_52 : decode cX5_settle 52 = .ok (.aload_n 0, 1) := by decide +kernel
theorem dX5_settle_53 : decode cX5_settle 53 = .ok (.getfield 204, 3) := by decide +kernel
theorem dX5_settle_56 : decode cX5_settle 56 = .ok (.iaload, 1) := by decide +kernel
theorem dX5_settle_57 : decode cX5_settle 57 = .ok (.ineg, 1) := by decide +kernel
theorem dX5_settle_58 : decode cX5_settle 58 = .ok (.invokevirtual 224, 3) := by decide +kernel
theorem dX5_settle_61 : decode cX5_settle 61 = .ok (.goto (-61), 3) := by decide +kernel
theorem dX5_settle_64 : decode cX5_settle 64 = .ok (.return_, 1) := by decide +kernel
theorem sgX5_settle_e {d : Nat} {I : st_I} {L : st_L} {F : st_I → st_L → Prop} {a1 : Int32} {a2 : Int32} (h : TV (d + 1) mX5_settle 0 [.ref 17, .int a1, .int a2] [] I L F) : EV (d + 1) mX5_settle [.ref 17, .int a1, .int a2] I L F := by
  refine Ev_of (ls0 := 0) (by decide +kernel) rfl rfl rfl ?_
  exact T_wk (lv' := [.ref 17, .int a1, .int a2]) ⟨Or.inr rfl, Or.inr rfl, Or.inr rfl, trivial⟩ h

set_option maxRecDepth 100000 in
theorem sgX5_settle_0 {d : Nat} {I : st_I} {L : st_L} {F : st_I → st_L → Prop} {x1 : Int32} {x2 : Int32} (h : (if (I 17 15) ≤ 0 then F I L else vp_in ((I 17 15) - 1) 24 ∧ (if (I 24 (((I 17 15) - 1).toNatClampNeg)) = x1 then TV (d + 1) mX5_settle 37 [.ref 17, .int x1, .int x2] [] I L F else vp_in ((I 17 15) - 1) 24 ∧ (if (I 24 (((I 17 15) - 1).toNatClampNeg)) = x2 then TV (d + 1) mX5_settle 37 [.ref 17, .int x1, .int x2] [] I L F else F I L)))) : TV (d + 1) mX5_settle 0 [.ref 17, .int x1, .int x2] [] I L F := by
  refine T_aload_n dX5_settle_0 rfl ?_
  refine T_getv (v := (I 17 15)) dX5_settle_1 fl_RX5_204 shp_17 rfl rfl ?_
  refine T_if_le (tgt := 64) dX5_settle_4 (by decide) (tq_ite h (fun h => ?_) (fun h => ?_))
  ·
    exact S_vret rfl dX5_settle_64 h
  ·
    refine T_aload_n dX5_settle_7 rfl ?_
    refine T_getr dX5_settle_8 fl_RX5_43 shp_17 rfl ?_
    refine T_aload_n dX5_settle_11 rfl ?_
    refine T_getv (v := (I 17 15)) dX5_settle_12 fl_RX5_204 shp_17 rfl rfl ?_
    refine T_iconst (v := 1) dX5_settle_15 (by decide +kernel) ?_
    refine T_isub dX5_settle_16 ?_
    refine T_ialdv (v := (I 24 (((I 17 15) - 1).toNatClampNeg))) (j := ((I 17 15) - 1).toNatClampNeg) dX5_settle_17 shp_24 h.1 rfl rfl ?_
    replace h := h.2
    refine T_iload_n dX5_settle_18 rfl ?_
    refine T_icmp_eq (tgt := 37) dX5_settle_19 (by decide) (tq_ite h (fun h => ?_) (fun h => ?_))
    ·
      exact h
    ·
      refine T_aload_n dX5_settle_22 rfl ?_
      refine T_getr dX5_settle_23 fl_RX5_43 shp_17 rfl ?_
      refine T_aload_n dX5_settle_26 rfl ?_
      refine T_getv (v := (I 17 15)) dX5_settle_27 fl_RX5_204 shp_17 rfl rfl ?_
      refine T_iconst (v := 1) dX5_settle_30 (by decide +kernel) ?_
      refine T_isub dX5_settle_31 ?_
      refine T_ialdv (v := (I 24 (((I 17 15) - 1).toNatClampNeg))) (j := ((I 17 15) - 1).toNatClampNeg) dX5_settle_32 shp_24 h.1 rfl rfl ?_
      replace h := h.2
      refine T_iload_n dX5_settle_33 rfl ?_
      refine T_icmp_ne (tgt := 64) dX5_settle_34 (by decide) (tq_ite h (fun h => ?_) (fun h => ?_))
      ·
        exact h
      ·
        exact S_vret rfl dX5_settle_64 h

set_option maxRecDepth 100000 in
theorem sgX5_settle_37 {d : Nat} {I : st_I} {L : st_L} {F : st_I → st_L → Prop} {x1 : Int32} {x2 : Int32} (h : vp_in ((I 17 15) - 1) 24 ∧ EV d mX5_write [.ref 17, .int (-(I 24 (((I 17 15) - 1).toNatClampNeg)))] (u_I I 17 15 ((I 17 15) - 1)) L (fun I1 L1 => TV (d + 1) mX5_settle 0 [.ref 17, .int x1, .int x2] [] I1 L1 F)) : TV (d + 1) mX5_settle 37 [.ref 17, .int x1, .int x2] [] I L F := by
  refine T_aload_n dX5_settle_37 rfl ?_
  refine T_dup dX5_settle_38 rfl ?_
  refine T_getv (v := (I 17 15)) dX5_settle_39 fl_RX5_204 shp_17 rfl rfl ?_
  refine T_iconst (v := 1) dX5_settle_42 (by decide +kernel) ?_
  refine T_isub dX5_settle_43 ?_
  refine T_puti dX5_settle_44 fl_RX5_204 pf_5_15 shp_17 rfl rfl rfl ?_
  refine T_aload_n dX5_settle_47 rfl ?_
  refine T_aload_n dX5_settle_48 rfl ?_
  refine T_getr dX5_settle_49 fl_RX5_43 shp_17 rfl ?_
  refine T_aload_n dX5_settle_52 rfl ?_
  refine T_getv (v := ((I 17 15) - 1)) dX5_settle_53 fl_RX5_204 shp_17 rfl rfl ?_
  refine T_ialdv (v := (I 24 (((I 17 15) - 1).toNatClampNeg))) (j := ((I 17 15) - 1).toNatClampNeg) dX5_settle_56 shp_24 h.1 rfl rfl ?_
  replace h := h.2
  refine T_ineg dX5_settle_57 ?_
  refine S_callVV (M' := mX5_write) [.int (-(I 24 (((I 17 15) - 1).toNatClampNeg)))] [] dX5_settle_58 ml_RX5_224 mkX5_write rfl shp_17 rfl rfl rfl (Nat.le_of_ble_eq_true rfl) h (fun I1 L1 h => ?_)
  refine T_goto (tgt := 0) dX5_settle_61 (by decide) ?_
  exact h

theorem dX5_write_0 : decode cX5_write 0 = .ok (.aload_n 0, 1) := by decide +kernel
theorem dX5_write_1 : decode cX5_write 1 = .ok (.getfield 64, 3) := by decide +kernel
theorem dX5_write_4 : decode cX5_write 4 = .ok (.sipush 400, 3) := by decide +kernel
theorem dX5_write_7 : decode cX5_write 7 = .ok (.if_icmp .ge 26, 3) := by decide +kernel
theorem dX5_write_10 : decode cX5_write 10 = .ok (.aload_n 0, 1) := by decide +kernel
theorem dX5_write_11 : decode cX5_write 11 = .ok (.getfield 18, 3) := by decide +kernel
theorem dX5_write_14 : decode cX5_write 14 = .ok (.getfield 236, 3) := by decide +kernel
theorem dX5_write_17 : decode cX5_write 17 = .ok (.aload_n 0, 1) := by decide +kernel
theorem dX5_write_18 : decode cX5_write 18 = .ok (.getfield 64, 3) := by decide +kernel
theorem dX5_write_21 : decode cX5_write 21 = .ok (.iload_n 1, 1) := by decide +kernel
theorem dX5_write_22 : decode cX5_write 22 = .ok (.iastore, 1) := by decide +kernel
theorem dX5_write_23 : decode cX5_write 23 = .ok (.aload_n 0, 1) := by decide +kernel
theorem dX5_write_24 : decode cX5_write 24 = .ok (.dup, 1) := by decide +kernel
theorem dX5_write_25 : decode cX5_write 25 = .ok (.getfield 64, 3) := by decide +kernel
theorem dX5_write_28 : decode cX5_write 28 = .ok (.iconst 1, 1) := by decide +kernel
theorem dX5_write_29 : decode cX5_write 29 = .ok (.iadd, 1) := by decide +kernel
theorem dX5_write_30 : decode cX5_write 30 = .ok (.putfield 64, 3) := by decide +kernel
theorem dX5_write_33 : decode cX5_write 33 = .ok (.return_, 1) := by decide +kernel
set_option maxRecDepth 100000 in
theorem sgX5_write_0 {d : Nat} {I : st_I} {L : st_L} {F : st_I → st_L → Prop} {a1 : Int32} (h : (if 400 ≤ (I 17 18) then F I L else vp_in (I 17 18) 400 ∧ F (u_I (u_I I 13 ((I 17 18).toNatClampNeg) a1) 17 18 ((I 17 18) + 1)) L)) : EV d mX5_write [.ref 17, .int a1] I L F := by
  refine Ev_of (ls0 := 0) (by decide +kernel) rfl rfl rfl ?_
  refine T_aload_n dX5_write_0 rfl ?_
  refine T_getv (v := (I 17 18)) dX5_write_1 fl_RX5_64 shp_17 rfl rfl ?_
  refine T_sipush (v := 400) dX5_write_4 (by decide +kernel) ?_
  refine T_icmp_ge (tgt := 33) dX5_write_7 (by decide) (tq_ite h (fun h => ?_) (fun h => ?_))
  ·
    exact S_vret rfl dX5_write_33 h
  ·
    refine T_aload_n dX5_write_10 rfl ?_
    refine T_getr dX5_write_11 fl_RX5_18 shp_17 rfl ?_
    refine T_getr dX5_write_14 fl_RX5_236 shp_9 rfl ?_
    refine T_aload_n dX5_write_17 rfl ?_
    refine T_getv (v := (I 17 18)) dX5_write_18 fl_RX5_64 shp_17 rfl rfl ?_
    refine T_iload_n dX5_write_21 rfl ?_
    refine T_iastv (j := (I 17 18).toNatClampNeg) dX5_write_22 shp_13 h.1 rfl ?_
    replace h := h.2
    refine T_aload_n dX5_write_23 rfl ?_
    refine T_dup dX5_write_24 rfl ?_
    refine T_getv (v := (I 17 18)) dX5_write_25 fl_RX5_64 shp_17 rfl rfl ?_
    refine T_iconst (v := 1) dX5_write_28 (by decide +kernel) ?_
    refine T_iadd dX5_write_29 ?_
    refine T_puti dX5_write_30 fl_RX5_64 pf_5_18 shp_17 rfl rfl rfl ?_
    exact S_vret rfl dX5_write_33 h

