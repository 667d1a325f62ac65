/-! the entry: the whole law -/
theorem inv0 : Inv kX12 I0S L0S := by
  refine ⟨rfl, ⟨⟨0, by omega, by decide +kernel, by decide +kernel, fun j h => absurd h (Nat.not_lt_zero j)⟩, fun j => ?_⟩, fun i _ => rfl, by decide +kernel, 0, 0, 0, 0, 0, 0, 0, ⟨by unfold iv_cnt; decide +kernel, fun f h => absurd h (Nat.not_lt_zero f), fun f h => absurd h (Nat.not_lt_zero f), fun f h => absurd h (Nat.not_lt_zero f), fun f h => absurd h (Nat.not_lt_zero f), fun f h => absurd h (Nat.not_lt_zero f)⟩, ⟨by omega, by decide +kernel, by decide +kernel, fun k h => absurd h (Nat.not_lt_zero k)⟩, Or.inl (by decide +kernel), fun n hn => Or.inl ?_⟩
  · show bt 0
    unfold bt; decide +kernel
  · show (if n < 81 then (-1 : Int32) else 0) = -1
    rw [if_pos hn]
theorem key0 : keyW kX12 := by unfold keyW; decide +kernel
theorem gX_inj : ∀ i, i < 114 → ∀ j, j < 114 → gX i = gX j → i = j := by decide +kernel
theorem gX11_calling (A : Nat → Prop) (U : State) (g : JFrame) (mk : MethodId) (a : Array Value) (h : gX11 A U) : gX11 A (U.calling g mk a) := by
  obtain ⟨⟨ad, h0⟩, h1, h2, h3, h4, h5, h6, h7, h8, h9, h10, h11⟩ := h
  exact ⟨⟨ad, tq_str_calling h0⟩, va_Nw.same rfl (u := U) rfl h1, va_Nw.same rfl (u := U) rfl h2, va_Nw.same rfl (u := U) rfl h3, va_Nw.same rfl (u := U) rfl h4, va_Nw.same rfl (u := U) rfl h5, va_Nw.same rfl (u := U) rfl h6, va_Nw.same rfl (u := U) rfl h7, va_Nw.same rfl (u := U) rfl h8, va_Nw.same rfl (u := U) rfl h9, va_Nw.same rfl (u := U) rfl h10, va_Nw.same rfl (u := U) rfl h11⟩
theorem st_nest {args : Array Value} {s U : State} {a : String} {i : Nat} {x : MethodName} {h : String} (hts : ∀ w ∈ lw_tbl, w.before args s = true) (hm : Cond.methodLinkNest a i x h ∈ lw_tbl) (hW : s.WarmedH U.vm) : va_Nw (.methodLinkNest a i x h) U := va_Nw.warmM hW (va_Nw.of rfl (hts _ hm))
set_option maxRecDepth 100000 in
set_option maxHeartbeats 4000000 in
theorem whole_start {p : Program} {e : Env} {s : State} {m : MethodId} {below : List Frame} {meth : Method} {c : Code} (l : Launch) (hflags : l.flags = flags0) {b L : Nat} {xs : Nat → Int32} (hL : L ≤ 4096) (C0 : lw_At p s m meth c b L xs) : W p l e room_1 s m #[Value.ref b] below meth c s.heap [] 0 0 (lw_Z below #[Value.ref b] s) (entryFrame m ([Value.ref b] : List Value).toArray 4) := by
  have hts := C0.2.2.2.2.2.1
  have htq : ∀ w ∈ tq_tbl, w.before #[Value.ref b] s = true := fun w hw => hts w (tq_in hw)
  obtain ⟨D, cy, hK⟩ := st_K htq
  obtain ⟨aK, aV, hstr⟩ := st_str hts C0.2.2.2.2.2.2.2.2.2
  have hstr0 := hstr (fun k => if 1010 ≤ k then aV (k - 1010) else aK (k - 1000)) (fun i hi => by show (if 1010 ≤ 1000 + i then _ else _) = _; rw [if_neg (by omega), show 1000 + i - 1000 = i by omega]) (fun i hi => by show (if 1010 ≤ 1010 + i then _ else _) = _; rw [if_pos (by omega), show 1010 + i - 1010 = i by omega])
  have hl0 := lv_entry ([.ref b]) (n := 4) (Nat.le_of_ble_eq_true rfl)
  rw [lg_entry_eq]
  revert hl0
  generalize (lg_sl [Value.ref b] ++ List.replicate (4 - (lg_sl [Value.ref b]).length) Slot.unset).toArray = ls
  intro hl0
  suffices h : LV p l e s m b below meth c D (lw_Z below #[Value.ref b] s) ls 0 0 0 [] [] from h s.heap [] (fun k x hx => by cases hx) ⟨fun i j x y hx _ _ => (by cases hx), fun k x hx => (by cases hx)⟩ va_S.rf
  refine LV_new (ci2 := 11) tyX11 C0 hK rfl tyX11_ok cl_law_7 ia_RX11 iz_RX11 dfX11 (Nat.le_of_ble_eq_true rfl) (Nat.le_of_ble_eq_true rfl) d_law_0 (fun q1 => ?_)
  refine LV_dup C0 d_law_3 ?_
  refine LV_init (Y := nX11) (rm2 := rX11) C0 hK hl0.1 mkN_11 rfl rfl mkN11 inN11 ml_law_9 gX11_calling (fun A' H locs U nar hS hU hW => ⟨⟨_, tq_str_nar (tq_str_to hstr0 hS hU hW) nar⟩, st_nest hts (ltm1 37 rfl) hW, st_nest hts (ltm1 31 rfl) hW, st_nest hts (ltm1 173 rfl) hW, st_nest hts (ltm1 176 rfl) hW, st_nest hts (ltm1 189 rfl) hW, st_nest hts (ltm1 204 rfl) hW, st_nest hts (ltm2 15 rfl) hW, st_nest hts (ltm2 36 rfl) hW, st_nest hts (ltm2 67 rfl) hW, st_nest hts (ltm2 89 rfl) hW, st_nest hts (ltm2 120 rfl) hW⟩) ⟨Nat.le_of_ble_eq_true rfl, Nat.le_of_ble_eq_true rfl⟩ (Nat.le_of_ble_eq_true rfl) (Nat.le_of_ble_eq_true rfl) (Nat.le_of_ble_eq_true rfl) d_law_4 ?_
  rintro W1 ⟨f1, rfl, rfl⟩
  intro H locs hP hD hS
  refine lv_astore_n (x := f1 0) (lv' := [(1, .ref (f1 0)), (0, .ref b)]) C0.1 C0.2.1 d_law_7 rfl hl0 (by decide) rfl (fun ls1 hl1 => ?_)
  suffices h : LV p l e s m b below meth c D (lw_Z below #[Value.ref b] s) ls1 58 6170 8 (w_D cy f1 sX11 iX11 lX11) [] from h H locs hP hD hS
  clear hP hD hS
  refine LV_new (ci2 := 12) tyX12 C0 hK rfl tyX12_ok cl_law_10 ia_RX12 iz_RX12 dfX12 (Nat.le_of_ble_eq_true rfl) (Nat.le_of_ble_eq_true rfl) d_law_8 (fun q2 => ?_)
  refine LV_dup C0 d_law_11 ?_
  refine LV_init (Y := nX12) (rm2 := rX12) C0 hK hl1.1 mkN_12 rfl rfl mkN12 inN12 ml_law_12 (fun _ _ _ _ _ h => ⟨h.choose, tq_str_calling h.choose_spec⟩) (fun A' H locs U nar hS hU hW => ⟨_, tq_str_nar (tq_str_to hstr0 hS hU hW) nar⟩) ⟨Nat.le_of_ble_eq_true rfl, Nat.le_of_ble_eq_true rfl⟩ (Nat.le_of_ble_eq_true rfl) (Nat.le_of_ble_eq_true rfl) (Nat.le_of_ble_eq_true rfl) d_law_12 ?_
  rintro W2 ⟨f2, rfl, rfl⟩
  intro H locs hP hD hS
  refine lv_astore_n (x := f2 0) (lv' := [(2, .ref (f2 0)), (1, .ref (f1 0)), (0, .ref b)]) C0.1 C0.2.1 d_law_15 rfl hl1 (by decide) rfl (fun ls2 hl2 => ?_)
  refine lv_iconst (v := 0) C0.1 C0.2.1 d_law_16 rfl ?_
  refine lv_istore_n (x := 0) (lv' := [(3, .int 0), (2, .ref (f2 0)), (1, .ref (f1 0)), (0, .ref b)]) C0.1 C0.2.1 d_law_17 rfl hl2 (by decide) rfl (fun ls3 hl3 => ?_)
  have hP' : va_P D tq_cl (w_D cy (adS f1 f2 aK aV) shp I0S L0S) H := hP.by gX (fun k x hx => st_perm k (by
    have h1 := (List.getElem?_eq_some_iff.mp hx).1
    have h2 : (w_D cy (adS f1 f2 aK aV) shp I0S L0S).length = 114 := rfl
    omega) x hx)
  have hlen : (w_D cy (adS f1 f2 aK aV) shp I0S L0S).length = 114 := rfl
  have hD' : va_D (fun q => s.heap.size ≤ q) (w_D cy (adS f1 f2 aK aV) shp I0S L0S) := hD.by gX (fun k x hx => st_perm k (by
    have h1 := (List.getElem?_eq_some_iff.mp hx).1
    omega) x hx) (fun i j hi hj h => gX_inj i (by omega) j (by omega) h)
  have hat : ∀ k, k < 114 → ∃ y, (w_D cy (adS f1 f2 aK aV) shp I0S L0S)[k]? = some (adS f1 f2 aK aV k, y) := fun k hk => by
    have h1 : shp[k]? = some (shp[k]'(by rw [shp_len]; exact hk)) := List.getElem?_eq_getElem _
    exact ⟨_, w_at h1⟩
  have hLC : LC p s m meth c b L xs D cy (adS f1 f2 aK aV) := ⟨C0, hK, fun i j hi hj h => by
    obtain ⟨y, hy⟩ := hat i hi
    obtain ⟨z, hz⟩ := hat j hj
    exact hD'.1 i j _ _ hy hz h, hstr _ (fun i hi => by
      unfold adS
      rw [if_neg (by omega), if_neg (by omega), if_neg (by omega), show 1000 + i - 1000 = i by omega]) (fun i hi => by
      unfold adS
      rw [if_neg (by omega), if_neg (by omega), if_pos (by omega), show 1010 + i - 1010 = i by omega]), fun k hk => by
    obtain ⟨y, hy⟩ := hat k hk
    exact hD'.2 k _ hy⟩
  refine W.widen (k := 600000) (n := 7302250) (Nat.le_of_ble_eq_true rfl) (Nat.le_of_ble_eq_true rfl) ?_
  exact law_loop hL key0 514 0 0 I0S L0S (by omega) (by omega) rfl inv0 p l e s m below meth c b D cy (adS f1 f2 aK aV) H locs ls3 hLC hP' hS (lv_sub hl3 [3, 2, 1, 0] rfl)
