/-! read: the reference's cut as a whole -/
theorem sk_in {B : Nat → Nat} {n f : Nat} (h : f < n) (hb : blB (B f) = true) : skF B n f = skF B n (f + 1) := by
  unfold skF
  rw [show n - f = (n - (f + 1)) + 1 by omega, rnF_s (p := fun j => blB (B j)) hb]; omega
theorem sk_at {B : Nat → Nat} {n f : Nat} (hb : ¬ blB (B f) = true) : skF B n f = f := by
  unfold skF
  rw [rnF_n (p := fun j => blB (B j)) hb]; omega
theorem sg_ne (c : Nat) (h : sgB c = true) : c ≠ 0 ∧ c ≠ 2 ∧ c ≠ 3 :=
  ⟨fun w => by subst w; exact absurd h (by decide), fun w => by subst w; exact absurd h (by decide), fun w => by subst w; exact absurd h (by decide)⟩
theorem pM_cut {d n : Nat} {W : Nat → Int64} {I : st_I} {L : st_L} {F : st_I → st_L → Prop} (H : rx I n) (hW : keyW W) (hL : L 65 = W) (h : ∀ J M, rk I L J M n (seF (bB I) n 401 0) → F J M) : EV (d + 3) mX12_cut [.ref 58] I L F := by
  obtain ⟨h1, h2, h3, h4⟩ := id H
  have hB : ∀ j, bB I j < 256 := fun j => (bt_c (h4 j)).1
  have key : ∀ (s f r k : Nat) (J : st_I) (M : st_L), f + s = n → k + r = 401 → psF (bB I) n k = skF (bB I) n f → rk I L J M n k → seF (bB I) n r k = seF (bB I) n 401 0 → TV (d + 3) mX12_cut 7 [.ref 58, .int (nI f), .null, .null, .null, .null, .null, .null] [] J M F := by
    intro s
    induction s using Nat.strongRecOn with
    | ind s ih =>
    intro f r k J M hf hk hp hJ hs
    obtain ⟨HJ, eB⟩ := hJ.rx H
    have MW : M 65 = W := by rw [hJ.2.2.2.1 65 (by decide)]; exact hL
    refine sgX12_cut_7 ?_
    rw [hJ.2.2.1]
    cases r with
    | zero =>
      rw [if_pos (show (400 : Int32) < nI k from nI_lt (a := 400) (by omega) (by omega))]
      rw [seF] at hs
      exact h J M (by rw [← hs]; exact hJ)
    | succ r =>
      rw [if_neg (show ¬ (400 : Int32) < nI k from nI_nlt (a := 400) (by omega) (by decide))]
      refine m_byteAt HJ (by omega) ?_
      rw [HJ.2.1, eB, nI_1]
      by_cases z : f < n
      · rw [if_pos z, if_pos (nI_lt z (by omega))]
        have e : ∀ a, a < 256 → (nI (bB I f) = nI a ↔ bB I f = a) := fun a ha => nI_eq (by have := hB f; omega) (by omega)
        by_cases hb : blB (bB I f) = true
        · have nx := ih (n - (f + 1)) (by omega) (f + 1) (r + 1) k J M (by omega) hk (by rw [hp, sk_in z hb]) hJ hs
          have hb' := of_decide_eq_true hb
          by_cases z9 : bB I f = 9
          · rw [if_pos (show nI (bB I f) = 9 from (e 9 (by decide)).mpr z9)]; exact nx
          rw [if_neg (show ¬ nI (bB I f) = 9 from fun w => z9 ((e 9 (by decide)).mp w))]
          by_cases z10 : bB I f = 10
          · rw [if_pos (show nI (bB I f) = 10 from (e 10 (by decide)).mpr z10)]; exact nx
          rw [if_neg (show ¬ nI (bB I f) = 10 from fun w => z10 ((e 10 (by decide)).mp w))]
          by_cases z13 : bB I f = 13
          · rw [if_pos (show nI (bB I f) = 13 from (e 13 (by decide)).mpr z13)]; exact nx
          rw [if_neg (show ¬ nI (bB I f) = 13 from fun w => z13 ((e 13 (by decide)).mp w))]
          rw [if_pos (show nI (bB I f) = 32 from (e 32 (by decide)).mpr (by omega))]; exact nx
        · have hb' : ¬ (bB I f = 9 ∨ bB I f = 10 ∨ bB I f = 13 ∨ bB I f = 32) := fun w => hb (decide_eq_true w)
          have pf : psF (bB I) n k = f := by rw [hp, sk_at hb]
          rw [if_neg (show ¬ nI (bB I f) = 9 from fun w => hb' (Or.inl ((e 9 (by decide)).mp w))), if_neg (show ¬ nI (bB I f) = 10 from fun w => hb' (Or.inr (Or.inl ((e 10 (by decide)).mp w)))), if_neg (show ¬ nI (bB I f) = 13 from fun w => hb' (Or.inr (Or.inr (Or.inl ((e 13 (by decide)).mp w))))), if_neg (show ¬ nI (bB I f) = 32 from fun w => hb' (Or.inr (Or.inr (Or.inr ((e 32 (by decide)).mp w)))))]
          obtain ⟨t1, t2, t3⟩ := teF_le (B := bB I) (n := n) (i := f) (by omega)
          have t4 := t3 z
          have ek : knF (bB I) n k = kdF (bB I) n f (teF (bB I) n f) := by unfold knF; rw [pf]
          have nz : ¬ knF (bB I) n k = 0 := by
            rw [ek]
            unfold kdF
            rw [if_neg (by omega)]
            have q1 := wd_nz (bB I) f (teF (bB I) n f) 22 0
            repeat' split
            all_goals first | omega | exact (sg_ne _ (by assumption)).1
          have go : ∀ J' M', rk I L J' M' n (k + 1) → TV (d + 3) mX12_cut 7 [.ref 58, .int (nI (teF (bB I) n f)), .null, .null, .null, .null, .null, .null] [] J' M' F := by
            intro J' M' hJ'
            rw [seF, if_neg nz] at hs
            exact ih (n - teF (bB I) n f) (by omega) (teF (bB I) n f) r (k + 1) J' M' (by omega) (by omega) (by rw [psF, pf]) hJ' hs
          refine m_isLetter (hB f) ?_
          by_cases y : lcB (bB I f) = true
          · rw [b01_1 y, if_neg (by decide)]
            obtain ⟨te, hpos⟩ := te_let z y
            refine m_letters HJ hW MW z (by rw [eB]; exact y) (fun v hv => ?_)
            rw [eB] at hv ⊢
            refine sgX12_cut_179 ?_
            rw [nI_add, ← te, ← ek]
            rw [← ek] at hv
            have kn3 : knF (bB I) n k ≠ 3 := by
              rw [ek]; unfold kdF
              rw [if_neg (by omega), if_pos y]
              split
              · have := wd_n3 (bB I) f (teF (bB I) n f) 22 0; omega
              · decide
            have q := rk_token (d := d + 2) (F := fun I3 L3 => TV (d + 3) mX12_cut 7 [.ref 58, .int (nI (teF (bB I) n f)), .null, .null, .null, .null, .null, .null] [] I3 L3 F) (a := nI (kmF (knF (bB I) n k))) (c := 0) (v := v) hJ (by omega) rfl (fun w => absurd w kn3) (by rw [pf]; exact hv) go
            rw [pf] at q
            exact q
          · rw [b01_0 y, if_pos rfl]
            refine m_isDigit (hB f) ?_
            by_cases x : dgB (bB I f) = true
            · rw [b01_1 x, if_neg (by decide)]
              refine m_digits (k := k) HJ z (by rw [eB]; exact y) (by rw [eB]; exact x) (fun v hv hn2 => ?_)
              rw [eB] at hv hn2 ⊢
              rw [← ek] at hv hn2 ⊢
              have q := rk_token (d := d + 2) (F := fun I3 L3 => TV (d + 3) mX12_cut 7 [.ref 58, .int (nI (teF (bB I) n f)), .null, .null, .null, .null, .null, .null] [] I3 L3 F) (a := nI (kmF (knF (bB I) n k))) (c := v) (v := 0) hJ (by omega) rfl (by rw [pf]; exact hv) (fun w => absurd w hn2) go
              rw [pf] at q
              exact q
            · rw [b01_0 x, if_pos rfl]
              refine m_byteAt HJ (by omega) ?_
              rw [eB]
              have te := te_sig z y x
              have kd : knF (bB I) n k = if teF (bB I) n f - f = 2 then 4 else if sgB (bB I f) then bB I f else 1 := by
                rw [ek]; unfold kdF
                rw [if_neg (by omega), if_neg y, if_neg x]
              have e61 : nI (bB I f) = 61 ↔ bB I f = 61 := e 61 (by decide)
              have c61 : nI (if f + 1 < n then bB I (f + 1) else 0) = 61 ↔ (f + 1 < n ∧ bB I (f + 1) = 61) := by
                by_cases w : f + 1 < n
                · rw [if_pos w]
                  have := nI_eq (a := bB I (f + 1)) (b := 61) (by have := hB (f + 1); omega) (by decide)
                  exact ⟨fun q => ⟨w, this.mp q⟩, fun q => this.mpr q.2⟩
                · rw [if_neg w]
                  exact ⟨fun q => absurd q (by decide), fun q => absurd q.1 w⟩
              have two : ∀ (t : Int32), (t = if nI (bB I f) = 61 then (if nI (if f + 1 < n then bB I (f + 1) else 0) = 61 then (1 : Int32) else 0) else 0) → sgR (nI (bB I f)) t = nI (kmF (knF (bB I) n k)) ∧ nI f + (if t = 0 then (1 : Int32) else 2) = nI (teF (bB I) n f) := by
                intro t ht
                by_cases w : bB I f = 61 ∧ f + 1 < n ∧ bB I (f + 1) = 61
                · rw [if_pos (e61.mpr w.1), if_pos (c61.mpr w.2)] at ht
                  rw [if_pos w] at te
                  rw [if_pos (by omega)] at kd
                  rw [ht, kd, te, if_neg (by decide), show nI f + 2 = nI (f + 2) from nI_add f 2, e61.mpr w.1]
                  exact ⟨sgR_two, rfl⟩
                · have t0 : t = 0 := by
                    rw [ht]
                    by_cases w1 : bB I f = 61
                    · rw [if_pos (e61.mpr w1), if_neg (fun q => w ⟨w1, c61.mp q⟩)]
                    · rw [if_neg (fun q => w1 (e61.mp q))]
                  rw [if_neg w] at te
                  rw [if_neg (by omega)] at kd
                  rw [t0, kd, te, if_pos rfl, nI_1]
                  exact ⟨sgR_ok _ (hB f) y x, rfl⟩
              have ⟨u1, u2⟩ := two _ rfl
              refine m_sign ?_
              rw [u1, u2]
              have n3 : knF (bB I) n k ≠ 3 ∧ knF (bB I) n k ≠ 2 := by
                rw [kd]
                constructor
                · repeat' split
                  all_goals first | omega | exact (sg_ne _ (by assumption)).2.2
                · repeat' split
                  all_goals first | omega | exact (sg_ne _ (by assumption)).2.1
              have q := rk_token (d := d + 1) (F := fun I3 L3 => TV (d + 3) mX12_cut 7 [.ref 58, .int (nI (teF (bB I) n f)), .null, .null, .null, .null, .null, .null] [] I3 L3 F) (a := nI (kmF (knF (bB I) n k))) (c := 0) (v := 0) hJ (by omega) rfl (fun w => absurd w n3.1) (fun w => absurd w n3.2) go
              rw [pf] at q
              exact q
      · have fn : f = n := by omega
        subst fn
        have sk : skF (bB I) f f = f := by unfold skF; rw [Nat.sub_self]; rfl
        rw [if_neg (nI_nlt (Nat.le_refl _) (by omega))]
        have k0 : knF (bB I) f k = 0 := by unfold knF kdF; rw [hp, sk, if_pos (Nat.le_refl _)]
        have q := rk_token (d := d + 2) (F := fun I6 L6 => F I6 L6) (a := nI (kmF (knF (bB I) f k))) (c := 0) (v := 0) hJ (by omega) rfl (fun w => by rw [k0] at w; omega) (fun w => by rw [k0] at w; omega) (fun J' M' hJ' => by
          rw [seF, if_pos k0] at hs
          exact h J' M' (by rw [← hs]; exact hJ'))
        rw [hp, sk, k0] at q
        exact q
  refine sgX12_cut_0 (key n 0 401 0 _ L (by omega) rfl rfl ⟨fun q a b c e => by rw [u_I_ne _ _ a], fun j hj => by simp [u_I, hj], by simp [u_I]; rfl, fun _ _ => rfl, fun i hi => by omega⟩ rfl)
