theorem pM_gathers {d lv nf np nb nl npl nF n : Nat} {I : st_I} {L : st_L} {F : st_I → st_L → Prop} (H : iv_told I lv nf np nb nl npl) (HF : iv_facts I nF) (hn : n ≤ nF) (h : ∀ J : st_I, (∀ q, q ≠ 101 → q ≠ 102 → J q = I q) → (∀ j, j < 80 → J 101 j = kB (I 29) (nI np) (nI nf) n n j) → (∀ j, j < 80 → J 102 j = kS (I 29) (nI np) (nI nf) n n j) → F J L) : EV (d + 3) mX12_gathers [.ref 58, .int (nI n)] I L F := by
  have h80 := HF.1
  obtain ⟨hlv, b1, b2, b3, b4, b5, h18, -⟩ := id H.1
  have T0 : ∀ K : st_I, (∀ q, q ≠ 101 → q ≠ 102 → K q = I q) → iv_told K lv nf np nb nl npl := fun K hK => iv_told_congr (fun q hq => hK q (by omega) (by omega)) (by rw [hK 58 (by decide) (by decide)]) H
  have T1 : ∀ K : st_I, (∀ q, q ≠ 101 → q ≠ 102 → K q = I q) → iv_facts K nF := fun K hK => iv_facts_congr (fun q hq => hK q (by omega) (by omega)) (by rw [hK 58 (by decide) (by decide)]) HF
  have two : ∀ (r m : Nat) (J : st_I), m + r = n → (∀ q, q ≠ 101 → q ≠ 102 → J q = I q) → (∀ j, j < 80 → J 101 j = kB (I 29) (nI np) (nI nf) n m j) → (∀ j, j < 80 → J 102 j = kS (I 29) (nI np) (nI nf) n m j) → TV (d + 3) mX12_gathers 30 [.ref 58, .int (nI n), .int (nI m), .null] [] J L F := by
    intro r
    induction r with
    | zero =>
      intro m J hm hJ h1 h2
      obtain rfl : m = n := by omega
      refine sgX12_gathers_30 ?_
      rw [if_pos (nI_le (Nat.le_refl _) (by omega))]
      exact h J hJ h1 h2
    | succ r ih =>
      intro m J hm hJ h1 h2
      have vm : vp_in (nI m) 80 := vp_in_nI (by omega) (by decide)
      refine sgX12_gathers_30 ?_
      rw [if_neg (nI_ge (by omega) (by omega))]
      refine pM_counts (T0 J hJ) (T1 J hJ) hn (by omega) (Or.inl rfl) ?_
      rw [hJ 29 (by decide) (by decide), nI_1]
      cases hb : kc (I 29) (nI np) (nI nf) n m 0
      · rw [if_pos (by decide)]
        refine ih (m + 1) J (by omega) hJ (fun j hj => ?_) (fun j hj => ?_)
        · rw [h1 j hj, kB]; unfold kcb; rw [hb, Bool.false_and, if_neg (by decide)]
        · rw [h2 j hj, kS]; unfold kcs; rw [hb, Bool.false_and, if_neg (by decide)]
      · rw [if_neg (by decide)]
        have hz : I 29 (6 * m) = 0 := by unfold kc at hb; exact of_decide_eq_true (Bool.and_eq_true_iff.mp hb).1
        have hkb : kb (I 29) (nI np) (nI nf) n m = true := by rw [kc_split hz] at hb; exact hb
        obtain ⟨p, f, hp, hf, r1, r2, r3, hpi, c1, c2, hc⟩ := kb_ok HF hn (by omega) b1 b2 hkb
        rcases hc with ⟨z, q98, ⟨v, hv, v1⟩, ⟨sp, hsp, s1, -⟩, hbo, q100⟩ | ⟨z, -⟩
        · obtain ⟨e95, e96, -⟩ := HF.2.2.2 m (by omega)
          have v80 : vp_in (nI (8 * p + f)) 80 := vp_in_nI (by omega) (by decide)
          rw [nI_clamp (by omega), hJ 100 (by decide) (by decide), hJ 96 (by decide) (by decide), hJ 97 (by decide) (by decide), hJ 98 (by decide) (by decide), q98, q100, e96, r1, r3, show (8 : Int32) * nI p + nI f = nI (8 * p + f) from mx 8 p f, nI_clamp (show 8 * p + f < 2 ^ 31 by omega)]
          refine ⟨vm, vm, vm, ?_⟩
          by_cases y : I 29 (6 * m + 5) = 0
          · rw [if_pos y]
            refine ⟨vm, v80, ih (m + 1) _ (by omega) (fun q q1 q2 => by rw [u_I_ne _ _ q1]; exact hJ q q1 q2) (fun j hj => ?_) (fun j hj => ?_)⟩
            · rw [kB]; unfold kcb
              rw [hb, decide_eq_true y, if_pos (show (true && true) = true from rfl), hpi]
              simp only [u_I, upd, if_true]
              rw [h1 j hj]
            · rw [kS]; unfold kcs
              rw [hb, decide_eq_true y, if_neg (by decide), u_I_ne _ _ (by decide)]
              exact h2 j hj
          · rw [if_neg y]
            refine ⟨vm, v80, ih (m + 1) _ (by omega) (fun q q1 q2 => by rw [u_I_ne _ _ q2]; exact hJ q q1 q2) (fun j hj => ?_) (fun j hj => ?_)⟩
            · rw [kB]; unfold kcb
              rw [hb, decide_eq_false y, if_neg (by decide), u_I_ne _ _ (by decide)]
              exact h1 j hj
            · rw [kS]; unfold kcs
              rw [hb, decide_eq_false y, if_pos (show (true && !false) = true from rfl), hpi]
              simp only [u_I, upd, if_true]
              rw [h2 j hj]
        · rw [hz] at z; exact absurd z (by decide)
  have one : ∀ (r m : Nat) (J : st_I), m + r = 80 → (∀ q, q ≠ 101 → q ≠ 102 → J q = I q) → (∀ j, j < m → J 101 j = -1 ∧ J 102 j = -1) → TV (d + 3) mX12_gathers 2 [.ref 58, .int (nI n), .int (nI m), .null] [] J L F := by
    intro r
    induction r with
    | zero =>
      intro m J hm hJ h1
      obtain rfl : m = 80 := by omega
      refine sgX12_gathers_2 ?_
      rw [if_pos (by decide)]
      exact two n 0 J (by omega) hJ (fun j hj => (h1 j hj).1) (fun j hj => (h1 j hj).2)
    | succ r ih =>
      intro m J hm hJ h1
      have vm : vp_in (nI m) 80 := vp_in_nI (by omega) (by decide)
      refine sgX12_gathers_2 ?_
      rw [if_neg (show ¬ (80 : Int32) ≤ nI m from nI_ge (b := 80) (by omega) (by decide)), nI_clamp (by omega), nI_1]
      refine ⟨vm, vm, ih (m + 1) _ (by omega) (fun q q1 q2 => by rw [u_I_ne _ _ q2, u_I_ne _ _ q1]; exact hJ q q1 q2) (fun j hj => ?_)⟩
      by_cases e : j = m
      · subst e; simp [u_I]
      · simp only [u_I, if_true, if_neg e, show (101 : Nat) = 102 ↔ False by decide, if_false]; exact h1 j (by omega)
  exact sgX12_gathers_0 (one 80 0 I (by omega) (fun _ _ _ => rfl) (fun j hj => absurd hj (Nat.not_lt_zero _)))
theorem pM_sumOf {d lv nf np nb nl npl f : Nat} {far : Int32} {I : st_I} {L : st_L} {F : Int32 → st_I → st_L → Prop} (B : Nat → Int32) (H : iv_told I lv nf np nb nl npl) (hB : ∀ j, j < 80 → I 101 j = B j) (hf : f < 8) (h : F (sS B (I 3) far f np) I L) : EI (d + 1) mX12_sumOf [.ref 58, .int (nI f), .int far] I L F := by
  obtain ⟨hlv, b1, b2, b3, b4, b5, h18, c0, c1, c2, c3, c4, m0, m1, -⟩ := id H.1
  have key : ∀ (r p : Nat), p + r = np → TI (d + 1) mX12_sumOf 5 [.ref 58, .int (nI f), .int far, .int (sS B (I 3) far f p), .int (nI p)] [] I L F := by
    intro r
    induction r with
    | zero =>
      intro p hp
      obtain rfl : p = np := by omega
      refine sgX12_sumOf_5 ?_
      rw [h18, nI_clamp (by omega), m1, if_pos (nI_le (Nat.le_refl _) (by omega))]
      exact ⟨vp_in_nI (by omega) (by decide), h⟩
    | succ r ih =>
      intro p hp
      refine sgX12_sumOf_5 ?_
      rw [h18, nI_clamp (by omega), m1, if_neg (nI_ge (by omega) (by omega))]
      refine ⟨vp_in_nI (by omega) (by decide), pM_isPlayer H (by omega) ?_⟩
      have := ih (p + 1) (by omega)
      rw [sS] at this
      rw [nI_1]
      by_cases z : (if I 3 (5 * p) = 0 then (1 : Int32) else 0) = far
      · rw [if_pos z]; rw [if_pos z] at this; exact this
      · rw [if_neg z, show (8 : Int32) * nI p + nI f = nI (8 * p + f) from mx 8 p f, nI_clamp (show 8 * p + f < 2 ^ 31 by omega), hB _ (by omega)]
        rw [if_neg z] at this
        have v80 : vp_in (nI (8 * p + f)) 80 := vp_in_nI (by omega) (by decide)
        refine ⟨v80, ?_⟩
        by_cases y : B (8 * p + f) = -1
        · rw [if_pos y]; rw [if_pos y] at this; exact this
        · rw [if_neg y]; rw [if_neg y] at this; exact ⟨v80, this⟩
  exact sgX12_sumOf_0 (key np 0 (by omega))
theorem pM_manyOf {d lv nf np nb nl npl f : Nat} {far : Int32} {I : st_I} {L : st_L} {F : Int32 → st_I → st_L → Prop} (B : Nat → Int32) (H : iv_told I lv nf np nb nl npl) (hB : ∀ j, j < 80 → I 101 j = B j) (hf : f < 8) (h : F (nI (sM B (I 3) far f np)) I L) : EI (d + 1) mX12_manyOf [.ref 58, .int (nI f), .int far] I L F := by
  obtain ⟨hlv, b1, b2, b3, b4, b5, h18, c0, c1, c2, c3, c4, m0, m1, -⟩ := id H.1
  have key : ∀ (r p : Nat), p + r = np → TI (d + 1) mX12_manyOf 5 [.ref 58, .int (nI f), .int far, .int (nI (sM B (I 3) far f p)), .int (nI p)] [] I L F := by
    intro r
    induction r with
    | zero =>
      intro p hp
      obtain rfl : p = np := by omega
      refine sgX12_manyOf_5 ?_
      rw [h18, nI_clamp (by omega), m1, if_pos (nI_le (Nat.le_refl _) (by omega))]
      exact ⟨vp_in_nI (by omega) (by decide), h⟩
    | succ r ih =>
      intro p hp
      refine sgX12_manyOf_5 ?_
      rw [h18, nI_clamp (by omega), m1, if_neg (nI_ge (by omega) (by omega))]
      refine ⟨vp_in_nI (by omega) (by decide), pM_isPlayer H (by omega) ?_⟩
      have := ih (p + 1) (by omega)
      rw [sM] at this
      rw [nI_1]
      by_cases z : (if I 3 (5 * p) = 0 then (1 : Int32) else 0) = far
      · rw [if_pos z]; rw [if_pos z] at this; exact this
      · rw [if_neg z, show (8 : Int32) * nI p + nI f = nI (8 * p + f) from mx 8 p f, nI_clamp (show 8 * p + f < 2 ^ 31 by omega), hB _ (by omega)]
        rw [if_neg z] at this
        have v80 : vp_in (nI (8 * p + f)) 80 := vp_in_nI (by omega) (by decide)
        refine ⟨v80, ?_⟩
        by_cases y : B (8 * p + f) = -1
        · rw [if_pos y]; rw [if_pos y] at this; exact this
        · rw [if_neg y, nI_1]; rw [if_neg y] at this; exact this
  exact sgX12_manyOf_0 (key np 0 (by omega))
theorem pM_guessed {d lv nf np nb nl npl nF n c : Nat} {I : st_I} {L : st_L} {F : Int32 → st_I → st_L → Prop} (H : iv_told I lv nf np nb nl npl) (HF : iv_facts I nF) (hn : n ≤ nF) (hc5 : c < 5) (h : F (nI (cn (gk (I 29) (nI np) (nI nf) (I 2) n c) n)) I L) : EI (d + 3) mX12_guessed [.ref 58, .int (nI n), .int (nI c)] I L F := by
  have h80 := HF.1
  obtain ⟨hlv, b1, b2, b3, b4, b5, h18, -⟩ := id H.1
  have key : ∀ (r m : Nat), m + r = n → TI (d + 3) mX12_guessed 5 [.ref 58, .int (nI n), .int (nI c), .int (nI (cn (gk (I 29) (nI np) (nI nf) (I 2) n c) m)), .int (nI m), .null, .null] [] I L F := by
    intro r
    induction r with
    | zero =>
      intro m hm
      obtain rfl : m = n := by omega
      refine sgX12_guessed_5 ?_
      rw [if_pos (nI_le (Nat.le_refl _) (by omega))]
      exact h
    | succ r ih =>
      intro m hm
      have vm : vp_in (nI m) 80 := vp_in_nI (by omega) (by decide)
      have st := ih (m + 1) (by omega)
      rw [cn] at st
      refine sgX12_guessed_5 ?_
      rw [if_neg (nI_ge (by omega) (by omega))]
      refine pM_counts H HF hn (by omega) (Or.inr rfl) ?_
      rw [nI_1]
      cases hb : kc (I 29) (nI np) (nI nf) n m 1
      · rw [if_pos (by decide)]
        have : gk (I 29) (nI np) (nI nf) (I 2) n c m = false := by unfold gk; rw [hb, Bool.false_and]
        rw [this, if_neg (by decide), Nat.add_zero] at st
        exact st
      · rw [if_neg (by decide)]
        have hz : I 29 (6 * m) = 1 := by unfold kc at hb; exact of_decide_eq_true (Bool.and_eq_true_iff.mp hb).1
        have hkb : kb (I 29) (nI np) (nI nf) n m = true := by rw [kc_split hz] at hb; exact hb
        obtain ⟨p, f, hp, hf, r1, r2, r3, hpi, c1, c2, hc⟩ := kb_ok HF hn (by omega) b1 b2 hkb
        rcases hc with ⟨z, -⟩ | ⟨z, q98, hbo⟩
        · rw [hz] at z; exact absurd z (by decide)
        rw [nI_clamp (by omega), r3]
        refine ⟨vm, vm, pM_isOldOne H hf ?_⟩
        rw [q98, nI_1]
        have hold := (H.2.1 f hf).1
        have no : gk (I 29) (nI np) (nI nf) (I 2) n c m = false → TI (d + 3) mX12_guessed 5 [.ref 58, .int (nI n), .int (nI c), .int (nI (cn (gk (I 29) (nI np) (nI nf) (I 2) n c) m)), .int (nI (m + 1)), .null, .null] [] I L F := by
          intro e; rw [e, if_neg (by decide), Nat.add_zero] at st; exact st
        have yes : gk (I 29) (nI np) (nI nf) (I 2) n c m = true → TI (d + 3) mX12_guessed 5 [.ref 58, .int (nI n), .int (nI c), .int (nI (cn (gk (I 29) (nI np) (nI nf) (I 2) n c) m + 1)), .int (nI (m + 1)), .null, .null] [] I L F := by
          intro e; rw [e, if_pos rfl] at st; exact st
        unfold gk at no yes
        rw [hb, c2, Bool.true_and] at no yes
        have e72 : ∀ {x : Int32}, c ≠ 0 → c ≠ 1 → (x = if I 29 (6 * m + 3) = 1 then (1 : Int32) else 0) → TI (d + 3) mX12_guessed 72 [.ref 58, .int (nI n), .int (nI c), .int (nI (cn (gk (I 29) (nI np) (nI nf) (I 2) n c) m)), .int (nI m), .int x, .int (I 2 (5 * f))] [] I L F := by
          intro x h0 h1 hx
          rw [if_neg h0, if_neg h1] at no yes
          refine sgX12_guessed_72 ?_
          rw [hx, nI_1, nI_1]
          rcases (show c = 2 ∨ c = 3 ∨ c = 4 by omega) with e | e | e
          · subst e
            rw [if_pos rfl] at no yes
            rw [if_pos (show nI 2 = 2 from rfl)]
            rcases hbo with w | w
            · rw [w, if_neg (show ¬ (0 : Int32) = 1 by decide), if_pos rfl]
              refine sgX12_guessed_82 ?_
              rw [if_neg (show ¬ nI 2 = 3 by decide)]
              refine sgX12_guessed_92 ?_
              rw [if_neg (show ¬ nI 2 = 4 by decide), nI_1]
              exact no (by rw [w]; decide)
            · rw [w, if_pos rfl, if_neg (by decide)]
              exact yes (by rw [w]; decide)
          · subst e
            rw [if_neg (by decide), if_pos rfl] at no yes
            rw [if_neg (show ¬ nI 3 = 2 by decide)]
            refine sgX12_guessed_82 ?_
            rw [if_pos (show nI 3 = 3 from rfl), nI_1, nI_1]
            rcases hold with y | y
            · rw [if_pos y]
              refine sgX12_guessed_92 ?_
              rw [if_neg (show ¬ nI 3 = 4 by decide), nI_1]
              exact no (by rw [y]; decide)
            · rw [if_neg (by rw [y]; decide)]
              exact yes (by rw [y]; decide)
          · subst e
            rw [if_neg (by decide), if_neg (by decide)] at no yes
            rw [if_neg (show ¬ nI 4 = 2 by decide)]
            refine sgX12_guessed_82 ?_
            rw [if_neg (show ¬ nI 4 = 3 by decide)]
            refine sgX12_guessed_92 ?_
            rw [if_pos (show nI 4 = 4 from rfl), nI_1, nI_1]
            rcases hbo with w | w
            · rw [w, if_neg (show ¬ (0 : Int32) = 1 by decide), if_pos rfl]
              exact no (by rw [w]; rfl)
            · rw [w, if_pos (show (1 : Int32) = 1 from rfl), if_neg (show ¬ (1 : Int32) = 0 by decide)]
              rcases hold with y | y
              · rw [if_pos y]; exact no (by rw [w, y]; decide)
              · rw [if_neg (by rw [y]; decide)]; exact yes (by rw [w, y]; decide)
        by_cases h0 : c = 0
        · subst h0
          rw [if_pos rfl] at yes
          rw [if_pos (show nI 0 = 0 from rfl)]
          exact yes rfl
        rw [if_neg (sw_nl c 0 0 (by omega) h0)]
        by_cases h1 : c = 1
        · subst h1
          rw [if_neg (by decide), if_pos rfl] at no yes
          rw [if_pos (show nI 1 = 1 from rfl)]
          have go : (if I 29 (6 * m + 3) = 1 then (1 : Int32) else 0) ≠ I 2 (5 * f) → TI (d + 3) mX12_guessed 72 [.ref 58, .int (nI n), .int (nI 1), .int (nI (cn (gk (I 29) (nI np) (nI nf) (I 2) n 1) m)), .int (nI m), .int (if I 29 (6 * m + 3) = 1 then (1 : Int32) else 0), .int (I 2 (5 * f))] [] I L F := by
            intro hne
            refine sgX12_guessed_72 ?_
            rw [if_neg (show ¬ nI 1 = 2 by decide)]
            refine sgX12_guessed_82 ?_
            rw [if_neg (show ¬ nI 1 = 3 by decide)]
            refine sgX12_guessed_92 ?_
            rw [if_neg (show ¬ nI 1 = 4 by decide), nI_1]
            refine no ?_
            rcases hbo with w | w <;> rcases hold with y | y <;> rw [w, y] at hne ⊢ <;> first | decide | exact absurd rfl hne
          by_cases he : (if I 29 (6 * m + 3) = 1 then (1 : Int32) else 0) = I 2 (5 * f)
          · rw [if_pos he]
            refine yes ?_
            rcases hbo with w | w <;> rcases hold with y | y <;> rw [w, y] at he ⊢ <;> first | decide | exact absurd he (by decide)
          · rw [if_neg he]; exact go he
        rw [if_neg (sw_nl c 1 1 (by omega) h1)]
        exact e72 h0 h1 rfl
  exact sgX12_guessed_0 (key n 0 (by omega))
