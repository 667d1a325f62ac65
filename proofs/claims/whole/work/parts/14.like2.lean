theorem iv_code_ok {x k v : Int32} (h : iv_code x k v) : cd_ok x := by
  rcases h with ⟨-, -, n, h1, h2⟩ | ⟨-, n, h1, -, h2⟩ | ⟨-, h⟩ | ⟨-, h⟩ | ⟨-, h⟩ | ⟨-, h⟩ | ⟨-, h⟩
  · exact Or.inl ⟨n, h1, h2⟩
  · exact Or.inr (Or.inl ⟨n, h1, h2⟩)
  · exact Or.inr (Or.inr (Or.inl h))
  · exact Or.inr (Or.inr (Or.inr (Or.inl h)))
  · exact Or.inr (Or.inr (Or.inr (Or.inr (Or.inl h))))
  · exact Or.inr (Or.inr (Or.inr (Or.inr (Or.inr (Or.inl h)))))
  · exact Or.inr (Or.inr (Or.inr (Or.inr (Or.inr (Or.inr h)))))
/-- LIKING by LAW w with the VARs v -/
def LK (I : st_I) (w : Nat) (v : Nat → Int32) : Int32 := lq (I 5) v (lw_a I w) ((I 6 w).toNatClampNeg - lw_a I w) 0
theorem LK_eq {I : st_I} {w a n : Nat} {v : Nat → Int32} (h1 : I 6 w = nI (a + n)) (h2 : lw_a I w = a) (h3 : a + n ≤ 400) : LK I w v = lq (I 5) v a n 0 := by
  rw [LK, h1, h2, nI_clamp (by omega), Nat.add_sub_cancel_left]
theorem pX_like {d lv nf np nb nl npl w : Nat} {I : st_I} {L : st_L} {F : Int32 → st_I → st_L → Prop} (H : iv_told I lv nf np nb nl npl) (hw : w < nl) (h : ∀ g, F (LK I w (I 26)) (r_I I 27 g) L) : EI (d + 2) mX7_like [.ref 25, .ref 1, .int (nI w)] I L F := by
  obtain ⟨a, b, n, e1, e2, e3, e4, e5, e6, e7, e8⟩ := H.2.2.2.2.1 w hw
  refine sgX7_like_0 (x_lawEnd H hw ?_)
  rw [u_r I 27 0]
  have HJ : iv_told (r_I I 27 (upd (I 27) 0 0)) lv nf np nb nl npl := iv_told_congr (fun p hp => r_ne _ (by omega)) (by rw [r_ne _ (by decide)]) H
  have ea : lw_a (r_I I 27 (upd (I 27) 0 0)) w = a := by rw [lw_a, r_ne _ (by decide), ← lw_a, e2]
  refine x_lawStart HJ hw (by omega) ?_
  rw [ea, e1]
  exact pX_likeLoop (d := d + 1) (I := I) (L := L) (F := F) e3 e7 (fun j hj => iv_code_ok (e8 j hj)) (fun g => by rw [← LK_eq e1 e2 e3]; exact h g) n 0 0 (upd (I 27) 0 0) (by omega) rfl (fun i hi => absurd hi (Nat.not_lt_zero _))
theorem pM_valLoop {d a b n lv w : Nat} {I : st_I} {L : st_L} {F : Int32 → st_I → st_L → Prop} (hw : w < 6) (hlv : lv ≤ 1) (h18 : I 58 18 = nI lv) (han : a + n ≤ 400) (hbn : b + n ≤ 840) (h81 : I 81 (6 * lv + w) = nI (b + n)) (hn : rp_dep (I 5) a n = some 1) (hc : ∀ j, j < n → iv_code (I 5 (a + j)) (I 89 (b + j)) (I 90 (b + j))) (h : ∀ g, F (lq (I 5) (I 92) a n 0) (r_I I 93 g) L) :
    ∀ (r j t : Nat) (g : Nat → Int32), j + r = n → rp_dep (I 5) a j = some t → (∀ i, i < t → g i = lq (I 5) (I 92) a j i) → TI d mX12_valueOf 17 [.ref 58, .int (nI w), .int (nI t), .int (nI (b + j)), .null, .null, .null] [] (r_I I 93 g) L F := by
  have r58 : ∀ g, r_I I 93 g 58 = I 58 := fun g => r_ne g (by decide)
  have r81 : ∀ g, r_I I 93 g 81 = I 81 := fun g => r_ne g (by decide)
  have r89 : ∀ g, r_I I 93 g 89 = I 89 := fun g => r_ne g (by decide)
  have r90 : ∀ g, r_I I 93 g 90 = I 90 := fun g => r_ne g (by decide)
  have r92 : ∀ g, r_I I 93 g 92 = I 92 := fun g => r_ne g (by decide)
  have eidx : 6 * nI lv + nI w = nI (6 * lv + w) := by rw [show (6 : Int32) = nI 6 from rfl, pk_mul, nI_add]
  intro r
  induction r with
  | zero =>
    intro j t g hj ht hg
    obtain rfl : j = n := by omega
    refine sgX12_valueOf_17 ?_
    rw [r58, h18, eidx, nI_clamp (by omega), r81, h81, if_pos (nI_le (Nat.le_refl _) (by omega)), r_at]
    refine ⟨vp_in_nI (by omega) (by decide), ?_⟩
    rw [hn] at ht
    rw [hg 0 (by have := Option.some.inj ht; omega)]
    exact h g
  | succ r ih =>
    intro j t g hj ht hg
    have ht24 := rp_le ht
    obtain ⟨t1, ht1⟩ := rp_pre hn (j + 1) (by omega)
    obtain ⟨t', e1, e2⟩ := rp_s ht1
    obtain rfl : t' = t := Option.some.inj (e1.symm.trans ht)
    refine sgX12_valueOf_17 ?_
    rw [r58, h18, eidx, nI_clamp (by omega), r81, h81, if_neg (nI_ge (by omega) (by omega)), nI_clamp (by omega), r89, r90, r92]
    refine ⟨vp_in_nI (by omega) (by decide), vp_in_nI (by omega) (by decide), ?_⟩
    have hgd : (rp_dep (I 5) a j).getD 0 = t' := by rw [ht]; rfl
    have op : ∀ x : Int32, I 5 (a + j) = x → ¬ 0 ≤ x → -128 < x → ∀ z : Int32, z = jn (-x) (g (t' - 2)) (g (t' - 1)) → vp_in (nI t' + -1 - 1) 420 ∧ vp_in (nI t' + -1) 420 ∧ vp_in (nI t' + -1 - 1) 420 ∧ TI d mX12_valueOf 17 [.ref 58, .int (nI w), .int (nI t' + -1), .int (nI (b + j) + 1), .null, .null, .null] [] (u_I (r_I I 93 g) 93 ((nI t' + -1 - 1).toNatClampNeg) z) L F := by
      intro x hx h0 h1 z hz
      have hnp : ¬ rp_push (I 5 (a + j)) := by
        rw [hx]; rintro (q | q)
        · exact h0 q
        · exact absurd h1 (Int32.not_lt.mpr q)
      rcases e2 with ⟨q, -⟩ | ⟨-, q2, q3⟩
      · exact absurd q hnp
      rw [jp_2 t' q2, jp_3 t' (by omega), nI_clamp (by omega)]
      refine ⟨vp_in_nI (by omega) (by decide), vp_in_nI (by omega) (by decide), vp_in_nI (by omega) (by decide), ?_⟩
      rw [r_u, nI_1, Nat.add_assoc]
      refine ih (j + 1) (t' - 1) _ (by omega) (by rw [ht1, q3]) ?_
      intro i hi
      rw [lq, hx, if_neg h0, if_neg (Int32.not_le.mpr h1), hgd, ← hg (t' - 2) (by omega), ← hg (t' - 1) (by omega), hz]
      by_cases hi2 : i = t' - 2
      · simp [upd, hi2]
      · simp only [upd, if_neg hi2]; exact hg i (by omega)
    have rg : ∀ q2 : 2 ≤ t', r_I I 93 g 93 ((nI t' + -1 - 1).toNatClampNeg) = g (t' - 2) ∧ r_I I 93 g 93 ((nI t' + -1).toNatClampNeg) = g (t' - 1) := by
      intro q2
      rw [jp_2 t' q2, jp_3 t' (by omega), nI_clamp (by omega), nI_clamp (by omega), r_at]
      exact ⟨rfl, rfl⟩
    have q2o : ¬ rp_push (I 5 (a + j)) → 2 ≤ t' := by
      intro hnp
      rcases e2 with ⟨q, -⟩ | ⟨-, q2, -⟩
      · exact absurd q hnp
      · exact q2
    rcases hc j (by omega) with ⟨hk, hv, m, hm, hx⟩ | ⟨hk, m, hm, hv, hx⟩ | ⟨hk, hx⟩ | ⟨hk, hx⟩ | ⟨hk, hx⟩ | ⟨hk, hx⟩ | ⟨hk, hx⟩
    · have h0 : (0 : Int32) ≤ nI m := nI_pos' (by omega)
      rcases e2 with ⟨-, q2, q3⟩ | ⟨q, -⟩
      · rw [hk, if_neg (by decide), if_pos rfl, nI_clamp (by omega), hv, hx]
        refine ⟨vp_in_nI (by omega) (by decide), vp_in_nI (by omega) (by decide), ?_⟩
        rw [r_u, nI_1, nI_1, Nat.add_assoc]
        refine ih (j + 1) (t' + 1) _ (by omega) (by rw [ht1, q3]) ?_
        intro i hi
        rw [lq, hx, if_pos h0, hgd]
        by_cases hi2 : i = t'
        · simp [upd, hi2]
        · simp only [upd, if_neg hi2]; exact hg i (by omega)
      · exact absurd (Or.inl (by rw [hx]; exact h0)) q
    · obtain ⟨v1, v2, v3, v4, v5⟩ := cd_var m hm
      rcases e2 with ⟨-, q2, q3⟩ | ⟨q, -⟩
      · rw [hk, if_neg (by decide), if_neg (by decide), nI_clamp (show t' < 2 ^ 31 by omega), hv, nI_clamp (show m < 2 ^ 31 by omega)]
        refine ⟨vp_in_nI (by omega) (by decide), vp_in_nI hm (by decide), vp_in_nI (by omega) (by decide), ?_⟩
        rw [r_u, nI_1, nI_1, Nat.add_assoc]
        refine ih (j + 1) (t' + 1) _ (by omega) (by rw [ht1, q3]) ?_
        intro i hi
        rw [lq, hx, if_neg v1, if_pos v2, hgd, v4, nI_clamp (by omega)]
        by_cases hi2 : i = t'
        · simp [upd, hi2]
        · simp only [upd, if_neg hi2]; exact hg i (by omega)
      · exact absurd (Or.inr (by rw [hx]; exact v2)) q
    all_goals
      have q2 := q2o (by rw [hx]; rintro (q | q) <;> exact absurd q (by decide))
      rw [hk, if_pos (by decide), (rg q2).1, (rg q2).2]
      refine op _ hx (by decide) (by decide) _ ?_
      rw [jn]
      simp (decide := true) only [if_true, if_false]
theorem pM_value {d lv w : Nat} {I : st_I} {L : st_L} {F : Int32 → st_I → st_L → Prop} (hw : w < 6) (hlv : lv ≤ 1) (h18 : I 58 18 = nI lv) (hlw : iv_law I lv w) (h : ∀ g, F (LK I w (I 92)) (r_I I 93 g) L) : EI d mX12_valueOf [.ref 58, .int (nI w)] I L F := by
  obtain ⟨a, b, n, e1, e2, e3, e4, e5, e6, e7, e8⟩ := hlw
  have eidx : 6 * nI lv + nI w = nI (6 * lv + w) := by rw [show (6 : Int32) = nI 6 from rfl, pk_mul, nI_add]
  refine sgX12_valueOf_0 ?_
  rw [h18, eidx, nI_clamp (by omega), e4]
  refine ⟨vp_in_nI (by omega) (by decide), ?_⟩
  have := pM_valLoop (d := d) (I := I) (L := L) (F := F) hw hlv h18 e3 (by omega) e5 e7 e8 (fun g => by rw [← LK_eq e1 e2 e3]; exact h g) n 0 0 (I 93) (by omega) rfl (fun i hi => absurd hi (Nat.not_lt_zero _))
  rw [r_self] at this
  exact this
