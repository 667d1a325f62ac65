theorem bo_if {x : Int32} (h : bo x) : (if x = 0 then (0 : Int32) else 1) = x := by
  rcases h with h | h <;> subst h <;> decide
theorem bo_not {x : Int32} (h : bo x) : (if (if x = 0 then (1 : Int32) else 0) = 0 then (1 : Int32) else 0) = x := by
  rcases h with h | h <;> subst h <;> decide
theorem mx (c lv k : Nat) : nI c * nI lv + nI k = nI (c * lv + k) := by rw [pk_mul, nI_add]
theorem mx3 (c lv a k : Nat) : nI c * nI lv + nI 3 * nI a + nI k = nI (c * lv + 3 * a + k) := by rw [pk_mul, pk_mul, nI_add, nI_add]
theorem pM_isOldOne {d lv nf np nb nl npl f : Nat} {I : st_I} {L : st_L} {F : Int32 → st_I → st_L → Prop} (H : iv_told I lv nf np nb nl npl) (hf : f < nf) (h : F (I 2 (5 * f)) I L) : EI d mX12_isOldOne [.ref 58, .int (nI f)] I L F := by
  obtain ⟨⟨hlv, hnf, -, -, -, -, h18, -⟩, hfid, -⟩ := id H
  obtain ⟨b1, b2, e1, -⟩ := hfid f hf
  refine sgX12_isOldOne_0 ?_
  rw [h18, show (8 : Int32) * nI lv + nI f = nI (8 * lv + f) from mx 8 lv f, nI_clamp (by omega), e1]
  exact ⟨vp_in_nI (by omega) (by decide), b1, h⟩
theorem pM_isPlayer {d lv nf np nb nl npl p : Nat} {I : st_I} {L : st_L} {F : Int32 → st_I → st_L → Prop} (H : iv_told I lv nf np nb nl npl) (hp : p < np) (h : F (if I 3 (5 * p) = 0 then (1 : Int32) else 0) I L) : EI d mX12_isPlayer [.ref 58, .int (nI p)] I L F := by
  obtain ⟨⟨hlv, hnf, hnp, -, -, -, h18, -⟩, -, hper, -⟩ := id H
  obtain ⟨b1, e1, -⟩ := hper p hp
  refine sgX12_isPlayer_0 ?_
  rw [h18, show (10 : Int32) * nI lv + nI p = nI (10 * lv + p) from mx 10 lv p, nI_clamp (by omega), e1]
  exact ⟨vp_in_nI (by omega) (by decide), h⟩
theorem pM_likes {d lv nf np nb nl npl w p f b : Nat} {se sp no : Int32} {I : st_I} {L : st_L} {F : Int32 → st_I → st_L → Prop} (H : iv_told I lv nf np nb nl npl) (hw : w < nl) (hp : p < np) (hf : f < nf) (hb : b < nb) (hse : bo se) (h : ∀ I', ms I I' → F (LK I w (vr I p f b se sp no (I 94))) I' L) : EI (d + 1) mX12_likes [.ref 58, .int (nI w), .int (nI p), .int (nI f), .int (nI b), .int se, .int sp, .int no] I L F := by
  obtain ⟨⟨hlv, hnf, hnp, hnb, hnl, hnpl, h18, -⟩, hfid, hper, hbow, hlaw, -⟩ := id H
  obtain ⟨bf1, bf2, ef1, ef2, ef3⟩ := hfid f hf
  obtain ⟨bp1, ep1, ep2, ep3⟩ := hper p hp
  have key : ∀ (r k : Nat) (g : Nat → Int32), k + r = 3 → (∀ i, i < k → g i = I 2 (5 * f + 1 + i) + I 4 (3 * b + i) + I 94 i ∧ g (3 + i) = I 3 (5 * p + 1 + i)) → TI (d + 1) mX12_likes 3 [.ref 58, .int (nI w), .int (nI p), .int (nI f), .int (nI b), .int se, .int sp, .int no, .int (nI k)] [] (r_I I 92 g) L F := by
    intro r
    induction r with
    | zero =>
      intro k g hk hg
      obtain rfl : k = 3 := by omega
      refine sgX12_likes_3 ?_
      rw [if_pos (by decide), r_ne g (by decide), h18, show (10 : Int32) * nI lv + nI p = nI (10 * lv + p) from mx 10 lv p, nI_clamp (by omega), r_ne g (by decide), ep2]
      refine ⟨vp_in_nI (by omega) (by decide), ?_⟩
      rw [r_u]
      refine pM_isOldOne ((ms.rf.r92 _).told H) hf ?_
      rw [r_ne _ (by decide), bo_if bf1, bo_if hse, r_u, r_u, r_u]
      refine pM_isPlayer ((ms.rf.r92 _).told H) hp ?_
      rw [r_ne _ (by decide), bo_not bp1, r_u, r_u]
      have HT := (ms.rf (I := I).r92 (upd (upd (upd (upd (upd (upd g 6 (I 3 (5 * p + 4))) 7 (I 2 (5 * f))) 8 se) 9 sp) 10 (I 3 (5 * p))) 11 no)).told H
      refine pM_value (lv := lv) (by omega) hlv HT.1.2.2.2.2.2.2.1 (HT.2.2.2.2.1 w hw) (fun g2 => ?_)
      rw [r_at, LK_same (r_ne _ (by decide)) (r_ne _ (by decide)), LK_congr (v' := vr I p f b se sp no (I 94)) (hlaw w hw) ?_]
      · exact h _ ((ms.rf.r92 _).r93 g2)
      · intro i hi
        by_cases i0 : i < 3
        · simp only [upd, vr, if_pos i0, if_neg (show ¬ i = 11 by omega), if_neg (show ¬ i = 10 by omega), if_neg (show ¬ i = 9 by omega), if_neg (show ¬ i = 8 by omega), if_neg (show ¬ i = 7 by omega), if_neg (show ¬ i = 6 by omega)]
          exact (hg i i0).1
        · by_cases i6 : i < 6
          · obtain ⟨m, rfl⟩ : ∃ m, i = 3 + m := ⟨i - 3, by omega⟩
            simp only [upd, vr, if_neg i0, if_pos (show 3 + m < 7 by omega), if_neg (show ¬ 3 + m = 11 by omega), if_neg (show ¬ 3 + m = 10 by omega), if_neg (show ¬ 3 + m = 9 by omega), if_neg (show ¬ 3 + m = 8 by omega), if_neg (show ¬ 3 + m = 7 by omega), if_neg (show ¬ 3 + m = 6 by omega), Nat.add_sub_cancel_left]
            exact (hg m (by omega)).2
          · rcases (show i = 6 ∨ i = 7 ∨ i = 8 ∨ i = 9 ∨ i = 10 ∨ i = 11 by omega) with e | e | e | e | e | e <;> subst e <;> simp [upd, vr]
    | succ r ih =>
      intro k g hk hg
      refine sgX12_likes_3 ?_
      rw [if_neg (show ¬ (3 : Int32) ≤ nI k from nI_ge (b := 3) (by omega) (by decide)), r_ne g (by decide), h18, show (24 : Int32) * nI lv + 3 * nI f + nI k = nI (24 * lv + 3 * f + k) from mx3 24 lv f k, show (12 : Int32) * nI lv + 3 * nI b + nI k = nI (12 * lv + 3 * b + k) from mx3 12 lv b k, show (30 : Int32) * nI lv + 3 * nI p + nI k = nI (30 * lv + 3 * p + k) from mx3 30 lv p k, show (3 : Int32) + nI k = nI (3 + k) from nI_add 3 k, nI_clamp (by omega), nI_clamp (by omega), nI_clamp (by omega), nI_clamp (by omega), nI_clamp (by omega), r_ne g (by decide), r_ne g (by decide), r_ne g (by decide), r_ne g (by decide), ef3 k (by omega), hbow b hb k (by omega), ep3 k (by omega)]
      refine ⟨vp_in_nI (by omega) (by decide), vp_in_nI (by omega) (by decide), vp_in_nI (by omega) (by decide), vp_in_nI (by omega) (by decide), vp_in_nI (by omega) (by decide), vp_in_nI (by omega) (by decide), ?_⟩
      rw [r_u, r_u, nI_1]
      refine ih (k + 1) _ (by omega) (fun i hi => ?_)
      by_cases e : i = k
      · subst e
        simp only [upd, if_true, if_neg (show ¬ i = 3 + i by omega)]
        refine ⟨?_, ?_⟩ <;> trivial
      · simp only [upd, if_neg e, if_neg (show ¬ i = 3 + k by omega), if_neg (show ¬ 3 + i = 3 + k by omega), if_neg (show ¬ 3 + i = k by omega)]
        exact hg i (by omega)
  have := key 3 0 (I 92) (by omega) (fun i hi => by omega)
  rw [r_self] at this
  exact sgX12_likes_0 this
theorem vr_set {I : st_I} {p f b : Nat} {se sp no : Int32} {s s' : Nat → Int32} (h : ∀ i, i < 3 → s i = s' i) : vr I p f b se sp no s = vr I p f b se sp no s' := by
  funext i; simp only [vr]
  by_cases e : i < 3
  · rw [if_pos e, if_pos e, h i e]
  · rw [if_neg e, if_neg e]
/-- the reference's settings are put back -/
def iv_set (I : st_I) : Prop := ∀ i, i < 3 → I 94 i = 0
theorem pM_says {d lv nf np nb nl npl w q k i : Nat} {seed : Int32} {I : st_I} {L : st_L} {F : Int32 → st_I → st_L → Prop} (H : iv_told I lv nf np nb nl npl) (hset : iv_set I) (hw : w < nl) (hq : q < 4) (hk : k < 12) (hs : iv_sit I lv np nf nb q k) (hi : i < nord I q k) (h : ∀ I', ms I I' → F (sy I w seed q k i) I' L) : EI (d + 2) mX12_says [.ref 58, .int (nI (48 * lv + 12 * q + k)), .int (nI k), .int (nI i), .int (nI w), .int seed] I L F := by
  obtain ⟨⟨hlv, hnf, hnp, hnb, hnl, -⟩, -⟩ := id H
  obtain ⟨pp, bb, mm, h1, h2, h3, h4, e1, m1, e2, m2, hbo, m3, e3, m4, ho⟩ := hs
  have hm : nord I q k = mm := by rw [nord, e3, nI_clamp (by omega)]
  rw [hm] at hi
  obtain ⟨ff, hff, e4, m5⟩ := ho i hi
  refine sgX12_says_0 ?_
  rw [show (6 : Int32) * nI (48 * lv + 12 * q + k) + nI i = nI (6 * (48 * lv + 12 * q + k) + i) from mx 6 _ i, show (10 : Int32) * nI k + nI i = nI (10 * k + i) from mx 10 k i, nI_clamp (by omega), nI_clamp (by omega), m1, m5, m2, m3]
  refine ⟨vp_in_nI (by omega) (by decide), vp_in_nI (by omega) (by decide), vp_in_nI (by omega) (by decide), vp_in_nI (by omega) (by decide), pM_lot (pM_likes H hw (by omega) (by omega) (by omega) hbo (fun I' hI' => ?_))⟩
  have e : LK I w (vr I pp ff bb (I 8 (10 * (12 * q + k) + 2)) (nI i) (lot10 seed (nI (10 * k + i))) (I 94)) = sy I w seed q k i := by
    rw [sy, sV, e1, e2, e4, nI_clamp (by omega), nI_clamp (by omega), nI_clamp (by omega), vr_set (s' := s0) (fun j hj => hset j hj)]
  rw [e]; exact h I' hI'
theorem iv_sit_same {I J : st_I} {lv np nf nb q k : Nat} (h8 : J 8 = I 8) (h84 : J 84 = I 84) (h85 : J 85 = I 85) (h86 : J 86 = I 86) (h87 : J 87 = I 87) (h88 : J 88 = I 88) (h : iv_sit I lv np nf nb q k) : iv_sit J lv np nf nb q k := by
  simp only [iv_sit, h8, h84, h85, h86, h87, h88] at h ⊢; exact h
theorem ms.sit {I J : st_I} (h : ms I J) {lv np nf nb q k : Nat} (hs : iv_sit I lv np nf nb q k) : iv_sit J lv np nf nb q k := iv_sit_same (h 8 (by decide) (by decide)) (h 84 (by decide) (by decide)) (h 85 (by decide) (by decide)) (h 86 (by decide) (by decide)) (h 87 (by decide) (by decide)) (h 88 (by decide) (by decide)) hs
theorem xs.sit {I J : st_I} (h : xs I J) {lv np nf nb q k : Nat} (hs : iv_sit I lv np nf nb q k) : iv_sit J lv np nf nb q k := iv_sit_same (h 8 (by decide) (by decide)) (h 84 (by decide) (by decide)) (h 85 (by decide) (by decide)) (h 86 (by decide) (by decide)) (h 87 (by decide) (by decide)) (h 88 (by decide) (by decide)) hs
theorem ms.set {I J : st_I} (h : ms I J) (hs : iv_set I) : iv_set J := fun i hi => by rw [h 94 (by decide) (by decide)]; exact hs i hi
theorem pM_takenIn {d lv nf np nb nl npl w q k : Nat} {seed : Int32} {I : st_I} {L : st_L} {F : Int32 → st_I → st_L → Prop} (H : iv_told I lv nf np nb nl npl) (hset : iv_set I) (hw : w < nl) (hq : q < 4) (hk : k < 12) (hs : iv_sit I lv np nf nb q k) (h : ∀ I', ms I I' → F (tk I w seed q k) I' L) : EI (d + 3) mX12_takenIn [.ref 58, .int (nI q), .int (nI w), .int seed, .int (nI k)] I L F := by
  obtain ⟨⟨hlv, hnf, hnp, hnb, hnl, hnpl, h18, -⟩, -⟩ := id H
  have hs0 := hs
  obtain ⟨pp, bb, mm, h1, h2, h3, h4, e1, m1, e2, m2, hbo, m3, e3, m4, ho⟩ := hs
  have hm : nord I q k = mm := by rw [nord, e3, nI_clamp (by omega)]
  have key : ∀ (r i : Nat) (J : st_I), i + 1 + r = mm → ms I J → TI (d + 3) mX12_takenIn 28 [.ref 58, .null, .int (nI w), .int seed, .int (nI k), .int (nI (48 * lv + 12 * q + k)), .int (nI (cb (sy I w seed q k) i)), .int (sy I w seed q k (cb (sy I w seed q k) i)), .int (nI (i + 1)), .null] [] J L F := by
    intro r
    induction r with
    | zero =>
      intro i J hi hJ
      refine sgX12_takenIn_28 ?_
      have hcb := cb_le (sy I w seed q k) i
      obtain ⟨ff, hff, e4, m5⟩ := ho (cb (sy I w seed q k) i) (by omega)
      rw [hJ 87 (by decide) (by decide), nI_clamp (by omega), m4, if_pos (nI_le (by omega) (by omega)), show (6 : Int32) * nI (48 * lv + 12 * q + k) + nI (cb (sy I w seed q k) i) = nI (6 * (48 * lv + 12 * q + k) + cb (sy I w seed q k) i) from mx 6 _ _, nI_clamp (by omega), hJ 88 (by decide) (by decide), m5]
      refine ⟨vp_in_nI (by omega) (by decide), vp_in_nI (by omega) (by decide), ?_⟩
      have e : tk I w seed q k = nI ff := by rw [tk, hm, show mm - 1 = i by omega, e4]
      rw [← e]; exact h J hJ
    | succ r ih =>
      intro i J hi hJ
      refine sgX12_takenIn_28 ?_
      rw [hJ 87 (by decide) (by decide), nI_clamp (by omega), m4, if_neg (nI_ge (by omega) (by omega))]
      refine ⟨vp_in_nI (by omega) (by decide), pM_says (hJ.told H) (hJ.set hset) hw hq hk (hJ.sit hs0) (by rw [nord, hJ 8 (by decide) (by decide), ← nord, hm]; omega) (fun J2 x2 => ?_)⟩
      rw [hJ.sy, nI_1]
      have := ih (i + 1) J2 (by omega) (hJ.tr x2)
      rw [cb] at this
      by_cases hc : sy I w seed q k (cb (sy I w seed q k) i) < sy I w seed q k (i + 1)
      · rw [if_pos hc]; rw [if_pos hc] at this; exact this
      · rw [if_neg hc]; rw [if_neg hc] at this; exact this
  refine sgX12_takenIn_0 (sgX12_sitAt_0 ?_)
  rw [h18, show (48 : Int32) * nI lv + 12 * nI q + nI k = nI (48 * lv + 12 * q + k) by rw [show (48 : Int32) = nI 48 from rfl, show (12 : Int32) = nI 12 from rfl, pk_mul, pk_mul, nI_add, nI_add]]
  refine pM_says (i := 0) H hset hw hq hk hs0 (by rw [hm]; omega) (fun J2 x2 => ?_)
  exact key (mm - 1) 0 J2 (by omega) x2
