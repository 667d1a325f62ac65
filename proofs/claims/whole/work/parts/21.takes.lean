/-- TAKEN is a FIDDLE that is there -/
theorem tk_lt {I : st_I} {lv np nf nb q k : Nat} (hs : iv_sit I lv np nf nb q k) (hnf : nf ≤ 8) (w : Nat) (s : Int32) : ∃ f, f < nf ∧ tk I w s q k = nI f := by
  obtain ⟨pp, bb, mm, h1, h2, h3, h4, e1, m1, e2, m2, hbo, m3, e3, m4, ho⟩ := hs
  have hm : nord I q k = mm := by rw [nord, e3, nI_clamp (by omega)]
  have := cb_le (sy I w s q k) (mm - 1)
  obtain ⟨ff, hff, e4, -⟩ := ho (cb (sy I w s q k) (mm - 1)) (by omega)
  exact ⟨ff, hff, by rw [tk, hm, e4]⟩
theorem x_isOld_i {d lv nf np nb nl npl f : Nat} {I : st_I} {L : st_L} {F : Int32 → st_I → st_L → Prop} (H : iv_told I lv nf np nb nl npl) (hf : f < nf) (h : F (I 2 (5 * f)) I L) : EI (d + 1) mX8_isOld [.ref 1, .int (nI f)] I L F := by
  have hnf := H.1.2.1
  refine sgX8_isOld_0 (x_hasFiddle_i H hf ?_)
  rw [if_neg (by decide), ix50, nI_clamp (by omega)]
  refine ⟨vp_in_nI (by omega) (by decide), ?_⟩
  rcases (H.2.1 f hf).1 with e | e
  · rw [e] at h ⊢; rw [if_neg (by decide)]; exact h
  · rw [e] at h ⊢; rw [if_pos rfl]; exact h
theorem x_isPlayer_i {d lv nf np nb nl npl p : Nat} {I : st_I} {L : st_L} {F : Int32 → st_I → st_L → Prop} (H : iv_told I lv nf np nb nl npl) (hp : p < np) (h : F (if I 3 (5 * p) = 0 then (1 : Int32) else 0) I L) : EI (d + 1) mX8_isPlayer [.ref 1, .int (nI p)] I L F := by
  have hnp := H.1.2.2.1
  refine sgX8_isPlayer_0 (x_hasPerson_i H hp ?_)
  rw [if_neg (by decide), ix50, nI_clamp (by omega)]
  refine ⟨vp_in_nI (by omega) (by decide), ?_⟩
  by_cases e : I 3 (5 * p) = 0
  · rw [if_pos e] at h ⊢; exact h
  · rw [if_neg e] at h ⊢; exact h
/-- does SITTING k count for takes (a: -1 any old one) -/
def tkc (I : st_I) (w : Nat) (s : Int32) (q : Nat) (a : Int32) (k : Nat) : Bool := if a = -1 then !(I 2 (5 * (tk I w s q k).toNatClampNeg) == 0) else tk I w s q k == a
theorem pX_takesLoop {d lv nf np nb nl npl w q : Nat} {s a : Int32} {I : st_I} {L : st_L} {F : Int32 → st_I → st_L → Prop} (H : iv_told I lv nf np nb nl npl) (hw : w < nl) (hq : q < npl) (h : ∀ I', xs I I' → F (nI (cn (tkc I w s q a) (nsit I q))) I' L) :
    ∀ (r k : Nat) (J : st_I), k + r = nsit I q → xs I J → TI (d + 6) mX11_takes 52 [.ref 0, .int (nI q), .int (nI w), .int s, .int a, .int (nI (cn (tkc I w s q a) k)), .int (nI k), .null] [] J L F := by
  have h4 := H.1.2.2.2.2.2.1
  obtain ⟨e1, e2, e3, e4⟩ := nsit_eq (H.2.2.2.2.2 q hq)
  intro r
  induction r with
  | zero =>
    intro k J hk hJ
    obtain rfl : k = nsit I q := by omega
    refine sgX11_takes_52 (x_sits_i (hJ.told H) hq ?_)
    rw [hJ.nsit', if_pos (nI_le (Nat.le_refl _) (by omega))]
    exact h J hJ
  | succ r ih =>
    intro k J hk hJ
    obtain ⟨f, hf, et⟩ := tk_lt (e4 k (by omega)) H.1.2.1 w s
    refine sgX11_takes_52 (x_sits_i (hJ.told H) hq ?_)
    rw [hJ.nsit', if_neg (nI_ge (by omega) (by omega))]
    refine pX_choice (hJ.told H) hw hq (by rw [hJ.nsit']; omega) (hJ.sit (e4 k (by omega))) (fun J1 x1 => ?_)
    have hJ1 := hJ.tr x1
    rw [hJ.tk', nI_1, nI_1]
    have := ih (k + 1) J1 (by omega) hJ1
    rw [cn] at this
    by_cases ha : a = -1
    · rw [if_pos ha, et]
      refine x_isOld_i (hJ1.told H) hf ?_
      rw [hJ1 2 (by decide) (by decide)]
      have e : tkc I w s q a k = !(I 2 (5 * f) == 0) := by have := H.1.2.1; rw [tkc, if_pos ha, et, nI_clamp (by omega)]
      rw [e] at this
      by_cases hz : I 2 (5 * f) = 0
      · rw [if_pos hz]; simpa [hz] using this
      · rw [if_neg hz]; simpa [hz] using this
    · rw [if_neg ha]
      have e : tkc I w s q a k = (tk I w s q k == a) := by rw [tkc, if_neg ha]
      rw [e] at this
      by_cases hz : tk I w s q k = a
      · rw [if_pos hz]; simpa [hz] using this
      · rw [if_neg hz]; simpa [hz] using this
theorem pM_takesLoop {d lv nf np nb nl npl w q : Nat} {s a : Int32} {I : st_I} {L : st_L} {F : Int32 → st_I → st_L → Prop} (H : iv_told I lv nf np nb nl npl) (hset : iv_set I) (hw : w < nl) (hq : q < npl) (h : ∀ I', ms I I' → F (nI (cn (tkc I w s q a) (nsit I q))) I' L) :
    ∀ (r k : Nat) (J : st_I), k + r = nsit I q → ms I J → TI (d + 4) mX12_takes 40 [.ref 58, .int (nI q), .int (nI w), .int s, .int a, .int (nI (cn (tkc I w s q a) k)), .int (nI k), .null] [] J L F := by
  have h4 := H.1.2.2.2.2.2.1; have hlv := H.1.1; have h18 := H.1.2.2.2.2.2.2.1
  obtain ⟨e1, e2, e3, e4⟩ := nsit_eq (H.2.2.2.2.2 q hq)
  intro r
  induction r with
  | zero =>
    intro k J hk hJ
    obtain rfl : k = nsit I q := by omega
    refine sgX12_takes_40 ?_
    rw [hJ 58 (by decide) (by decide), h18, show (4 : Int32) * nI lv + nI q = nI (4 * lv + q) from mx 4 lv q, nI_clamp (by omega), hJ 83 (by decide) (by decide), e2, if_pos (nI_le (Nat.le_refl _) (by omega))]
    exact ⟨vp_in_nI (by omega) (by decide), h J hJ⟩
  | succ r ih =>
    intro k J hk hJ
    obtain ⟨f, hf, et⟩ := tk_lt (e4 k (by omega)) H.1.2.1 w s
    refine sgX12_takes_40 ?_
    rw [hJ 58 (by decide) (by decide), h18, show (4 : Int32) * nI lv + nI q = nI (4 * lv + q) from mx 4 lv q, nI_clamp (by omega), hJ 83 (by decide) (by decide), e2, if_neg (nI_ge (by omega) (by omega))]
    refine ⟨vp_in_nI (by omega) (by decide), pM_takenIn (hJ.told H) (hJ.set hset) hw (by omega) (by omega) (hJ.sit (e4 k (by omega))) (fun J1 x1 => ?_)⟩
    have hJ1 := hJ.tr x1
    rw [hJ.tk', nI_1, nI_1]
    have := ih (k + 1) J1 (by omega) hJ1
    rw [cn] at this
    by_cases ha : a = -1
    · rw [if_pos ha, et]
      refine pM_isOldOne (hJ1.told H) hf ?_
      rw [hJ1 2 (by decide) (by decide)]
      have e : tkc I w s q a k = !(I 2 (5 * f) == 0) := by have := H.1.2.1; rw [tkc, if_pos ha, et, nI_clamp (by omega)]
      rw [e] at this
      by_cases hz : I 2 (5 * f) = 0
      · rw [if_pos hz]; simpa [hz] using this
      · rw [if_neg hz]; simpa [hz] using this
    · rw [if_neg ha]
      have e : tkc I w s q a k = (tk I w s q k == a) := by rw [tkc, if_neg ha]
      rw [e] at this
      by_cases hz : tk I w s q k = a
      · rw [if_pos hz]; simpa [hz] using this
      · rw [if_neg hz]; simpa [hz] using this
theorem tkc_xs {I J : st_I} (h : xs I J) (w : Nat) (s : Int32) (q : Nat) (a : Int32) (k : Nat) : tkc J w s q a k = tkc I w s q a k := by
  rw [tkc, tkc, h.tk', h 2 (by decide) (by decide)]
theorem op_takes {lv nf np nb nl npl : Nat} {I : st_I} {L : st_L} {P : st_I → st_L → Prop} (H : iv_told I lv nf np nb nl npl) (hset : iv_set I) (hP : ∀ I2, xm I I2 → P I2 L) (a b s c : Int32) :
    EI 60 mX11_takes [.ref 0, .int a, .int b, .int s, .int c] I L (fun r I1 L1 => EI 60 mX12_takes [.ref 58, .int a, .int b, .int s, .int c] I1 L1 (fun r' I2 L2 => r' = r ∧ P I2 L2)) := by
  have no : P I L := hP I (fun _ _ _ _ _ => rfl)
  have hnl := H.1.2.2.2.2.1
  refine sgX11_takes_0 ?_
  rcases ot_ix a npl (by have := H.1.2.2.2.2.2.1; omega) with ho | ⟨q, hq, rfl⟩
  · refine x_hasPlan_o H ho ?_
    rw [if_pos rfl]
    refine sgX12_takes_0 (m_isPlan_o H ho ?_)
    rw [if_pos rfl]; exact ⟨rfl, no⟩
  refine x_hasPlan_i H hq ?_
  rw [if_neg (by decide)]
  rcases ot_ix b nl (by omega) with ho | ⟨w, hw, rfl⟩
  · refine x_hasLaw_o H ho ?_
    rw [if_pos rfl]
    refine sgX12_takes_0 (m_isPlan_i H hq ?_)
    rw [if_neg (by decide)]
    refine m_isLaw_o H ho ?_
    rw [if_pos rfl]; exact ⟨rfl, no⟩
  refine x_hasLaw_i H hw ?_
  rw [if_neg (by decide)]
  have fin : ∀ I1, xs I I1 → (∀ I2, ms I1 I2 → nI (cn (tkc I1 w s q c) (nsit I1 q)) = nI (cn (tkc I w s q c) (nsit I q)) ∧ P I2 L) := by
    intro I1 hx I2 hm
    refine ⟨?_, hP I2 (xm_of hx hm)⟩
    rw [hx.nsit', cn_congr (fun k _ => tkc_xs hx w s q c k)]
  by_cases hc : c = -1
  · rw [if_pos hc]
    refine pX_takesLoop (d := 54) (L := L) H hw hq (fun I1 hx => ?_) (nsit I q) 0 I (by omega) xs.rf
    have H1 := hx.told H
    refine sgX12_takes_0 (m_isPlan_i H1 hq ?_)
    rw [if_neg (by decide)]
    refine m_isLaw_i H1 hw ?_
    rw [if_neg (by decide), if_pos hc]
    exact pM_takesLoop (d := 56) (L := L) H1 (hx.set hset) hw hq (fin I1 hx) (nsit I1 q) 0 I1 (by omega) ms.rf
  · rw [if_neg hc]
    rcases ot_ix c nf (by have := H.1.2.1; omega) with ho | ⟨f, hf, rfl⟩
    · refine x_hasFiddle_o H ho ?_
      rw [if_pos rfl]
      refine sgX12_takes_0 (m_isPlan_i H hq ?_)
      rw [if_neg (by decide)]
      refine m_isLaw_i H hw ?_
      rw [if_neg (by decide), if_neg hc]
      refine m_isFiddle_o H ho ?_
      rw [if_pos rfl]; exact ⟨rfl, no⟩
    refine x_hasFiddle_i H hf ?_
    rw [if_neg (by decide)]
    refine pX_takesLoop (d := 54) (L := L) H hw hq (fun I1 hx => ?_) (nsit I q) 0 I (by omega) xs.rf
    have H1 := hx.told H
    refine sgX12_takes_0 (m_isPlan_i H1 hq ?_)
    rw [if_neg (by decide)]
    refine m_isLaw_i H1 hw ?_
    rw [if_neg (by decide), if_neg hc]
    refine m_isFiddle_i H1 hf ?_
    rw [if_neg (by decide)]
    exact pM_takesLoop (d := 56) (L := L) H1 (hx.set hset) hw hq (fin I1 hx) (nsit I1 q) 0 I1 (by omega) ms.rf
theorem op_liking {lv nf np nb nl npl : Nat} {I : st_I} {L : st_L} {P : st_I → st_L → Prop} (H : iv_told I lv nf np nb nl npl) (hset : iv_set I) (hP : ∀ I2, xm I I2 → P I2 L) (a b c e se sp no : Int32) (hse : bo se) :
    EI 60 mX11_liking [.ref 0, .int a, .int b, .int c, .int e, .int se, .int sp, .int no] I L (fun r I1 L1 => EI 60 mX12_liking [.ref 58, .int a, .int b, .int c, .int e, .int se, .int sp, .int no] I1 L1 (fun r' I2 L2 => r' = r ∧ P I2 L2)) := by
  have nn : P I L := hP I (fun _ _ _ _ _ => rfl)
  obtain ⟨-, b1, b2, b3, b4, -⟩ := id H.1
  refine sgX11_liking_0 ?_
  rcases ot_ix a nl (by omega) with ho | ⟨w, hw, rfl⟩
  · refine x_hasLaw_o H ho ?_
    rw [if_pos rfl]
    refine sgX12_liking_0 (m_isLaw_o H ho ?_)
    rw [if_pos rfl]; exact ⟨rfl, nn⟩
  refine x_hasLaw_i H hw ?_
  rw [if_neg (by decide)]
  rcases ot_ix b np (by omega) with ho | ⟨p, hp, rfl⟩
  · refine x_meet_o H (Or.inl ho) ?_
    rw [if_pos rfl]
    refine sgX12_liking_0 (m_isLaw_i H hw ?_)
    rw [if_neg (by decide)]
    refine m_isPerson_o H ho ?_
    rw [if_pos rfl]; exact ⟨rfl, nn⟩
  rcases ot_ix c nf (by omega) with ho | ⟨f, hf, rfl⟩
  · refine x_meet_o H (Or.inr (Or.inl ho)) ?_
    rw [if_pos rfl]
    refine sgX12_liking_0 (m_isLaw_i H hw ?_)
    rw [if_neg (by decide)]
    refine m_isPerson_i H hp ?_
    rw [if_neg (by decide)]
    refine m_isFiddle_o H ho ?_
    rw [if_pos rfl]; exact ⟨rfl, nn⟩
  rcases ot_ix e nb (by omega) with ho | ⟨g, hg, rfl⟩
  · refine x_meet_o H (Or.inr (Or.inr ho)) ?_
    rw [if_pos rfl]
    refine sgX12_liking_0 (m_isLaw_i H hw ?_)
    rw [if_neg (by decide)]
    refine m_isPerson_i H hp ?_
    rw [if_neg (by decide)]
    refine m_isFiddle_i H hf ?_
    rw [if_neg (by decide)]
    refine m_isBow_o H ho ?_
    rw [if_pos rfl]; exact ⟨rfl, nn⟩
  refine x_meet_i H hp hf hg ?_
  rw [if_neg (by decide)]
  have to : ∀ (J : st_I) {F : Int32 → st_I → st_L → Prop}, iv_told J lv nf np nb nl npl → EI 59 mX12_in [.int sp, .int 0, .int 9] J L (fun r5 I5 L5 => if r5 = 0 then F (-2147483648) I5 L5 else EI 59 mX12_in [.int no, .int 0, .int 9] I5 L5 (fun r6 I6 L6 => if r6 = 0 then F (-2147483648) I6 L6 else EI 59 mX12_likes [.ref 58, .int (nI w), .int (nI p), .int (nI f), .int (nI g), .int se, .int sp, .int no] I6 L6 (fun r7 I7 L7 => F r7 I7 L7))) → EI 60 mX12_liking [.ref 58, .int (nI w), .int (nI p), .int (nI f), .int (nI g), .int se, .int sp, .int no] J L F := by
    intro J F HJ hk
    refine sgX12_liking_0 (m_isLaw_i HJ hw ?_)
    rw [if_neg (by decide)]
    refine m_isPerson_i HJ hp ?_
    rw [if_neg (by decide)]
    refine m_isFiddle_i HJ hf ?_
    rw [if_neg (by decide)]
    refine m_isBow_i HJ hg ?_
    rw [if_neg (by decide)]; exact hk
  rcases ot_ix sp 10 (by decide) with ho | ⟨u, hu, rfl⟩
  · have bad : EI 60 mX12_liking [.ref 58, .int (nI w), .int (nI p), .int (nI f), .int (nI g), .int se, .int sp, .int no] I L (fun r' I2 L2 => r' = -2147483648 ∧ P I2 L2) := by
      refine to I H (in_out (n := 10) (by decide) ho ?_)
      rw [if_pos rfl]; exact ⟨rfl, nn⟩
    by_cases q : sp < 0
    · rw [if_pos q]; exact bad
    · rw [if_neg q, if_pos (show (10 : Int32) ≤ sp from ho.resolve_left q)]; exact bad
  rw [if_neg (nI_pos (by omega)), if_neg (show ¬ (10 : Int32) ≤ nI u from nI_ge (b := 10) hu (by decide))]
  rcases ot_ix no 10 (by decide) with ho | ⟨z, hz, rfl⟩
  · have bad : EI 60 mX12_liking [.ref 58, .int (nI w), .int (nI p), .int (nI f), .int (nI g), .int se, .int (nI u), .int no] I L (fun r' I2 L2 => r' = -2147483648 ∧ P I2 L2) := by
      refine to I H (in_in (n := 10) (by decide) hu ?_)
      rw [if_neg (by decide)]
      refine in_out (n := 10) (by decide) ho ?_
      rw [if_pos rfl]; exact ⟨rfl, nn⟩
    by_cases q : no < 0
    · rw [if_pos q]; exact bad
    · rw [if_neg q, if_neg (show ¬ no < 10 from Int32.not_lt.mpr (ho.resolve_left q))]; exact bad
  rw [if_neg (nI_pos (by omega)), if_pos (show nI z < 10 from nI_lt (b := 10) hz (by decide))]
  refine pX_meet H hp hf hg (fun g1 hg1 => ?_)
  rw [bo_if hse]
  refine pX_attend (I0 := I) (s := s0) (p := p) (f := f) (b := g) (by rw [r_at]; exact hg1) (fun g2 hg2 => ?_)
  rw [r_r]
  have x0 : xs I (r_I I 26 g2) := xs.rf.r26 g2
  refine pX_likeT (x0.told H) hw (fun I1 hx _ => ?_)
  have hx1 := x0.tr hx
  have H1 := hx1.told H
  have eL : LK (r_I I 26 g2) w (r_I I 26 g2 26) = LK I w (vr I p f g se (nI u) (nI z) s0) := by
    rw [LK_same (x0 5 (by decide) (by decide)) (x0 6 (by decide) (by decide)), r_at, LK_congr (H.2.2.2.2.1 w hw) hg2]
  rw [eL]
  refine to I1 H1 (in_in (n := 10) (by decide) hu ?_)
  rw [if_neg (by decide)]
  refine in_in (n := 10) (by decide) hz ?_
  rw [if_neg (by decide)]
  refine pM_likes H1 hw hp hf hg hse (fun I2 hm => ⟨?_, hP I2 (xm_of hx1 hm)⟩)
  rw [LK_same (hx1 5 (by decide) (by decide)) (hx1 6 (by decide) (by decide)), vr_same (hx1 2 (by decide) (by decide)) (hx1 3 (by decide) (by decide)) (hx1 4 (by decide) (by decide)), vr_set (s' := s0) (fun j hj => (hx1.set hset) j hj)]
