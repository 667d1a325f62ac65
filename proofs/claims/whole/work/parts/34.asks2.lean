theorem kPM_pos {R : Nat → Int32} {P Q : Int32} {T : Nat → Int32} {n sp k m : Nat} (hk : k < m) (h : kcp R P Q T n k = true) (hs : R (6 * k + 4) = nI sp) : 0 < kPM R P Q T n sp m := by
  unfold kPM
  induction m with
  | zero => omega
  | succ m ih =>
    rw [cn]
    by_cases e : k = m
    · subst e; rw [h, decide_eq_true hs]; simp
    · have := ih (by omega); omega
theorem kPM_le (R : Nat → Int32) (P Q : Int32) (T : Nat → Int32) (n sp m : Nat) : kPM R P Q T n sp m ≤ m := cn_le _ m
/-- PUT RIGHT, of the first m -/
def prR (R : Nat → Int32) (P Q : Int32) (T : Nat → Int32) (n f : Nat) : Nat → Int32
  | 0 => 0
  | m + 1 => if kcp R P Q T n m && decide (R (6 * m + 2) = nI f) then prR R P Q T n f m + (100 * R (6 * m + 3) - 100 * kPS R P Q T n (R (6 * m + 4)).toNatClampNeg n / nI (kPM R P Q T n (R (6 * m + 4)).toNatClampNeg n)) else prR R P Q T n f m
theorem pX_putRight {d lv nf np nb nl npl nF n f : Nat} {J : st_I} {L : st_L} {F : Int32 → st_I → st_L → Prop} (HJ : iv_told J lv nf np nb nl npl) (HF : iv_facts J nF) (hn : n ≤ nF) (h30 : J 30 0 = nI n) (hK : kK J nf np n) (hf : f < nf) (h : F (prR (J 29) (nI np) (nI nf) (J 3) n f n) J L) : EI (d + 3) mX2_putRight [.ref 30, .ref 1, .ref 28, .int (nI f)] J L F := by
  have h80 := HF.1
  obtain ⟨hlv, b1, b2, b3, b4, b5, h18, -⟩ := id HJ.1
  have key : ∀ (r m : Nat), m + r = n → TI (d + 3) mX2_putRight 6 [.ref 30, .ref 1, .ref 28, .int (nI f), .int (prR (J 29) (nI np) (nI nf) (J 3) n f m), .int (nI m)] [] J L F := by
    intro r
    induction r with
    | zero =>
      intro m hm
      obtain rfl : m = n := by omega
      refine sgX2_putRight_6 ?_
      rw [h30, if_pos (nI_le (Nat.le_refl _) (by omega))]; exact h
    | succ r ih =>
      intro m hm
      have st := ih (m + 1) (by omega)
      rw [prR] at st
      have vm : vp_in (nI m) 80 := vp_in_nI (by omega) (by decide)
      have e31 : J 31 m = b01 (kb (J 29) (nI np) (nI nf) n m) := by
        rw [hK.1 m (by omega)]; unfold sc kbm; rw [decide_eq_true (show m < n by omega), Bool.true_and]
      have skip : kcp (J 29) (nI np) (nI nf) (J 3) n m = false → TI (d + 3) mX2_putRight 6 [.ref 30, .ref 1, .ref 28, .int (nI f), .int (prR (J 29) (nI np) (nI nf) (J 3) n f m), .int (nI (m + 1))] [] J L F := by
        intro e; rw [e, Bool.false_and, if_neg (by decide)] at st; exact st
      have h28 := HF.2.1
      have hmF : m < nF := by omega
      refine sgX2_putRight_6 ?_
      rw [h30, if_neg (nI_ge (by omega) (by omega)), nI_clamp (by omega), e31, nI_1]
      refine ⟨vm, ?_⟩
      cases hb : kb (J 29) (nI np) (nI nf) n m
      · rw [if_neg (by decide)]
        exact skip (by unfold kcp kcb kc; rw [hb, Bool.and_false, Bool.false_and, Bool.false_and])
      · rw [if_pos (by decide)]
        obtain ⟨p, g, hp, hg, r1, r2, r3, hpi, c1, c2, hc⟩ := kb_ok HF hn (by omega) b1 b2 hb
        refine sgX2_isBlindMark_0 (x_of (c := 0) h28 h80 hmF (by decide) ?_)
        rw [Nat.add_zero]
        rcases hc with ⟨z, q98, ⟨v, hv, v1⟩, ⟨sp, hsp, s1, s2⟩, hbo, q100⟩ | ⟨z, -⟩
        · rw [if_pos z]
          refine x_of (c := 5) h28 h80 hmF (by decide) ?_
          have ek : kcp (J 29) (nI np) (nI nf) (J 3) n m = (decide (J 29 (6 * m + 5) = 0) && decide (J 3 (5 * p) = 0)) := by unfold kcp kcb; rw [kc_split z, hb, c1, Bool.true_and]
          by_cases y : J 29 (6 * m + 5) = 0
          · rw [if_pos y]
            refine x_of (c := 1) h28 h80 hmF (by decide) ?_
            rw [r1]
            refine x_isPlayer_i HJ hp ?_
            by_cases w : J 3 (5 * p) = 0
            · rw [decide_eq_true y, decide_eq_true w] at ek
              rw [if_pos w, if_neg (by decide), if_neg (by decide)]
              refine x_of (c := 2) h28 h80 hmF (by decide) ?_
              rw [r2]
              rw [ek, r2, s1, nI_clamp (by omega)] at st
              by_cases u : nI g = nI f
              · rw [if_pos u]
                rw [decide_eq_true u, if_pos (show (true && true && true) = true from rfl)] at st
                refine x_of (c := 3) h28 h80 hmF (by decide) (x_of (c := 4) h28 h80 hmF (by decide) ?_)
                rw [s1]
                have v10 : vp_in (nI sp) 10 := vp_in_nI hsp (by decide)
                have hm := hK.2.2.2.2.2.1 sp hsp
                have hpos := kPM_pos (m := n) (show m < n by omega) ek s1
                have hle := kPM_le (J 29) (nI np) (nI nf) (J 3) n sp n
                have hne := nI_ne0 hpos (by omega)
                refine sgX2_spotMean_0 ?_
                rw [if_neg (nI_pos (by omega)), if_neg (show ¬ (10 : Int32) ≤ nI sp from nI_ge (b := 10) hsp (by decide)), nI_clamp (by omega), hm.1, hm.2, if_neg hne]
                exact ⟨v10, v10, v10, hne, st⟩
              · rw [if_neg u]
                rw [decide_eq_false u, if_neg (by decide)] at st
                exact st
            · rw [if_neg w, if_pos rfl, if_pos rfl]
              exact skip (by rw [ek, decide_eq_false w, Bool.and_false])
          · rw [if_neg y, if_pos rfl]
            exact skip (by rw [ek, decide_eq_false y, Bool.false_and])
        · rw [if_neg (by rw [z]; decide), if_pos rfl]
          exact skip (by unfold kcp kcb; rw [kc_no (by rw [z]; decide), Bool.false_and, Bool.false_and])
  exact sgX2_putRight_0 (key n 0 (by omega))
theorem pM_right {d lv nf np nb nl npl nF n f : Nat} {J : st_I} {L : st_L} {F : Int32 → st_I → st_L → Prop} (HJ : iv_told J lv nf np nb nl npl) (HF : iv_facts J nF) (hn : n ≤ nF) (hf : f < nf) (h : F (prR (J 29) (nI np) (nI nf) (J 3) n f n) J L) :
    ∀ (r m : Nat), m + r = n → TI (d + 5) mX12_right 25 [.ref 58, .int (nI n), .int (nI f), .int (prR (J 29) (nI np) (nI nf) (J 3) n f m), .int (nI m)] [] J L F := by
  have h80 := HF.1
  obtain ⟨hlv, b1, b2, b3, b4, b5, h18, -⟩ := id HJ.1
  intro r
  induction r with
  | zero =>
    intro m hm
    obtain rfl : m = n := by omega
    refine sgX12_right_25 ?_
    rw [if_pos (nI_le (Nat.le_refl _) (by omega))]; exact h
  | succ r ih =>
    intro m hm
    have st := ih (m + 1) (by omega)
    rw [prR] at st
    refine sgX12_right_25 ?_
    rw [if_neg (nI_ge (by omega) (by omega))]
    refine pM_isSpotMark HJ HF hn (by omega) ?_
    rw [nI_1]
    cases hb : kcp (J 29) (nI np) (nI nf) (J 3) n m
    · rw [hb, Bool.false_and, if_neg (by decide)] at st
      rw [if_pos (by decide)]; exact st
    · obtain ⟨p, g, s, v, hp, hg, hs, hv, r2, r3, q98, v1, s1, s2, -⟩ := kcp_ok HF hn (by omega) b1 b2 hb
      have vm : vp_in (nI m) 80 := vp_in_nI (by omega) (by decide)
      rw [hb, Bool.true_and, s1, r2, nI_clamp (show s < 2 ^ 31 by omega)] at st
      rw [if_neg (by decide), nI_clamp (by omega), s2, q98, r3]
      refine ⟨vm, ?_⟩
      by_cases e : nI g = nI f
      · rw [if_pos (decide_eq_true e)] at st
        rw [if_pos e]
        refine ⟨vm, vm, pM_spotSum HJ HF hn hs ?_⟩
        rw [s2]
        refine ⟨vm, pM_spotMany HJ HF hn hs ?_⟩
        have hle := kPM_le (J 29) (nI np) (nI nf) (J 3) n s n
        exact ⟨nI_ne0 (kPM_pos (m := n) (show m < n by omega) hb s1) (by omega), st⟩
      · rw [decide_eq_false e, if_neg (by decide)] at st; rw [if_neg e]; exact st
theorem op_right {lv nf np nb nl npl nF : Nat} {I : st_I} {L : st_L} {P : st_I → st_L → Prop} (H : iv_told I lv nf np nb nl npl) (HF : iv_facts I nF) (hk : iv_kn I nf np nF) (hP : ∀ J, kq I J → iv_kn J nf np nF → J 57 = I 57 → P J L) (c b : Int32) :
    EI 60 mX11_right [.ref 0, .int c, .int b] I L (fun r I1 L1 => EI 60 mX12_right [.ref 58, .int c, .int b] I1 L1 (fun r' I2 L2 => r' = r ∧ P I2 L2)) := by
  have no : P I L := hP I kq.rf hk rfl
  have h80 := HF.1
  obtain ⟨hlv, b1, b2, b3, b4, b5, h18, -⟩ := id H.1
  refine sgX11_right_0 ?_
  rcases ot_ix b nf (by omega) with ho | ⟨f, hf, rfl⟩
  · refine x_hasFiddle_o H ho ?_
    rw [if_pos rfl]
    refine sgX12_right_0 ?_
    rcases ot_ix c (nF + 1) (by omega) with ho2 | ⟨n, hn, rfl⟩
    · refine m_isKnown_o HF ho2 ?_
      rw [if_pos rfl]; exact ⟨rfl, no⟩
    · refine m_isKnown_i HF (by omega) ?_
      rw [if_neg (by decide)]
      refine m_isFiddle_o H ho ?_
      rw [if_pos rfl]; exact ⟨rfl, no⟩
  refine x_hasFiddle_i H hf ?_
  rw [if_neg (by decide)]
  rcases ot_ix c (nF + 1) (by omega) with ho | ⟨n, hn, rfl⟩
  · refine x_knows_o HF ho ?_
    rw [if_pos rfl]
    refine sgX12_right_0 (m_isKnown_o HF ho ?_)
    rw [if_pos rfl]; exact ⟨rfl, no⟩
  refine x_knows_i H HF hk (by omega) (fun J hJ => ?_)
  have HJ := hJ.kq'.told H
  have HFJ := hJ.kq'.facts HF
  rw [if_neg (by decide)]
  refine pX_putRight HJ HFJ (by omega) hJ.2.1 hJ.2.2 hf ?_
  refine sgX12_right_0 (m_isKnown_i HFJ (by omega) ?_)
  rw [if_neg (by decide)]
  refine m_isFiddle_i HJ hf ?_
  rw [if_neg (by decide)]
  exact pM_right (d := 55) HJ HFJ (by omega) hf ⟨rfl, hP J hJ.kq' (hJ.kn (by omega)) (hJ.1 57 (by decide))⟩ n 0 (by omega)
/-- a LAST MARK or none -/
theorem kB_val {I : st_I} {nF nf np n : Nat} (HF : iv_facts I nF) (hn : n ≤ nF) (hnf : nf ≤ 8) (hnp : np ≤ 10) : ∀ m, m ≤ n → ∀ j, kB (I 29) (nI np) (nI nf) n m j = -1 ∨ ∃ v, v ≤ 100 ∧ kB (I 29) (nI np) (nI nf) n m j = nI v := by
  intro m
  induction m with
  | zero => intro _ j; exact Or.inl rfl
  | succ m ih =>
    intro hm j
    rw [kB]
    by_cases e : kcb (I 29) (nI np) (nI nf) n m = true
    · rw [if_pos e]
      by_cases z : j = pi8 (I 29) m
      · right
        unfold kcb kc at e
        obtain ⟨e1, e2⟩ := Bool.and_eq_true_iff.mp e
        obtain ⟨e3, e4⟩ := Bool.and_eq_true_iff.mp e1
        obtain ⟨p, f, hp, hf, r1, r2, r3, hpi, c1, c2, hc⟩ := kb_ok HF hn (by omega) hnf hnp e4
        rcases hc with ⟨-, -, ⟨v, hv, v1⟩, -⟩ | ⟨z1, -⟩
        · exact ⟨v, hv, by simp only [upd, if_pos z]; exact v1⟩
        · have := of_decide_eq_true e3
          rw [z1] at this; exact absurd this (by decide)
      · simp only [upd, if_neg z]; exact ih (by omega) j
    · rw [if_neg e]; exact ih (by omega) j
/-- BEATS -/
def ab (B T : Nat → Int32) (f o : Nat) : Nat → Nat := cn (fun p => decide (T (5 * p) = 0) && (!decide (B (8 * p + o) = -1) && decide (B (8 * p + o) < B (8 * p + f))))
theorem pX_above {d lv nf np nb nl npl f o : Nat} {B : Nat → Int32} {J : st_I} {L : st_L} {F : Int32 → st_I → st_L → Prop} (HJ : iv_told J lv nf np nb nl npl) (hB : ∀ j, j < 80 → J 32 j = B j) (hf : f < nf) (ho : o < nf) (h : F (nI (ab B (J 3) f o np)) J L) : EI (d + 2) mX2_above [.ref 30, .ref 1, .int (nI f), .int (nI o)] J L F := by
  obtain ⟨hlv, b1, b2, b3, b4, b5, h18, c0, c1, -⟩ := id HJ.1
  have key : ∀ (r p : Nat), p + r = np → TI (d + 2) mX2_above 24 [.ref 30, .ref 1, .int (nI f), .int (nI o), .int (nI (ab B (J 3) f o p)), .int (nI p), .null, .null] [] J L F := by
    intro r
    induction r with
    | zero =>
      intro p hp
      obtain rfl : p = np := by omega
      refine sgX2_above_24 ?_
      rw [c1, if_pos (nI_le (Nat.le_refl _) (by omega))]; exact h
    | succ r ih =>
      intro p hp
      have st := ih (p + 1) (by omega)
      rw [ab, cn, ← ab] at st
      have m8 : ∀ x, nI p * 8 + nI x = nI (8 * p + x) := fun x => by rw [show (8 : Int32) = nI 8 from rfl, pk_mul, nI_add, Nat.mul_comm]
      refine sgX2_above_24 ?_
      rw [c1, if_neg (nI_ge (by omega) (by omega)), m8, m8, nI_clamp (show 8 * p + f < 2 ^ 31 by omega), nI_clamp (show 8 * p + o < 2 ^ 31 by omega), hB _ (by omega), hB _ (by omega), nI_1, nI_1]
      refine ⟨vp_in_nI (by omega) (by decide), vp_in_nI (by omega) (by decide), x_isPlayer_i HJ (by omega) ?_⟩
      by_cases z : J 3 (5 * p) = 0
      · rw [decide_eq_true z, Bool.true_and] at st
        rw [if_pos z, if_neg (by decide)]
        by_cases y : B (8 * p + o) = -1
        · rw [decide_eq_true y, Bool.not_true, Bool.false_and, if_neg (by decide), Nat.add_zero] at st
          rw [if_pos y]; exact st
        · rw [decide_eq_false y, Bool.not_false, Bool.true_and] at st
          rw [if_neg y]
          by_cases x : B (8 * p + f) ≤ B (8 * p + o)
          · rw [decide_eq_false (Int32.not_lt.mpr x), if_neg (by decide), Nat.add_zero] at st
            rw [if_pos x]; exact st
          · rw [decide_eq_true (Int32.not_le.mp x), if_pos rfl] at st
            rw [if_neg x]; exact st
      · rw [decide_eq_false z, Bool.false_and, if_neg (by decide), Nat.add_zero] at st
        rw [if_neg z, if_pos rfl]; exact st
  refine sgX2_above_0 (x_hasFiddle_i HJ hf ?_)
  rw [if_neg (by decide)]
  refine x_hasFiddle_i HJ ho ?_
  rw [if_neg (by decide)]
  exact key np 0 (by omega)
theorem pM_beatsBy {d lv nf np nb nl npl f o : Nat} {B : Nat → Int32} {J : st_I} {L : st_L} {F : Int32 → st_I → st_L → Prop} (HJ : iv_told J lv nf np nb nl npl) (hB : ∀ j, j < 80 → J 101 j = B j) (hv : ∀ j, B j = -1 ∨ ∃ v, v ≤ 100 ∧ B j = nI v) (hf : f < nf) (ho : o < nf) (h : F (nI (ab B (J 3) f o np)) J L) : EI (d + 1) mX12_beatsBy [.ref 58, .int (nI f), .int (nI o)] J L F := by
  obtain ⟨hlv, b1, b2, b3, b4, b5, h18, c0, c1, c2, c3, c4, m0, m1, -⟩ := id HJ.1
  have key : ∀ (r p : Nat), p + r = np → TI (d + 1) mX12_beatsBy 5 [.ref 58, .int (nI f), .int (nI o), .int (nI (ab B (J 3) f o p)), .int (nI p)] [] J L F := by
    intro r
    induction r with
    | zero =>
      intro p hp
      obtain rfl : p = np := by omega
      refine sgX12_beatsBy_5 ?_
      rw [h18, nI_clamp (by omega), m1, if_pos (nI_le (Nat.le_refl _) (by omega))]
      exact ⟨vp_in_nI (by omega) (by decide), h⟩
    | succ r ih =>
      intro p hp
      have st := ih (p + 1) (by omega)
      rw [ab, cn, ← ab] at st
      have vf : vp_in (nI (8 * p + f)) 80 := vp_in_nI (by omega) (by decide)
      have vo : vp_in (nI (8 * p + o)) 80 := vp_in_nI (by omega) (by decide)
      refine sgX12_beatsBy_5 ?_
      rw [h18, nI_clamp (by omega), m1, if_neg (nI_ge (by omega) (by omega))]
      refine ⟨vp_in_nI (by omega) (by decide), pM_isPlayer HJ (by omega) ?_⟩
      rw [show (8 : Int32) * nI p + nI f = nI (8 * p + f) from mx 8 p f, show (8 : Int32) * nI p + nI o = nI (8 * p + o) from mx 8 p o, nI_clamp (show 8 * p + f < 2 ^ 31 by omega), nI_clamp (show 8 * p + o < 2 ^ 31 by omega), hB _ (by omega), hB _ (by omega), nI_1, nI_1]
      by_cases z : J 3 (5 * p) = 0
      · rw [decide_eq_true z, Bool.true_and] at st
        rw [if_pos z, if_neg (by decide)]
        refine ⟨vf, ?_⟩
        by_cases x : B (8 * p + f) = -1
        · rw [if_pos x]
          have : (!decide (B (8 * p + o) = -1) && decide (B (8 * p + o) < B (8 * p + f))) = false := by
            rcases hv (8 * p + o) with y | ⟨v, hv1, y⟩
            · rw [decide_eq_true y]; rfl
            · rw [x, y, decide_eq_false (show ¬ nI v < -1 from fun w => absurd (Int32.lt_of_le_of_lt (nI_pos' (show v < 2 ^ 31 by omega)) w) (by decide)), Bool.and_false]
          rw [this, if_neg (by decide), Nat.add_zero] at st
          exact st
        · rw [if_neg x]
          refine ⟨vo, ?_⟩
          by_cases y : B (8 * p + o) = -1
          · rw [decide_eq_true y, Bool.not_true, Bool.false_and, if_neg (by decide), Nat.add_zero] at st
            rw [if_pos y]; exact st
          · rw [decide_eq_false y, Bool.not_false, Bool.true_and] at st
            rw [if_neg y]
            refine ⟨vf, vo, ?_⟩
            by_cases w : B (8 * p + f) ≤ B (8 * p + o)
            · rw [decide_eq_false (Int32.not_lt.mpr w), if_neg (by decide), Nat.add_zero] at st
              rw [if_pos w]; exact st
            · rw [decide_eq_true (Int32.not_le.mp w), if_pos rfl] at st
              rw [if_neg w]; exact st
      · rw [decide_eq_false z, Bool.false_and, if_neg (by decide), Nat.add_zero] at st
        rw [if_neg z, if_pos rfl]; exact st
  exact sgX12_beatsBy_0 (key np 0 (by omega))
theorem ab_le (B T : Nat → Int32) (f o p : Nat) : ab B T f o p ≤ p := cn_le _ p
theorem op_beats {lv nf np nb nl npl nF : Nat} {I : st_I} {L : st_L} {P : st_I → st_L → Prop} (H : iv_told I lv nf np nb nl npl) (HF : iv_facts I nF) (hk : iv_kn I nf np nF) (hP : ∀ J, kq I J → iv_kn J nf np nF → J 57 = I 57 → P J L) (c a b : Int32) :
    EI 60 mX11_beats [.ref 0, .int c, .int a, .int b] I L (fun r I1 L1 => EI 60 mX12_beats [.ref 58, .int c, .int a, .int b] I1 L1 (fun r' I2 L2 => r' = r ∧ P I2 L2)) := by
  have no : P I L := hP I kq.rf hk rfl
  have h80 := HF.1
  obtain ⟨hlv, b1, b2, b3, b4, b5, h18, -⟩ := id H.1
  have bad : ot a nf ∨ (∃ f, f < nf ∧ a = nI f ∧ ot b nf) → EI 60 mX12_beats [.ref 58, .int c, .int a, .int b] I L (fun r' I2 L2 => r' = -1 ∧ P I2 L2) := by
    intro h
    refine sgX12_beats_0 ?_
    rcases ot_ix c (nF + 1) (by omega) with ho2 | ⟨n, hn, rfl⟩
    · refine m_isKnown_o HF ho2 ?_
      rw [if_pos rfl]; exact ⟨rfl, no⟩
    · refine m_isKnown_i HF (by omega) ?_
      rw [if_neg (by decide)]
      rcases h with ho | ⟨f, hf, rfl, ho⟩
      · refine m_isFiddle_o H ho ?_
        rw [if_pos rfl]; exact ⟨rfl, no⟩
      · refine m_isFiddle_i H hf ?_
        rw [if_neg (by decide)]
        refine m_isFiddle_o H ho ?_
        rw [if_pos rfl]; exact ⟨rfl, no⟩
  refine sgX11_beats_0 ?_
  rcases ot_ix a nf (by omega) with ho | ⟨f, hf, rfl⟩
  · refine x_hasFiddle_o H ho ?_
    rw [if_pos rfl]; exact bad (Or.inl ho)
  refine x_hasFiddle_i H hf ?_
  rw [if_neg (by decide)]
  rcases ot_ix b nf (by omega) with ho | ⟨o, hoo, rfl⟩
  · refine x_hasFiddle_o H ho ?_
    rw [if_pos rfl]; exact bad (Or.inr ⟨f, hf, rfl, ho⟩)
  refine x_hasFiddle_i H hoo ?_
  rw [if_neg (by decide)]
  rcases ot_ix c (nF + 1) (by omega) with ho | ⟨n, hn, rfl⟩
  · refine x_knows_o HF ho ?_
    rw [if_pos rfl]
    refine sgX12_beats_0 (m_isKnown_o HF ho ?_)
    rw [if_pos rfl]; exact ⟨rfl, no⟩
  refine x_knows_i H HF hk (by omega) (fun J hJ => ?_)
  have HJ := hJ.kq'.told H
  have HFJ := hJ.kq'.facts HF
  rw [if_neg (by decide)]
  refine pX_above HJ hJ.2.2.2.1 hf hoo ?_
  refine sgX12_beats_0 (m_isKnown_i HFJ (by omega) ?_)
  rw [if_neg (by decide)]
  refine m_isFiddle_i HJ hf ?_
  rw [if_neg (by decide)]
  refine m_isFiddle_i HJ hoo ?_
  rw [if_neg (by decide)]
  refine pM_gathers HJ HFJ (by omega) (fun K hK h1 _ => ?_)
  refine pM_beatsBy ((kq_g hK).told HJ) h1 (kB_val HFJ (by omega) b1 b2 n (Nat.le_refl _)) hf hoo ⟨?_, hP K (hJ.kq'.tr (kq_g hK)) (iv_kn_same (fun q hq => hK q (by omega) (by omega)) (hJ.kn (by omega))) (by rw [hK 57 (by decide) (by decide), hJ.1 57 (by decide)])⟩
  rw [hK 3 (by decide) (by decide)]
/-- whether there is a MEAN -/
theorem x_hasMean_i {d a : Nat} {J : st_I} {L : st_L} {F : Int32 → st_I → st_L → Prop} (ha : a < 16) (hp : ¬ J 36 a ≤ 0) (h : F 1 J L) : EI d mX2_hasMean [.ref 30, .int (nI a)] J L F := by
  refine sgX2_hasMean_0 ?_
  rw [if_neg (nI_pos (by omega)), if_neg (show ¬ (16 : Int32) ≤ nI a from nI_ge (b := 16) ha (by decide)), nI_clamp (by omega), if_neg hp]
  exact ⟨vp_in_nI (by omega) (by decide), h⟩
theorem x_hasMean_o {d a : Nat} {J : st_I} {L : st_L} {F : Int32 → st_I → st_L → Prop} (ha : a < 16) (hp : J 36 a ≤ 0) (h : F 0 J L) : EI d mX2_hasMean [.ref 30, .int (nI a)] J L F := by
  refine sgX2_hasMean_0 ?_
  rw [if_neg (nI_pos (by omega)), if_neg (show ¬ (16 : Int32) ≤ nI a from nI_ge (b := 16) ha (by decide)), nI_clamp (by omega), if_pos hp]
  exact ⟨vp_in_nI (by omega) (by decide), h⟩
/-- THE WINNER -/
def wo1 (B T : Nat → Int32) (nf np f : Nat) : Bool := decide (∀ o, o < nf → (o ≠ f → 0 < sM B T 0 o np → ab B T o f np < ab B T f o np))
def wok (B T : Nat → Int32) (nf np f : Nat) : Bool := decide (0 < sM B T 0 f np) && wo1 B T nf np f
def fw (ok : Nat → Bool) : Nat → Nat → Int32
  | 0, _ => -2
  | r + 1, f => if ok f then nI f else fw ok r (f + 1)
theorem pX_beatingAll {d lv nf np nb nl npl : Nat} {B : Nat → Int32} {J : st_I} {L : st_L} {F : Int32 → st_I → st_L → Prop} (HJ : iv_told J lv nf np nb nl npl) (hB : ∀ j, j < 80 → J 32 j = B j) (h36 : ∀ f, f < nf → J 36 f = nI (sM B (J 3) 0 f np)) (h : F (fw (wok B (J 3) nf np) nf 0) J L) : EI (d + 4) mX2_beatingAll [.ref 30, .ref 1] J L F := by
  obtain ⟨hlv, b1, b2, b3, b4, b5, h18, c0, c1, -⟩ := id HJ.1
  have oth : ∀ (f : Nat) {G : Int32 → st_I → st_L → Prop}, f < nf → G (b01 (wo1 B (J 3) nf np f)) J L → EI (d + 3) mX2_beatsOthers [.ref 30, .ref 1, .int (nI f)] J L G := by
    intro f G hf hG
    have key : ∀ (r o : Nat), o + r = nf → (∀ x, x < o → (x ≠ f → 0 < sM B (J 3) 0 x np → ab B (J 3) x f np < ab B (J 3) f x np)) → TI (d + 3) mX2_beatsOthers 2 [.ref 30, .ref 1, .int (nI f), .int (nI o)] [] J L G := by
      intro r
      induction r with
      | zero =>
        intro o ho hall
        obtain rfl : o = nf := by omega
        refine sgX2_beatsOthers_2 ?_
        rw [c0, if_pos (nI_le (Nat.le_refl _) (by omega))]
        unfold wo1 at hG
        rw [decide_eq_true hall] at hG; exact hG
      | succ r ih =>
        intro o ho hall
        have more : (o ≠ f → 0 < sM B (J 3) 0 o np → ab B (J 3) o f np < ab B (J 3) f o np) → TI (d + 3) mX2_beatsOthers 2 [.ref 30, .ref 1, .int (nI f), .int (nI (o + 1))] [] J L G := by
          intro hm
          refine ih (o + 1) (by omega) (fun x hx => ?_)
          by_cases e : x = o
          · subst e; exact hm
          · exact hall x (by omega)
        have hM := sM_le B (J 3) 0 o np
        refine sgX2_beatsOthers_2 ?_
        rw [c0, if_neg (nI_ge (by omega) (by omega)), nI_1]
        by_cases e : o = f
        · rw [if_pos (by rw [e])]; exact more (fun z => absurd e z)
        · rw [if_neg (sw_ne o f (by omega) (by omega) e)]
          by_cases z : 0 < sM B (J 3) 0 o np
          · refine x_hasMean_i (by omega) (by rw [h36 o (by omega)]; exact nI_nle z (by omega)) ?_
            rw [if_neg (by decide)]
            refine pX_above HJ hB hf (by omega) (pX_above HJ hB (by omega) hf ?_)
            have l1 := ab_le B (J 3) f o np
            have l2 := ab_le B (J 3) o f np
            by_cases y : ab B (J 3) o f np < ab B (J 3) f o np
            · rw [if_pos (nI_lt y (by omega))]; exact more (fun _ _ => y)
            · rw [if_neg (nI_nlt (by omega) (by omega))]
              have : wo1 B (J 3) nf np f = false := decide_eq_false (fun w => y (w o (by omega) e z))
              rw [this] at hG; exact hG
          · refine x_hasMean_o (by omega) (by rw [h36 o (by omega), show sM B (J 3) 0 o np = 0 by omega]; decide) ?_
            rw [if_pos rfl]
            exact more (fun _ w => absurd w z)
    exact sgX2_beatsOthers_0 (key nf 0 (by omega) (fun x hx => absurd hx (Nat.not_lt_zero _)))
  have key : ∀ (r f : Nat), f + r = nf → F (fw (wok B (J 3) nf np) r f) J L → TI (d + 4) mX2_beatingAll 2 [.ref 30, .ref 1, .int (nI f)] [] J L F := by
    intro r
    induction r with
    | zero =>
      intro f hf hF
      obtain rfl : f = nf := by omega
      refine sgX2_beatingAll_2 ?_
      rw [c0, if_pos (nI_le (Nat.le_refl _) (by omega))]; exact hF
    | succ r ih =>
      intro f hf hF
      have hM := sM_le B (J 3) 0 f np
      rw [fw] at hF
      refine sgX2_beatingAll_2 ?_
      rw [c0, if_neg (nI_ge (by omega) (by omega)), nI_1]
      by_cases z : 0 < sM B (J 3) 0 f np
      · refine x_hasMean_i (by omega) (by rw [h36 f (by omega)]; exact nI_nle z (by omega)) ?_
        rw [if_neg (by decide)]
        refine oth f (by omega) ?_
        have e : wok B (J 3) nf np f = wo1 B (J 3) nf np f := by unfold wok; rw [decide_eq_true z, Bool.true_and]
        rw [e] at hF
        cases hw : wo1 B (J 3) nf np f
        · rw [hw, if_neg (by decide)] at hF
          rw [if_pos (by decide)]; exact ih (f + 1) (by omega) hF
        · rw [hw, if_pos rfl] at hF
          rw [if_neg (by decide)]; exact hF
      · have e : wok B (J 3) nf np f = false := by unfold wok; rw [decide_eq_false z, Bool.false_and]
        rw [e, if_neg (by decide)] at hF
        refine x_hasMean_o (by omega) (by rw [h36 f (by omega), show sM B (J 3) 0 f np = 0 by omega]; decide) ?_
        rw [if_pos rfl]
        exact ih (f + 1) (by omega) hF
  exact sgX2_beatingAll_0 (key nf 0 (by omega) h)
theorem pM_winnerOf {d lv nf np nb nl npl nF n : Nat} {J : st_I} {L : st_L} {F : Int32 → st_I → st_L → Prop} (HJ : iv_told J lv nf np nb nl npl) (HF : iv_facts J nF) (hn : n ≤ nF) (h : ∀ K : st_I, (∀ q, q ≠ 101 → q ≠ 102 → K q = J q) → F (fw (wok (kB (J 29) (nI np) (nI nf) n n) (J 3) nf np) nf 0) K L) : EI (d + 4) mX12_winnerOf [.ref 58, .int (nI n)] J L F := by
  obtain ⟨hlv, b1, b2, b3, b4, b5, h18, c0, c1, c2, c3, c4, m0, m1, -⟩ := id HJ.1
  refine sgX12_winnerOf_0 (pM_gathers HJ HF hn (fun K hK h1 _ => ?_))
  have HK := (kq_g hK).told HJ
  have hv := kB_val HF hn b1 b2 n (Nat.le_refl _)
  have e3 := hK 3 (by decide) (by decide)
  have v2 : vp_in (nI lv) 2 := vp_in_nI (by omega) (by decide)
  have h18K : K 58 18 = nI lv := HK.1.2.2.2.2.2.2.1
  have m0K : K 69 lv = nI nf := by rw [hK 69 (by decide) (by decide)]; exact m0
  have hF := h K hK
  generalize kB (J 29) (nI np) (nI nf) n n = B at h1 hv hF
  rw [← e3] at hF
  have oth : ∀ (f : Nat), f < nf → (wo1 B (K 3) nf np f = true → F (nI f) K L) → (wo1 B (K 3) nf np f = false → TI (d + 4) mX12_winnerOf 7 [.ref 58, .null, .int (nI (f + 1)), .null, .null] [] K L F) → ∀ (r o : Nat) (x : Int32), o + r = nf → ((x = 1 ∧ ∀ y, y < o → (y ≠ f → 0 < sM B (K 3) 0 y np → ab B (K 3) y f np < ab B (K 3) f y np)) ∨ (x = 0 ∧ wo1 B (K 3) nf np f = false)) → TI (d + 4) mX12_winnerOf 37 [.ref 58, .null, .int (nI f), .int x, .int (nI o)] [] K L F := by
    intro f hf ky kn r
    induction r with
    | zero =>
      intro o x ho hx
      obtain rfl : o = nf := by omega
      refine sgX12_winnerOf_37 ?_
      rw [h18K, nI_clamp (by omega), m0K, if_pos (nI_le (Nat.le_refl _) (by omega)), nI_1]
      refine ⟨v2, ?_⟩
      rcases hx with ⟨hx, hall⟩ | ⟨hx, hw⟩
      · rw [hx, if_neg (by decide)]; exact ky (decide_eq_true hall)
      · rw [hx, if_pos rfl]; exact kn hw
    | succ r ih =>
      intro o x ho hx
      have more : (o ≠ f → 0 < sM B (K 3) 0 o np → ab B (K 3) o f np < ab B (K 3) f o np) → TI (d + 4) mX12_winnerOf 37 [.ref 58, .null, .int (nI f), .int x, .int (nI (o + 1))] [] K L F := by
        intro hm
        refine ih (o + 1) x (by omega) ?_
        rcases hx with ⟨hx, hall⟩ | ⟨hx, hw⟩
        · refine Or.inl ⟨hx, fun y hy => ?_⟩
          by_cases e : y = o
          · subst e; exact hm
          · exact hall y (by omega)
        · exact Or.inr ⟨hx, hw⟩
      have hM := sM_le B (K 3) 0 o np
      refine sgX12_winnerOf_37 ?_
      rw [h18K, nI_clamp (by omega), m0K, if_neg (nI_ge (by omega) (by omega)), nI_1]
      refine ⟨v2, ?_⟩
      by_cases e : o = f
      · rw [if_pos (by rw [e])]; exact more (fun z => absurd e z)
      · rw [if_neg (sw_ne o f (by omega) (by omega) e)]
        refine pM_manyOf B HK h1 (by omega) ?_
        by_cases z : 0 < sM B (K 3) 0 o np
        · rw [if_neg (nI_nle z (by omega))]
          refine pM_beatsBy HK h1 hv hf (by omega) (pM_beatsBy HK h1 hv (by omega) hf ?_)
          have l1 := ab_le B (K 3) f o np
          have l2 := ab_le B (K 3) o f np
          by_cases y : ab B (K 3) o f np < ab B (K 3) f o np
          · rw [if_pos (nI_lt y (by omega))]; exact more (fun _ _ => y)
          · rw [if_neg (nI_nlt (by omega) (by omega))]
            exact ih (o + 1) 0 (by omega) (Or.inr ⟨rfl, decide_eq_false (fun w => y (w o (by omega) e z))⟩)
        · rw [show sM B (K 3) 0 o np = 0 by omega, if_pos (by decide)]
          exact more (fun _ w => absurd w z)
  have key : ∀ (r f : Nat), f + r = nf → F (fw (wok B (K 3) nf np) r f) K L → TI (d + 4) mX12_winnerOf 7 [.ref 58, .null, .int (nI f), .null, .null] [] K L F := by
    intro r
    induction r with
    | zero =>
      intro f hf hF
      obtain rfl : f = nf := by omega
      refine sgX12_winnerOf_7 ?_
      rw [h18K, nI_clamp (by omega), m0K, if_pos (nI_le (Nat.le_refl _) (by omega))]; exact ⟨v2, hF⟩
    | succ r ih =>
      intro f hf hF
      have hM := sM_le B (K 3) 0 f np
      rw [fw] at hF
      refine sgX12_winnerOf_7 ?_
      rw [h18K, nI_clamp (by omega), m0K, if_neg (nI_ge (by omega) (by omega)), nI_1]
      refine ⟨v2, pM_manyOf B HK h1 (by omega) ?_⟩
      by_cases z : 0 < sM B (K 3) 0 f np
      · rw [if_neg (nI_ne0 z (by omega))]
        have e : wok B (K 3) nf np f = wo1 B (K 3) nf np f := by unfold wok; rw [decide_eq_true z, Bool.true_and]
        rw [e] at hF
        refine oth f (by omega) (fun hw => ?_) (fun hw => ?_) nf 0 1 (by omega) (Or.inl ⟨rfl, fun y hy => absurd hy (Nat.not_lt_zero _)⟩)
        · rw [hw, if_pos rfl] at hF; exact hF
        · rw [hw, if_neg (by decide)] at hF; exact ih (f + 1) (by omega) hF
      · have e : wok B (K 3) nf np f = false := by unfold wok; rw [decide_eq_false z, Bool.false_and]
        rw [e, if_neg (by decide)] at hF
        rw [show sM B (K 3) 0 f np = 0 by omega, if_pos (by decide)]
        exact ih (f + 1) (by omega) hF
  exact key nf 0 (by omega) hF
theorem op_winner {lv nf np nb nl npl nF : Nat} {I : st_I} {L : st_L} {P : st_I → st_L → Prop} (H : iv_told I lv nf np nb nl npl) (HF : iv_facts I nF) (hk : iv_kn I nf np nF) (hP : ∀ J, kq I J → iv_kn J nf np nF → J 57 = I 57 → P J L) (c : Int32) :
    EI 60 mX11_winner [.ref 0, .int c] I L (fun r I1 L1 => EI 60 mX12_winner [.ref 58, .int c] I1 L1 (fun r' I2 L2 => r' = r ∧ P I2 L2)) := by
  have no : P I L := hP I kq.rf hk rfl
  have h80 := HF.1
  refine sgX11_winner_0 ?_
  rcases ot_ix c (nF + 1) (by omega) with ho | ⟨n, hn, rfl⟩
  · refine x_knows_o HF ho ?_
    rw [if_pos rfl]
    refine sgX12_winner_0 (m_isKnown_o HF ho ?_)
    rw [if_pos rfl]; exact ⟨rfl, no⟩
  refine x_knows_i H HF hk (by omega) (fun J hJ => ?_)
  have HJ := hJ.kq'.told H
  have HFJ := hJ.kq'.facts HF
  rw [if_neg (by decide)]
  refine pX_beatingAll HJ hJ.2.2.2.1 (fun f hf => (hJ.2.2.2.2.2.2.1 f hf).2.2.1) ?_
  refine sgX12_winner_0 (m_isKnown_i HFJ (by omega) ?_)
  rw [if_neg (by decide)]
  exact pM_winnerOf HJ HFJ (by omega) (fun K hK => ⟨rfl, hP K (hJ.kq'.tr (kq_g hK)) (iv_kn_same (fun q hq => hK q (by omega) (by omega)) (hJ.kn (by omega))) (by rw [hK 57 (by decide) (by decide), hJ.1 57 (by decide)])⟩)
