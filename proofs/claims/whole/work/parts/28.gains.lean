theorem op_touch {lv nf np nb nl npl : Nat} {I : st_I} {L : st_L} {P : st_I → st_L → Prop} (H : iv_told I lv nf np nb nl npl) (no : P I L) (hP : ∀ J, (∀ q, q ≠ 26 → q ≠ 27 → q ≠ 92 → q ≠ 93 → q ≠ 94 → J q = I q) → iv_set J → P J L) (a b c e t m : Int32) :
    EI 60 mX11_touch [.ref 0, .int a, .int b, .int c, .int e, .int t, .int m] I L (fun r I1 L1 => EI 60 mX12_touch [.ref 58, .int a, .int b, .int c, .int e, .int t, .int m] I1 L1 (fun r' I2 L2 => r' = r ∧ P I2 L2)) := by
  obtain ⟨hlv, b1, b2, b3, b4, b5, h18, -⟩ := id H.1
  refine sgX11_touch_0 ?_
  rcases ot_ix a nl (by omega) with ho | ⟨w, hw, rfl⟩
  · refine x_hasLaw_o H ho ?_
    rw [if_pos rfl]
    refine sgX12_touch_0 (m_isLaw_o H ho ?_)
    rw [if_pos rfl]; exact ⟨rfl, no⟩
  refine x_hasLaw_i H hw ?_
  rw [if_neg (by decide)]
  have t1 : ∀ (J : st_I) {F : Int32 → st_I → st_L → Prop}, iv_told J lv nf np nb nl npl → EI 59 mX12_isPerson [.ref 58, .int b] J L (fun r2 I2 L2 => (if r2 = 0 then F (-2147483648) I2 L2 else EI 59 mX12_isFiddle [.ref 58, .int c] I2 L2 (fun r3 I3 L3 => (if r3 = 0 then F (-2147483648) I3 L3 else EI 59 mX12_isBow [.ref 58, .int e] I3 L3 (fun r4 I4 L4 => (if r4 = 0 then F (-2147483648) I4 L4 else EI 59 mX12_in [.int t, .int 0, .int 3] I4 L4 (fun r5 I5 L5 => (if r5 = 0 then F (-2147483648) I5 L5 else EI 59 mX12_touched [.ref 58, .int (nI w), .int b, .int c, .int e, .int t, .int m] I5 L5 (fun r6 I6 L6 => F r6 I6 L6))))))))) → EI 60 mX12_touch [.ref 58, .int (nI w), .int b, .int c, .int e, .int t, .int m] J L F := by
    intro J F HJ h
    refine sgX12_touch_0 (m_isLaw_i HJ hw ?_)
    rw [if_neg (by decide)]; exact h
  rcases ot_ix b np (by omega) with ho | ⟨p, hp, rfl⟩
  · refine x_meet_o H (Or.inl ho) ?_
    rw [if_pos rfl]
    refine t1 I H (m_isPerson_o H ho ?_)
    rw [if_pos rfl]; exact ⟨rfl, no⟩
  rcases ot_ix c nf (by omega) with ho | ⟨f, hf, rfl⟩
  · refine x_meet_o H (Or.inr (Or.inl ho)) ?_
    rw [if_pos rfl]
    refine t1 I H (m_isPerson_i H hp ?_)
    rw [if_neg (by decide)]
    refine m_isFiddle_o H ho ?_
    rw [if_pos rfl]; exact ⟨rfl, no⟩
  rcases ot_ix e nb (by omega) with ho | ⟨g, hg, rfl⟩
  · refine x_meet_o H (Or.inr (Or.inr ho)) ?_
    rw [if_pos rfl]
    refine t1 I H (m_isPerson_i H hp ?_)
    rw [if_neg (by decide)]
    refine m_isFiddle_i H hf ?_
    rw [if_neg (by decide)]
    refine m_isBow_o H ho ?_
    rw [if_pos rfl]; exact ⟨rfl, no⟩
  refine x_meet_i H hp hf hg ?_
  rw [if_neg (by decide)]
  have t2 : ∀ (J : st_I) {F : Int32 → st_I → st_L → Prop}, iv_told J lv nf np nb nl npl → EI 59 mX12_in [.int t, .int 0, .int 3] J L (fun r5 I5 L5 => (if r5 = 0 then F (-2147483648) I5 L5 else EI 59 mX12_touched [.ref 58, .int (nI w), .int (nI p), .int (nI f), .int (nI g), .int t, .int m] I5 L5 (fun r6 I6 L6 => F r6 I6 L6))) → EI 60 mX12_touch [.ref 58, .int (nI w), .int (nI p), .int (nI f), .int (nI g), .int t, .int m] J L F := by
    intro J F HJ h
    refine t1 J HJ (m_isPerson_i HJ hp ?_)
    rw [if_neg (by decide)]
    refine m_isFiddle_i HJ hf ?_
    rw [if_neg (by decide)]
    refine m_isBow_i HJ hg ?_
    rw [if_neg (by decide)]; exact h
  rcases ot_ix t 4 (by decide) with ho | ⟨u, hu, rfl⟩
  · have bad : EI 60 mX12_touch [.ref 58, .int (nI w), .int (nI p), .int (nI f), .int (nI g), .int t, .int m] I L (fun r' I2 L2 => r' = -2147483648 ∧ P I2 L2) := by
      refine t2 I H (in_out (n := 4) (by decide) ho ?_)
      rw [if_pos rfl]; exact ⟨rfl, no⟩
    by_cases q : t < 0
    · rw [if_pos q]; exact bad
    · obtain ⟨i, hi, rfl⟩ := nI_of q
      have : 4 ≤ i := (nI_leI (by omega) hi).mp (ho.resolve_left q)
      rw [if_neg q, if_neg (show ¬ nI i ≤ 3 from nI_ge (a := 3) (by omega) hi)]; exact bad
  rw [if_neg (nI_pos (by omega)), if_pos (show nI u ≤ 3 from nI_le (b := 3) (by omega) (by decide))]
  refine pX_meet H hp hf hg (fun g1 hg1 => ?_)
  refine pX_attend (I0 := I) (s := s0) (p := p) (f := f) (b := g) (by rw [r_at]; exact hg1) (fun g2 hg2 => ?_)
  rw [r_r]
  refine pX_extreme (I := I) (p := p) (f := f) (b := g) H hw hu _ (xs.rf.r26 g2) (fun z hz => by rw [r_at]; exact hg2 z hz) (fun r J hJ hr => ?_)
  have HJ := hJ.told H
  refine t2 J HJ (in_in (n := 4) (by decide) hu ?_)
  rw [if_neg (by decide)]
  refine pM_touched HJ hw hp hf hg hu (fun r' K hK hset hr' => ⟨?_, hP K (fun q a1 a2 a3 a4 a5 => by rw [hK q a3 a4 a5, hJ q a1 a2]) hset⟩)
  refine isMx_u hr' (isMx_congr (fun x => ?_) hr)
  unfold V3
  simp only [hJ.vl]
noncomputable def mxv (V : Int32 → Prop) : Int32 := Classical.epsilon (fun r => isMx 1 r V)
theorem mxv_eq {r : Int32} {V : Int32 → Prop} (h : isMx 1 r V) : r = mxv V := isMx_u h (Classical.epsilon_spec (p := fun r => isMx 1 r V) ⟨r, h⟩)
/-- what a PERSON gains on a FIDDLE -/
noncomputable def gv (I : st_I) (w b t p f : Nat) : Int64 := (mxv (V3 I w p f b t)).toInt64 - (LK I w (vr I p f b 0 0 0 s0)).toInt64
theorem gv_xs {I J : st_I} (h : xs I J) (w b t p f : Nat) : gv J w b t p f = gv I w b t p f := by
  unfold gv
  have e : V3 J w p f b t = V3 I w p f b t := by funext x; unfold V3; simp only [h.vl]
  rw [e, LK_same (h 5 (by decide) (by decide)) (h 6 (by decide) (by decide)), vr_same (h 2 (by decide) (by decide)) (h 3 (by decide) (by decide)) (h 4 (by decide) (by decide))]
theorem gv_mt {I J : st_I} (h : mt I J) (w b t p f : Nat) : gv J w b t p f = gv I w b t p f := by
  unfold gv
  have e : V3 J w p f b t = V3 I w p f b t := by funext x; unfold V3; simp only [h.vl]
  rw [e, LK_same (h 5 (by decide) (by decide) (by decide)) (h 6 (by decide) (by decide) (by decide)), vr_same (h 2 (by decide) (by decide) (by decide)) (h 3 (by decide) (by decide) (by decide)) (h 4 (by decide) (by decide) (by decide))]
/-- a sum in 64 bits -/
def sl (a : Nat → Int64) : Nat → Int64
  | 0 => 0
  | n + 1 => sl a n + a n
theorem sl_congr {a b : Nat → Int64} {n : Nat} (h : ∀ i, i < n → a i = b i) : sl a n = sl b n := by
  induction n with
  | zero => rfl
  | succ n ih => rw [sl, sl, ih (fun i hi => h i (by omega)), h n (by omega)]
theorem sl_add (a b : Nat → Int64) : ∀ n, sl (fun i => a i + b i) n = sl a n + sl b n
  | 0 => by simp [sl]
  | n + 1 => by
    rw [sl, sl, sl, sl_add a b n]
    simp only [Int64.add_assoc]
    congr 1
    rw [← Int64.add_assoc, ← Int64.add_assoc, Int64.add_comm (sl b n) (a n)]
theorem sl_zero : ∀ n, sl (fun _ => 0) n = 0
  | 0 => rfl
  | n + 1 => by rw [sl, sl_zero n]; rfl
theorem sl_swap (a : Nat → Nat → Int64) (n : Nat) : ∀ m, sl (fun i => sl (fun j => a i j) n) m = sl (fun j => sl (fun i => a i j) m) n
  | 0 => by simp only [sl]; exact (sl_zero n).symm
  | m + 1 => by
    rw [sl, sl_swap a n m]
    simp only [sl]
    exact (sl_add _ _ n).symm
/-- does it count -/
noncomputable def gq (I : st_I) (w b t : Nat) (old bar : Int32) (f p : Nat) : Int64 := if I 3 (5 * p) = 0 then (if I 2 (5 * f) = old then (if I 2 (5 * f + 4) = bar then gv I w b t p f else 0) else 0) else 0
theorem gq_xs {I J : st_I} (h : xs I J) (w b t : Nat) (old bar : Int32) (f p : Nat) : gq J w b t old bar f p = gq I w b t old bar f p := by
  unfold gq; rw [gv_xs h, h 2 (by decide) (by decide), h 3 (by decide) (by decide)]
theorem pX_gainsOn {d lv nf np nb nl npl w b t f : Nat} {I : st_I} {L : st_L} {F : Int64 → st_I → st_L → Prop} (H : iv_told I lv nf np nb nl npl) (hw : w < nl) (hf : f < nf) (hb : b < nb) (ht : t < 4) (h : ∀ J, xs I J → F (sl (fun p => if I 3 (5 * p) = 0 then gv I w b t p f else 0) np) J L) : EL (d + 5) mX11_gainsOn [.ref 0, .int (nI f), .int (nI w), .int (nI b), .int (nI t)] I L F := by
  obtain ⟨hlv, b1, b2, b3, b4, b5, h18, c0, c1, -⟩ := id H.1
  have key : ∀ (n p : Nat) (J : st_I), p + n = np → xs I J → TL (d + 5) mX11_gainsOn 6 [.ref 0, .int (nI f), .int (nI w), .int (nI b), .int (nI t), .long (sl (fun p => if I 3 (5 * p) = 0 then gv I w b t p f else 0) p), .null, .int (nI p), .null, .null] [] J L F := by
    intro n
    induction n with
    | zero =>
      intro p J hp hJ
      obtain rfl : p = np := by omega
      refine sgX11_gainsOn_6 ?_
      rw [hJ 1 (by decide) (by decide), c1, if_pos (nI_le (Nat.le_refl _) (by omega))]
      exact h J hJ
    | succ n ih =>
      intro p J hp hJ
      refine sgX11_gainsOn_6 ?_
      rw [hJ 1 (by decide) (by decide), c1, if_neg (nI_ge (by omega) (by omega))]
      refine x_isPlayer_i (hJ.told H) (by omega) ?_
      rw [hJ 3 (by decide) (by decide), nI_1]
      by_cases z : I 3 (5 * p) = 0
      · rw [if_pos z, if_neg (by decide)]
        refine pX_meet (hJ.told H) (by omega) hf hb (fun g1 hg1 => ?_)
        refine pX_attend (I0 := J) (s := s0) (p := p) (f := f) (b := b) (by rw [r_at]; exact hg1) (fun g2 hg2 => ?_)
        rw [r_r]
        have x0 : xs J (r_I J 26 g2) := xs.rf.r26 g2
        refine pX_likeT (x0.told (hJ.told H)) hw (fun J1 hx k26 => ?_)
        have eL : LK (r_I J 26 g2) w (r_I J 26 g2 26) = LK I w (vr I p f b 0 0 0 s0) := by
          have x1 := hJ.tr x0
          rw [LK_same (x1 5 (by decide) (by decide)) (x1 6 (by decide) (by decide)), r_at, LK_congr (v' := vr I p f b 0 0 0 s0) (H.2.2.2.2.1 w hw) (fun i hi => by rw [hg2 i hi, vr_same (hJ 2 (by decide) (by decide)) (hJ 3 (by decide) (by decide)) (hJ 4 (by decide) (by decide))])]
        rw [eL]
        have x2 := (hJ.tr x0).tr hx
        refine pX_extreme (I := I) (p := p) (f := f) (b := b) H hw ht J1 x2 (fun z hz => by rw [k26, r_at, hg2 z hz, vr_same (hJ 2 (by decide) (by decide)) (hJ 3 (by decide) (by decide)) (hJ 4 (by decide) (by decide))]) (fun r K hK hr => ?_)
        have := ih (p + 1) K (by omega) hK
        rw [sl, if_pos z] at this
        rw [mxv_eq hr]; exact this
      · rw [if_neg z, if_pos rfl]
        have := ih (p + 1) J (by omega) hJ
        rw [sl, if_neg z, Int64.add_zero] at this
        exact this
  exact sgX11_gainsOn_0 (key np 0 I (by omega) xs.rf)
theorem pX_gains {d lv nf np nb nl npl w b t : Nat} {old bar : Int32} {I : st_I} {L : st_L} {F : Int64 → st_I → st_L → Prop} (H : iv_told I lv nf np nb nl npl) (hw : w < nl) (hb : b < nb) (ht : t < 4) (h : ∀ J, xs I J → F (sl (fun f => sl (fun p => gq I w b t old bar f p) np) nf) J L) :
    ∀ (n f : Nat) (J : st_I), f + n = nf → xs I J → TL (d + 6) mX11_gains 80 [.ref 0, .int (nI w), .int (nI b), .int (nI t), .null, .int old, .int bar, .long (sl (fun f => sl (fun p => gq I w b t old bar f p) np) f), .null, .int (nI f)] [] J L F := by
  obtain ⟨hlv, b1, b2, b3, b4, b5, h18, c0, c1, -⟩ := id H.1
  intro n
  induction n with
  | zero =>
    intro f J hf hJ
    obtain rfl : f = nf := by omega
    refine sgX11_gains_80 ?_
    rw [hJ 1 (by decide) (by decide), c0, if_pos (nI_le (Nat.le_refl _) (by omega))]
    exact h J hJ
  | succ n ih =>
    intro f J hf hJ
    refine sgX11_gains_80 ?_
    rw [hJ 1 (by decide) (by decide), c0, if_neg (nI_ge (by omega) (by omega))]
    refine x_isOld_i (hJ.told H) (by omega) ?_
    rw [hJ 2 (by decide) (by decide), nI_1, show nI f * 5 + 4 = nI (5 * f + 4) by rw [ix50]; exact nI_add _ 4, nI_clamp (by omega)]
    have st := ih (f + 1) J (by omega) hJ
    rw [sl] at st
    have z0 : ∀ c : Prop, ¬ c → (∀ p, gq I w b t old bar f p = 0) → TL (d + 6) mX11_gains 80 [.ref 0, .int (nI w), .int (nI b), .int (nI t), .null, .int old, .int bar, .long (sl (fun f => sl (fun p => gq I w b t old bar f p) np) f), .null, .int (nI (f + 1))] [] J L F := by
      intro c _ hz
      rw [sl_congr (b := fun _ => 0) (fun i _ => hz i), sl_zero, Int64.add_zero] at st
      exact st
    by_cases z1 : I 2 (5 * f) = old
    · rw [if_pos z1]
      refine ⟨vp_in_nI (by omega) (by decide), ?_⟩
      by_cases z2 : I 2 (5 * f + 4) = bar
      · rw [if_pos z2]
        refine pX_gainsOn (I := J) (hJ.told H) hw (by omega) hb ht (fun K hK => ?_)
        have := ih (f + 1) K (by omega) (hJ.tr hK)
        rw [sl] at this
        have e : sl (fun p => if J 3 (5 * p) = 0 then gv J w b t p f else 0) np = sl (fun p => gq I w b t old bar f p) np := sl_congr (fun p _ => by
          unfold gq; rw [if_pos z1, if_pos z2, gv_xs hJ, hJ 3 (by decide) (by decide)])
        rw [e]; exact this
      · rw [if_neg z2]
        exact z0 _ z2 (fun p => by unfold gq; rw [if_pos z1, if_neg z2]; split <;> rfl)
    · rw [if_neg z1]
      exact z0 _ z1 (fun p => by unfold gq; rw [if_neg z1]; split <;> rfl)
theorem pM_gains {d lv nf np nb nl npl w b t : Nat} {old bar what : Int32} {I : st_I} {L : st_L} {F : Int64 → st_I → st_L → Prop} (H : iv_told I lv nf np nb nl npl) (hset : iv_set I) (hw : w < nl) (hb : b < nb) (ht : t < 4) (ho : (if (what - what / 2 * 2) = 0 then (1 : Int32) else 0) = old) (hr : (if what ≤ 1 then (0 : Int32) else 1) = bar) (h : ∀ J, mt I J → iv_set J → F (sl (fun p => sl (fun f => gq I w b t old bar f p) nf) np) J L) :
    ∀ (n p : Nat) (J : st_I), p + n = np → mt I J → iv_set J → TL (d + 5) mX12_gains 45 [.ref 58, .int (nI w), .int (nI b), .int (nI t), .int what, .long (sl (fun p => sl (fun f => gq I w b t old bar f p) nf) p), .null, .int (nI p), .null, .null, .null] [] J L F := by
  obtain ⟨hlv, b1, b2, b3, b4, b5, h18, c0, c1, c2, c3, c4, m0, m1, -⟩ := id H.1
  intro n
  induction n with
  | zero =>
    intro p J hp hJ hs
    obtain rfl : p = np := by omega
    refine sgX12_gains_45 ?_
    rw [hJ 58 (by decide) (by decide) (by decide), h18, nI_clamp (by omega), hJ 73 (by decide) (by decide) (by decide), m1, if_pos (nI_le (Nat.le_refl _) (by omega))]
    exact ⟨vp_in_nI (by omega) (by decide), h J hJ hs⟩
  | succ n ih =>
    intro p J hp hJ hs
    refine sgX12_gains_45 ?_
    rw [hJ 58 (by decide) (by decide) (by decide), h18, nI_clamp (by omega), hJ 73 (by decide) (by decide) (by decide), m1, if_neg (nI_ge (by omega) (by omega))]
    refine ⟨vp_in_nI (by omega) (by decide), pM_isPlayer (hJ.told H) (by omega) ?_⟩
    rw [hJ 3 (by decide) (by decide) (by decide), nI_1]
    by_cases z : I 3 (5 * p) = 0
    · rw [if_pos z, if_neg (by decide)]
      have key : ∀ (n' f : Nat) (J : st_I), f + n' = nf → mt I J → iv_set J → TL (d + 5) mX12_gains 74 [.ref 58, .int (nI w), .int (nI b), .int (nI t), .int what, .long (sl (fun p => sl (fun f => gq I w b t old bar f p) nf) p + sl (fun f => gq I w b t old bar f p) f), .null, .int (nI p), .int (nI f), .null, .null] [] J L F := by
        intro n'
        induction n' with
        | zero =>
          intro f J hf hJ hs
          obtain rfl : f = nf := by omega
          refine sgX12_gains_74 ?_
          rw [hJ 58 (by decide) (by decide) (by decide), h18, nI_clamp (by omega), hJ 69 (by decide) (by decide) (by decide), m0, if_pos (nI_le (Nat.le_refl _) (by omega)), nI_1]
          refine ⟨vp_in_nI (by omega) (by decide), ?_⟩
          have := ih (p + 1) J (by omega) hJ hs
          rw [sl] at this
          exact this
        | succ n' ih' =>
          intro f J hf hJ hs
          obtain ⟨q1, q2, q3, q4, -⟩ := H.2.1 f (by omega)
          refine sgX12_gains_74 ?_
          rw [hJ 58 (by decide) (by decide) (by decide), h18, nI_clamp (by omega), hJ 69 (by decide) (by decide) (by decide), m0, if_neg (nI_ge (by omega) (by omega)), nI_1, show (8 : Int32) * nI lv + nI f = nI (8 * lv + f) from mx 8 lv f, nI_clamp (by omega), hJ 72 (by decide) (by decide) (by decide), q4, hr]
          refine ⟨vp_in_nI (by omega) (by decide), vp_in_nI (by omega) (by decide), ?_⟩
          have skip : gq I w b t old bar f p = 0 → TL (d + 5) mX12_gains 74 [.ref 58, .int (nI w), .int (nI b), .int (nI t), .int what, .long (sl (fun p => sl (fun f => gq I w b t old bar f p) nf) p + sl (fun f => gq I w b t old bar f p) f), .null, .int (nI p), .int (nI (f + 1)), .null, .null] [] J L F := by
            intro e
            have := ih' (f + 1) J (by omega) hJ hs
            rw [sl, e, Int64.add_zero] at this
            exact this
          by_cases z2 : I 2 (5 * f + 4) = bar
          · rw [if_pos z2]
            refine pM_isOldOne (hJ.told H) (by omega) ?_
            rw [hJ 2 (by decide) (by decide) (by decide), ho]
            by_cases z1 : I 2 (5 * f) = old
            · rw [if_pos z1]
              refine pM_touched (hJ.told H) hw (by omega) (by omega) hb ht (fun r K hK hsK hrr => ?_)
              have tK := hJ.tr hK
              refine pM_likes (tK.told H) hw (by omega) (by omega) hb (Or.inl rfl) (fun K2 hK2 => ?_)
              have := ih' (f + 1) K2 (by omega) (tK.tr (mt_of hK2)) (hK2.set hsK)
              rw [sl, ← Int64.add_assoc] at this
              have e1 : r = mxv (V3 I w p f b t) := mxv_eq (isMx_congr (fun x => by unfold V3; simp only [hJ.vl]) hrr)
              have e2 : LK K w (vr K p f b 0 0 0 (K 94)) = LK I w (vr I p f b 0 0 0 s0) := by
                rw [LK_same (tK 5 (by decide) (by decide) (by decide)) (tK 6 (by decide) (by decide) (by decide)), vr_same (tK 2 (by decide) (by decide) (by decide)) (tK 3 (by decide) (by decide) (by decide)) (tK 4 (by decide) (by decide) (by decide)), vr_set (s' := s0) (fun j hj => hsK j hj)]
              have e3 : gq I w b t old bar f p = (mxv (V3 I w p f b t)).toInt64 - (LK I w (vr I p f b 0 0 0 s0)).toInt64 := by unfold gq; rw [if_pos z, if_pos z1, if_pos z2]; rfl
              rw [e1, e2, ← e3]; exact this
            · rw [if_neg z1]
              exact skip (by unfold gq; rw [if_pos z, if_neg z1])
          · rw [if_neg z2]
            exact skip (by unfold gq; rw [if_pos z, if_neg z2]; split <;> rfl)
      have := key nf 0 J (by omega) hJ hs
      rw [sl, Int64.add_zero] at this
      exact this
    · rw [if_neg z, if_pos rfl]
      have := ih (p + 1) J (by omega) hJ hs
      rw [sl, sl_congr (a := fun f => gq I w b t old bar f p) (b := fun _ => 0) (fun f _ => by unfold gq; rw [if_neg z]), sl_zero, Int64.add_zero] at this
      exact this
theorem op_gains {lv nf np nb nl npl : Nat} {I : st_I} {L : st_L} {P : st_I → st_L → Prop} (H : iv_told I lv nf np nb nl npl) (hset : iv_set I) (no : P I L) (hP : ∀ J, (∀ q, q ≠ 26 → q ≠ 27 → q ≠ 92 → q ≠ 93 → q ≠ 94 → J q = I q) → iv_set J → P J L) (a b t c : Int32) :
    EL 60 mX11_gains [.ref 0, .int a, .int b, .int t, .int c] I L (fun r I1 L1 => EL 60 mX12_gains [.ref 58, .int a, .int b, .int t, .int c] I1 L1 (fun r' I2 L2 => r' = r ∧ P I2 L2)) := by
  obtain ⟨hlv, b1, b2, b3, b4, b5, h18, -⟩ := id H.1
  refine sgX11_gains_0 ?_
  rcases ot_ix a nl (by omega) with ho | ⟨w, hw, rfl⟩
  · refine x_hasLaw_o H ho ?_
    rw [if_pos rfl]
    refine sgX12_gains_0 (m_isLaw_o H ho ?_)
    rw [if_pos rfl]; exact ⟨rfl, no⟩
  refine x_hasLaw_i H hw ?_
  rw [if_neg (by decide)]
  rcases ot_ix b nb (by omega) with ho | ⟨g, hg, rfl⟩
  · refine x_hasBow_o H ho ?_
    rw [if_pos rfl]
    refine sgX12_gains_0 (m_isLaw_i H hw ?_)
    rw [if_neg (by decide)]
    refine m_isBow_o H ho ?_
    rw [if_pos rfl]; exact ⟨rfl, no⟩
  refine x_hasBow_i H hg ?_
  rw [if_neg (by decide)]
  have t2 : ∀ (J : st_I) {F : Int64 → st_I → st_L → Prop}, iv_told J lv nf np nb nl npl → EI 59 mX12_in [.int t, .int 0, .int 3] J L (fun r3 I3 L3 => (if r3 = 0 then F (-1) I3 L3 else EI 59 mX12_in [.int c, .int 0, .int 3] I3 L3 (fun r4 I4 L4 => (if r4 = 0 then F (-1) I4 L4 else TL 60 mX12_gains 45 [.ref 58, .int (nI w), .int (nI g), .int t, .int c, .long 0, .null, .int 0, .null, .null, .null] [] I4 L4 F)))) → EL 60 mX12_gains [.ref 58, .int (nI w), .int (nI g), .int t, .int c] J L F := by
    intro J F HJ h
    refine sgX12_gains_0 (m_isLaw_i HJ hw ?_)
    rw [if_neg (by decide)]
    refine m_isBow_i HJ hg ?_
    rw [if_neg (by decide)]; exact h
  rcases ot_ix t 4 (by decide) with ho | ⟨u, hu, rfl⟩
  · have bad : EL 60 mX12_gains [.ref 58, .int (nI w), .int (nI g), .int t, .int c] I L (fun r' I2 L2 => r' = -1 ∧ P I2 L2) := by
      refine t2 I H (in_out (n := 4) (by decide) ho ?_)
      rw [if_pos rfl]; exact ⟨rfl, no⟩
    by_cases q : t < 0
    · rw [if_pos q]; exact bad
    · obtain ⟨i, hi, rfl⟩ := nI_of q
      have : 4 ≤ i := (nI_leI (by omega) hi).mp (ho.resolve_left q)
      rw [if_neg q, if_pos (show (3 : Int32) < nI i from nI_lt (a := 3) (by omega) hi)]; exact bad
  rw [if_neg (nI_pos (by omega)), if_neg (show ¬ (3 : Int32) < nI u from nI_nlt (a := 3) (b := u) (by omega) (by decide))]
  rcases ot_ix c 4 (by decide) with ho | ⟨k, hk, rfl⟩
  · have bad : EL 60 mX12_gains [.ref 58, .int (nI w), .int (nI g), .int (nI u), .int c] I L (fun r' I2 L2 => r' = -1 ∧ P I2 L2) := by
      refine t2 I H (in_in (n := 4) (by decide) hu ?_)
      rw [if_neg (by decide)]
      refine in_out (n := 4) (by decide) ho ?_
      rw [if_pos rfl]; exact ⟨rfl, no⟩
    by_cases q : c < 0
    · rw [if_pos q]; exact bad
    · obtain ⟨i, hi, rfl⟩ := nI_of q
      have : 4 ≤ i := (nI_leI (by omega) hi).mp (ho.resolve_left q)
      rw [if_neg q, if_neg (show ¬ nI i ≤ 3 from nI_ge (a := 3) (by omega) hi)]; exact bad
  rw [if_neg (nI_pos (by omega)), if_pos (show nI k ≤ 3 from nI_le (b := 3) (by omega) (by decide))]
  have arith : ∀ k, k < 4 → (if (nI k - nI k / 2 * 2) = 0 then (1 : Int32) else 0) = (if nI k = 0 then (1 : Int32) else (if nI k = 2 then (1 : Int32) else 0)) ∧ (if nI k ≤ 1 then (0 : Int32) else 1) = nI k / 2 := by decide +kernel
  refine pX_gains (d := 54) (L := L) H hw hg hu (fun J hJ => ?_) nf 0 I (by omega) xs.rf
  have HJ := hJ.told H
  refine t2 J HJ (in_in (n := 4) (by decide) hu ?_)
  rw [if_neg (by decide)]
  refine in_in (n := 4) (by decide) hk ?_
  rw [if_neg (by decide)]
  refine pM_gains (d := 55) (L := L) (I := J) HJ (hJ.set hset) hw hg hu (arith k hk).1 (arith k hk).2 (fun K hK hsK => ⟨?_, hP K (fun q a1 a2 a3 a4 a5 => by rw [hK q a3 a4 a5, hJ q a1 a2]) hsK⟩) np 0 J (by omega) mt.rf (hJ.set hset)
  rw [sl_swap]
  exact sl_congr (fun f _ => sl_congr (fun p _ => gq_xs hJ _ _ _ _ _ _ _))
