/-- an asking of what is KNOWN leaves this -/
def kq (I J : st_I) : Prop := (∀ q, q < 30 → q ≠ 26 → q ≠ 27 → J q = I q) ∧ (∀ q, 59 ≤ q → q ≤ 100 → q ≠ 92 → q ≠ 93 → J q = I q) ∧ ∀ k, k < 53 → J 58 k = I 58 k
theorem kq.rf {I : st_I} : kq I I := ⟨fun _ _ _ _ => rfl, fun _ _ _ _ _ => rfl, fun _ _ => rfl⟩
theorem kq.tr {I J K : st_I} (h : kq I J) (g : kq J K) : kq I K := ⟨fun q a b c => (g.1 q a b c).trans (h.1 q a b c), fun q a b c e => (g.2.1 q a b c e).trans (h.2.1 q a b c e), fun k hk => (g.2.2 k hk).trans (h.2.2 k hk)⟩
theorem kq.told {I J : st_I} (h : kq I J) {lv nf np nb nl npl : Nat} (H : iv_told I lv nf np nb nl npl) : iv_told J lv nf np nb nl npl := iv_told_congr (fun q hq => by
  by_cases z : q < 30
  · exact h.1 q z (by omega) (by omega)
  · exact h.2.1 q (by omega) (by omega) (by omega) (by omega)) (h.2.2 18 (by decide)) H
theorem kq.facts {I J : st_I} (h : kq I J) {nF : Nat} (H : iv_facts I nF) : iv_facts J nF := iv_facts_congr (fun q hq => by
  by_cases z : q < 30
  · exact h.1 q z (by omega) (by omega)
  · exact h.2.1 q (by omega) (by omega) (by omega) (by omega)) (h.2.2 52 (by decide)) H
/-- the class's cache is right -/
def iv_kn (I : st_I) (nf np nF : Nat) : Prop := I 30 0 = -1 ∨ ∃ n, n ≤ nF ∧ I 30 0 = nI n ∧ kK I nf np n
theorem kK_same {I J : st_I} {nf np n : Nat} (h : ∀ q, q = 2 ∨ q = 3 ∨ q = 29 ∨ (30 < q ∧ q < 40) → J q = I q) (H : kK I nf np n) : kK J nf np n := by
  have e2 := h 2 (by omega); have e3 := h 3 (by omega); have e29 := h 29 (by omega); have e31 := h 31 (by omega); have e32 := h 32 (by omega); have e33 := h 33 (by omega); have e34 := h 34 (by omega); have e35 := h 35 (by omega); have e36 := h 36 (by omega); have e37 := h 37 (by omega); have e38 := h 38 (by omega); have e39 := h 39 (by omega)
  simp only [kK, e2, e3, e29, e31, e32, e33, e34, e35, e36, e37, e38, e39] at H ⊢
  exact H
theorem iv_kn_same {I J : st_I} {nf np nF : Nat} (h : ∀ q, q = 2 ∨ q = 3 ∨ q = 29 ∨ (29 < q ∧ q < 40) → J q = I q) (H : iv_kn I nf np nF) : iv_kn J nf np nF := by
  rcases H with z | ⟨n, h1, h2, h3⟩
  · exact Or.inl (by rw [h 30 (by omega)]; exact z)
  · exact Or.inr ⟨n, h1, by rw [h 30 (by omega)]; exact h2, kK_same (fun q hq => h q (by omega)) h3⟩
/-- the class has learnt n -/
def kw (I J : st_I) (nf np n : Nat) : Prop := (∀ q, q < 30 ∨ 39 < q → J q = I q) ∧ J 30 0 = nI n ∧ kK J nf np n
theorem kw.kq' {I J : st_I} {nf np n : Nat} (h : kw I J nf np n) : kq I J := ⟨fun q a _ _ => h.1 q (by omega), fun q a _ _ _ => h.1 q (by omega), fun k _ => by rw [h.1 58 (by decide)]⟩
theorem kw.kn {I J : st_I} {nf np n nF : Nat} (h : kw I J nf np n) (hn : n ≤ nF) : iv_kn J nf np nF := Or.inr ⟨n, hn, h.2.1, h.2.2⟩
theorem x_knows_i {d lv nf np nb nl npl nF n : Nat} {I : st_I} {L : st_L} {F : Int32 → st_I → st_L → Prop} (H : iv_told I lv nf np nb nl npl) (HF : iv_facts I nF) (hk : iv_kn I nf np nF) (hn : n ≤ nF) (h : ∀ J, kw I J nf np n → F 1 J L) : EI (d + 4) mX11_knows [.ref 0, .int (nI n)] I L F := by
  have h80 := HF.1
  refine sgX11_knows_0 ?_
  rw [HF.2.1, if_neg (nI_pos (by omega)), if_pos (nI_le hn (by omega))]
  by_cases z : I 30 0 = nI n
  · rw [if_pos z]
    rcases hk with y | ⟨m, h1, h2, h3⟩
    · exact absurd (y.symm.trans z) (fun w => absurd (w ▸ nI_pos' (show n < 2 ^ 31 by omega)) (by decide))
    · obtain rfl : m = n := (nI_eq (by omega) (by omega)).mp (h2.symm.trans z)
      exact h I ⟨fun _ _ => rfl, h2, h3⟩
  · rw [if_neg z]
    exact pX_learn H HF hn (fun J h1 h2 h3 => h J ⟨h1, h2, h3⟩)
theorem x_knows_o {d nF : Nat} {I : st_I} {L : st_L} {F : Int32 → st_I → st_L → Prop} {a : Int32} (HF : iv_facts I nF) (ho : ot a (nF + 1)) (h : F 0 I L) : EI (d + 4) mX11_knows [.ref 0, .int a] I L F := by
  have h80 := HF.1
  refine sgX11_knows_0 ?_
  rw [HF.2.1]
  by_cases z : a < 0
  · rw [if_pos z]; exact h
  · obtain ⟨i, hi, rfl⟩ := nI_of z
    have : nF + 1 ≤ i := (nI_leI (by omega) hi).mp (ho.resolve_left z)
    rw [if_neg z, if_neg (nI_ge (by omega) hi)]; exact h
/-- the reference has gathered -/
theorem kq_g {I J : st_I} (h : ∀ q, q ≠ 101 → q ≠ 102 → J q = I q) : kq I J := ⟨fun q a _ _ => h q (by omega) (by omega), fun q a b _ _ => h q (by omega) (by omega), fun k _ => by rw [h 58 (by decide) (by decide)]⟩
theorem op_last {lv nf np nb nl npl nF : Nat} {I : st_I} {L : st_L} {P : st_I → st_L → Prop} (H : iv_told I lv nf np nb nl npl) (HF : iv_facts I nF) (hk : iv_kn I nf np nF) (hP : ∀ J, kq I J → iv_kn J nf np nF → J 57 = I 57 → P J L) (a b s c : Int32) :
    EI 60 mX11_last [.ref 0, .int a, .int b, .int s, .int c] I L (fun r I1 L1 => EI 60 mX12_last [.ref 58, .int a, .int b, .int s, .int c] I1 L1 (fun r' I2 L2 => r' = r ∧ P I2 L2)) := by
  have no : P I L := hP I kq.rf hk rfl
  have h80 := HF.1
  obtain ⟨hlv, b1, b2, b3, b4, b5, h18, -⟩ := id H.1
  refine sgX11_last_0 ?_
  rcases ot_ix a np (by omega) with ho | ⟨p, hp, rfl⟩
  · refine x_hasPerson_o H ho ?_
    rw [if_pos rfl]
    refine sgX12_last_0 (m_isPerson_o H ho ?_)
    rw [if_pos rfl]; exact ⟨rfl, no⟩
  refine x_hasPerson_i H hp ?_
  rw [if_neg (by decide)]
  rcases ot_ix b nf (by omega) with ho | ⟨f, hf, rfl⟩
  · refine x_hasFiddle_o H ho ?_
    rw [if_pos rfl]
    refine sgX12_last_0 (m_isPerson_i H hp ?_)
    rw [if_neg (by decide)]
    refine m_isFiddle_o H ho ?_
    rw [if_pos rfl]; exact ⟨rfl, no⟩
  refine x_hasFiddle_i H hf ?_
  rw [if_neg (by decide)]
  rcases ot_ix c (nF + 1) (by omega) with ho | ⟨n, hn, rfl⟩
  · refine x_knows_o HF ho ?_
    rw [if_pos rfl]
    refine sgX12_last_0 (m_isPerson_i H hp ?_)
    rw [if_neg (by decide)]
    refine m_isFiddle_i H hf ?_
    rw [if_neg (by decide)]
    refine m_isKnown_o HF ho ?_
    rw [if_pos rfl]; exact ⟨rfl, no⟩
  refine x_knows_i H HF hk (by omega) (fun J hJ => ?_)
  have HJ := hJ.kq'.told H
  have HFJ := hJ.kq'.facts HF
  rw [if_neg (by decide), show nI p * 8 + nI f = nI (8 * p + f) by rw [show (8 : Int32) = nI 8 from rfl, pk_mul, nI_add, Nat.mul_comm], nI_clamp (show 8 * p + f < 2 ^ 31 by omega)]
  have v80 : vp_in (nI (8 * p + f)) 80 := vp_in_nI (by omega) (by decide)
  have fin : ∀ r : Int32, (∀ K : st_I, (∀ j, j < 80 → K 101 j = J 32 j) → (∀ j, j < 80 → K 102 j = J 34 j) → (if s = 0 then (if K 101 (8 * p + f) = -1 then (-2 : Int32) else K 101 (8 * p + f)) else (if K 102 (8 * p + f) = -1 then (-2 : Int32) else K 102 (8 * p + f))) = r) → EI 60 mX12_last [.ref 58, .int (nI p), .int (nI f), .int s, .int (nI n)] J L (fun r' I2 L2 => r' = r ∧ P I2 L2) := by
    intro r hr
    refine sgX12_last_0 (m_isPerson_i HJ hp ?_)
    rw [if_neg (by decide)]
    refine m_isFiddle_i HJ hf ?_
    rw [if_neg (by decide)]
    refine m_isKnown_i HFJ (by omega) ?_
    rw [if_neg (by decide)]
    refine pM_gathers HJ HFJ (by omega) (fun K hK h1 h2 => ?_)
    have hr' := hr K (fun j hj => by rw [h1 j hj, hJ.2.2.2.1 j hj]) (fun j hj => by rw [h2 j hj, hJ.2.2.2.2.2.1 j hj])
    have pk := hP K (hJ.kq'.tr (kq_g hK)) (iv_kn_same (fun q hq => hK q (by omega) (by omega)) (hJ.kn (by omega))) (by rw [hK 57 (by decide) (by decide), hJ.1 57 (by decide)])
    rw [show (8 : Int32) * nI p + nI f = nI (8 * p + f) from mx 8 p f, nI_clamp (show 8 * p + f < 2 ^ 31 by omega)]
    by_cases z : s = 0
    · rw [if_pos z]; rw [if_pos z] at hr'; exact ⟨v80, hr', pk⟩
    · rw [if_neg z]; rw [if_neg z] at hr'; exact ⟨v80, hr', pk⟩
  by_cases z : s = 0
  · rw [if_pos z]
    exact ⟨v80, fin _ (fun K h1 _ => by rw [if_pos z, h1 _ (by omega)])⟩
  · rw [if_neg z]
    exact ⟨v80, fin _ (fun K _ h2 => by rw [if_neg z, h2 _ (by omega)])⟩
theorem op_mean {lv nf np nb nl npl nF : Nat} {I : st_I} {L : st_L} {P : st_I → st_L → Prop} (H : iv_told I lv nf np nb nl npl) (HF : iv_facts I nF) (hk : iv_kn I nf np nF) (hP : ∀ J, kq I J → iv_kn J nf np nF → J 57 = I 57 → P J L) (a c e : Int32) {s : Int32} (hs : bo s) :
    EI 60 mX11_mean [.ref 0, .int a, .int s, .int c, .int e] I L (fun r I1 L1 => EI 60 mX12_mean [.ref 58, .int a, .int s, .int c, .int e] I1 L1 (fun r' I2 L2 => r' = r ∧ P I2 L2)) := by
  have no : P I L := hP I kq.rf hk rfl
  have h80 := HF.1
  obtain ⟨hlv, b1, b2, b3, b4, b5, h18, -⟩ := id H.1
  refine sgX11_mean_0 ?_
  rcases ot_ix a nf (by omega) with ho | ⟨f, hf, rfl⟩
  · refine x_hasFiddle_o H ho ?_
    rw [if_pos rfl]
    refine sgX12_mean_0 (m_isFiddle_o H ho ?_)
    rw [if_pos rfl]; exact ⟨rfl, no⟩
  refine x_hasFiddle_i H hf ?_
  rw [if_neg (by decide)]
  rcases ot_ix e 2 (by decide) with ho | ⟨k, hk2, rfl⟩
  · have bad : EI 60 mX12_mean [.ref 58, .int (nI f), .int s, .int c, .int e] I L (fun r' I2 L2 => r' = -1 ∧ P I2 L2) := by
      refine sgX12_mean_0 (m_isFiddle_i H hf ?_)
      rw [if_neg (by decide)]
      rcases ot_ix c (nF + 1) (by omega) with ho2 | ⟨n, hn, rfl⟩
      · refine m_isKnown_o HF ho2 ?_
        rw [if_pos rfl]; exact ⟨rfl, no⟩
      · refine m_isKnown_i HF (by omega) ?_
        rw [if_neg (by decide)]
        refine in_out (n := 2) (by decide) ho ?_
        rw [if_pos rfl]; exact ⟨rfl, no⟩
    by_cases z : e < 0
    · rw [if_pos z]; exact bad
    · obtain ⟨i, hi, rfl⟩ := nI_of z
      have : 2 ≤ i := (nI_leI (by omega) hi).mp (ho.resolve_left z)
      rw [if_neg z, if_pos (show (1 : Int32) < nI i from nI_lt (a := 1) (by omega) hi)]; exact bad
  rw [if_neg (nI_pos (by omega)), if_neg (show ¬ (1 : Int32) < nI k from nI_nlt (a := 1) (b := k) (by omega) (by decide))]
  rcases ot_ix c (nF + 1) (by omega) with ho | ⟨n, hn, rfl⟩
  · refine x_knows_o HF ho ?_
    rw [if_pos rfl]
    refine sgX12_mean_0 (m_isFiddle_i H hf ?_)
    rw [if_neg (by decide)]
    refine m_isKnown_o HF ho ?_
    rw [if_pos rfl]; exact ⟨rfl, no⟩
  refine x_knows_i H HF hk (by omega) (fun J hJ => ?_)
  have HJ := hJ.kq'.told H
  have HFJ := hJ.kq'.facts HF
  have hm := hJ.2.2.2.2.2.2.1 f hf
  rw [if_neg (by decide)]
  have ix : (if s = 0 then nI f else 8 + nI f) = nI ((if s = 0 then 0 else 8) + f) := by
    by_cases z : s = 0
    · rw [if_pos z, if_pos z, Nat.zero_add]
    · rw [if_neg z, if_neg z]; exact nI_add 8 f
  have hle : (if s = 0 then 0 else 8) ≤ 8 := by split <;> decide
  have v16 : vp_in (nI ((if s = 0 then 0 else 8) + f)) 16 := vp_in_nI (by omega) (by decide)
  have q35 : J 35 ((if s = 0 then 0 else 8) + f) = sS (kB (J 29) (nI np) (nI nf) n n) (J 3) s f np := by
    rcases hs with z | z
    · subst z; rw [if_pos rfl, Nat.zero_add]; exact hm.1
    · subst z; rw [if_neg (by decide)]; exact hm.2.1
  have q36 : J 36 ((if s = 0 then 0 else 8) + f) = nI (sM (kB (J 29) (nI np) (nI nf) n n) (J 3) s f np) := by
    rcases hs with z | z
    · subst z; rw [if_pos rfl, Nat.zero_add]; exact hm.2.2.1
    · subst z; rw [if_neg (by decide)]; exact hm.2.2.2
  rw [ix, nI_clamp (by omega), q35, q36]
  have go : ∀ {F : Int32 → st_I → st_L → Prop}, (∀ K : st_I, (∀ q, q ≠ 101 → q ≠ 102 → K q = J q) → (∀ j, j < 80 → K 101 j = kB (J 29) (nI np) (nI nf) n n j) → (if nI k = 0 then EI 59 mX12_sumOf [.ref 58, .int (nI f), .int s] K L (fun r5 I5 L5 => F r5 I5 L5) else EI 59 mX12_manyOf [.ref 58, .int (nI f), .int s] K L (fun r6 I6 L6 => F r6 I6 L6))) → EI 60 mX12_mean [.ref 58, .int (nI f), .int s, .int (nI n), .int (nI k)] J L F := by
    intro F h
    refine sgX12_mean_0 (m_isFiddle_i HJ hf ?_)
    rw [if_neg (by decide)]
    refine m_isKnown_i HFJ (by omega) ?_
    rw [if_neg (by decide)]
    refine in_in (n := 2) (by decide) hk2 ?_
    rw [if_neg (by decide)]
    exact pM_gathers HJ HFJ (by omega) (fun K hK h1 _ => h K hK h1)
  have pk : ∀ K : st_I, (∀ q, q ≠ 101 → q ≠ 102 → K q = J q) → P K L := fun K hK => hP K (hJ.kq'.tr (kq_g hK)) (iv_kn_same (fun q hq => hK q (by omega) (by omega)) (hJ.kn (by omega))) (by rw [hK 57 (by decide) (by decide), hJ.1 57 (by decide)])
  by_cases z : nI k = 0
  · rw [if_pos z]
    refine ⟨v16, go (fun K hK h1 => ?_)⟩
    rw [if_pos z]
    refine pM_sumOf _ ((kq_g hK).told HJ) h1 (by omega) ⟨?_, pk K hK⟩
    rw [hK 3 (by decide) (by decide)]
  · rw [if_neg z]
    refine ⟨v16, go (fun K hK h1 => ?_)⟩
    rw [if_neg z]
    refine pM_manyOf _ ((kq_g hK).told HJ) h1 (by omega) ⟨?_, pk K hK⟩
    rw [hK 3 (by decide) (by decide)]
theorem op_guesses {lv nf np nb nl npl nF : Nat} {I : st_I} {L : st_L} {P : st_I → st_L → Prop} (H : iv_told I lv nf np nb nl npl) (HF : iv_facts I nF) (hk : iv_kn I nf np nF) (hP : ∀ J, kq I J → iv_kn J nf np nF → J 57 = I 57 → P J L) (c e : Int32) :
    EI 60 mX11_guesses [.ref 0, .int c, .int e] I L (fun r I1 L1 => EI 60 mX12_guesses [.ref 58, .int c, .int e] I1 L1 (fun r' I2 L2 => r' = r ∧ P I2 L2)) := by
  have no : P I L := hP I kq.rf hk rfl
  have h80 := HF.1
  refine sgX11_guesses_0 ?_
  rcases ot_ix e 5 (by decide) with ho | ⟨k, hk2, rfl⟩
  · have bad : EI 60 mX12_guesses [.ref 58, .int c, .int e] I L (fun r' I2 L2 => r' = -1 ∧ P I2 L2) := by
      refine sgX12_guesses_0 ?_
      rcases ot_ix c (nF + 1) (by omega) with ho2 | ⟨n, hn, rfl⟩
      · refine m_isKnown_o HF ho2 ?_
        rw [if_pos rfl]; exact ⟨rfl, no⟩
      · refine m_isKnown_i HF (by omega) ?_
        rw [if_neg (by decide)]
        refine in_out (n := 5) (by decide) ho ?_
        rw [if_pos rfl]; exact ⟨rfl, no⟩
    by_cases z : e < 0
    · rw [if_pos z]; exact bad
    · rw [if_neg z, if_pos (show (5 : Int32) ≤ e from ho.resolve_left z)]; exact bad
  rw [if_neg (nI_pos (by omega)), if_neg (show ¬ (5 : Int32) ≤ nI k from nI_ge (b := 5) (by omega) (by decide))]
  rcases ot_ix c (nF + 1) (by omega) with ho | ⟨n, hn, rfl⟩
  · refine x_knows_o HF ho ?_
    rw [if_pos rfl]
    refine sgX12_guesses_0 (m_isKnown_o HF ho ?_)
    rw [if_pos rfl]; exact ⟨rfl, no⟩
  refine x_knows_i H HF hk (by omega) (fun J hJ => ?_)
  have HJ := hJ.kq'.told H
  have HFJ := hJ.kq'.facts HF
  rw [if_neg (by decide), nI_clamp (by omega), hJ.2.2.2.2.2.2.2.2 k hk2]
  refine ⟨vp_in_nI (by omega) (by decide), sgX12_guesses_0 (m_isKnown_i HFJ (by omega) ?_)⟩
  rw [if_neg (by decide)]
  refine in_in (n := 5) (by decide) hk2 ?_
  rw [if_neg (by decide)]
  exact pM_guessed HJ HFJ (by omega) hk2 ⟨rfl, hP J hJ.kq' (hJ.kn (by omega)) (hJ.1 57 (by decide))⟩
theorem pM_isSpotMark {d lv nf np nb nl npl nF n k : Nat} {I : st_I} {L : st_L} {F : Int32 → st_I → st_L → Prop} (H : iv_told I lv nf np nb nl npl) (HF : iv_facts I nF) (hn : n ≤ nF) (hk : k < n) (h : F (b01 (kcp (I 29) (nI np) (nI nf) (I 3) n k)) I L) : EI (d + 3) mX12_isSpotMark [.ref 58, .int (nI k), .int (nI n)] I L F := by
  have h80 := HF.1
  obtain ⟨hlv, b1, b2, b3, b4, b5, h18, -⟩ := id H.1
  refine sgX12_isSpotMark_0 (pM_counts H HF hn hk (Or.inl rfl) ?_)
  unfold kcp kcb at h
  cases hb : kc (I 29) (nI np) (nI nf) n k 0
  · rw [hb, Bool.false_and, Bool.false_and] at h
    rw [if_pos (by decide)]; exact h
  · rw [hb, Bool.true_and] at h
    rw [if_neg (by decide)]
    have hz : I 29 (6 * k) = 0 := by unfold kc at hb; exact of_decide_eq_true (Bool.and_eq_true_iff.mp hb).1
    have hkb : kb (I 29) (nI np) (nI nf) n k = true := by rw [kc_split hz] at hb; exact hb
    obtain ⟨p, f, hp, hf, r1, r2, r3, hpi, c1, c2, hc⟩ := kb_ok HF hn hk b1 b2 hkb
    rcases hc with ⟨z, q98, -, -, hbo, q100⟩ | ⟨z, -⟩
    · obtain ⟨e95, e96, -⟩ := HF.2.2.2 k (by omega)
      have vm : vp_in (nI k) 80 := vp_in_nI (by omega) (by decide)
      rw [c1] at h
      rw [nI_clamp (by omega), q100, e96, r1]
      refine ⟨vm, ?_⟩
      rcases hbo with y | y
      · rw [y] at h
        rw [y, if_pos rfl]
        refine ⟨vm, pM_isPlayer H hp ?_⟩
        by_cases w : I 3 (5 * p) = 0
        · rw [w] at h; rw [if_pos w, if_neg (by decide)]; exact h
        · rw [decide_eq_false w, Bool.and_false] at h; rw [if_neg w, if_pos rfl]; exact h
      · rw [y] at h
        rw [y, if_neg (by decide)]; exact h
    · rw [hz] at z; exact absurd z (by decide)
/-- a spot mark: its columns -/
theorem kcp_ok {I : st_I} {nF nf np n k : Nat} (HF : iv_facts I nF) (hn : n ≤ nF) (hk : k < n) (hnf : nf ≤ 8) (hnp : np ≤ 10) (h : kcp (I 29) (nI np) (nI nf) (I 3) n k = true) : ∃ p f sp v, p < np ∧ f < nf ∧ sp < 10 ∧ v ≤ 100 ∧ I 29 (6 * k + 2) = nI f ∧ I 97 k = nI f ∧ I 98 k = I 29 (6 * k + 3) ∧ I 29 (6 * k + 3) = nI v ∧ I 29 (6 * k + 4) = nI sp ∧ I 99 k = nI sp ∧ I 29 (6 * k) = 0 ∧ I 29 (6 * k + 5) = 0 ∧ I 29 (6 * k + 1) = nI p ∧ I 3 (5 * p) = 0 ∧ kb (I 29) (nI np) (nI nf) n k = true := by
  unfold kcp kcb at h
  obtain ⟨h1, h2⟩ := Bool.and_eq_true_iff.mp h
  obtain ⟨hb, h3⟩ := Bool.and_eq_true_iff.mp h1
  have hz : I 29 (6 * k) = 0 := by unfold kc at hb; exact of_decide_eq_true (Bool.and_eq_true_iff.mp hb).1
  have hkb : kb (I 29) (nI np) (nI nf) n k = true := by rw [kc_split hz] at hb; exact hb
  obtain ⟨p, f, hp, hf, r1, r2, r3, hpi, c1, c2, hc⟩ := kb_ok HF hn hk hnf hnp hkb
  rcases hc with ⟨z, q98, ⟨v, hv, v1⟩, ⟨sp, hsp, s1, s2⟩, hbo, q100⟩ | ⟨z, -⟩
  · have h2' := of_decide_eq_true h2
    rw [c1] at h2'
    exact ⟨p, f, sp, v, hp, hf, hsp, hv, r2, r3, q98, v1, s1, s2, hz, of_decide_eq_true h3, r1, h2', hkb⟩
  · rw [hz] at z; exact absurd z (by decide)
theorem pM_spotSum {d lv nf np nb nl npl nF n sp : Nat} {I : st_I} {L : st_L} {F : Int32 → st_I → st_L → Prop} (H : iv_told I lv nf np nb nl npl) (HF : iv_facts I nF) (hn : n ≤ nF) (hsp : sp < 10) (h : F (kPS (I 29) (nI np) (nI nf) (I 3) n sp n) I L) : EI (d + 4) mX12_spotSum [.ref 58, .int (nI n), .int (nI sp)] I L F := by
  have h80 := HF.1
  obtain ⟨hlv, b1, b2, b3, b4, b5, h18, -⟩ := id H.1
  have key : ∀ (r m : Nat), m + r = n → TI (d + 4) mX12_spotSum 5 [.ref 58, .int (nI n), .int (nI sp), .int (kPS (I 29) (nI np) (nI nf) (I 3) n sp m), .int (nI m)] [] I L F := by
    intro r
    induction r with
    | zero =>
      intro m hm
      obtain rfl : m = n := by omega
      refine sgX12_spotSum_5 ?_
      rw [if_pos (nI_le (Nat.le_refl _) (by omega))]; exact h
    | succ r ih =>
      intro m hm
      have st := ih (m + 1) (by omega)
      rw [kPS] at st
      refine sgX12_spotSum_5 ?_
      rw [if_neg (nI_ge (by omega) (by omega))]
      refine pM_isSpotMark H HF hn (by omega) ?_
      rw [nI_1]
      cases hb : kcp (I 29) (nI np) (nI nf) (I 3) n m
      · rw [hb, Bool.false_and, if_neg (by decide)] at st
        rw [if_pos (by decide)]; exact st
      · obtain ⟨p, f, s, v, hp, hf, hs, hv, r2, r3, q98, v1, s1, s2, -⟩ := kcp_ok HF hn (by omega) b1 b2 hb
        have vm : vp_in (nI m) 80 := vp_in_nI (by omega) (by decide)
        rw [hb, Bool.true_and, s1] at st
        rw [if_neg (by decide), nI_clamp (by omega), s2, q98]
        refine ⟨vm, ?_⟩
        by_cases e : nI s = nI sp
        · rw [if_pos (decide_eq_true e)] at st; rw [if_pos e]; exact ⟨vm, st⟩
        · rw [decide_eq_false e, if_neg (by decide)] at st; rw [if_neg e]; exact st
  exact sgX12_spotSum_0 (key n 0 (by omega))
theorem pM_spotMany {d lv nf np nb nl npl nF n sp : Nat} {I : st_I} {L : st_L} {F : Int32 → st_I → st_L → Prop} (H : iv_told I lv nf np nb nl npl) (HF : iv_facts I nF) (hn : n ≤ nF) (hsp : sp < 10) (h : F (nI (kPM (I 29) (nI np) (nI nf) (I 3) n sp n)) I L) : EI (d + 4) mX12_spotMany [.ref 58, .int (nI n), .int (nI sp)] I L F := by
  have h80 := HF.1
  obtain ⟨hlv, b1, b2, b3, b4, b5, h18, -⟩ := id H.1
  have key : ∀ (r m : Nat), m + r = n → TI (d + 4) mX12_spotMany 5 [.ref 58, .int (nI n), .int (nI sp), .int (nI (kPM (I 29) (nI np) (nI nf) (I 3) n sp m)), .int (nI m)] [] I L F := by
    intro r
    induction r with
    | zero =>
      intro m hm
      obtain rfl : m = n := by omega
      refine sgX12_spotMany_5 ?_
      rw [if_pos (nI_le (Nat.le_refl _) (by omega))]; exact h
    | succ r ih =>
      intro m hm
      have st := ih (m + 1) (by omega)
      rw [kPM, cn, ← kPM] at st
      refine sgX12_spotMany_5 ?_
      rw [if_neg (nI_ge (by omega) (by omega))]
      refine pM_isSpotMark H HF hn (by omega) ?_
      rw [nI_1]
      cases hb : kcp (I 29) (nI np) (nI nf) (I 3) n m
      · rw [hb, Bool.false_and, if_neg (by decide)] at st
        rw [if_pos (by decide)]; exact st
      · obtain ⟨p, f, s, v, hp, hf, hs, hv, r2, r3, q98, v1, s1, s2, -⟩ := kcp_ok HF hn (by omega) b1 b2 hb
        have vm : vp_in (nI m) 80 := vp_in_nI (by omega) (by decide)
        rw [hb, Bool.true_and, s1] at st
        rw [if_neg (by decide), nI_clamp (by omega), s2]
        refine ⟨vm, ?_⟩
        by_cases e : nI s = nI sp
        · rw [if_pos (decide_eq_true e)] at st; rw [if_pos e, nI_1]; exact st
        · rw [decide_eq_false e, if_neg (by decide)] at st; rw [if_neg e]; exact st
  exact sgX12_spotMany_0 (key n 0 (by omega))
theorem op_spot {lv nf np nb nl npl nF : Nat} {I : st_I} {L : st_L} {P : st_I → st_L → Prop} (H : iv_told I lv nf np nb nl npl) (HF : iv_facts I nF) (hk : iv_kn I nf np nF) (hP : ∀ J, kq I J → iv_kn J nf np nF → J 57 = I 57 → P J L) (c b e : Int32) :
    EI 60 mX11_spot [.ref 0, .int c, .int b, .int e] I L (fun r I1 L1 => EI 60 mX12_spot [.ref 58, .int c, .int b, .int e] I1 L1 (fun r' I2 L2 => r' = r ∧ P I2 L2)) := by
  have no : P I L := hP I kq.rf hk rfl
  have h80 := HF.1
  refine sgX11_spot_0 ?_
  rcases ot_ix b 10 (by decide) with ho | ⟨sp, hsp, rfl⟩
  · have bad : EI 60 mX12_spot [.ref 58, .int c, .int b, .int e] I L (fun r' I2 L2 => r' = -1 ∧ P I2 L2) := by
      refine sgX12_spot_0 ?_
      rcases ot_ix c (nF + 1) (by omega) with ho2 | ⟨n, hn, rfl⟩
      · refine m_isKnown_o HF ho2 ?_
        rw [if_pos rfl]; exact ⟨rfl, no⟩
      · refine m_isKnown_i HF (by omega) ?_
        rw [if_neg (by decide)]
        refine in_out (n := 10) (by decide) ho ?_
        rw [if_pos rfl]; exact ⟨rfl, no⟩
    by_cases z : b < 0
    · rw [if_pos z]; exact bad
    · rw [if_neg z, if_pos (show (10 : Int32) ≤ b from ho.resolve_left z)]; exact bad
  rw [if_neg (nI_pos (by omega)), if_neg (show ¬ (10 : Int32) ≤ nI sp from nI_ge (b := 10) (by omega) (by decide))]
  rcases ot_ix e 2 (by decide) with ho | ⟨k, hk2, rfl⟩
  · have bad : EI 60 mX12_spot [.ref 58, .int c, .int (nI sp), .int e] I L (fun r' I2 L2 => r' = -1 ∧ P I2 L2) := by
      refine sgX12_spot_0 ?_
      rcases ot_ix c (nF + 1) (by omega) with ho2 | ⟨n, hn, rfl⟩
      · refine m_isKnown_o HF ho2 ?_
        rw [if_pos rfl]; exact ⟨rfl, no⟩
      · refine m_isKnown_i HF (by omega) ?_
        rw [if_neg (by decide)]
        refine in_in (n := 10) (by decide) hsp ?_
        rw [if_neg (by decide)]
        refine in_out (n := 2) (by decide) ho ?_
        rw [if_pos rfl]; exact ⟨rfl, no⟩
    by_cases z : e < 0
    · rw [if_pos z]; exact bad
    · obtain ⟨i, hi, rfl⟩ := nI_of z
      have : 2 ≤ i := (nI_leI (by omega) hi).mp (ho.resolve_left z)
      rw [if_neg z, if_pos (show (1 : Int32) < nI i from nI_lt (a := 1) (by omega) hi)]; exact bad
  rw [if_neg (nI_pos (by omega)), if_neg (show ¬ (1 : Int32) < nI k from nI_nlt (a := 1) (b := k) (by omega) (by decide))]
  rcases ot_ix c (nF + 1) (by omega) with ho | ⟨n, hn, rfl⟩
  · refine x_knows_o HF ho ?_
    rw [if_pos rfl]
    refine sgX12_spot_0 (m_isKnown_o HF ho ?_)
    rw [if_pos rfl]; exact ⟨rfl, no⟩
  refine x_knows_i H HF hk (by omega) (fun J hJ => ?_)
  have HJ := hJ.kq'.told H
  have HFJ := hJ.kq'.facts HF
  have hm := hJ.2.2.2.2.2.2.2.1 sp hsp
  have v10 : vp_in (nI sp) 10 := vp_in_nI hsp (by decide)
  have pk : P J L := hP J hJ.kq' (hJ.kn (by omega)) (hJ.1 57 (by decide))
  rw [if_neg (by decide), nI_clamp (by omega), hm.1, hm.2]
  have go : ∀ {F : Int32 → st_I → st_L → Prop}, (if nI k = 0 then EI 59 mX12_spotSum [.ref 58, .int (nI n), .int (nI sp)] J L (fun r4 I4 L4 => F r4 I4 L4) else EI 59 mX12_spotMany [.ref 58, .int (nI n), .int (nI sp)] J L (fun r5 I5 L5 => F r5 I5 L5)) → EI 60 mX12_spot [.ref 58, .int (nI n), .int (nI sp), .int (nI k)] J L F := by
    intro F h
    refine sgX12_spot_0 (m_isKnown_i HFJ (by omega) ?_)
    rw [if_neg (by decide)]
    refine in_in (n := 10) (by decide) hsp ?_
    rw [if_neg (by decide)]
    refine in_in (n := 2) (by decide) hk2 ?_
    rw [if_neg (by decide)]; exact h
  by_cases z : nI k = 0
  · rw [if_pos z]
    refine ⟨v10, go ?_⟩
    rw [if_pos z]
    exact pM_spotSum HJ HFJ (by omega) hsp ⟨rfl, pk⟩
  · rw [if_neg z]
    refine ⟨v10, go ?_⟩
    rw [if_neg z]
    exact pM_spotMany HJ HFJ (by omega) hsp ⟨rfl, pk⟩
