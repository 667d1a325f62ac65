/-! what is KNOWN -/
/-- fact k counts by n (no VOID) -/
def kb (R : Nat → Int32) (P Q : Int32) (n k : Nat) : Bool := decide (¬ R (6 * k) = 2 ∧ R (6 * k + 1) < P ∧ R (6 * k + 2) < Q ∧ ∀ j, j < n → (k < j → ¬ (R (6 * j) = 2 ∧ R (6 * j + 1) = nI k)))
/-- as far as the class has sifted -/
def kbm (R : Nat → Int32) (P Q : Int32) (m k : Nat) : Bool := decide (k < m) && kb R P Q m k
def rok (R : Nat → Int32) (n : Nat) : Prop := ∀ k, k < n → (R (6 * k) = 2 ∧ ∃ j, j < k ∧ R (6 * k + 1) = nI j) ∨ ((R (6 * k) = 0 ∨ R (6 * k) = 1) ∧ (∃ p, p < 10 ∧ R (6 * k + 1) = nI p) ∧ ∃ f, f < 8 ∧ R (6 * k + 2) = nI f)
theorem iv_facts.rok' {I : st_I} {nF : Nat} (H : iv_facts I nF) : rok (I 29) nF := by
  intro k hk
  rcases (H.2.2.2 k hk).2.2 with ⟨a, b, ⟨f, hf, c, -⟩, -⟩ | ⟨a, b, ⟨f, hf, c, -⟩, -⟩ | ⟨a, ⟨j, hj, b, -⟩, -⟩
  · exact Or.inr ⟨Or.inl a, b, f, hf, c⟩
  · exact Or.inr ⟨Or.inr a, b, f, hf, c⟩
  · exact Or.inl ⟨a, j, hj, b⟩
theorem kb_s {R : Nat → Int32} {P Q : Int32} {m k : Nat} (hk : k < m) : kb R P Q (m + 1) k = (kb R P Q m k && !decide (R (6 * m) = 2 ∧ R (6 * m + 1) = nI k)) := by
  unfold kb
  by_cases h : R (6 * m) = 2 ∧ R (6 * m + 1) = nI k
  · rw [decide_eq_true h, Bool.not_true, Bool.and_false]
    exact decide_eq_false (fun z => z.2.2.2 m (by omega) hk h)
  · rw [decide_eq_false h, Bool.not_false, Bool.and_true]
    refine decide_eq_decide.mpr ⟨fun z => ⟨z.1, z.2.1, z.2.2.1, fun j hj => z.2.2.2 j (by omega)⟩, fun z => ⟨z.1, z.2.1, z.2.2.1, fun j hj hkj => ?_⟩⟩
    by_cases e : j = m
    · subst e; exact h
    · exact z.2.2.2 j (by omega) hkj
theorem kb_new {R : Nat → Int32} {P Q : Int32} {m : Nat} : kb R P Q (m + 1) m = decide (¬ R (6 * m) = 2 ∧ R (6 * m + 1) < P ∧ R (6 * m + 2) < Q) := by
  unfold kb
  exact decide_eq_decide.mpr ⟨fun z => ⟨z.1, z.2.1, z.2.2.1⟩, fun z => ⟨z.1, z.2.1, z.2.2, fun j hj hkj => by omega⟩⟩
def b01 (b : Bool) : Int32 := if b then 1 else 0
/-- counts once m facts are sifted -/
def sc (R : Nat → Int32) (P Q : Int32) (m k : Nat) : Int32 := b01 (kbm R P Q m k)
theorem sc_void {R : Nat → Int32} {P Q : Int32} {m i : Nat} (h : R (6 * m) = 2) (hi : i < m) (e : R (6 * m + 1) = nI i) (hm : m < 80) (k : Nat) (hk : k < 80) : sc R P Q (m + 1) k = if k = i then 0 else sc R P Q m k := by
  unfold sc kbm
  by_cases h1 : k < m
  · rw [kb_s h1, decide_eq_true h1, decide_eq_true (show k < m + 1 by omega)]
    by_cases h2 : k = i
    · subst h2
      rw [if_pos rfl, decide_eq_true (show R (6 * m) = 2 ∧ R (6 * m + 1) = nI k from ⟨h, e⟩)]
      simp [b01]
    · rw [if_neg h2, decide_eq_false (fun z => h2 ((nI_eq (by omega) (by omega)).mp (z.2.symm.trans e)))]
      simp
  · rw [decide_eq_false h1, if_neg (by omega)]
    by_cases h2 : k = m
    · subst h2
      simp [kb_new, h, b01]
    · rw [decide_eq_false (show ¬ k < m + 1 by omega)]; simp [b01]
theorem sc_fact {R : Nat → Int32} {P Q : Int32} {m : Nat} (h : ¬ R (6 * m) = 2) (k : Nat) : sc R P Q (m + 1) k = if k = m then b01 (decide (R (6 * m + 1) < P ∧ R (6 * m + 2) < Q)) else sc R P Q m k := by
  unfold sc kbm
  by_cases h1 : k < m
  · rw [kb_s h1, decide_eq_true h1, decide_eq_true (show k < m + 1 by omega), if_neg (by omega), decide_eq_false (fun z => h z.1)]; simp
  · by_cases h2 : k = m
    · subst h2
      rw [if_pos rfl, kb_new]
      simp [h]
    · rw [if_neg h2, decide_eq_false h1, decide_eq_false (show ¬ k < m + 1 by omega)]; rfl
theorem pX_sift {d lv nf np nb nl npl nF n : Nat} {I : st_I} {L : st_L} {F : st_I → st_L → Prop} (H : iv_told I lv nf np nb nl npl) (HF : iv_facts I nF) (hn : n ≤ nF) (h30 : I 30 0 = nI n) (h0 : ∀ j, j < 80 → I 31 j = 0) (h : ∀ J : st_I, (∀ q, q ≠ 31 → J q = I q) → (∀ j, j < 80 → J 31 j = sc (I 29) (nI np) (nI nf) n j) → F J L) : EV (d + 2) mX2_sift [.ref 30, .ref 1, .ref 28] I L F := by
  have h80 := HF.1
  have hR := HF.rok'
  obtain ⟨hlv, b1, b2, b3, b4, b5, -⟩ := id H.1
  have key : ∀ (r m : Nat) (J : st_I), m + r = n → (∀ q, q ≠ 31 → J q = I q) → (∀ j, j < 80 → J 31 j = sc (I 29) (nI np) (nI nf) m j) → TV (d + 2) mX2_sift 2 [.ref 30, .ref 1, .ref 28, .int (nI m), .null, .null] [] J L F := by
    intro r
    induction r with
    | zero =>
      intro m J hm hJ hc
      obtain rfl : m = n := by omega
      refine sgX2_sift_2 ?_
      rw [hJ 30 (by decide), h30, if_pos (nI_le (Nat.le_refl _) (by omega))]
      exact h J hJ hc
    | succ r ih =>
      intro m J hm hJ hc
      have HJ : iv_told J lv nf np nb nl npl := iv_told_congr (fun q hq => hJ q (by omega)) (by rw [hJ 58 (by decide)]) H
      have e29 := hJ 29 (by decide)
      have h28 : J 28 0 = nI nF := by rw [hJ 28 (by decide)]; exact HF.2.1
      have hmF : m < nF := by omega
      refine sgX2_sift_2 ?_
      rw [hJ 30 (by decide), h30, if_neg (nI_ge (by omega) (by omega))]
      refine x_of (c := 1) h28 h80 hmF (by decide) (x_of (c := 0) h28 h80 hmF (by decide) ?_)
      rw [e29, Nat.add_zero, nI_1]
      rcases hR m (by omega) with ⟨z, i, hi, e⟩ | ⟨z, ⟨p, hp, e1⟩, ⟨f, hf, e2⟩⟩
      · rw [if_pos z, if_neg (show ¬ (1 : Int32) = 0 by decide), e]
        refine x_has28 h28 h80 (show i < nF by omega) ?_
        rw [if_neg (show ¬ (1 : Int32) = 0 by decide), nI_clamp (by omega)]
        refine ⟨vp_in_nI (by omega) (by decide), ih (m + 1) _ (by omega) (fun q hq => by rw [u_I_ne _ _ hq]; exact hJ q hq) (fun j hj => ?_)⟩
        rw [sc_void z hi e (by omega) j hj]
        by_cases q : j = i
        · rw [if_pos q]; subst q; simp [u_I]
        · rw [if_neg q]; simp only [u_I, if_true, if_neg q]; exact hc j hj
      · have nz : ¬ I 29 (6 * m) = 2 := by rcases z with z | z <;> rw [z] <;> decide
        rw [if_neg nz, if_pos rfl]
        have skip : ¬ (I 29 (6 * m + 1) < nI np ∧ I 29 (6 * m + 2) < nI nf) → TV (d + 2) mX2_sift 2 [.ref 30, .ref 1, .ref 28, .int (nI (m + 1)), .null, .null] [] J L F := by
          intro hno
          refine ih (m + 1) J (by omega) hJ (fun j hj => ?_)
          rw [sc_fact nz, decide_eq_false hno, hc j hj]
          by_cases q : j = m
          · rw [if_pos q]; subst q; unfold sc kbm; simp
          · rw [if_neg q]
        refine sgX2_sift_60 ?_
        rw [if_pos rfl, nI_1]
        by_cases hp2 : p < np
        · rw [e1]
          refine x_hasPerson_i HJ hp2 ?_
          rw [if_neg (by decide)]
          refine x_of (c := 2) h28 h80 hmF (by decide) ?_
          rw [e29]
          by_cases hf2 : f < nf
          · rw [e2]
            refine x_hasFiddle_i HJ hf2 ?_
            rw [if_neg (by decide), nI_clamp (by omega)]
            refine ⟨vp_in_nI (by omega) (by decide), ih (m + 1) _ (by omega) (fun q hq => by rw [u_I_ne _ _ hq]; exact hJ q hq) (fun j hj => ?_)⟩
            rw [sc_fact nz, decide_eq_true (show I 29 (6 * m + 1) < nI np ∧ I 29 (6 * m + 2) < nI nf from ⟨by rw [e1]; exact nI_lt hp2 (by omega), by rw [e2]; exact nI_lt hf2 (by omega)⟩)]
            by_cases q : j = m
            · rw [if_pos q]; subst q; simp [u_I, b01]
            · rw [if_neg q]; simp only [u_I, if_true, if_neg q]; exact hc j hj
          · refine x_hasFiddle_o HJ (Or.inr (by rw [e2]; exact nI_le (by omega) (by omega))) ?_
            rw [if_pos rfl]
            exact skip (fun z => by rw [e2] at z; exact nI_nlt (by omega) (by omega) z.2)
        · refine x_hasPerson_o HJ (Or.inr (by rw [e1]; exact nI_le (by omega) (by omega))) ?_
          rw [if_pos rfl]
          exact skip (fun z => by rw [e1] at z; exact nI_nlt (by omega) (by omega) z.1)
  refine sgX2_sift_0 (key n 0 I (by omega) (fun _ _ => rfl) (fun j hj => ?_))
  rw [h0 j hj]; unfold sc kbm; simp [b01]
/-- fact k counts, of sort s -/
def kc (R : Nat → Int32) (P Q : Int32) (n k : Nat) (s : Int32) : Bool := decide (R (6 * k) = s) && kb R P Q n k
theorem pM_counts {d lv nf np nb nl npl nF n k : Nat} {s : Int32} {I : st_I} {L : st_L} {F : Int32 → st_I → st_L → Prop} (H : iv_told I lv nf np nb nl npl) (HF : iv_facts I nF) (hn : n ≤ nF) (hk : k < n) (hs : s = 0 ∨ s = 1) (h : F (b01 (kc (I 29) (nI np) (nI nf) n k s)) I L) : EI (d + 2) mX12_counts [.ref 58, .int (nI k), .int s, .int (nI n)] I L F := by
  have h80 := HF.1
  obtain ⟨hlv, b1, b2, b3, b4, b5, -⟩ := id H.1
  obtain ⟨e95, e96, hc⟩ := HF.2.2.2 k (by omega)
  have vk : vp_in (nI k) 80 := vp_in_nI (by omega) (by decide)
  have ck : (nI k).toNatClampNeg = k := nI_clamp (by omega)
  refine sgX12_counts_0 ?_
  rw [ck, e95]
  refine ⟨vk, ?_⟩
  by_cases hs0 : I 29 (6 * k) = s
  · rw [if_pos hs0]
    have nz : ¬ I 29 (6 * k) = 2 := by rw [hs0]; rcases hs with z | z <;> rw [z] <;> decide
    have : ∃ p f, p < 10 ∧ f < 8 ∧ I 29 (6 * k + 1) = nI p ∧ I 29 (6 * k + 2) = nI f ∧ I 97 k = nI f := by
      rcases hc with ⟨-, ⟨p, hp, a⟩, ⟨f, hf, b, c⟩, -⟩ | ⟨-, ⟨p, hp, a⟩, ⟨f, hf, b, c⟩, -⟩ | ⟨z, -⟩
      · exact ⟨p, f, hp, hf, a, b, c⟩
      · exact ⟨p, f, hp, hf, a, b, c⟩
      · exact absurd z nz
    obtain ⟨p, f, hp, hf, e1, e2, e3⟩ := this
    refine ⟨vk, ?_⟩
    rw [e96, e1]
    unfold kc at h
    rw [decide_eq_true hs0, Bool.true_and] at h
    by_cases hp2 : p < np
    · refine m_isPerson_i H hp2 ?_
      rw [if_neg (by decide), e3]
      refine ⟨vk, ?_⟩
      by_cases hf2 : f < nf
      · refine m_isFiddle_i H hf2 ?_
        rw [if_neg (by decide), nI_1]
        have key : ∀ (r j : Nat), j + r = n → k < j → (∀ i, i < j → k < i → ¬ (I 29 (6 * i) = 2 ∧ I 29 (6 * i + 1) = nI k)) → TI (d + 2) mX12_counts 43 [.ref 58, .int (nI k), .null, .int (nI n), .int (nI j)] [] I L F := by
          intro r
          induction r with
          | zero =>
            intro j hj hkj hno
            obtain rfl : j = n := by omega
            refine sgX12_counts_43 ?_
            rw [if_pos (nI_le (Nat.le_refl _) (by omega))]
            have : kb (I 29) (nI np) (nI nf) j k = true := decide_eq_true ⟨nz, by rw [e1]; exact nI_lt hp2 (by omega), by rw [e2]; exact nI_lt hf2 (by omega), hno⟩
            rw [this] at h
            exact h
          | succ r ih =>
            intro j hj hkj hno
            obtain ⟨j95, j96, -⟩ := HF.2.2.2 j (by omega)
            refine sgX12_counts_43 ?_
            rw [if_neg (nI_ge (by omega) (by omega)), nI_clamp (by omega), j95, j96, nI_1]
            refine ⟨vp_in_nI (by omega) (by decide), ?_⟩
            by_cases z : I 29 (6 * j) = 2
            · rw [if_pos z]
              refine ⟨vp_in_nI (by omega) (by decide), ?_⟩
              by_cases y : I 29 (6 * j + 1) = nI k
              · rw [if_pos y]
                have : kb (I 29) (nI np) (nI nf) n k = false := decide_eq_false (fun w => w.2.2.2 j (by omega) hkj ⟨z, y⟩)
                rw [this] at h; exact h
              · rw [if_neg y]
                refine ih (j + 1) (by omega) (by omega) (fun i hi hki => ?_)
                by_cases e : i = j
                · subst e; exact fun w => y w.2
                · exact hno i (by omega) hki
            · rw [if_neg z]
              refine ih (j + 1) (by omega) (by omega) (fun i hi hki => ?_)
              by_cases e : i = j
              · subst e; exact fun w => z w.1
              · exact hno i (by omega) hki
        exact key (n - (k + 1)) (k + 1) (by omega) (by omega) (fun i hi hki => by omega)
      · refine m_isFiddle_o H (Or.inr (nI_le (by omega) (by omega))) ?_
        rw [if_pos rfl]
        have : kb (I 29) (nI np) (nI nf) n k = false := decide_eq_false (fun w => by have := w.2.2.1; rw [e2] at this; exact nI_nlt (by omega) (by omega) this)
        rw [this] at h; exact h
    · refine m_isPerson_o H (Or.inr (nI_le (by omega) (by omega))) ?_
      rw [if_pos rfl]
      have : kb (I 29) (nI np) (nI nf) n k = false := decide_eq_false (fun w => by have := w.2.1; rw [e1] at this; exact nI_nlt (by omega) (by omega) this)
      rw [this] at h; exact h
  · rw [if_neg hs0]
    unfold kc at h
    rw [decide_eq_false hs0, Bool.false_and] at h
    exact h
theorem m_isKnown_i {d nF n : Nat} {I : st_I} {L : st_L} {F : Int32 → st_I → st_L → Prop} (HF : iv_facts I nF) (hn : n ≤ nF) (h : F 1 I L) : EI (d + 1) mX12_isKnown [.ref 58, .int (nI n)] I L F := by
  have h80 := HF.1
  refine sgX12_isKnown_0 ?_
  rw [HF.2.2.1, ← nI_pred nF]
  exact in_in (n := nF + 1) (by omega) (by omega) ⟨Or.inr rfl, h⟩
theorem m_isKnown_o {d nF : Nat} {I : st_I} {L : st_L} {F : Int32 → st_I → st_L → Prop} {a : Int32} (HF : iv_facts I nF) (ho : ot a (nF + 1)) (h : F 0 I L) : EI (d + 1) mX12_isKnown [.ref 58, .int a] I L F := by
  have h80 := HF.1
  refine sgX12_isKnown_0 ?_
  rw [HF.2.2.1, ← nI_pred nF]
  exact in_out (n := nF + 1) (by omega) ho ⟨Or.inl rfl, h⟩
