theorem op_place {I : st_I} {L : st_L} {P : st_I → st_L → Prop} (h : I 17 1 = I 58 17) (hP : P I L) : EI 60 mX11_place [.ref 0] I L (fun r I1 L1 => EI 60 mX12_place [.ref 58] I1 L1 (fun r' I2 L2 => r' = r ∧ P I2 L2)) :=
  sgX11_place_0 (sgX12_place_0 ⟨h.symm, hP⟩)
theorem sw_ne (j k : Nat) (hj : j < 2 ^ 31) (hk : k < 2 ^ 31) (h : j ≠ k) : ¬ nI j = nI k := fun z => h ((nI_eq hj hk).mp z)
/-- an answer that neither side has -/
theorem ot_ne {a : Int32} {n k : Nat} (ho : ot a n) (hk : k < n) (hn : n < 2 ^ 31) : ¬ a = nI k := by
  rintro rfl
  rcases ho with z | z
  · exact nI_pos (by omega) z
  · exact nI_ge hk hn z
theorem ot_nl {a : Int32} {n : Nat} (c : Int32) (k : Nat) (ho : ot a n) (hk : k < n := by decide) (hn : n < 2 ^ 31 := by decide) (hc : c = nI k := by rfl) : ¬ a = c := by
  rw [hc]; exact ot_ne ho hk hn
theorem sw_nl (j : Nat) (c : Int32) (k : Nat) (hj : j < 2 ^ 31) (h : j ≠ k) (hk : k < 2 ^ 31 := by decide) (hc : c = nI k := by rfl) : ¬ nI j = c := by
  rw [hc]; exact sw_ne j k hj hk h
theorem op_fiddle {lv nf np nb nl npl : Nat} {I : st_I} {L : st_L} {P : st_I → st_L → Prop} (H : iv_told I lv nf np nb nl npl) (hP : P I L) (a b : Int32) :
    EI 60 mX11_fiddle [.ref 0, .int a, .int b] I L (fun r I1 L1 => EI 60 mX12_fiddle [.ref 58, .int a, .int b] I1 L1 (fun r' I2 L2 => r' = r ∧ P I2 L2)) := by
  obtain ⟨hlv, b1, b2, b3, b4, b5, h18, -⟩ := id H.1
  refine sgX11_fiddle_0 ?_
  rcases ot_ix a nf (by omega) with ho | ⟨f, hf, rfl⟩
  · refine x_hasFiddle_o H ho ?_
    rw [if_pos rfl]
    refine sgX12_fiddle_0 (m_isFiddle_o H ho ?_)
    rw [if_pos rfl]; exact ⟨rfl, hP⟩
  obtain ⟨bf1, bf2, ef1, ef2, ef3⟩ := H.2.1 f hf
  refine x_hasFiddle_i H hf ?_
  rw [if_neg (by decide)]
  rcases ot_ix b 5 (by decide) with ho | ⟨k, hk, rfl⟩
  · have bad : EI 60 mX12_fiddle [.ref 58, .int (nI f), .int b] I L (fun r' I2 L2 => r' = -1 ∧ P I2 L2) := by
      refine sgX12_fiddle_0 (m_isFiddle_i H hf ?_)
      rw [if_neg (by decide), if_neg (ot_nl 0 0 ho), if_neg (ot_nl 1 1 ho), if_neg (ot_nl 2 2 ho), if_neg (ot_nl 3 3 ho), if_neg (ot_nl 4 4 ho)]
      exact ⟨rfl, hP⟩
    by_cases q : b < 0
    · rw [if_pos q]; exact bad
    · rw [if_neg q, if_neg (show ¬ b < 5 from Int32.not_lt.mpr (ho.resolve_left q))]; exact bad
  rw [if_neg (nI_pos (by omega)), if_pos (show nI k < 5 from nI_lt (b := 5) hk (by decide)), show nI f * 5 + nI k = nI (5 * f + k) by rw [ix50, nI_add], nI_clamp (by omega)]
  refine ⟨vp_in_nI (by omega) (by decide), sgX12_fiddle_0 (m_isFiddle_i H hf ?_)⟩
  rw [if_neg (by decide)]
  have mid : ∀ i, i < 3 → k = i + 1 → (24 : Int32) * nI lv + 3 * nI f + nI k - 1 = nI (24 * lv + 3 * f + i) := by
    intro i hi e
    subst e
    rw [show (24 : Int32) * nI lv + 3 * nI f + nI (i + 1) = nI (24 * lv + 3 * f + (i + 1)) from mx3 24 lv f (i + 1), ← Nat.add_assoc, nI_pred]
  rcases (show k = 0 ∨ k = 1 ∨ k = 2 ∨ k = 3 ∨ k = 4 by omega) with e | e | e | e | e
  · subst e
    rw [if_pos (show nI 0 = 0 from rfl)]
    refine pM_isOldOne H hf ?_
    rw [bo_if bf1]; exact ⟨rfl, hP⟩
  · rw [if_neg (sw_nl k 0 0 (by omega) (by omega)), if_pos (show nI k = 1 by rw [e]; rfl), h18, mid 0 (by omega) e, nI_clamp (by omega), ef3 0 (by omega)]
    subst e; exact ⟨vp_in_nI (by omega) (by decide), rfl, hP⟩
  · rw [if_neg (sw_nl k 0 0 (by omega) (by omega)), if_neg (sw_nl k 1 1 (by omega) (by omega)), if_pos (show nI k = 2 by rw [e]; rfl), h18, mid 1 (by omega) e, nI_clamp (by omega), ef3 1 (by omega)]
    subst e; exact ⟨vp_in_nI (by omega) (by decide), rfl, hP⟩
  · rw [if_neg (sw_nl k 0 0 (by omega) (by omega)), if_neg (sw_nl k 1 1 (by omega) (by omega)), if_neg (sw_nl k 2 2 (by omega) (by omega)), if_pos (show nI k = 3 by rw [e]; rfl), h18, mid 2 (by omega) e, nI_clamp (by omega), ef3 2 (by omega)]
    subst e; exact ⟨vp_in_nI (by omega) (by decide), rfl, hP⟩
  · subst e
    rw [if_neg (sw_nl 4 0 0 (by omega) (by omega)), if_neg (sw_nl 4 1 1 (by omega) (by omega)), if_neg (sw_nl 4 2 2 (by omega) (by omega)), if_neg (sw_nl 4 3 3 (by omega) (by omega)), if_pos (show nI 4 = 4 from rfl), h18, show (8 : Int32) * nI lv + nI f = nI (8 * lv + f) from mx 8 lv f, nI_clamp (by omega), ef2, bo_if bf2]
    exact ⟨vp_in_nI (by omega) (by decide), rfl, hP⟩
theorem x_has28 {d nF k : Nat} {I : st_I} {L : st_L} {F : Int32 → st_I → st_L → Prop} (h28 : I 28 0 = nI nF) (hn : nF ≤ 80) (hk : k < nF) (h : F 1 I L) : EI d mX0_has [.ref 28, .int (nI k)] I L F := by
  refine sgX0_has_0 ?_
  rw [h28, if_neg (nI_pos (by omega)), if_neg (nI_ge hk (by omega))]; exact h
theorem x_of {d nF k c : Nat} {I : st_I} {L : st_L} {F : Int32 → st_I → st_L → Prop} (h28 : I 28 0 = nI nF) (hn : nF ≤ 80) (hk : k < nF) (hc : c < 6) (h : F (I 29 (6 * k + c)) I L) : EI (d + 1) mX0_of [.ref 28, .int (nI k), .int (nI c)] I L F := by
  refine sgX0_of_0 (x_has28 h28 hn hk ?_)
  rw [if_neg (by decide), if_neg (nI_pos (by omega)), if_pos (show nI c < 6 from nI_lt (b := 6) hc (by decide)), show nI k * 6 + nI c = nI (6 * k + c) by rw [show (6 : Int32) = nI 6 from rfl, pk_mul, nI_add, Nat.mul_comm], nI_clamp (by omega)]
  exact ⟨vp_in_nI (by omega) (by decide), h⟩
theorem x_hasF_o {d nF : Nat} {I : st_I} {L : st_L} {F : Int32 → st_I → st_L → Prop} (H : iv_facts I nF) {a : Int32} (ho : ot a nF) (h : F 0 I L) : EI d mX0_has [.ref 28, .int a] I L F := by
  refine sgX0_has_0 ?_
  rw [H.2.1]
  by_cases h0 : a < 0
  · rw [if_pos h0]; exact h
  · rw [if_neg h0, if_pos (ho.resolve_left h0)]; exact h
theorem x_hasF_i {d nF k : Nat} {I : st_I} {L : st_L} {F : Int32 → st_I → st_L → Prop} (H : iv_facts I nF) (hk : k < nF) (h : F 1 I L) : EI d mX0_has [.ref 28, .int (nI k)] I L F := by
  have := H.1
  refine sgX0_has_0 ?_
  rw [H.2.1, if_neg (nI_pos (by omega)), if_neg (nI_ge hk (by omega))]; exact h
theorem op_fact {nF : Nat} {I : st_I} {L : st_L} {P : st_I → st_L → Prop} (H : iv_facts I nF) (hP : P I L) (a b : Int32) :
    EI 60 mX11_fact [.ref 0, .int a, .int b] I L (fun r I1 L1 => EI 60 mX12_fact [.ref 58, .int a, .int b] I1 L1 (fun r' I2 L2 => r' = r ∧ P I2 L2)) := by
  have h80 := H.1
  refine sgX11_fact_0 ?_
  rcases ot_ix a nF (by omega) with ho | ⟨k, hk, rfl⟩
  · refine x_hasF_o H ho ?_
    rw [if_pos rfl]
    refine sgX12_fact_0 ?_
    rw [H.2.2.1]
    refine in_out (by omega) ho ?_
    rw [if_pos rfl]; exact ⟨rfl, hP⟩
  refine x_hasF_i H hk ?_
  rw [if_neg (by decide)]
  obtain ⟨e95, e96, hc⟩ := H.2.2.2 k hk
  have to : ∀ {F : Int32 → st_I → st_L → Prop}, (if b = 0 then F (I 95 k) I L else (if b = 1 then F (I 96 k) I L else (if b = 2 then (if I 95 k = 2 then F (-1) I L else F (I 97 k) I L) else (if b = 3 then (if I 95 k = 2 then F (-1) I L else F (I 98 k) I L) else (if b = 4 then (if I 95 k = 0 then F (I 99 k) I L else F (-1) I L) else (if b = 5 then (if I 95 k = 0 then F (if I 100 k = 0 then (0 : Int32) else 1) I L else F (-1) I L) else F (-1) I L)))))) → EI 60 mX12_fact [.ref 58, .int (nI k), .int b] I L F := by
    intro F h
    refine sgX12_fact_0 ?_
    rw [H.2.2.1]
    refine in_in (by omega) hk ?_
    have hv : vp_in (nI k) 80 := vp_in_nI (by omega) (by decide)
    rw [if_neg (by decide), nI_clamp (by omega)]
    simp only [hv, true_and]
    exact h
  rcases ot_ix b 6 (by decide) with ho | ⟨c, hc6, rfl⟩
  · have bad : EI 60 mX12_fact [.ref 58, .int (nI k), .int b] I L (fun r' I2 L2 => r' = -1 ∧ P I2 L2) := by
      refine to ?_
      rw [if_neg (ot_nl 0 0 ho), if_neg (ot_nl 1 1 ho), if_neg (ot_nl 2 2 ho), if_neg (ot_nl 3 3 ho), if_neg (ot_nl 4 4 ho), if_neg (ot_nl 5 5 ho)]
      exact ⟨rfl, hP⟩
    by_cases q : b < 0
    · rw [if_pos q]; exact bad
    · rw [if_neg q, if_neg (show ¬ b < 6 from Int32.not_lt.mpr (ho.resolve_left q))]; exact bad
  rw [if_neg (nI_pos (by omega)), if_pos (show nI c < 6 from nI_lt (b := 6) hc6 (by decide))]
  refine x_of H.2.1 H.1 hk hc6 (to ?_)
  rcases (show c = 0 ∨ c = 1 ∨ c = 2 ∨ c = 3 ∨ c = 4 ∨ c = 5 by omega) with e | e | e | e | e | e <;> subst e <;> simp only [show nI 0 = 0 from rfl, show nI 1 = 1 from rfl, show nI 2 = 2 from rfl, show nI 3 = 3 from rfl, show nI 4 = 4 from rfl, show nI 5 = 5 from rfl, show ((1 : Int32) = 0) = False by decide, show ((2 : Int32) = 0) = False by decide, show ((2 : Int32) = 1) = False by decide, show ((3 : Int32) = 0) = False by decide, show ((3 : Int32) = 1) = False by decide, show ((3 : Int32) = 2) = False by decide, show ((4 : Int32) = 0) = False by decide, show ((4 : Int32) = 1) = False by decide, show ((4 : Int32) = 2) = False by decide, show ((4 : Int32) = 3) = False by decide, show ((5 : Int32) = 0) = False by decide, show ((5 : Int32) = 1) = False by decide, show ((5 : Int32) = 2) = False by decide, show ((5 : Int32) = 3) = False by decide, show ((5 : Int32) = 4) = False by decide, if_true, if_false, e95, e96, Nat.add_zero]
  · exact ⟨trivial, hP⟩
  · exact ⟨trivial, hP⟩
  · rcases hc with ⟨q0, -, ⟨f, -, q1, q2⟩, -⟩ | ⟨q0, -, ⟨f, -, q1, q2⟩, -⟩ | ⟨q0, -, q1, -⟩
    · rw [q0, if_neg (by decide), q1, q2]; exact ⟨rfl, hP⟩
    · rw [q0, if_neg (by decide), q1, q2]; exact ⟨rfl, hP⟩
    · rw [q0, if_pos rfl, q1]; exact ⟨rfl, hP⟩
  · rcases hc with ⟨q0, -, -, ⟨f, -, q1, q2⟩, -⟩ | ⟨q0, -, -, -, q1, -⟩ | ⟨q0, -, -, q1, -⟩
    · rw [q0, if_neg (by decide), q1, q2]; exact ⟨rfl, hP⟩
    · rw [q0, if_neg (by decide), q1]; exact ⟨rfl, hP⟩
    · rw [q0, if_pos rfl, q1]; exact ⟨rfl, hP⟩
  · rcases hc with ⟨q0, -, -, -, ⟨f, -, q1, q2⟩, -⟩ | ⟨q0, -, -, -, -, q1, -⟩ | ⟨q0, -, -, -, q1, -⟩
    · rw [q0, if_pos rfl, q1, q2]; exact ⟨rfl, hP⟩
    · rw [q0, if_neg (by decide), q1]; exact ⟨rfl, hP⟩
    · rw [q0, if_neg (by decide), q1]; exact ⟨rfl, hP⟩
  · rcases hc with ⟨q0, -, -, -, -, q1, q2⟩ | ⟨q0, -, -, -, -, -, q1⟩ | ⟨q0, -, -, -, -, q1⟩
    · rw [q0, if_pos rfl, q2, bo_if q1]; exact ⟨rfl, hP⟩
    · rw [q0, if_neg (by decide), q1]; exact ⟨rfl, hP⟩
    · rw [q0, if_neg (by decide), q1]; exact ⟨rfl, hP⟩
