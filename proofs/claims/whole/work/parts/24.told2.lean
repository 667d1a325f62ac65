theorem op_person {lv nf np nb nl npl : Nat} {I : st_I} {L : st_L} {P : st_I → st_L → Prop} (H : iv_told I lv nf np nb nl npl) (hP : P I L) (a b : Int32) :
    EI 60 mX11_person [.ref 0, .int a, .int b] I L (fun r I1 L1 => EI 60 mX12_person [.ref 58, .int a, .int b] I1 L1 (fun r' I2 L2 => r' = r ∧ P I2 L2)) := by
  obtain ⟨hlv, b1, b2, b3, b4, b5, h18, -⟩ := id H.1
  refine sgX11_person_0 ?_
  rcases ot_ix a np (by omega) with ho | ⟨f, hf, rfl⟩
  · refine x_hasPerson_o H ho ?_
    rw [if_pos rfl]
    refine sgX12_person_0 (m_isPerson_o H ho ?_)
    rw [if_pos rfl]; exact ⟨rfl, hP⟩
  obtain ⟨bf1, ef1, ef2, ef3⟩ := H.2.2.1 f hf
  refine x_hasPerson_i H hf ?_
  rw [if_neg (by decide)]
  rcases ot_ix b 5 (by decide) with ho | ⟨k, hk, rfl⟩
  · have bad : EI 60 mX12_person [.ref 58, .int (nI f), .int b] I L (fun r' I2 L2 => r' = -1 ∧ P I2 L2) := by
      refine sgX12_person_0 (m_isPerson_i H hf ?_)
      rw [if_neg (by decide), if_neg (ot_nl 0 0 ho), if_neg (ot_nl 1 1 ho), if_neg (ot_nl 2 2 ho), if_neg (ot_nl 3 3 ho), if_neg (ot_nl 4 4 ho)]
      exact ⟨rfl, hP⟩
    by_cases q : b < 0
    · rw [if_pos q]; exact bad
    · rw [if_neg q, if_neg (show ¬ b < 5 from Int32.not_lt.mpr (ho.resolve_left q))]; exact bad
  rw [if_neg (nI_pos (by omega)), if_pos (show nI k < 5 from nI_lt (b := 5) hk (by decide)), show nI f * 5 + nI k = nI (5 * f + k) by rw [ix50, nI_add], nI_clamp (by omega)]
  refine ⟨vp_in_nI (by omega) (by decide), sgX12_person_0 (m_isPerson_i H hf ?_)⟩
  rw [if_neg (by decide)]
  have mid : ∀ i, i < 3 → k = i + 1 → (30 : Int32) * nI lv + 3 * nI f + nI k - 1 = nI (30 * lv + 3 * f + i) := by
    intro i hi e
    subst e
    rw [show (30 : Int32) * nI lv + 3 * nI f + nI (i + 1) = nI (30 * lv + 3 * f + (i + 1)) from mx3 30 lv f (i + 1), ← Nat.add_assoc, nI_pred]
  rcases (show k = 0 ∨ k = 1 ∨ k = 2 ∨ k = 3 ∨ k = 4 by omega) with e | e | e | e | e
  · subst e
    rw [if_pos (show nI 0 = 0 from rfl)]
    refine pM_isPlayer H hf ?_
    rw [bo_not bf1]; exact ⟨rfl, hP⟩
  · rw [if_neg (sw_nl k 0 0 (by omega) (by omega)), if_pos (show nI k = 1 by rw [e]; rfl), h18, mid 0 (by omega) e, nI_clamp (by omega), ef3 0 (by omega)]
    subst e; exact ⟨vp_in_nI (by omega) (by decide), rfl, hP⟩
  · rw [if_neg (sw_nl k 0 0 (by omega) (by omega)), if_neg (sw_nl k 1 1 (by omega) (by omega)), if_pos (show nI k = 2 by rw [e]; rfl), h18, mid 1 (by omega) e, nI_clamp (by omega), ef3 1 (by omega)]
    subst e; exact ⟨vp_in_nI (by omega) (by decide), rfl, hP⟩
  · rw [if_neg (sw_nl k 0 0 (by omega) (by omega)), if_neg (sw_nl k 1 1 (by omega) (by omega)), if_neg (sw_nl k 2 2 (by omega) (by omega)), if_pos (show nI k = 3 by rw [e]; rfl), h18, mid 2 (by omega) e, nI_clamp (by omega), ef3 2 (by omega)]
    subst e; exact ⟨vp_in_nI (by omega) (by decide), rfl, hP⟩
  · subst e
    rw [if_neg (sw_nl 4 0 0 (by omega) (by omega)), if_neg (sw_nl 4 1 1 (by omega) (by omega)), if_neg (sw_nl 4 2 2 (by omega) (by omega)), if_neg (sw_nl 4 3 3 (by omega) (by omega)), if_pos (show nI 4 = 4 from rfl), h18, show (10 : Int32) * nI lv + nI f = nI (10 * lv + f) from mx 10 lv f, nI_clamp (by omega), ef2]
    exact ⟨vp_in_nI (by omega) (by decide), rfl, hP⟩
/-- c .. c + n - 1 -/
theorem ot_ixc (a : Int32) (c n : Nat) (hc : c + n < 2 ^ 31) : (a < nI c ∨ nI (c + n) ≤ a) ∨ ∃ j, j < n ∧ a = nI (c + j) := by
  rcases ot_ix a (c + n) hc with (h | h) | ⟨j, hj, e⟩
  · exact Or.inl (Or.inl (Int32.lt_of_lt_of_le h (nI_pos' (by omega))))
  · exact Or.inl (Or.inr h)
  · subst e
    by_cases hjc : j < c
    · exact Or.inl (Or.inl (nI_lt hjc (by omega)))
    · exact Or.inr ⟨j - c, by omega, by rw [show c + (j - c) = j by omega]⟩
theorem in_o2 {d : Nat} {I : st_I} {L : st_L} {F : Int32 → st_I → st_L → Prop} {a m : Int32} {c n : Nat} (hn : c + n < 2 ^ 30) (hc : 0 < c) (hm : m = nI (c + n - 1)) (ho : a < nI c ∨ nI (c + n) ≤ a) (h : F 0 I L) : EI d mX12_in [.int a, .int (nI c), .int m] I L F := by
  refine sgX12_in_0 ?_
  by_cases h0 : a < nI c
  · rw [if_pos h0]; exact h
  · have q := ho.resolve_left h0
    have h1 : ¬ a < 0 := Int32.not_lt.mpr (Int32.le_trans (nI_pos' (show c < 2 ^ 31 by omega)) (Int32.not_lt.mp h0))
    obtain ⟨j, hj, rfl⟩ := nI_of h1
    have hjn : c + n ≤ j := (nI_leI (by omega) hj).mp q
    rw [if_neg h0, hm, if_pos (nI_lt (by omega) hj)]; exact h
theorem in_i2 {d : Nat} {I : st_I} {L : st_L} {F : Int32 → st_I → st_L → Prop} {m : Int32} {c n j : Nat} (hn : c + n < 2 ^ 30) (hm : m = nI (c + n - 1)) (hj : j < n) (h : F 1 I L) : EI d mX12_in [.int (nI (c + j)), .int (nI c), .int m] I L F := by
  refine sgX12_in_0 ?_
  rw [if_neg (nI_nlt (by omega) (by omega)), hm, if_neg (nI_nlt (by omega) (by omega))]; exact h
theorem op_count {lv nf np nb nl npl nF : Nat} {I : st_I} {L : st_L} {P : st_I → st_L → Prop} (H : iv_told I lv nf np nb nl npl) (HF : iv_facts I nF) (HT : iv_tape I) (hP : P I L) (a : Int32) :
    EI 60 mX11_count [.ref 0, .int a] I L (fun r I1 L1 => EI 60 mX12_count [.ref 58, .int a] I1 L1 (fun r' I2 L2 => r' = r ∧ P I2 L2)) := by
  obtain ⟨hlv, b1, b2, b3, b4, b5, h18, c0, c1, c2, c3, c4, m0, m1, m2, m3, m4⟩ := id H.1
  obtain ⟨n, hn, t1, t2, -⟩ := HT
  have v2 : vp_in (nI lv) 2 := vp_in_nI (by omega) (by decide)
  refine sgX11_count_0 ?_
  have to : ∀ {F : Int32 → st_I → st_L → Prop}, (if a = 0 then F (nI nf) I L else (if a = 1 then F (nI np) I L else (if a = 2 then F (nI nb) I L else (if a = 3 then F (nI nl) I L else (if a = 4 then F (nI npl) I L else (if a = 5 then F (nI nF) I L else (if a = 6 then F (nI n) I L else EI 59 mX12_in [.int a, .int 10, .int (9 + nI npl)] I L (fun r1 I1 L1 => (if r1 = 0 then F (-1) I1 L1 else vp_in (((4 * (I1 58 18)) + a) - 10) 8 ∧ F (I1 83 ((((4 * (I1 58 18)) + a) - 10).toNatClampNeg)) I1 L1))))))))) → EI 60 mX12_count [.ref 58, .int a] I L F := by
    intro F h
    refine sgX12_count_0 ?_
    rw [h18, nI_clamp (by omega), m0, m1, m2, m3, m4, HF.2.2.1, t2]
    simp only [v2, true_and]
    exact h
  rw [c0, c1, c2, c3, c4, HF.2.1, t1]
  by_cases a0 : a = 0
  · rw [if_pos a0]; refine to ?_; rw [if_pos a0]; exact ⟨rfl, hP⟩
  rw [if_neg a0]
  by_cases a1 : a = 1
  · rw [if_pos a1]; refine to ?_; rw [if_neg a0, if_pos a1]; exact ⟨rfl, hP⟩
  rw [if_neg a1]
  by_cases a2 : a = 2
  · rw [if_pos a2]; refine to ?_; rw [if_neg a0, if_neg a1, if_pos a2]; exact ⟨rfl, hP⟩
  rw [if_neg a2]
  by_cases a3 : a = 3
  · rw [if_pos a3]; refine to ?_; rw [if_neg a0, if_neg a1, if_neg a2, if_pos a3]; exact ⟨rfl, hP⟩
  rw [if_neg a3]
  by_cases a4 : a = 4
  · rw [if_pos a4]; refine to ?_; rw [if_neg a0, if_neg a1, if_neg a2, if_neg a3, if_pos a4]; exact ⟨rfl, hP⟩
  rw [if_neg a4]
  by_cases a5 : a = 5
  · rw [if_pos a5]; refine to ?_; rw [if_neg a0, if_neg a1, if_neg a2, if_neg a3, if_neg a4, if_pos a5]; exact ⟨rfl, hP⟩
  rw [if_neg a5]
  by_cases a6 : a = 6
  · rw [if_pos a6]; refine to ?_; rw [if_neg a0, if_neg a1, if_neg a2, if_neg a3, if_neg a4, if_neg a5, if_pos a6]; exact ⟨rfl, hP⟩
  rw [if_neg a6]
  simp only [a0, a1, a2, a3, a4, a5, a6, if_false] at to
  have hm : (9 : Int32) + nI npl = nI (10 + npl - 1) := by rw [show (9 : Int32) + nI npl = nI (9 + npl) from nI_add 9 npl, show 10 + npl - 1 = 9 + npl by omega]
  rcases ot_ixc a 10 npl (by omega) with ho | ⟨q, hq, rfl⟩
  · have bad : EI 60 mX12_count [.ref 58, .int a] I L (fun r' I2 L2 => r' = -1 ∧ P I2 L2) := by
      refine to (in_o2 (c := 10) (n := npl) (by omega) (by decide) hm ho ?_)
      rw [if_pos rfl]; exact ⟨rfl, hP⟩
    by_cases z : a < 10
    · rw [if_pos z]; exact bad
    · rw [if_neg z]
      have q := ho.resolve_left z
      have h1 : ¬ a < 0 := Int32.not_lt.mpr (Int32.le_trans (show (0 : Int32) ≤ 10 by decide) (Int32.not_lt.mp z))
      obtain ⟨j, hj, rfl⟩ := nI_of h1
      have hjn : 10 + npl ≤ j := (nI_leI (by omega) hj).mp q
      refine x_hasPlan_o H (Or.inr (by rw [show nI j - 10 = nI (j - 10) from pk_sub (a := j) (b := 10) (by omega)]; exact nI_le (by omega) (by omega))) ?_
      rw [if_pos rfl]; exact bad
  · obtain ⟨e1, e2, e3, e4⟩ := nsit_eq (H.2.2.2.2.2 q hq)
    have es : nI (10 + q) - 10 = nI q := by rw [show nI (10 + q) - 10 = nI (10 + q - 10) from pk_sub (a := 10 + q) (b := 10) (by omega), Nat.add_sub_cancel_left]
    rw [if_neg (show ¬ nI (10 + q) < 10 from nI_nlt (a := 10 + q) (b := 10) (by omega) (by omega)), es]
    refine x_hasPlan_i H hq ?_
    rw [if_neg (by decide)]
    refine x_sits_i H hq ?_
    refine to (in_i2 (c := 10) (n := npl) (by omega) hm hq ?_)
    rw [if_neg (by decide), h18, show (4 : Int32) * nI lv + nI (10 + q) - 10 = nI (4 * lv + q) by rw [show (4 : Int32) * nI lv + nI (10 + q) = nI (4 * lv + (10 + q)) from mx 4 lv _, show nI (4 * lv + (10 + q)) - 10 = nI (4 * lv + (10 + q) - 10) from pk_sub (a := 4 * lv + (10 + q)) (b := 10) (by omega), show 4 * lv + (10 + q) - 10 = 4 * lv + q by omega], nI_clamp (by omega), e2]
    exact ⟨vp_in_nI (by omega) (by decide), rfl, hP⟩
theorem op_sitting {lv nf np nb nl npl : Nat} {I : st_I} {L : st_L} {P : st_I → st_L → Prop} (H : iv_told I lv nf np nb nl npl) (hP : P I L) (a b c : Int32) :
    EI 60 mX11_sitting [.ref 0, .int a, .int b, .int c] I L (fun r I1 L1 => EI 60 mX12_sitting [.ref 58, .int a, .int b, .int c] I1 L1 (fun r' I2 L2 => r' = r ∧ P I2 L2)) := by
  obtain ⟨hlv, b1, b2, b3, b4, b5, h18, -⟩ := id H.1
  refine sgX11_sitting_0 ?_
  rcases ot_ix a npl (by omega) with ho | ⟨q, hq, rfl⟩
  · refine x_hasSit_p H ho ?_
    rw [if_pos rfl]
    refine sgX12_sitting_0 (m_isSit_p H ho ?_)
    rw [if_pos rfl]; exact ⟨rfl, hP⟩
  have hs := nsit_eq (H.2.2.2.2.2 q hq)
  rcases ot_ix b (nsit I q) (by omega) with ho | ⟨k, hk, rfl⟩
  · refine x_hasSit_o H hq ho ?_
    rw [if_pos rfl]
    refine sgX12_sitting_0 (m_isSit_o H hq ho ?_)
    rw [if_pos rfl]; exact ⟨rfl, hP⟩
  refine x_hasSit_i H hq hk ?_
  rw [if_neg (by decide)]
  obtain ⟨pp, bb, mm, h1, h2, h3, h4, e1, m1, e2, m2, hbo, m3, e3, m4, ho6⟩ := hs.2.2.2 k hk
  have vs : vp_in (nI (48 * lv + 12 * q + k)) 96 := vp_in_nI (by omega) (by decide)
  have to : ∀ {F : Int32 → st_I → st_L → Prop}, (if c = 0 then F (nI pp) I L else (if c = 1 then F (nI bb) I L else (if c = 2 then F (I 8 (10 * (12 * q + k) + 2)) I L else (if c = 3 then F (nI mm) I L else EI 59 mX12_in [.int c, .int 10, .int (9 + nI mm)] I L (fun r3 I3 L3 => (if r3 = 0 then F (-1) I3 L3 else vp_in (((6 * nI (48 * lv + 12 * q + k)) + c) - 10) 576 ∧ F (I3 88 ((((6 * nI (48 * lv + 12 * q + k)) + c) - 10).toNatClampNeg)) I3 L3)))))) → EI 60 mX12_sitting [.ref 58, .int (nI q), .int (nI k), .int c] I L F := by
    intro F h
    refine sgX12_sitting_0 (m_isSit_i H hq hk ?_)
    rw [if_neg (by decide)]
    refine sgX12_sitAt_0 ?_
    rw [h18, show (48 : Int32) * nI lv + 12 * nI q + nI k = nI (48 * lv + 12 * q + k) by rw [show (48 : Int32) = nI 48 from rfl, show (12 : Int32) = nI 12 from rfl, pk_mul, pk_mul, nI_add, nI_add], nI_clamp (by omega), m1, m2, m3, m4, bo_if hbo]
    simp only [vs, true_and]
    exact h
  rcases ot_ix c 4 (by decide) with ho | ⟨z, hz, rfl⟩
  · have n0 := ot_ne (k := 0) ho (by decide) (by decide); have n1 := ot_ne (k := 1) ho (by decide) (by decide); have n2 := ot_ne (k := 2) ho (by decide) (by decide); have n3 := ot_ne (k := 3) ho (by decide) (by decide)
    simp only [show (c = 0) = False from eq_false n0, show (c = 1) = False from eq_false n1, show (c = 2) = False from eq_false n2, show (c = 3) = False from eq_false n3, if_false] at to
    have hm : (9 : Int32) + nI mm = nI (10 + mm - 1) := by rw [show (9 : Int32) + nI mm = nI (9 + mm) from nI_add 9 mm, show 10 + mm - 1 = 9 + mm by omega]
    have go : TI 60 mX11_sitting 34 [.ref 0, .int (nI q), .int (nI k), .int c] [] I L (fun r I1 L1 => EI 60 mX12_sitting [.ref 58, .int (nI q), .int (nI k), .int c] I1 L1 (fun r' I2 L2 => r' = r ∧ P I2 L2)) := by
      refine sgX11_sitting_34 ?_
      rcases ot_ixc c 10 mm (by omega) with ho2 | ⟨i, hi, rfl⟩
      · have bad : EI 60 mX12_sitting [.ref 58, .int (nI q), .int (nI k), .int c] I L (fun r' I2 L2 => r' = -1 ∧ P I2 L2) := by
          refine to (in_o2 (c := 10) (n := mm) (by omega) (by decide) hm ho2 ?_)
          rw [if_pos rfl]; exact ⟨rfl, hP⟩
        by_cases y : c < 10
        · rw [if_pos y]; exact bad
        · rw [if_neg y]
          refine pX_sat (c := 3) H hq hk (by decide) ?_
          have h1 : ¬ c < 0 := Int32.not_lt.mpr (Int32.le_trans (show (0 : Int32) ≤ 10 by decide) (Int32.not_lt.mp y))
          obtain ⟨j, hj, rfl⟩ := nI_of h1
          have hjn : 10 + mm ≤ j := (nI_leI (by omega) hj).mp (ho2.resolve_left y)
          rw [e3, show nI j - 10 = nI (j - 10) from pk_sub (a := j) (b := 10) (by omega), if_neg (nI_nlt (by omega) (by omega))]; exact bad
      · obtain ⟨ff, hff, f1, f2⟩ := ho6 i hi
        rw [if_neg (show ¬ nI (10 + i) < 10 from nI_nlt (a := 10 + i) (b := 10) (by omega) (by omega))]
        refine pX_sat (c := 3) H hq hk (by decide) ?_
        rw [e3, show nI (10 + i) - 10 = nI (10 + i - 10) from pk_sub (a := 10 + i) (b := 10) (by omega), Nat.add_sub_cancel_left, if_pos (nI_lt hi (by omega)), show (4 : Int32) + nI (10 + i) - 10 = nI (4 + i) by rw [show (4 : Int32) + nI (10 + i) = nI (4 + (10 + i)) from nI_add 4 _, show nI (4 + (10 + i)) - 10 = nI (4 + (10 + i) - 10) from pk_sub (a := 4 + (10 + i)) (b := 10) (by omega), show 4 + (10 + i) - 10 = 4 + i by omega]]
        refine pX_sat H hq hk (by omega) ?_
        rw [← Nat.add_assoc, f1]
        refine to (in_i2 (c := 10) (n := mm) (by omega) hm hi ?_)
        rw [if_neg (by decide), show (6 : Int32) * nI (48 * lv + 12 * q + k) + nI (10 + i) - 10 = nI (6 * (48 * lv + 12 * q + k) + i) by rw [show (6 : Int32) * nI (48 * lv + 12 * q + k) + nI (10 + i) = nI (6 * (48 * lv + 12 * q + k) + (10 + i)) from mx 6 _ _, show nI (6 * (48 * lv + 12 * q + k) + (10 + i)) - 10 = nI (6 * (48 * lv + 12 * q + k) + (10 + i) - 10) from pk_sub (a := 6 * (48 * lv + 12 * q + k) + (10 + i)) (b := 10) (by omega), show 6 * (48 * lv + 12 * q + k) + (10 + i) - 10 = 6 * (48 * lv + 12 * q + k) + i by omega], nI_clamp (by omega), f2]
        exact ⟨vp_in_nI (by omega) (by decide), rfl, hP⟩
    by_cases y : c < 0
    · rw [if_pos y]; exact go
    · have h4 := ho.resolve_left y
      obtain ⟨j, hj, rfl⟩ := nI_of y
      have : 4 ≤ j := (nI_leI (by omega) hj).mp h4
      rw [if_neg y, if_pos (show (3 : Int32) < nI j from nI_lt (a := 3) (by omega) hj)]; exact go
  · rw [if_neg (nI_pos (by omega)), if_neg (show ¬ (3 : Int32) < nI z from nI_nlt (b := z) (a := 3) (by omega) (by omega))]
    refine pX_sat H hq hk (by omega) (to ?_)
    rcases (show z = 0 ∨ z = 1 ∨ z = 2 ∨ z = 3 by omega) with e | e | e | e <;> subst e
    · rw [if_pos (show nI 0 = 0 from rfl), Nat.add_zero, e1]; exact ⟨rfl, hP⟩
    · rw [if_neg (show ¬ nI 1 = 0 by decide), if_pos (show nI 1 = 1 from rfl), e2]; exact ⟨rfl, hP⟩
    · rw [if_neg (show ¬ nI 2 = 0 by decide), if_neg (show ¬ nI 2 = 1 by decide), if_pos (show nI 2 = 2 from rfl)]; exact ⟨rfl, hP⟩
    · rw [if_neg (show ¬ nI 3 = 0 by decide), if_neg (show ¬ nI 3 = 1 by decide), if_neg (show ¬ nI 3 = 2 by decide), if_pos (show nI 3 = 3 from rfl), e3]; exact ⟨rfl, hP⟩
