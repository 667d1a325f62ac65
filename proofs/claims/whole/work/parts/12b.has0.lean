/-! what is there (the class) -/
/-- how many SITTINGS, how many FIDDLES -/
def nsit (I : st_I) (q : Nat) : Nat := (I 7 q).toNatClampNeg
def nord (I : st_I) (q k : Nat) : Nat := (I 8 (10 * (12 * q + k) + 3)).toNatClampNeg
def ot (a : Int32) (n : Nat) : Prop := a < 0 ∨ nI n ≤ a
theorem ot_ix (a : Int32) (n : Nat) (hn : n < 2 ^ 31) : ot a n ∨ ∃ j, j < n ∧ a = nI j := by
  rcases pk_ix a hn with h | h | h
  · exact Or.inl (Or.inl h)
  · exact Or.inl (Or.inr h)
  · exact Or.inr h
theorem x_hasFiddle_o {d lv nf np nb nl npl : Nat} {I : st_I} {L : st_L} {F : Int32 → st_I → st_L → Prop} (H : iv_told I lv nf np nb nl npl) {a : Int32} (ho : ot a nf) (h : F 0 I L) : EI d mX8_hasFiddle [.ref 1, .int a] I L F := by
  obtain ⟨⟨hlv, hnf, hnp, hnb, hnl, hnpl, h18, c0, c1, c2, c3, c4, m0, m1, m2, m3, m4⟩, -⟩ := H
  refine sgX8_hasFiddle_0 ?_
  rw [c0]
  by_cases h0 : a < 0
  · rw [if_pos h0]; exact h
  · rcases ho with q | q
    · exact absurd q h0
    · rw [if_neg h0, if_pos q]; exact h
theorem x_hasFiddle_i {d lv nf np nb nl npl : Nat} {I : st_I} {L : st_L} {F : Int32 → st_I → st_L → Prop} (H : iv_told I lv nf np nb nl npl) {j : Nat} (hj : j < nf) (h : F 1 I L) : EI d mX8_hasFiddle [.ref 1, .int (nI j)] I L F := by
  obtain ⟨⟨hlv, hnf, hnp, hnb, hnl, hnpl, h18, c0, c1, c2, c3, c4, m0, m1, m2, m3, m4⟩, -⟩ := H
  refine sgX8_hasFiddle_0 ?_
  rw [c0, if_neg (nI_pos (by omega)), if_neg (nI_ge hj (by omega))]; exact h
theorem x_hasPerson_o {d lv nf np nb nl npl : Nat} {I : st_I} {L : st_L} {F : Int32 → st_I → st_L → Prop} (H : iv_told I lv nf np nb nl npl) {a : Int32} (ho : ot a np) (h : F 0 I L) : EI d mX8_hasPerson [.ref 1, .int a] I L F := by
  obtain ⟨⟨hlv, hnf, hnp, hnb, hnl, hnpl, h18, c0, c1, c2, c3, c4, m0, m1, m2, m3, m4⟩, -⟩ := H
  refine sgX8_hasPerson_0 ?_
  rw [c1]
  by_cases h0 : a < 0
  · rw [if_pos h0]; exact h
  · rcases ho with q | q
    · exact absurd q h0
    · rw [if_neg h0, if_pos q]; exact h
theorem x_hasPerson_i {d lv nf np nb nl npl : Nat} {I : st_I} {L : st_L} {F : Int32 → st_I → st_L → Prop} (H : iv_told I lv nf np nb nl npl) {j : Nat} (hj : j < np) (h : F 1 I L) : EI d mX8_hasPerson [.ref 1, .int (nI j)] I L F := by
  obtain ⟨⟨hlv, hnf, hnp, hnb, hnl, hnpl, h18, c0, c1, c2, c3, c4, m0, m1, m2, m3, m4⟩, -⟩ := H
  refine sgX8_hasPerson_0 ?_
  rw [c1, if_neg (nI_pos (by omega)), if_neg (nI_ge hj (by omega))]; exact h
theorem x_hasBow_o {d lv nf np nb nl npl : Nat} {I : st_I} {L : st_L} {F : Int32 → st_I → st_L → Prop} (H : iv_told I lv nf np nb nl npl) {a : Int32} (ho : ot a nb) (h : F 0 I L) : EI d mX8_hasBow [.ref 1, .int a] I L F := by
  obtain ⟨⟨hlv, hnf, hnp, hnb, hnl, hnpl, h18, c0, c1, c2, c3, c4, m0, m1, m2, m3, m4⟩, -⟩ := H
  refine sgX8_hasBow_0 ?_
  rw [c2]
  by_cases h0 : a < 0
  · rw [if_pos h0]; exact h
  · rcases ho with q | q
    · exact absurd q h0
    · rw [if_neg h0, if_pos q]; exact h
theorem x_hasBow_i {d lv nf np nb nl npl : Nat} {I : st_I} {L : st_L} {F : Int32 → st_I → st_L → Prop} (H : iv_told I lv nf np nb nl npl) {j : Nat} (hj : j < nb) (h : F 1 I L) : EI d mX8_hasBow [.ref 1, .int (nI j)] I L F := by
  obtain ⟨⟨hlv, hnf, hnp, hnb, hnl, hnpl, h18, c0, c1, c2, c3, c4, m0, m1, m2, m3, m4⟩, -⟩ := H
  refine sgX8_hasBow_0 ?_
  rw [c2, if_neg (nI_pos (by omega)), if_neg (nI_ge hj (by omega))]; exact h
theorem x_hasLaw_o {d lv nf np nb nl npl : Nat} {I : st_I} {L : st_L} {F : Int32 → st_I → st_L → Prop} (H : iv_told I lv nf np nb nl npl) {a : Int32} (ho : ot a nl) (h : F 0 I L) : EI d mX8_hasLaw [.ref 1, .int a] I L F := by
  obtain ⟨⟨hlv, hnf, hnp, hnb, hnl, hnpl, h18, c0, c1, c2, c3, c4, m0, m1, m2, m3, m4⟩, -⟩ := H
  refine sgX8_hasLaw_0 ?_
  rw [c3]
  by_cases h0 : a < 0
  · rw [if_pos h0]; exact h
  · rcases ho with q | q
    · exact absurd q h0
    · rw [if_neg h0, if_pos q]; exact h
theorem x_hasLaw_i {d lv nf np nb nl npl : Nat} {I : st_I} {L : st_L} {F : Int32 → st_I → st_L → Prop} (H : iv_told I lv nf np nb nl npl) {j : Nat} (hj : j < nl) (h : F 1 I L) : EI d mX8_hasLaw [.ref 1, .int (nI j)] I L F := by
  obtain ⟨⟨hlv, hnf, hnp, hnb, hnl, hnpl, h18, c0, c1, c2, c3, c4, m0, m1, m2, m3, m4⟩, -⟩ := H
  refine sgX8_hasLaw_0 ?_
  rw [c3, if_neg (nI_pos (by omega)), if_neg (nI_ge hj (by omega))]; exact h
theorem x_hasPlan_o {d lv nf np nb nl npl : Nat} {I : st_I} {L : st_L} {F : Int32 → st_I → st_L → Prop} (H : iv_told I lv nf np nb nl npl) {a : Int32} (ho : ot a npl) (h : F 0 I L) : EI d mX8_hasPlan [.ref 1, .int a] I L F := by
  obtain ⟨⟨hlv, hnf, hnp, hnb, hnl, hnpl, h18, c0, c1, c2, c3, c4, m0, m1, m2, m3, m4⟩, -⟩ := H
  refine sgX8_hasPlan_0 ?_
  rw [c4]
  by_cases h0 : a < 0
  · rw [if_pos h0]; exact h
  · rcases ho with q | q
    · exact absurd q h0
    · rw [if_neg h0, if_pos q]; exact h
theorem x_hasPlan_i {d lv nf np nb nl npl : Nat} {I : st_I} {L : st_L} {F : Int32 → st_I → st_L → Prop} (H : iv_told I lv nf np nb nl npl) {j : Nat} (hj : j < npl) (h : F 1 I L) : EI d mX8_hasPlan [.ref 1, .int (nI j)] I L F := by
  obtain ⟨⟨hlv, hnf, hnp, hnb, hnl, hnpl, h18, c0, c1, c2, c3, c4, m0, m1, m2, m3, m4⟩, -⟩ := H
  refine sgX8_hasPlan_0 ?_
  rw [c4, if_neg (nI_pos (by omega)), if_neg (nI_ge hj (by omega))]; exact h
theorem nsit_eq {I : st_I} {lv np nf nb q : Nat} (h : iv_plan I lv np nf nb q) : I 7 q = nI (nsit I q) ∧ I 83 (4 * lv + q) = nI (nsit I q) ∧ nsit I q ≤ 12 ∧ ∀ k, k < nsit I q → iv_sit I lv np nf nb q k := by
  obtain ⟨ns, h1, h2, h3, h4⟩ := h
  have e : nsit I q = ns := by rw [nsit, h2, nI_clamp (by omega)]
  rw [e]; exact ⟨h2, h3, h1, h4⟩
theorem x_meet_o {d lv nf np nb nl npl : Nat} {I : st_I} {L : st_L} {F : Int32 → st_I → st_L → Prop} (H : iv_told I lv nf np nb nl npl) {a b c : Int32} (ho : ot a np ∨ ot b nf ∨ ot c nb) (h : F 0 I L) : EI (d + 1) mX8_hasMeeting [.ref 1, .int a, .int b, .int c] I L F := by
  obtain ⟨-, b1, b2, b3, -⟩ := id H.1
  refine sgX8_hasMeeting_0 ?_
  rcases ot_ix a np (by omega) with o1 | ⟨p, hp, rfl⟩
  · refine x_hasPerson_o H o1 ?_
    rw [if_pos rfl]; exact h
  refine x_hasPerson_i H hp ?_
  rw [if_neg (by decide)]
  rcases ot_ix b nf (by omega) with o1 | ⟨f, hf, rfl⟩
  · refine x_hasFiddle_o H o1 ?_
    rw [if_pos rfl]; exact h
  refine x_hasFiddle_i H hf ?_
  rw [if_neg (by decide)]
  rcases ot_ix c nb (by omega) with o1 | ⟨g, hg, rfl⟩
  · refine x_hasBow_o H o1 ?_
    rw [if_pos rfl]; exact h
  exfalso
  have no : ∀ (j n : Nat), j < n → n ≤ 10 → ¬ ot (nI j) n := by
    rintro j n h1 h2 (z | z)
    · exact nI_pos (by omega) z
    · exact nI_ge h1 (by omega) z
  rcases ho with z | z | z
  · exact no p np hp (by omega) z
  · exact no f nf hf (by omega) z
  · exact no g nb hg (by omega) z
theorem x_meet_i {d lv nf np nb nl npl p f b : Nat} {I : st_I} {L : st_L} {F : Int32 → st_I → st_L → Prop} (H : iv_told I lv nf np nb nl npl) (hp : p < np) (hf : f < nf) (hb : b < nb) (h : F 1 I L) : EI (d + 1) mX8_hasMeeting [.ref 1, .int (nI p), .int (nI f), .int (nI b)] I L F := by
  refine sgX8_hasMeeting_0 (x_hasPerson_i H hp ?_)
  rw [if_neg (by decide)]
  refine x_hasFiddle_i H hf ?_
  rw [if_neg (by decide)]
  refine x_hasBow_i H hb ?_
  rw [if_neg (by decide)]; exact h
/-- how many SITTINGS a PLAN has; 0 without it -/
theorem x_sits_o {d lv nf np nb nl npl : Nat} {I : st_I} {L : st_L} {F : Int32 → st_I → st_L → Prop} (H : iv_told I lv nf np nb nl npl) {a : Int32} (ho : ot a npl) (h : F 0 I L) : EI (d + 1) mX8_sits [.ref 1, .int a] I L F := by
  refine sgX8_sits_0 (x_hasPlan_o H ho ?_)
  rw [if_pos rfl]; exact h
theorem x_sits_i {d lv nf np nb nl npl q : Nat} {I : st_I} {L : st_L} {F : Int32 → st_I → st_L → Prop} (H : iv_told I lv nf np nb nl npl) (hq : q < npl) (h : F (nI (nsit I q)) I L) : EI (d + 1) mX8_sits [.ref 1, .int (nI q)] I L F := by
  have hb := H.1.2.2.2.2.2.1
  refine sgX8_sits_0 (x_hasPlan_i H hq ?_)
  rw [if_neg (by decide), nI_clamp (by omega), (nsit_eq (H.2.2.2.2.2 q hq)).1]
  exact ⟨vp_in_nI (by omega) (by decide), h⟩
theorem x_hasSit_p {d lv nf np nb nl npl : Nat} {I : st_I} {L : st_L} {F : Int32 → st_I → st_L → Prop} (H : iv_told I lv nf np nb nl npl) {a b : Int32} (ho : ot a npl) (h : F 0 I L) : EI (d + 2) mX8_hasSitting [.ref 1, .int a, .int b] I L F := by
  refine sgX8_hasSitting_0 ?_
  by_cases h0 : b < 0
  · rw [if_pos h0]; exact h
  · rw [if_neg h0]
    refine x_sits_o H ho ?_
    rw [if_pos (Int32.not_lt.mp h0)]; exact h
theorem x_hasSit_o {d lv nf np nb nl npl q : Nat} {I : st_I} {L : st_L} {F : Int32 → st_I → st_L → Prop} (H : iv_told I lv nf np nb nl npl) (hq : q < npl) {b : Int32} (ho : ot b (nsit I q)) (h : F 0 I L) : EI (d + 2) mX8_hasSitting [.ref 1, .int (nI q), .int b] I L F := by
  refine sgX8_hasSitting_0 ?_
  by_cases h0 : b < 0
  · rw [if_pos h0]; exact h
  · rw [if_neg h0]
    refine x_sits_i H hq ?_
    rcases ho with e | e
    · exact absurd e h0
    · rw [if_pos e]; exact h
theorem x_hasSit_i {d lv nf np nb nl npl q k : Nat} {I : st_I} {L : st_L} {F : Int32 → st_I → st_L → Prop} (H : iv_told I lv nf np nb nl npl) (hq : q < npl) (hk : k < nsit I q) (h : F 1 I L) : EI (d + 2) mX8_hasSitting [.ref 1, .int (nI q), .int (nI k)] I L F := by
  have hs := nsit_eq (H.2.2.2.2.2 q hq)
  refine sgX8_hasSitting_0 ?_
  rw [if_neg (nI_pos (by have := hs.2.2.1; omega))]
  refine x_sits_i H hq ?_
  rw [if_neg (nI_ge hk (by have := hs.2.2.1; omega))]; exact h
theorem law_pos {I : st_I} {lv nf np nb nl npl w : Nat} (H : iv_told I lv nf np nb nl npl) (hw : w < nl) : w ≠ 0 → ¬ I 6 (w - 1) < 0 := by
  intro h0
  obtain ⟨a, b, n, e1, e2, e3, -⟩ := H.2.2.2.2.1 (w - 1) (by omega)
  rw [e1]; exact nI_pos (by omega)
theorem x_lawEnd {d lv nf np nb nl npl w : Nat} {I : st_I} {L : st_L} {F : Int32 → st_I → st_L → Prop} (H : iv_told I lv nf np nb nl npl) (hw : w < nl) (h : F (I 6 w) I L) : EI (d + 1) mX8_lawEnd [.ref 1, .int (nI w)] I L F := by
  have hb := H.1.2.2.2.2.1
  refine sgX8_lawEnd_0 (x_hasLaw_i H hw ?_)
  rw [if_neg (by decide), nI_clamp (by omega)]
  exact ⟨vp_in_nI (by omega) (by decide), h⟩
theorem x_lawStart {d lv nf np nb nl npl w : Nat} {I : st_I} {L : st_L} {F : Int32 → st_I → st_L → Prop} (H : iv_told I lv nf np nb nl npl) (hw : w < nl) (hb : lw_a I w < 2 ^ 31) (h : F (nI (lw_a I w)) I L) : EI (d + 1) mX8_lawStart [.ref 1, .int (nI w)] I L F := by
  have h0 := law_pos H hw
  have hn := H.1.2.2.2.2.1
  refine sgX8_lawStart_0 ?_
  by_cases e : w = 0
  · subst e; rw [if_pos (show nI 0 ≤ 0 by decide)]; exact h
  · rw [if_neg (show ¬ nI w ≤ 0 from nI_nle (by omega) (by omega))]
    refine x_hasLaw_i H hw ?_
    rw [if_neg (by decide), show nI w - 1 = nI (w - 1) by rw [show (1 : Int32) = nI 1 from rfl, pk_sub (by omega)], nI_clamp (by omega)]
    refine ⟨vp_in_nI (by omega) (by decide), ?_⟩
    obtain ⟨j, hj, ej⟩ := nI_of (h0 e)
    rw [lw_a, if_neg e, ej, nI_clamp hj] at h
    rw [ej]; exact h
theorem pX_sat {d lv nf np nb nl npl q k c : Nat} {I : st_I} {L : st_L} {F : Int32 → st_I → st_L → Prop} (H : iv_told I lv nf np nb nl npl) (hq : q < npl) (hk : k < nsit I q) (hc : c < 10) (h : F (I 8 (10 * (12 * q + k) + c)) I L) : EI (d + 3) mX8_sat [.ref 1, .int (nI q), .int (nI k), .int (nI c)] I L F := by
  have hb := H.1.2.2.2.2.2.1
  have hs := (nsit_eq (H.2.2.2.2.2 q hq)).2.2.1
  refine sgX8_sat_0 (x_hasSit_i H hq hk ?_)
  have e : (nI q * 12 + nI k) * 10 + nI c = nI (10 * (12 * q + k) + c) := by
    rw [show (12 : Int32) = nI 12 from rfl, show (10 : Int32) = nI 10 from rfl, pk_mul, nI_add, pk_mul, nI_add]
    congr 1; omega
  rw [if_neg (by decide), if_neg (nI_pos (by omega)), if_pos (show nI c < 10 from nI_lt (b := 10) hc (by decide)), e, nI_clamp (by omega)]
  exact ⟨vp_in_nI (by omega) (by decide), h⟩
