theorem in_out {d : Nat} {I : st_I} {L : st_L} {F : Int32 → st_I → st_L → Prop} {a : Int32} {n : Nat} (hn : n < 2 ^ 30) (ho : ot a n) (h : F 0 I L) : EI d mX12_in [.int a, .int 0, .int (nI n - 1)] I L F := by
  refine sgX12_in_0 ?_
  by_cases h0 : a < 0
  · rw [if_pos h0]; exact h
  · rcases ho with q | q
    · exact absurd q h0
    · have : nI n - 1 < a := by
        obtain ⟨j, hj, rfl⟩ := nI_of h0
        have hjn : n ≤ j := (nI_leI (by omega) hj).mp q
        by_cases e : n = 0
        · subst e; exact Int32.lt_of_lt_of_le (b := 0) (by decide) (nI_pos' hj)
        · rw [show (1 : Int32) = nI 1 from rfl, pk_sub (by omega)]; exact nI_lt (by omega) hj
      rw [if_neg h0, if_pos this]; exact h
theorem in_in {d : Nat} {I : st_I} {L : st_L} {F : Int32 → st_I → st_L → Prop} {n j : Nat} (hn : n < 2 ^ 30) (hj : j < n) (h : F 1 I L) : EI d mX12_in [.int (nI j), .int 0, .int (nI n - 1)] I L F := by
  refine sgX12_in_0 ?_
  rw [if_neg (nI_pos (by omega)), show (1 : Int32) = nI 1 from rfl, pk_sub (by omega), if_neg (nI_nlt (by omega) (by omega))]; exact h
def xm (I I' : st_I) : Prop := ∀ q, q ≠ 26 → q ≠ 27 → q ≠ 92 → q ≠ 93 → I' q = I q
theorem xm_of {I J K : st_I} (h : xs I J) (g : ms J K) : xm I K := fun q a b c e => (g q c e).trans (h q a b)
theorem xs.set {I J : st_I} (h : xs I J) (hs : iv_set I) : iv_set J := fun i hi => by rw [h 94 (by decide) (by decide)]; exact hs i hi
theorem m_isFiddle_o {d lv nf np nb nl npl : Nat} {I : st_I} {L : st_L} {F : Int32 → st_I → st_L → Prop} (H : iv_told I lv nf np nb nl npl) {a : Int32} (ho : ot a nf) (h : F 0 I L) : EI (d + 1) mX12_isFiddle [.ref 58, .int a] I L F := by
  obtain ⟨⟨hlv, hnf, hnp, hnb, hnl, hnpl, h18, c0, c1, c2, c3, c4, m0, m1, m2, m3, m4⟩, -⟩ := H
  refine sgX12_isFiddle_0 ?_
  rw [h18, nI_clamp (by omega), m0]
  exact ⟨vp_in_nI (by omega) (by decide), in_out (by omega) ho ⟨Or.inl rfl, h⟩⟩
theorem m_isFiddle_i {d lv nf np nb nl npl : Nat} {I : st_I} {L : st_L} {F : Int32 → st_I → st_L → Prop} (H : iv_told I lv nf np nb nl npl) {j : Nat} (hj : j < nf) (h : F 1 I L) : EI (d + 1) mX12_isFiddle [.ref 58, .int (nI j)] I L F := by
  obtain ⟨⟨hlv, hnf, hnp, hnb, hnl, hnpl, h18, c0, c1, c2, c3, c4, m0, m1, m2, m3, m4⟩, -⟩ := H
  refine sgX12_isFiddle_0 ?_
  rw [h18, nI_clamp (by omega), m0]
  exact ⟨vp_in_nI (by omega) (by decide), in_in (by omega) hj ⟨Or.inr rfl, h⟩⟩
theorem m_isPerson_o {d lv nf np nb nl npl : Nat} {I : st_I} {L : st_L} {F : Int32 → st_I → st_L → Prop} (H : iv_told I lv nf np nb nl npl) {a : Int32} (ho : ot a np) (h : F 0 I L) : EI (d + 1) mX12_isPerson [.ref 58, .int a] I L F := by
  obtain ⟨⟨hlv, hnf, hnp, hnb, hnl, hnpl, h18, c0, c1, c2, c3, c4, m0, m1, m2, m3, m4⟩, -⟩ := H
  refine sgX12_isPerson_0 ?_
  rw [h18, nI_clamp (by omega), m1]
  exact ⟨vp_in_nI (by omega) (by decide), in_out (by omega) ho ⟨Or.inl rfl, h⟩⟩
theorem m_isPerson_i {d lv nf np nb nl npl : Nat} {I : st_I} {L : st_L} {F : Int32 → st_I → st_L → Prop} (H : iv_told I lv nf np nb nl npl) {j : Nat} (hj : j < np) (h : F 1 I L) : EI (d + 1) mX12_isPerson [.ref 58, .int (nI j)] I L F := by
  obtain ⟨⟨hlv, hnf, hnp, hnb, hnl, hnpl, h18, c0, c1, c2, c3, c4, m0, m1, m2, m3, m4⟩, -⟩ := H
  refine sgX12_isPerson_0 ?_
  rw [h18, nI_clamp (by omega), m1]
  exact ⟨vp_in_nI (by omega) (by decide), in_in (by omega) hj ⟨Or.inr rfl, h⟩⟩
theorem m_isBow_o {d lv nf np nb nl npl : Nat} {I : st_I} {L : st_L} {F : Int32 → st_I → st_L → Prop} (H : iv_told I lv nf np nb nl npl) {a : Int32} (ho : ot a nb) (h : F 0 I L) : EI (d + 1) mX12_isBow [.ref 58, .int a] I L F := by
  obtain ⟨⟨hlv, hnf, hnp, hnb, hnl, hnpl, h18, c0, c1, c2, c3, c4, m0, m1, m2, m3, m4⟩, -⟩ := H
  refine sgX12_isBow_0 ?_
  rw [h18, nI_clamp (by omega), m2]
  exact ⟨vp_in_nI (by omega) (by decide), in_out (by omega) ho ⟨Or.inl rfl, h⟩⟩
theorem m_isBow_i {d lv nf np nb nl npl : Nat} {I : st_I} {L : st_L} {F : Int32 → st_I → st_L → Prop} (H : iv_told I lv nf np nb nl npl) {j : Nat} (hj : j < nb) (h : F 1 I L) : EI (d + 1) mX12_isBow [.ref 58, .int (nI j)] I L F := by
  obtain ⟨⟨hlv, hnf, hnp, hnb, hnl, hnpl, h18, c0, c1, c2, c3, c4, m0, m1, m2, m3, m4⟩, -⟩ := H
  refine sgX12_isBow_0 ?_
  rw [h18, nI_clamp (by omega), m2]
  exact ⟨vp_in_nI (by omega) (by decide), in_in (by omega) hj ⟨Or.inr rfl, h⟩⟩
theorem m_isLaw_o {d lv nf np nb nl npl : Nat} {I : st_I} {L : st_L} {F : Int32 → st_I → st_L → Prop} (H : iv_told I lv nf np nb nl npl) {a : Int32} (ho : ot a nl) (h : F 0 I L) : EI (d + 1) mX12_isLaw [.ref 58, .int a] I L F := by
  obtain ⟨⟨hlv, hnf, hnp, hnb, hnl, hnpl, h18, c0, c1, c2, c3, c4, m0, m1, m2, m3, m4⟩, -⟩ := H
  refine sgX12_isLaw_0 ?_
  rw [h18, nI_clamp (by omega), m3]
  exact ⟨vp_in_nI (by omega) (by decide), in_out (by omega) ho ⟨Or.inl rfl, h⟩⟩
theorem m_isLaw_i {d lv nf np nb nl npl : Nat} {I : st_I} {L : st_L} {F : Int32 → st_I → st_L → Prop} (H : iv_told I lv nf np nb nl npl) {j : Nat} (hj : j < nl) (h : F 1 I L) : EI (d + 1) mX12_isLaw [.ref 58, .int (nI j)] I L F := by
  obtain ⟨⟨hlv, hnf, hnp, hnb, hnl, hnpl, h18, c0, c1, c2, c3, c4, m0, m1, m2, m3, m4⟩, -⟩ := H
  refine sgX12_isLaw_0 ?_
  rw [h18, nI_clamp (by omega), m3]
  exact ⟨vp_in_nI (by omega) (by decide), in_in (by omega) hj ⟨Or.inr rfl, h⟩⟩
theorem m_isPlan_o {d lv nf np nb nl npl : Nat} {I : st_I} {L : st_L} {F : Int32 → st_I → st_L → Prop} (H : iv_told I lv nf np nb nl npl) {a : Int32} (ho : ot a npl) (h : F 0 I L) : EI (d + 1) mX12_isPlan [.ref 58, .int a] I L F := by
  obtain ⟨⟨hlv, hnf, hnp, hnb, hnl, hnpl, h18, c0, c1, c2, c3, c4, m0, m1, m2, m3, m4⟩, -⟩ := H
  refine sgX12_isPlan_0 ?_
  rw [h18, nI_clamp (by omega), m4]
  exact ⟨vp_in_nI (by omega) (by decide), in_out (by omega) ho ⟨Or.inl rfl, h⟩⟩
theorem m_isPlan_i {d lv nf np nb nl npl : Nat} {I : st_I} {L : st_L} {F : Int32 → st_I → st_L → Prop} (H : iv_told I lv nf np nb nl npl) {j : Nat} (hj : j < npl) (h : F 1 I L) : EI (d + 1) mX12_isPlan [.ref 58, .int (nI j)] I L F := by
  obtain ⟨⟨hlv, hnf, hnp, hnb, hnl, hnpl, h18, c0, c1, c2, c3, c4, m0, m1, m2, m3, m4⟩, -⟩ := H
  refine sgX12_isPlan_0 ?_
  rw [h18, nI_clamp (by omega), m4]
  exact ⟨vp_in_nI (by omega) (by decide), in_in (by omega) hj ⟨Or.inr rfl, h⟩⟩
theorem m_isSit_p {d lv nf np nb nl npl : Nat} {I : st_I} {L : st_L} {F : Int32 → st_I → st_L → Prop} (H : iv_told I lv nf np nb nl npl) {a b : Int32} (ho : ot a npl) (h : F 0 I L) : EI (d + 2) mX12_isSitting [.ref 58, .int a, .int b] I L F := by
  refine sgX12_isSitting_0 (m_isPlan_o H ho ?_)
  rw [if_pos rfl]; exact h
theorem m_isSit_o {d lv nf np nb nl npl q : Nat} {I : st_I} {L : st_L} {F : Int32 → st_I → st_L → Prop} (H : iv_told I lv nf np nb nl npl) (hq : q < npl) {b : Int32} (ho : ot b (nsit I q)) (h : F 0 I L) : EI (d + 2) mX12_isSitting [.ref 58, .int (nI q), .int b] I L F := by
  have hb := H.1.2.2.2.2.2.1; have hlv := H.1.1; have h18 := H.1.2.2.2.2.2.2.1
  have hs := nsit_eq (H.2.2.2.2.2 q hq)
  refine sgX12_isSitting_0 (m_isPlan_i H hq ?_)
  rw [if_neg (by decide), h18, show (4 : Int32) * nI lv + nI q = nI (4 * lv + q) from mx 4 lv q, nI_clamp (by omega), hs.2.1]
  refine ⟨vp_in_nI (by omega) (by decide), in_out (by have := hs.2.2.1; omega) ho ?_⟩
  rw [if_pos rfl]; exact h
theorem m_isSit_i {d lv nf np nb nl npl q k : Nat} {I : st_I} {L : st_L} {F : Int32 → st_I → st_L → Prop} (H : iv_told I lv nf np nb nl npl) (hq : q < npl) (hk : k < nsit I q) (h : F 1 I L) : EI (d + 2) mX12_isSitting [.ref 58, .int (nI q), .int (nI k)] I L F := by
  have hb := H.1.2.2.2.2.2.1; have hlv := H.1.1; have h18 := H.1.2.2.2.2.2.2.1
  have hs := nsit_eq (H.2.2.2.2.2 q hq)
  refine sgX12_isSitting_0 (m_isPlan_i H hq ?_)
  rw [if_neg (by decide), h18, show (4 : Int32) * nI lv + nI q = nI (4 * lv + q) from mx 4 lv q, nI_clamp (by omega), hs.2.1]
  refine ⟨vp_in_nI (by omega) (by decide), in_in (by have := hs.2.2.1; omega) hk ?_⟩
  rw [if_neg (by decide)]; exact h
/-- TAKEN -/
theorem op_taken {lv nf np nb nl npl : Nat} {I : st_I} {L : st_L} {P : st_I → st_L → Prop} (H : iv_told I lv nf np nb nl npl) (hset : iv_set I) (hP : ∀ I2, xm I I2 → P I2 L) (a b s c : Int32) :
    EI 60 mX11_taken [.ref 0, .int a, .int b, .int s, .int c] I L (fun r I1 L1 => EI 60 mX12_taken [.ref 58, .int a, .int b, .int s, .int c] I1 L1 (fun r' I2 L2 => r' = r ∧ P I2 L2)) := by
  have no : P I L := hP I (fun _ _ _ _ _ => rfl)
  have bd := H.1
  refine sgX11_taken_0 ?_
  rcases ot_ix a npl (by have := bd.2.2.2.2.2.1; omega) with ho | ⟨q, hq, rfl⟩
  · refine x_hasSit_p H ho ?_
    rw [if_pos rfl]
    refine sgX12_taken_0 (m_isSit_p H ho ?_)
    rw [if_pos rfl]; exact ⟨rfl, no⟩
  have hs := nsit_eq (H.2.2.2.2.2 q hq)
  rcases ot_ix c (nsit I q) (by omega) with ho | ⟨k, hk, rfl⟩
  · refine x_hasSit_o H hq ho ?_
    rw [if_pos rfl]
    refine sgX12_taken_0 (m_isSit_o H hq ho ?_)
    rw [if_pos rfl]; exact ⟨rfl, no⟩
  refine x_hasSit_i H hq hk ?_
  rw [if_neg (by decide)]
  rcases ot_ix b nl (by have := bd.2.2.2.2.1; omega) with ho | ⟨w, hw, rfl⟩
  · refine x_hasLaw_o H ho ?_
    rw [if_pos rfl]
    refine sgX12_taken_0 (m_isSit_i H hq hk ?_)
    rw [if_neg (by decide)]
    refine m_isLaw_o H ho ?_
    rw [if_pos rfl]; exact ⟨rfl, no⟩
  refine x_hasLaw_i H hw ?_
  rw [if_neg (by decide)]
  have h4 := bd.2.2.2.2.2.1
  refine pX_choice H hw hq hk (hs.2.2.2 k hk) (fun I1 hx => ?_)
  have H1 := hx.told H
  have e1 : nsit I1 q = nsit I q := by rw [nsit, hx 7 (by decide) (by decide), ← nsit]
  refine sgX12_taken_0 (m_isSit_i H1 hq (by rw [e1]; exact hk) ?_)
  rw [if_neg (by decide)]
  refine m_isLaw_i H1 hw ?_
  rw [if_neg (by decide)]
  refine pM_takenIn H1 (hx.set hset) hw (by omega) (by omega) (hx.sit (hs.2.2.2 k hk)) (fun I2 hm => ?_)
  refine ⟨?_, hP I2 (xm_of hx hm)⟩
  have e : sy I1 w s q k = sy I w s q k := by funext i; exact hx.sy w s q k i
  rw [tk, tk, e, nord, nord, hx 8 (by decide) (by decide)]
