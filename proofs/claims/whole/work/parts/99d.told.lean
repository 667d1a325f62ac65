/-! read: the invariant behind it -/
theorem iv_told_side {I K : st_I} {lv nf np nb nl npl : Nat} (h1 : ∀ q, 1 ≤ q → q ≤ 8 → K q = I q) (h18 : K 58 18 = I 58 18) (h : ∀ q j, 69 ≤ q → q ≤ 90 → wi q * lv ≤ j → j < wi q * lv + wi q → K q j = I q j) (H : iv_told I lv nf np nb nl npl) : iv_told K lv nf np nb nl npl := by
  obtain ⟨c, hf, hp, hb, hl, hw⟩ := H
  obtain ⟨c1, c2, c3, c4, c5, c6, c7, c8, c9, c10, c11, c12, c13, c14, c15, c16, c17⟩ := c
  have e1 := h1 1 (by decide) (by decide)
  have e2 := h1 2 (by decide) (by decide)
  have e3 := h1 3 (by decide) (by decide)
  have e4 := h1 4 (by decide) (by decide)
  have e5 := h1 5 (by decide) (by decide)
  have e6 := h1 6 (by decide) (by decide)
  have e7 := h1 7 (by decide) (by decide)
  have e8 := h1 8 (by decide) (by decide)
  refine ⟨⟨c1, c2, c3, c4, c5, c6, by rw [h18]; exact c7, by rw [e1]; exact c8, by rw [e1]; exact c9, by rw [e1]; exact c10, by rw [e1]; exact c11, by rw [e1]; exact c12, ?_, ?_, ?_, ?_, ?_⟩, fun f hf' => ?_, fun p hp' => ?_, fun b hb' i hi => ?_, fun w hw' => ?_, fun q hq => ?_⟩
  · rw [h 69 lv (by decide) (by decide) (by show 1 * lv ≤ lv; omega) (by show lv < 1 * lv + 1; omega)]; exact c13
  · rw [h 73 lv (by decide) (by decide) (by show 1 * lv ≤ lv; omega) (by show lv < 1 * lv + 1; omega)]; exact c14
  · rw [h 77 lv (by decide) (by decide) (by show 1 * lv ≤ lv; omega) (by show lv < 1 * lv + 1; omega)]; exact c15
  · rw [h 79 lv (by decide) (by decide) (by show 1 * lv ≤ lv; omega) (by show lv < 1 * lv + 1; omega)]; exact c16
  · rw [h 82 lv (by decide) (by decide) (by show 1 * lv ≤ lv; omega) (by show lv < 1 * lv + 1; omega)]; exact c17
  · obtain ⟨a1, a2, a3, a4, a5⟩ := hf f hf'
    refine ⟨by rw [e2]; exact a1, by rw [e2]; exact a2, ?_, ?_, fun i hi => ?_⟩
    · rw [e2, h 70 _ (by decide) (by decide) (by show 8 * lv ≤ _; omega) (by show _ < 8 * lv + 8; omega)]; exact a3
    · rw [e2, h 72 _ (by decide) (by decide) (by show 8 * lv ≤ _; omega) (by show _ < 8 * lv + 8; omega)]; exact a4
    · rw [e2, h 71 _ (by decide) (by decide) (by show 24 * lv ≤ _; omega) (by show _ < 24 * lv + 24; omega)]; exact a5 i hi
  · obtain ⟨a1, a3, a4, a5⟩ := hp p hp'
    refine ⟨by rw [e3]; exact a1, ?_, ?_, fun i hi => ?_⟩
    · rw [e3, h 74 _ (by decide) (by decide) (by show 10 * lv ≤ _; omega) (by show _ < 10 * lv + 10; omega)]; exact a3
    · rw [e3, h 76 _ (by decide) (by decide) (by show 10 * lv ≤ _; omega) (by show _ < 10 * lv + 10; omega)]; exact a4
    · rw [e3, h 75 _ (by decide) (by decide) (by show 30 * lv ≤ _; omega) (by show _ < 30 * lv + 30; omega)]; exact a5 i hi
  · rw [e4, h 78 _ (by decide) (by decide) (by show 12 * lv ≤ _; omega) (by show _ < 12 * lv + 12; omega)]; exact hb b hb' i hi
  · obtain ⟨a, b, n, a1, a2, a3, a4, a5, a6, a7, a8⟩ := hl w hw'
    refine ⟨a, b, n, by rw [e6]; exact a1, by unfold lw_a at a2 ⊢; rw [e6]; exact a2, a3, ?_, ?_, a6, by rw [e5]; exact a7, fun j hj => ?_⟩
    · rw [h 80 _ (by decide) (by decide) (by show 6 * lv ≤ _; omega) (by show _ < 6 * lv + 6; omega)]; exact a4
    · rw [h 81 _ (by decide) (by decide) (by show 6 * lv ≤ _; omega) (by show _ < 6 * lv + 6; omega)]; exact a5
    · rw [e5, h 89 _ (by decide) (by decide) (by show 420 * lv ≤ _; omega) (by show _ < 420 * lv + 420; omega), h 90 _ (by decide) (by decide) (by show 420 * lv ≤ _; omega) (by show _ < 420 * lv + 420; omega)]; exact a8 j hj
  · obtain ⟨ns, a1, a2, a3, a4⟩ := hw q hq
    refine ⟨ns, a1, by rw [e7]; exact a2, ?_, fun k hk => ?_⟩
    · rw [h 83 _ (by decide) (by decide) (by show 4 * lv ≤ _; omega) (by show _ < 4 * lv + 4; omega)]; exact a3
    · obtain ⟨pp, bb, mm, b1, b2, b3, b4, b5, b6, b7, b8, b9, b10, b11, b12, b13⟩ := a4 k hk
      have s48 : ∀ x, x = 84 ∨ x = 85 ∨ x = 86 ∨ x = 87 → K x (48 * lv + 12 * q + k) = I x (48 * lv + 12 * q + k) := by
        intro x hx
        rcases hx with rfl | rfl | rfl | rfl
        · exact h 84 _ (by decide) (by decide) (by show 48 * lv ≤ _; omega) (by show _ < 48 * lv + 48; omega)
        · exact h 85 _ (by decide) (by decide) (by show 48 * lv ≤ _; omega) (by show _ < 48 * lv + 48; omega)
        · exact h 86 _ (by decide) (by decide) (by show 48 * lv ≤ _; omega) (by show _ < 48 * lv + 48; omega)
        · exact h 87 _ (by decide) (by decide) (by show 48 * lv ≤ _; omega) (by show _ < 48 * lv + 48; omega)
      refine ⟨pp, bb, mm, b1, b2, b3, b4, by rw [e8]; exact b5, by rw [s48 84 (by omega)]; exact b6, by rw [e8]; exact b7, by rw [s48 85 (by omega)]; exact b8, by rw [e8]; exact b9, by rw [e8, s48 86 (by omega)]; exact b10, by rw [e8]; exact b11, by rw [s48 87 (by omega)]; exact b12, fun i hi => ?_⟩
      obtain ⟨ff, f1, f2, f3⟩ := b13 i hi
      exact ⟨ff, f1, by rw [e8]; exact f2, by rw [h 88 _ (by decide) (by decide) (by show 288 * lv ≤ _; omega) (by show _ < 288 * lv + 288; omega)]; exact f3⟩
theorem iv_told_new {B : Nat → Nat} {n sd t : Nat} {J K : st_I} {L M : st_L} {z : z6_X} (hsd : sd ≤ 1) (ht : t ≤ 400) (C : cz B n J L z) (R : rz B n sd K M z 0) (Z : zl z t 0) (h18 : K 58 18 = nI sd) (h : ∀ q, 1 ≤ q → q ≤ 8 → K q = J (q + 8)) : iv_told K sd (z.2.1 0) (z.2.1 1) (z.2.1 2) (z.2.1 3) (z.2.1 4) := by
  obtain ⟨C1, C2, C3, C4, C5, C6, C7, C8, C9⟩ := C
  obtain ⟨R1, R2, R3, R4, R5, R6, R7⟩ := R
  obtain ⟨⟨⟨k1, k2, k3, k4, k5⟩, k6, k7, k8, k9⟩, hL, hR, hN, hS⟩ := Z
  have e1 : K 1 = J 9 := h 1 (by decide) (by decide)
  have e2 : K 2 = J 10 := h 2 (by decide) (by decide)
  have e3 : K 3 = J 11 := h 3 (by decide) (by decide)
  have e4 : K 4 = J 12 := h 4 (by decide) (by decide)
  have e5 : K 5 = J 13 := h 5 (by decide) (by decide)
  have e6 : K 6 = J 14 := h 6 (by decide) (by decide)
  have e7 : K 7 = J 15 := h 7 (by decide) (by decide)
  have e8 : K 8 = J 16 := h 8 (by decide) (by decide)
  refine ⟨⟨hsd, k1, k2, k3, k4, k5, h18, by rw [e1]; exact C2 0 (by decide), by rw [e1]; exact C2 1 (by decide), by rw [e1]; exact C2 2 (by decide), by rw [e1]; exact C2 3 (by decide), by rw [e1]; exact C2 4 (by decide), R3.1, R4.1, R5.1, R6.1, R7.1⟩, fun f hf => ?_, fun p hp => ?_, fun b hb i hi => ?_, fun w hw => ?_, fun q hq => ?_⟩
  · obtain ⟨a1, a2, a3⟩ := R3.2 f hf
    obtain ⟨b1, b2⟩ := hR.1 f hf
    refine ⟨by rw [e2, C4 _ (by omega)]; exact b1, by rw [e2, C4 _ (by omega)]; exact b2, by rw [e2, C4 _ (by omega)]; exact a1, by rw [e2, C4 _ (by omega)]; exact a2, fun i hi => ?_⟩
    rw [e2, C4 _ (by omega), show 24 * sd + 3 * f + i = 3 * (8 * sd + f) + i by omega]; exact a3 i hi
  · obtain ⟨a1, a2, a3⟩ := R4.2 p hp
    refine ⟨by rw [e3, C5 _ (by omega)]; exact hR.2 p hp, by rw [e3, C5 _ (by omega)]; exact a1, by rw [e3, C5 _ (by omega)]; exact a2, fun i hi => ?_⟩
    rw [e3, C5 _ (by omega), show 30 * sd + 3 * p + i = 3 * (10 * sd + p) + i by omega]; exact a3 i hi
  · rw [e4, C6 _ (by omega)]; exact R5.2 b hb i hi
  · obtain ⟨g1, g2, g3⟩ := hL.2 w hw
    obtain ⟨r1, r2⟩ := R6.2.2.2.2 w hw
    refine ⟨lsF z.2.2.2.1 w, 420 * sd + lsF z.2.2.2.1 w, z.2.2.2.1 w - lsF z.2.2.2.1 w, ?_, ?_, by omega, r1, ?_, by omega, ?_, fun j hj => ?_⟩
    · rw [e6, C8 w hw]; congr 1; omega
    · unfold lw_a lsF
      by_cases w0 : w = 0
      · rw [if_pos w0, if_pos w0]
      · have g := hL.2 (w - 1) (by omega)
        rw [if_neg w0, if_neg w0, e6, C8 (w - 1) (by omega), nI_clamp (by omega)]
    · rw [r2]; congr 1; omega
    · rw [← g3]
      exact rpd_congr _ (fun j hj => by rw [e5]; exact C7 _ (by omega))
    · rw [e5, C7 _ (by omega), Nat.add_assoc]; exact R6.2.2.2.1 _ (by omega)
  · obtain ⟨a1, a2⟩ := C9 q hq
    obtain ⟨b1, b2⟩ := R7.2 q hq
    obtain ⟨s1, s2⟩ := k9 q hq
    refine ⟨z.2.2.2.2.1 q, s1, by rw [e7]; exact a1, b1, fun k hk => ?_⟩
    obtain ⟨x1, x2⟩ := a2 k hk
    obtain ⟨y1, y2⟩ := b2 k hk
    obtain ⟨⟨t1, t2⟩, t3⟩ := hS q hq k hk
    obtain ⟨⟨pp, p1, p2⟩, ⟨bb, q1, q2⟩, hf⟩ := t3 rfl
    obtain ⟨v0, v1, v2, v3⟩ := y2 rfl
    have m6 := s2 k hk
    have er : 10 * (12 * q + k) = (q * 12 + k) * 10 := by omega
    have eg : 48 * sd + 12 * q + k = 12 * (4 * sd + q) + k := by omega
    refine ⟨pp, bb, (z.2.2.2.2.2 q k).1, p1, q1, t1, m6, ?_, ?_, ?_, ?_, ?_, ?_, ?_, ?_, fun i hi => ?_⟩
    · rw [e8, er, ← p2]; exact x2 0 (by omega) (by decide)
    · rw [eg, v0]; exact p2
    · rw [e8, er, ← q2]; exact x2 1 (by omega) (by decide)
    · rw [eg, v1]; exact q2
    · rw [e8, er, x2 2 (by omega) (by decide)]; exact t2
    · rw [eg, v2, e8, er, x2 2 (by omega) (by decide)]
    · rw [e8, er]; exact x1
    · rw [eg]; exact y1
    · obtain ⟨ff, f1, f2⟩ := hf i hi
      refine ⟨ff, f1, ?_, ?_⟩
      · rw [e8, er, ← f2, Nat.add_assoc]; exact x2 (4 + i) (by omega) (by omega)
      · rw [eg, v3 i hi]; exact f2
theorem inv_read {W : Nat → Int64} {I : st_I} {L : st_L} {Q : st_Q} (hW : keyW W) (H : Inv W I L)
    (hno : ∀ r J M, ¬ r = 0 → EI 60 mX12_read [.ref 58] J M (fun r' J2 M2 => r' = r ∧ Inv W J2 M2) → Q (some (.int r)) shp J M)
    (hyes : ∀ J M, (∀ (K : st_I) (M' : st_L), (∀ q, 1 ≤ q → q ≤ 8 → K q = J (q + 8)) → K 30 0 = -1 → (∀ j, j < 81 → K 57 j = -1) → (∀ q, 16 < q → q ≠ 30 → q ≠ 57 → K q = J q) → M' 65 = M 65 → EI 60 mX12_read [.ref 58] K M' (fun r' J2 M2 => r' = 0 ∧ Inv W J2 M2)) → T shp 60 mX11_read 51 [.ref 0, .int 0, .null] [] J M Q) : Ev shp 60 mX11_read [.ref 0] I L Q := by
  obtain ⟨hK, ⟨⟨n, hn, hx, hm, ht⟩, hb⟩, hs, hp, lv, nf, np, nb, nl, npl, nF, h1, h2, h3, h4⟩ := H
  have hlv : lv ≤ 1 := h1.1.1
  have g18 : I 58 18 = nI lv := h1.1.2.2.2.2.2.2.1
  refine x_read (d := 51) (n := n) ⟨hn, hx, hb⟩ (fun J M a1 a2 a3 a4 a5 tt rc5 => ?_)
  have eM : M 65 = W := (a5 65 (by decide)).trans hK
  have j18 : J 18 = I 18 := a1 18 (by omega)
  have eB : bB J = bB I := by funext j; unfold bB; rw [j18]
  have r3 := rd_ok (B := bB I) (n := n) 402 s0_X z0_X (fun _ => zl_0)
  by_cases rc : rcF (rdX (bB I) n).1 = 0
  · rw [if_pos rc]
    have z1 : (rdX (bB I) n).1.1 = 0 := by
      by_cases c : (rdX (bB I) n).1.1 = 0
      · exact c
      · unfold rcF at rc; rw [if_neg c] at rc; exact rc
    have zlf : (rdX (bB I) n).1.2.2.1 = 0 := by unfold rcF at rc; rw [if_pos z1] at rc; exact rc
    refine hyes J M (fun K M' b1 b2 b3 b4 b5 => ?_)
    have eM' : M' 65 = W := b5.trans eM
    have k18 : K 18 = I 18 := (b4 18 (by decide) (by decide) (by decide)).trans j18
    have k58 : K 58 = I 58 := (b4 58 (by decide) (by decide) (by decide)).trans (a1 58 (by omega))
    have eK : bB K = bB I := by funext j; unfold bB; rw [k18]
    refine m_read (d := 53) (lv := lv) (n := n) (W := W) hlv hn (by rw [k58]; exact hm) (fun j hj => by rw [k18, b4 59 (by decide) (by decide) (by decide), a1 59 (by omega)]; exact ht j hj) (fun j => by rw [k18]; exact hb j) hW eM' (by rw [k58]; exact g18) (fun K2 M2 c1 c2 c3 c4 c5 c6 => ?_)
    rw [eK] at c3 c4 c5
    rw [eK, rc]
    rw [if_pos rc] at c4
    refine ⟨rfl, (c6 65 (by decide) (by decide)).trans eM', ⟨⟨0, Nat.zero_le _, ?_, c2, fun j hj => absurd hj (Nat.not_lt_zero _)⟩, fun j => ?_⟩, fun i hi => ?_, ?_, 1 - lv, (rdX (bB I) n).2.2.1 0, (rdX (bB I) n).2.2.1 1, (rdX (bB I) n).2.2.1 2, (rdX (bB I) n).2.2.1 3, (rdX (bB I) n).2.2.1 4, nF, ?_, ?_, Or.inl ?_, fun j hj => Or.inl ?_⟩
    · rw [c1.1 17 (by omega), b4 17 (by decide) (by decide) (by decide)]; exact a2
    · rw [c1.1 18 (by omega), k18]; exact hb j
    · rw [c1.1 94 (by omega), b4 94 (by decide) (by decide) (by decide), a1 94 (by omega)]; exact hs i hi
    · rw [c3, c1.1 17 (by omega), b4 17 (by decide) (by decide) (by decide)]; exact a3
    · have c5' := c5 z1
      rw [zlf] at c5'
      have r3' := r3 z1
      have ez : rdL (bB I) n 402 s0_X z0_X = rdX (bB I) n := rfl
      rw [ez, zlf] at r3'
      exact iv_told_new (by omega) tt (a4 z1) c5' r3' c4 (fun q u v => by rw [c1.1 q (by omega)]; exact b1 q u v)
    · exact iv_facts_congr (fun q hq => by rw [c1.1 q (by omega), b4 q (by omega) (by omega) (by omega), a1 q (by omega)]) (by rw [c1.2.1 52 rfl, k58]) h2
    · rw [c1.1 30 (by omega)]; exact b2
    · rw [c1.1 57 (by omega)]; exact b3 j hj
  · rw [if_neg rc]
    have l5 : rcF (rdX (bB I) n).1 < 2 ^ 31 := by omega
    refine hno _ J M (nI_ne0 (Nat.pos_of_ne_zero rc) l5) ?_
    refine m_read (d := 53) (lv := lv) (n := n) (W := W) hlv hn (by rw [a1 58 (by omega)]; exact hm) (fun j hj => by rw [j18, a1 59 (by omega)]; exact ht j hj) (fun j => by rw [j18]; exact hb j) hW eM (by rw [a1 58 (by omega)]; exact g18) (fun K2 M2 c1 c2 c3 c4 c5 c6 => ?_)
    rw [eB] at c3 c4 c5
    rw [eB]
    rw [if_neg rc] at c4
    have fr : ∀ q, q < 9 ∨ (24 < q ∧ q < 58) ∨ q = 59 ∨ 91 < q → K2 q = I q := fun q hq => by rw [c1.1 q (by omega), a1 q (by omega)]
    refine ⟨rfl, (c6 65 (by decide) (by decide)).trans eM, ⟨⟨0, Nat.zero_le _, by rw [c1.1 17 (by omega)]; exact a2, c2, fun j hj => absurd hj (Nat.not_lt_zero _)⟩, fun j => by rw [c1.1 18 (by omega), j18]; exact hb j⟩, fun i hi => by rw [fr 94 (by omega)]; exact hs i hi, by rw [c3, c1.1 17 (by omega)]; exact a3, lv, nf, np, nb, nl, npl, nF, ?_, ?_, ?_, ?_⟩
    · refine iv_told_side (fun q u v => fr q (by omega)) (by rw [c4]; exact g18.symm) (fun q j u v x y => ?_) h1
      have hw : j < wi q * (1 - lv) ∨ wi q * (1 - lv) + wi q ≤ j := by
        have hlv2 : lv = 0 ∨ lv = 1 := by omega
        rcases hlv2 with rfl | rfl
        · left; simpa using y
        · right; simpa using x
      rw [c1.2.2 q j u v hw, a1 q (by omega)]
    · exact iv_facts_congr (fun q hq => fr q (by omega)) (by rw [c1.2.1 52 rfl, a1 58 (by omega)]) h2
    · exact iv_kn_same (fun q hq => fr q (by omega)) h3
    · exact iv_said_same (fr 57 (by omega)) (fr 29 (by omega)) (fr 3 (by omega)) (fr 2 (by omega)) h4
