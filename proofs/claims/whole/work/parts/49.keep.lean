/-! FACTS that come leave what was KNOWN; the invariant and the 44 calls but read -/
theorem kb_ag {R R' : Nat → Int32} {P Q : Int32} {n k : Nat} (h : ∀ j, j < 6 * n → R' j = R j) (hk : k < n) : kb R' P Q n k = kb R P Q n k := by
  unfold kb
  rw [h (6 * k) (by omega), h (6 * k + 1) (by omega), h (6 * k + 2) (by omega)]
  refine decide_eq_decide.mpr ⟨fun z => ⟨z.1, z.2.1, z.2.2.1, fun j hj hkj => ?_⟩, fun z => ⟨z.1, z.2.1, z.2.2.1, fun j hj hkj => ?_⟩⟩
  · rw [← h (6 * j) (by omega), ← h (6 * j + 1) (by omega)]; exact z.2.2.2 j hj hkj
  · rw [h (6 * j) (by omega), h (6 * j + 1) (by omega)]; exact z.2.2.2 j hj hkj
theorem sc_ag {R R' : Nat → Int32} {P Q : Int32} {n : Nat} (h : ∀ j, j < 6 * n → R' j = R j) (k : Nat) : sc R' P Q n k = sc R P Q n k := by
  unfold sc kbm
  by_cases hk : k < n
  · rw [kb_ag h hk]
  · rw [decide_eq_false hk]; simp
theorem kc_ag {R R' : Nat → Int32} {P Q : Int32} {n k : Nat} (h : ∀ j, j < 6 * n → R' j = R j) (hk : k < n) (s : Int32) : kc R' P Q n k s = kc R P Q n k s := by
  unfold kc
  rw [kb_ag h hk, h (6 * k) (by omega)]
theorem kcb_ag {R R' : Nat → Int32} {P Q : Int32} {n k : Nat} (h : ∀ j, j < 6 * n → R' j = R j) (hk : k < n) : kcb R' P Q n k = kcb R P Q n k := by
  unfold kcb
  rw [kc_ag h hk, h (6 * k + 5) (by omega)]
theorem kcs_ag {R R' : Nat → Int32} {P Q : Int32} {n k : Nat} (h : ∀ j, j < 6 * n → R' j = R j) (hk : k < n) : kcs R' P Q n k = kcs R P Q n k := by
  unfold kcs
  rw [kc_ag h hk, h (6 * k + 5) (by omega)]
theorem pi8_ag {R R' : Nat → Int32} {n k : Nat} (h : ∀ j, j < 6 * n → R' j = R j) (hk : k < n) : pi8 R' k = pi8 R k := by
  unfold pi8
  rw [h (6 * k + 1) (by omega), h (6 * k + 2) (by omega)]
theorem kB_ag {R R' : Nat → Int32} {P Q : Int32} {n : Nat} (h : ∀ j, j < 6 * n → R' j = R j) : ∀ m, m ≤ n → kB R' P Q n m = kB R P Q n m
  | 0, _ => rfl
  | m + 1, hm => by rw [kB, kB, kB_ag h m (by omega), kcb_ag h (show m < n by omega), pi8_ag h (show m < n by omega), h (6 * m + 3) (by omega)]
theorem kE_ag {R R' : Nat → Int32} {P Q : Int32} {n : Nat} (h : ∀ j, j < 6 * n → R' j = R j) : ∀ m, m ≤ n → kE R' P Q n m = kE R P Q n m
  | 0, _ => rfl
  | m + 1, hm => by rw [kE, kE, kE_ag h m (by omega), kB_ag h m (by omega), kcb_ag h (show m < n by omega), pi8_ag h (show m < n by omega)]
theorem kS_ag {R R' : Nat → Int32} {P Q : Int32} {n : Nat} (h : ∀ j, j < 6 * n → R' j = R j) : ∀ m, m ≤ n → kS R' P Q n m = kS R P Q n m
  | 0, _ => rfl
  | m + 1, hm => by rw [kS, kS, kS_ag h m (by omega), kcs_ag h (show m < n by omega), pi8_ag h (show m < n by omega), h (6 * m + 3) (by omega)]
theorem kcp_ag {R R' : Nat → Int32} {P Q : Int32} {T : Nat → Int32} {n k : Nat} (h : ∀ j, j < 6 * n → R' j = R j) (hk : k < n) : kcp R' P Q T n k = kcp R P Q T n k := by
  unfold kcp
  rw [kcb_ag h hk, h (6 * k + 1) (by omega)]
theorem kPS_ag {R R' : Nat → Int32} {P Q : Int32} {T : Nat → Int32} {n sp : Nat} (h : ∀ j, j < 6 * n → R' j = R j) : ∀ m, m ≤ n → kPS R' P Q T n sp m = kPS R P Q T n sp m
  | 0, _ => rfl
  | m + 1, hm => by rw [kPS, kPS, kPS_ag h m (by omega), kcp_ag h (show m < n by omega), h (6 * m + 4) (by omega), h (6 * m + 3) (by omega)]
theorem kPM_ag {R R' : Nat → Int32} {P Q : Int32} {T : Nat → Int32} {n sp : Nat} (h : ∀ j, j < 6 * n → R' j = R j) : kPM R' P Q T n sp n = kPM R P Q T n sp n :=
  cn_congr (fun k hk => by rw [kcp_ag h hk, h (6 * k + 4) (by omega)])
theorem gk_ag {R R' : Nat → Int32} {P Q : Int32} {O : Nat → Int32} {n : Nat} (h : ∀ j, j < 6 * n → R' j = R j) (c : Nat) : cn (gk R' P Q O n c) n = cn (gk R P Q O n c) n :=
  cn_congr (fun k hk => by unfold gk; rw [kc_ag h hk, h (6 * k + 2) (by omega), h (6 * k + 3) (by omega)])
theorem kK_ag {I J : st_I} {nf np n : Nat} (e : ∀ q, q = 2 ∨ q = 3 ∨ (30 < q ∧ q < 40) → J q = I q) (h : ∀ j, j < 6 * n → J 29 j = I 29 j) (H : kK I nf np n) : kK J nf np n := by
  have e2 := e 2 (by omega); have e3 := e 3 (by omega); have e31 := e 31 (by omega); have e32 := e 32 (by omega); have e33 := e 33 (by omega); have e34 := e 34 (by omega); have e35 := e 35 (by omega); have e36 := e 36 (by omega); have e37 := e 37 (by omega); have e38 := e 38 (by omega); have e39 := e 39 (by omega)
  obtain ⟨a1, a2, a3, a4, a5, a6, a7⟩ := H
  refine ⟨fun j hj => ?_, fun j hj => ?_, fun j hj => ?_, fun j hj => ?_, fun f hf => ?_, fun sp hs => ?_, fun c hc => ?_⟩
  · rw [e31, sc_ag h]; exact a1 j hj
  · rw [e32, kB_ag h n (Nat.le_refl _)]; exact a2 j hj
  · rw [e33, kE_ag h n (Nat.le_refl _)]; exact a3 j hj
  · rw [e34, kS_ag h n (Nat.le_refl _)]; exact a4 j hj
  · rw [e35, e36, e3, kB_ag h n (Nat.le_refl _)]; exact a5 f hf
  · rw [e37, e38, e3, kPS_ag h n (Nat.le_refl _), kPM_ag h]; exact a6 sp hs
  · rw [e39, e2, gk_ag h]; exact a7 c hc
theorem sayS_ag {R R' T O : Nat → Int32} {nf np n : Nat} (h : ∀ j, j < 6 * n → R' j = R j) : sayS R' T O nf np n = sayS R T O nf np n := by
  unfold sayS sy_0
  rw [kB_ag h n (Nat.le_refl _), kE_ag h n (Nat.le_refl _), kS_ag h n (Nat.le_refl _), gk_ag h, gk_ag h]
theorem fa.kn {nF nF' nf np : Nat} {I J : st_I} (h : fa nF nF' I J) (H : iv_kn I nf np nF) : iv_kn J nf np nF' := by
  have e := h.1
  rcases H with z | ⟨n, h1, h2, h3⟩
  · exact Or.inl (by rw [e 30 (by decide) (by decide) (by decide) (by decide) (by decide) (by decide) (by decide) (by decide)]; exact z)
  · exact Or.inr ⟨n, Nat.le_trans h1 h.2.2.1, by rw [e 30 (by decide) (by decide) (by decide) (by decide) (by decide) (by decide) (by decide) (by decide)]; exact h2, kK_ag (fun q hq => e q (by omega) (by omega) (by omega) (by omega) (by omega) (by omega) (by omega) (by omega)) (fun j hj => h.2.2.2.1 j (by omega)) h3⟩
theorem fa.said {nF nF' nf np : Nat} {I J : st_I} (h : fa nF nF' I J) (H : iv_said I nf np nF) : iv_said J nf np nF' := by
  have e := h.1
  intro n hn
  rw [e 57 (by decide) (by decide) (by decide) (by decide) (by decide) (by decide) (by decide) (by decide), e 2 (by decide) (by decide) (by decide) (by decide) (by decide) (by decide) (by decide) (by decide), e 3 (by decide) (by decide) (by decide) (by decide) (by decide) (by decide) (by decide) (by decide)]
  rcases H n hn with z | ⟨h1, h2⟩
  · exact Or.inl z
  · exact Or.inr ⟨Nat.le_trans h1 h.2.2.1, by rw [h2, sayS_ag (fun j hj => h.2.2.2.1 j (by omega))]⟩
/-- a byte -/
def bt (x : Int32) : Prop := x.toInt8.toInt32 = x
def iv_byt (I : st_I) : Prop := ∀ j, bt (I 18 j)
theorem bt_of (x : Int32) : bt x.toInt8.toInt32 := by unfold bt; simp
theorem by_b (x : Int32) (s : Nat) : bt (by_of x s) := by unfold by_of; exact bt_of _
theorem bt_if {c : Prop} [Decidable c] {a b : Int32} (ha : bt a) (hb : bt b) : bt (if c then a else b) := by
  split
  · exact ha
  · exact hb
theorem tp4_b {t : Nat → Int32} {n : Nat} {x : Int32} (h : ∀ j, bt (t j)) : ∀ j, bt (tp4 t n x j) := by
  intro j
  unfold tp4 upd
  exact bt_if (by_b _ _) (bt_if (by_b _ _) (bt_if (by_b _ _) (bt_if (by_b _ _) (h j))))
theorem op_feedb {I : st_I} {L : st_L} {P : st_I → st_L → Prop} (H : iv_tape I) (hb : iv_byt I) (no : P I L) (hP : ∀ J : st_I, (∀ q, q ≠ 17 → q ≠ 18 → q ≠ 58 → q ≠ 59 → J q = I q) → (∀ k, k ≠ 0 → J 17 k = I 17 k) → (∀ k, k ≠ 2 → J 58 k = I 58 k) → iv_tape J → iv_byt J → P J L) (a b c e f : Int32) :
    EI 60 mX11_feed [.ref 0, .int a, .int b, .int c, .int e, .int f] I L (fun r I1 L1 => EI 60 mX12_feed [.ref 58, .int a, .int b, .int c, .int e, .int f] I1 L1 (fun r' I2 L2 => r' = r ∧ P I2 L2)) := by
  obtain ⟨n, hn, hx, hm, ht⟩ := H
  refine sgX11_feed_0 ?_
  rw [hx, show nI n + 20 = nI (n + 20) from nI_add n 20]
  by_cases h : n + 20 ≤ 2000
  · rw [if_pos (show nI (n + 20) ≤ 2000 from nI_le (b := 2000) h (by decide))]
    refine pX_append' (by omega) hx (fun J1 a1 b1 c1 d1 => pX_append' (by omega) d1 (fun J2 a2 b2 c2 d2 => pX_append' (by omega) d2 (fun J3 a3 b3 c3 d3 => pX_append' (by omega) d3 (fun J4 a4 b4 c4 d4 => pX_append' (by omega) d4 (fun J5 a5 b5 c5 d5 => ?_)))))
    have s : ∀ q, q ≠ 17 → q ≠ 18 → J5 q = I q := fun q x y => by rw [a5 q x y, a4 q x y, a3 q x y, a2 q x y, a1 q x y]
    refine sgX12_feed_0 ?_
    rw [s 58 (by decide) (by decide), hm, show nI n + 20 = nI (n + 20) from nI_add n 20, if_pos (show nI (n + 20) ≤ 2000 from nI_le (b := 2000) h (by decide))]
    refine pM_put (n := n) (by omega) (by rw [s 58 (by decide) (by decide), hm]) (fun K1 e1 f1 g1 h1 => pM_put (by omega) h1 (fun K2 e2 f2 g2 h2 => pM_put (by omega) h2 (fun K3 e3 f3 g3 h3 => pM_put (by omega) h3 (fun K4 e4 f4 g4 h4 => pM_put (by omega) h4 (fun K5 e5 f5 g5 h5 => ?_)))))
    have s2 : ∀ q, q ≠ 58 → q ≠ 59 → K5 q = J5 q := fun q x y => by rw [e5 q x y, e4 q x y, e3 q x y, e2 q x y, e1 q x y]
    refine ⟨by rw [h5, d5], hP K5 (fun q q1 q2 q3 q4 => by rw [s2 q q3 q4, s q q1 q2]) (fun k hk => by rw [s2 17 (by decide) (by decide), c5 k hk, c4 k hk, c3 k hk, c2 k hk, c1 k hk]) (fun k hk => by rw [g5 k hk, g4 k hk, g3 k hk, g2 k hk, g1 k hk, s 58 (by decide) (by decide)]) ⟨n + 20, h, by rw [s2 17 (by decide) (by decide), d5], h5, ?_⟩ ?_⟩
    · rw [f5, f4, f3, f2, f1, s2 18 (by decide) (by decide), b5, b4, b3, b2, b1, s 59 (by decide) (by decide)]
      exact tp4_lt (tp4_lt (tp4_lt (tp4_lt (tp4_lt ht))))
    · unfold iv_byt
      rw [s2 18 (by decide) (by decide), b5, b4, b3, b2, b1]
      exact tp4_b (tp4_b (tp4_b (tp4_b (tp4_b hb))))
  · have hi : ¬ nI (n + 20) ≤ 2000 := nI_ge (a := 2000) (by omega) (by omega)
    rw [if_neg hi]
    refine sgX12_feed_0 ?_
    rw [hm, show nI n + 20 = nI (n + 20) from nI_add n 20, if_neg hi]
    exact ⟨rfl, no⟩
theorem op_backb {I : st_I} {L : st_L} {P : st_I → st_L → Prop} (H : iv_tape I) (hb : iv_byt I) (no : P I L) (hP : ∀ J : st_I, (∀ q, q ≠ 17 → q ≠ 18 → q ≠ 58 → q ≠ 59 → J q = I q) → (∀ k, k ≠ 0 → J 17 k = I 17 k) → (∀ k, k ≠ 2 → J 58 k = I 58 k) → iv_tape J → iv_byt J → P J L) (a : Int32) :
    EI 60 mX11_back [.ref 0, .int a] I L (fun r I1 L1 => EI 60 mX12_back [.ref 58, .int a] I1 L1 (fun r' I2 L2 => r' = r ∧ P I2 L2)) := by
  obtain ⟨n, hn, hx, hm, ht⟩ := H
  refine sgX11_back_0 ?_
  rw [hx]
  rcases ot_ix a (n + 1) (by omega) with ho | ⟨j, hj, rfl⟩
  · have bad : EI 60 mX12_back [.ref 58, .int a] I L (fun r' I2 L2 => r' = -1 ∧ P I2 L2) := by
      refine sgX12_back_0 ?_
      rw [hm]
      rcases ho with z | z
      · rw [if_pos z]; exact ⟨rfl, no⟩
      · by_cases y : a < 0
        · rw [if_pos y]; exact ⟨rfl, no⟩
        · obtain ⟨i, hi, rfl⟩ := nI_of y
          have : n + 1 ≤ i := (nI_leI (by omega) hi).mp z
          rw [if_neg y, if_neg (nI_ge (by omega) hi)]; exact ⟨rfl, no⟩
    by_cases y : a < 0
    · rw [if_pos y]; exact bad
    · obtain ⟨i, hi, rfl⟩ := nI_of y
      have : n + 1 ≤ i := (nI_leI (by omega) hi).mp (ho.resolve_left y)
      rw [if_neg y, if_neg (nI_ge (by omega) hi)]; exact bad
  · rw [if_neg (nI_pos (by omega)), if_pos (nI_le (by omega) (by omega)), pk_sub (by omega)]
    refine sgX12_back_0 ?_
    rw [if_neg (nI_pos (by omega)), u_I_ne 0 _ (by decide), hm, if_pos (nI_le (by omega) (by omega)), pk_sub (by omega)]
    refine ⟨rfl, hP _ (fun q q1 q2 q3 q4 => by rw [u_I_ne 2 _ q3, u_I_ne 0 _ q1]) (fun k hk => by simp [u_I, hk]) (fun k hk => by simp [u_I, hk]) ⟨n - j, by omega, by simp [u_I], by simp [u_I], fun i hi => ?_⟩ (by unfold iv_byt; rw [u_I_ne 2 _ (by decide), u_I_ne 0 _ (by decide)]; exact hb)⟩
    rw [u_I_ne 2 _ (by decide), u_I_ne 0 _ (by decide), u_I_ne 2 _ (by decide), u_I_ne 0 _ (by decide)]
    exact ht i (by omega)
/-- what holds between two calls; K are the words' keys -/
def Inv (K : Nat → Int64) (I : st_I) (L : st_L) : Prop := L 65 = K ∧ (iv_tape I ∧ iv_byt I) ∧ iv_set I ∧ I 17 1 = I 58 17 ∧ ∃ lv nf np nb nl npl nF, iv_told I lv nf np nb nl npl ∧ iv_facts I nF ∧ iv_kn I nf np nF ∧ iv_said I nf np nF
/-- all but what an answer may write: J is as I -/
theorem Inv.as {K : Nat → Int64} {I J : st_I} {L M : st_L} (hJ : ∀ q, q < 59 ∨ (58 < q ∧ q < 101) → q ≠ 26 → q ≠ 27 → q ≠ 92 → q ≠ 93 → q ≠ 94 → q ≠ 54 → J q = I q) (hM : M 65 = L 65) (hs : iv_set J) (H : Inv K I L) : Inv K J M := by
  have e : ∀ q, q < 101 → q ≠ 26 → q ≠ 27 → q ≠ 92 → q ≠ 93 → q ≠ 94 → q ≠ 54 → J q = I q := fun q h => hJ q (by omega)
  obtain ⟨hK, ⟨ht, hb⟩, -, hp, lv, nf, np, nb, nl, npl, nF, h1, h2, h3, h4⟩ := H
  refine ⟨hM.trans hK, ⟨iv_tape_congr (by rw [e 17 (by decide) (by decide) (by decide) (by decide) (by decide) (by decide) (by decide)]) (e 18 (by decide) (by decide) (by decide) (by decide) (by decide) (by decide) (by decide)) (by rw [e 58 (by decide) (by decide) (by decide) (by decide) (by decide) (by decide) (by decide)]) (e 59 (by decide) (by decide) (by decide) (by decide) (by decide) (by decide) (by decide)) ht, fun j => by rw [e 18 (by decide) (by decide) (by decide) (by decide) (by decide) (by decide) (by decide)]; exact hb j⟩, hs, by rw [e 17 (by decide) (by decide) (by decide) (by decide) (by decide) (by decide) (by decide), e 58 (by decide) (by decide) (by decide) (by decide) (by decide) (by decide) (by decide)]; exact hp, lv, nf, np, nb, nl, npl, nF, ?_, ?_, ?_, ?_⟩
  · exact iv_told_congr (fun q hq => e q (by omega) (by omega) (by omega) (by omega) (by omega) (by omega) (by omega)) (by rw [e 58 (by decide) (by decide) (by decide) (by decide) (by decide) (by decide) (by decide)]) h1
  · exact iv_facts_congr (fun q hq => e q (by omega) (by omega) (by omega) (by omega) (by omega) (by omega) (by omega)) (by rw [e 58 (by decide) (by decide) (by decide) (by decide) (by decide) (by decide) (by decide)]) h2
  · exact iv_kn_same (fun q hq => e q (by omega) (by omega) (by omega) (by omega) (by omega) (by omega) (by omega)) h3
  · exact iv_said_same (e 57 (by decide) (by decide) (by decide) (by decide) (by decide) (by decide) (by decide)) (e 29 (by decide) (by decide) (by decide) (by decide) (by decide) (by decide) (by decide)) (e 3 (by decide) (by decide) (by decide) (by decide) (by decide) (by decide) (by decide)) (e 2 (by decide) (by decide) (by decide) (by decide) (by decide) (by decide) (by decide)) h4
theorem Inv.tell {K : Nat → Int64} {I J : st_I} {L : st_L} (H : Inv K I L) (h : xm I J) : Inv K J L :=
  Inv.as (fun q _ a b c e _ _ => h q a b c e) rfl (fun i hi => by rw [h 94 (by decide) (by decide) (by decide) (by decide)]; exact H.2.2.1 i hi) H
theorem Inv.mt {K : Nat → Int64} {I J : st_I} {L : st_L} (H : Inv K I L) (h : ∀ q, q ≠ 26 → q ≠ 27 → q ≠ 92 → q ≠ 93 → q ≠ 94 → J q = I q) (hs : iv_set J) : Inv K J L :=
  Inv.as (fun q _ a b c e f _ => h q a b c e f) rfl hs H
theorem Inv.tape {K : Nat → Int64} {I J : st_I} {L : st_L} (H : Inv K I L) (h : ∀ q, q ≠ 17 → q ≠ 18 → q ≠ 58 → q ≠ 59 → J q = I q) (h17 : ∀ k, k ≠ 0 → J 17 k = I 17 k) (h58 : ∀ k, k ≠ 2 → J 58 k = I 58 k) (ht : iv_tape J) (hb : iv_byt J) : Inv K J L := by
  obtain ⟨hK, -, hs, hp, lv, nf, np, nb, nl, npl, nF, h1, h2, h3, h4⟩ := H
  refine ⟨hK, ⟨ht, hb⟩, fun i hi => by rw [h 94 (by decide) (by decide) (by decide) (by decide)]; exact hs i hi, by rw [h17 1 (by decide), h58 17 (by decide)]; exact hp, lv, nf, np, nb, nl, npl, nF, ?_, ?_, ?_, ?_⟩
  · exact iv_told_congr (fun q hq => h q (by omega) (by omega) (by omega) (by omega)) (h58 18 (by decide)) h1
  · exact iv_facts_congr (fun q hq => h q (by omega) (by omega) (by omega) (by omega)) (h58 52 (by decide)) h2
  · exact iv_kn_same (fun q hq => h q (by omega) (by omega) (by omega) (by omega)) h3
  · exact iv_said_same (h 57 (by decide) (by decide) (by decide) (by decide)) (h 29 (by decide) (by decide) (by decide) (by decide)) (h 3 (by decide) (by decide) (by decide) (by decide)) (h 2 (by decide) (by decide) (by decide) (by decide)) h4
theorem Inv.fct {K : Nat → Int64} {I J : st_I} {L : st_L} {lv nf np nb nl npl nF nF' : Nat} (hK : L 65 = K) (ht : iv_tape I ∧ iv_byt I) (hs : iv_set I) (hp : I 17 1 = I 58 17) (h1 : iv_told I lv nf np nb nl npl) (h3 : iv_kn I nf np nF) (h4 : iv_said I nf np nF) (h : fa nF nF' I J) : Inv K J L := by
  have e : ∀ q, q ≠ 26 → q ≠ 27 → q ≠ 28 → q ≠ 29 → q ≠ 58 → q ≠ 92 → q ≠ 93 → (q < 95 ∨ 100 < q) → J q = I q := h.1
  have f := h.2.1
  refine ⟨hK, ⟨iv_tape_congr (by rw [e 17 (by decide) (by decide) (by decide) (by decide) (by decide) (by decide) (by decide) (by decide)]) (e 18 (by decide) (by decide) (by decide) (by decide) (by decide) (by decide) (by decide) (by decide)) (f 2 (by decide)) (e 59 (by decide) (by decide) (by decide) (by decide) (by decide) (by decide) (by decide) (by decide)) ht.1, fun j => by rw [e 18 (by decide) (by decide) (by decide) (by decide) (by decide) (by decide) (by decide) (by decide)]; exact ht.2 j⟩, fun i hi => by rw [e 94 (by decide) (by decide) (by decide) (by decide) (by decide) (by decide) (by decide) (by decide)]; exact hs i hi, by rw [e 17 (by decide) (by decide) (by decide) (by decide) (by decide) (by decide) (by decide) (by decide), f 17 (by decide)]; exact hp, lv, nf, np, nb, nl, npl, nF', ?_, h.2.2.2.2, h.kn h3, h.said h4⟩
  exact iv_told_congr (fun q hq => e q (by omega) (by omega) (by omega) (by omega) (by omega) (by omega) (by omega) (by omega)) (f 18 (by decide)) h1
theorem Inv.ask {K : Nat → Int64} {I J : st_I} {L : st_L} {lv nf np nb nl npl nF : Nat} (hK : L 65 = K) (ht : iv_tape I ∧ iv_byt I) (hs : iv_set I) (hp : I 17 1 = I 58 17) (h1 : iv_told I lv nf np nb nl npl) (h2 : iv_facts I nF) (h : kq I J) (h3 : iv_kn J nf np nF) (h4 : iv_said J nf np nF) : Inv K J L :=
  ⟨hK, ⟨iv_tape_congr (by rw [h.1 17 (by decide) (by decide) (by decide)]) (h.1 18 (by decide) (by decide) (by decide)) (h.2.2 2 (by decide)) (h.2.1 59 (by decide) (by decide) (by decide) (by decide)) ht.1, fun j => by rw [h.1 18 (by decide) (by decide) (by decide)]; exact ht.2 j⟩, fun i hi => by rw [h.2.1 94 (by decide) (by decide) (by decide) (by decide)]; exact hs i hi, by rw [h.1 17 (by decide) (by decide) (by decide), h.2.2 17 (by decide)]; exact hp, lv, nf, np, nb, nl, npl, nF, h.told h1, h.facts h2, h3, h4⟩
theorem Inv.ask57 {K : Nat → Int64} {I J : st_I} {L : st_L} {lv nf np nb nl npl nF : Nat} (hK : L 65 = K) (ht : iv_tape I ∧ iv_byt I) (hs : iv_set I) (hp : I 17 1 = I 58 17) (h1 : iv_told I lv nf np nb nl npl) (h2 : iv_facts I nF) (h4 : iv_said I nf np nF) (h : kq I J) (h3 : iv_kn J nf np nF) (h5 : J 57 = I 57) : Inv K J L :=
  Inv.ask hK ht hs hp h1 h2 h h3 (iv_said_same h5 (h.1 29 (by decide) (by decide) (by decide)) (h.1 3 (by decide) (by decide) (by decide)) (h.1 2 (by decide) (by decide) (by decide)) h4)
