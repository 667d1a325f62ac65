/-! read: a tell, in the reference: frames, and where there is no room -/
def wiSL : List Nat := [1, 8, 24, 8, 1, 10, 30, 10, 1, 12, 1, 6, 6, 1, 4, 48, 48, 48, 48, 288, 420, 420]
/-- how wide a side is -/
def wi (q : Nat) : Nat := wiSL.getD (q - 69) 0
def mte (sd : Nat) (I J : st_I) : Prop := (∀ q, q < 58 ∨ (58 < q ∧ q < 67) ∨ 91 < q → J q = I q) ∧ (∀ j, j ≠ 11 → j ≠ 12 → j ≠ 20 → j ≠ 44 → j ≠ 48 → j < 13 ∨ 16 < j → J 58 j = I 58 j) ∧ ∀ q j, 69 ≤ q → q ≤ 90 → (j < wi q * sd ∨ wi q * sd + wi q ≤ j) → J q j = I q j
theorem mte.rf {sd : Nat} {I : st_I} : mte sd I I := ⟨fun _ _ => rfl, fun _ _ _ _ _ _ _ => rfl, fun _ _ _ _ _ => rfl⟩
theorem mte.tr {sd : Nat} {I J K : st_I} (h : mte sd I J) (g : mte sd J K) : mte sd I K := ⟨fun q a => (g.1 q a).trans (h.1 q a), fun j a b c d e f => (g.2.1 j a b c d e f).trans (h.2.1 j a b c d e f), fun q j a b c => (g.2.2 q j a b c).trans (h.2.2 q j a b c)⟩
theorem q22 {q : Nat} (h1 : 69 ≤ q) (h2 : q ≤ 90) : q = 69 ∨ q = 70 ∨ q = 71 ∨ q = 72 ∨ q = 73 ∨ q = 74 ∨ q = 75 ∨ q = 76 ∨ q = 77 ∨ q = 78 ∨ q = 79 ∨ q = 80 ∨ q = 81 ∨ q = 82 ∨ q = 83 ∨ q = 84 ∨ q = 85 ∨ q = 86 ∨ q = 87 ∨ q = 88 ∨ q = 89 ∨ q = 90 := by omega
theorem r58.mte {sd : Nat} {I J : st_I} (h : r58 I J) : mte sd I J := ⟨fun q a => h.1 q (by omega), fun j a _ _ _ _ b => h.2 j a b, fun q j a b _ => by rw [h.1 q (by omega)]⟩
theorem mf.mte {sd nf : Nat} {I J : st_I} (h : mf sd (8 * sd + nf) I J) (hn : nf < 8) : mte sd I J := by
  refine ⟨fun q a => h.1 q (by omega), fun j a _ b _ _ c => h.2.1 j a b c, fun q j a b c => ?_⟩
  by_cases e : q = 73 ∨ 73 < q
  · rw [h.1 q (by omega)]
  · have e4 : q = 69 ∨ q = 70 ∨ q = 71 ∨ q = 72 := by omega
    rcases e4 with rfl | rfl | rfl | rfl
    · rw [show wi 69 = 1 from rfl] at c; exact h.2.2.1 j (by omega)
    · rw [show wi 70 = 8 from rfl] at c; exact h.2.2.2.1 j (by omega)
    · rw [show wi 71 = 24 from rfl] at c; exact h.2.2.2.2.1 j (by omega)
    · rw [show wi 72 = 8 from rfl] at c; exact h.2.2.2.2.2 j (by omega)
theorem mq.mte {sd np : Nat} {I J : st_I} (h : mq sd (10 * sd + np) I J) (hn : np < 10) : mte sd I J := by
  refine ⟨fun q a => h.1 q (by omega), fun j a _ b _ _ c => h.2.1 j a b c, fun q j a b c => ?_⟩
  by_cases e : q < 73 ∨ 76 < q
  · rw [h.1 q (by omega)]
  · have e4 : q = 73 ∨ q = 74 ∨ q = 75 ∨ q = 76 := by omega
    rcases e4 with rfl | rfl | rfl | rfl
    · rw [show wi 73 = 1 from rfl] at c; exact h.2.2.1 j (by omega)
    · rw [show wi 74 = 10 from rfl] at c; exact h.2.2.2.1 j (by omega)
    · rw [show wi 75 = 30 from rfl] at c; exact h.2.2.2.2.1 j (by omega)
    · rw [show wi 76 = 10 from rfl] at c; exact h.2.2.2.2.2 j (by omega)
theorem mb.mte {sd nb : Nat} {I J : st_I} (h : mb sd (12 * sd + 3 * nb) I J) (hn : nb < 4) : mte sd I J := by
  refine ⟨fun q a => h.1 q (by omega), fun j a _ b _ _ c => h.2.1 j a b c, fun q j a b c => ?_⟩
  by_cases e : q < 77 ∨ 78 < q
  · rw [h.1 q (by omega)]
  · have e4 : q = 77 ∨ q = 78 := by omega
    rcases e4 with rfl | rfl
    · rw [show wi 77 = 1 from rfl] at c; exact h.2.2.1 j (by omega)
    · rw [show wi 78 = 12 from rfl] at c; exact h.2.2.2 j (by omega)
theorem ml.mte {sd nl : Nat} {I J : st_I} (h : ml sd (6 * sd + nl) I J) (hn : nl < 6) : mte sd I J := by
  refine ⟨fun q a => h.1 q (by omega), fun j a b c d e f => h.2.1 j a b c d e f, fun q j a b c => ?_⟩
  by_cases e : q < 79 ∨ (81 < q ∧ q < 89)
  · rw [h.1 q (by omega)]
  · have e4 : q = 79 ∨ q = 80 ∨ q = 81 ∨ q = 89 ∨ q = 90 := by omega
    rcases e4 with rfl | rfl | rfl | rfl | rfl
    · rw [show wi 79 = 1 from rfl] at c; exact h.2.2.1 j (by omega)
    · rw [show wi 80 = 6 from rfl] at c; exact (h.2.2.2.1 j (by omega)).1
    · rw [show wi 81 = 6 from rfl] at c; exact (h.2.2.2.1 j (by omega)).2
    · rw [show wi 89 = 420 from rfl] at c; exact (h.2.2.2.2 j (by omega)).1
    · rw [show wi 90 = 420 from rfl] at c; exact (h.2.2.2.2 j (by omega)).2
theorem mp.mte {sd q0 : Nat} {I J : st_I} (h : mp sd (4 * sd + q0) I J) (hn : q0 < 4) : mte sd I J := by
  refine ⟨fun q a => h.1 q (by omega), fun j a _ b _ _ c => h.2.1 j a b c, fun q j a b c => ?_⟩
  by_cases e : q < 82 ∨ 88 < q
  · rw [h.1 q (by omega)]
  · have e4 : q = 82 ∨ q = 83 ∨ q = 84 ∨ q = 85 ∨ q = 86 ∨ q = 87 ∨ q = 88 := by omega
    rcases e4 with rfl | rfl | rfl | rfl | rfl | rfl | rfl
    · rw [show wi 82 = 1 from rfl] at c; exact h.2.2.1 j (by omega)
    · rw [show wi 83 = 4 from rfl] at c; exact h.2.2.2.1 j (by omega)
    · rw [show wi 84 = 48 from rfl] at c; exact (h.2.2.2.2.1 j (by omega)).1
    · rw [show wi 85 = 48 from rfl] at c; exact (h.2.2.2.2.1 j (by omega)).2.1
    · rw [show wi 86 = 48 from rfl] at c; exact (h.2.2.2.2.1 j (by omega)).2.2.1
    · rw [show wi 87 = 48 from rfl] at c; exact (h.2.2.2.2.1 j (by omega)).2.2.2
    · rw [show wi 88 = 288 from rfl] at c; exact h.2.2.2.2.2 j (by omega)
/-- no room for one more -/
def full_X (B : Nat → Nat) (n : Nat) (s : s4_X) (c : Nat → Nat) : Prop := (knF B n s.2.1 = 140 ∧ c 0 = 8) ∨ ((knF B n s.2.1 = 143 ∨ knF B n s.2.1 = 144) ∧ c 1 = 10) ∨ (knF B n s.2.1 = 145 ∧ c 2 = 4) ∨ (knF B n s.2.1 = 146 ∧ c 3 = 6) ∨ (knF B n s.2.1 = 147 ∧ c 4 = 4)
theorem te_full {B : Nat → Nat} {n : Nat} {s : s4_X} {z : z6_X} (hs : s.1 = 0) (h : full_X B n s z.2.1) : teS B n s z = (2, s.2) := by
  have d2 : ¬ ((2, s.2) : s4_X).1 = 0 := (show ¬ (2 : Nat) = 0 by decide)
  unfold teS
  rcases h with ⟨k, e⟩ | ⟨k, e⟩ | ⟨k, e⟩ | ⟨k, e⟩ | ⟨k, e⟩
  · rw [if_pos k, e]; unfold fiS; rw [pf_full (decide_eq_true (Nat.le_refl 8)) hs, if_neg d2]
  · rw [if_neg (by omega), if_pos k, e]; unfold peS; rw [pf_full (decide_eq_true (Nat.le_refl 10)) hs, if_neg d2]
  · rw [if_neg (by omega), if_neg (by omega), if_pos k, e]; unfold boS; rw [pf_full (decide_eq_true (Nat.le_refl 4)) hs, if_neg d2]
  · rw [if_neg (by omega), if_neg (by omega), if_neg (by omega), if_pos k, e]; unfold laS; rw [pf_full (decide_eq_true (Nat.le_refl 6)) hs, if_neg d2]
  · rw [if_neg (by omega), if_neg (by omega), if_neg (by omega), if_neg (by omega), if_pos k, e]; unfold plS; rw [pf_full (decide_eq_true (Nat.le_refl 4)) hs, if_neg d2]
theorem m_full {d sd : Nat} {B : Nat → Nat} {n : Nat} {J : st_I} {M : st_L} {s : s4_X} {c : Nat → Nat} {F : st_I → st_L → Prop} (hsd : sd ≤ 1) (H : rr B n J M s) (hs : s.1 = 0) (h19 : J 58 19 = nI sd) (h69 : J 69 sd = nI (c 0)) (h73 : J 73 sd = nI (c 1)) (h77 : J 77 sd = nI (c 2)) (h79 : J 79 sd = nI (c 3)) (h82 : J 82 sd = nI (c 4)) (hf : full_X B n s c) (h : ∀ K, rr B n K M (2, s.2) → r58 J K → F K M) : EV (d + 6) mX12_tell [.ref 58] J M F := by
  obtain ⟨l1, l2, l3, l4, l5, l6, l7⟩ := H.lt
  have vs : vp_in (nI sd) 2 := vp_in_nI (by omega) (by decide)
  have n13 : ∀ K : st_I, rr B n K M (2, s.2) → ¬ K 58 13 = 0 := fun K hK => by rw [hK.2.2.2.1]; exact nI_ne0 (show 0 < 2 by decide) (show 2 < 2 ^ 31 by decide)
  have ef : fiA 2 s = (2, s.2) := by unfold fiA; rw [if_pos hs]
  have fl : ∀ (Q : st_I → st_L → Prop), (∀ K, rr B n K M (2, s.2) → r58 J K → Q K M) → EV (d + 5) mX12_fail [.ref 58, .int 2] J M Q := fun Q hQ => m_fail (k := 2) H (by decide) (by decide) (fun K hK hx => hQ K (by rw [← ef]; exact hK) hx)
  refine sgX12_tell_0 ?_
  rw [l3, nI_clamp (by omega), l4, h19, nI_clamp (show sd < 2 ^ 31 by omega), h69, h73, h77, h79, h82]
  refine ⟨l2, ?_⟩
  rcases hf with ⟨k, e⟩ | ⟨k, e⟩ | ⟨k, e⟩ | ⟨k, e⟩ | ⟨k, e⟩
  · rw [k, if_pos (by decide), e]
    refine ⟨vs, ?_⟩
    rw [if_pos (by rfl)]
    refine fl _ (fun K hK hx => sgX12_tell_79 ?_)
    rw [if_neg (n13 K hK)]; exact h K hK hx
  · rcases k with k | k
    · rw [k, if_neg (by decide), if_pos (by decide), e]
      refine ⟨vs, ?_⟩
      rw [if_pos (by rfl)]
      refine fl _ (fun K hK hx => sgX12_tell_112 ?_)
      rw [if_neg (n13 K hK)]; exact h K hK hx
    · rw [k, if_neg (by decide), if_neg (by decide), if_pos (by decide), e]
      refine ⟨vs, ?_⟩
      rw [if_pos (by rfl)]
      refine fl _ (fun K hK hx => sgX12_tell_112 ?_)
      rw [if_neg (n13 K hK)]; exact h K hK hx
  · rw [k, if_neg (by decide), if_neg (by decide), if_neg (by decide), if_pos (by decide), e]
    refine ⟨vs, ?_⟩
    rw [if_pos (by rfl)]
    refine fl _ (fun K hK hx => sgX12_tell_144 ?_)
    rw [if_neg (n13 K hK)]; exact h K hK hx
  · rw [k, if_neg (by decide), if_neg (by decide), if_neg (by decide), if_neg (by decide), if_pos (by decide), e]
    refine ⟨vs, ?_⟩
    rw [if_pos (by rfl)]
    refine fl _ (fun K hK hx => sgX12_tell_177 ?_)
    rw [if_neg (n13 K hK)]; exact h K hK hx
  · rw [k, if_neg (by decide), if_neg (by decide), if_neg (by decide), if_neg (by decide), if_neg (by decide), if_pos (by decide), e]
    refine ⟨vs, ?_⟩
    rw [if_pos (by rfl)]
    refine fl _ (fun K hK hx => sgX12_tell_209 ?_)
    rw [if_neg (n13 K hK)]; exact h K hK hx
theorem km_te0 : ∀ k, k < 256 → vkB k = false ∨ (k = 140 ∨ k = 143 ∨ k = 144 ∨ k = 145 ∨ k = 146 ∨ k = 147) ∨ (¬ kmF k = 20 ∧ ¬ kmF k = 24 ∧ ¬ kmF k = 25 ∧ ¬ kmF k = 26 ∧ ¬ kmF k = 27 ∧ ¬ kmF k = 28) := by decide +kernel
theorem m_other {d : Nat} {B : Nat → Nat} {n : Nat} {J : st_I} {M : st_L} {s : s4_X} {F : st_I → st_L → Prop} (H : rr B n J M s) (hs : s.1 = 0) (hk : ¬ (knF B n s.2.1 = 140 ∨ knF B n s.2.1 = 143 ∨ knF B n s.2.1 = 144 ∨ knF B n s.2.1 = 145 ∨ knF B n s.2.1 = 146 ∨ knF B n s.2.1 = 147)) (h : ∀ K, rr B n K M (1, s.2) → r58 J K → F K M) : EV (d + 6) mX12_tell [.ref 58] J M F := by
  obtain ⟨l1, l2, l3, l4, l5, l6, l7⟩ := H.lt
  have v := kn_vk B n s.2.1
  refine sgX12_tell_0 ?_
  rw [l3, nI_clamp (by omega), l4]
  refine ⟨l2, ?_⟩
  rcases km_te0 _ l6 with q | q | ⟨u1, u2, u3, u4, u5, u6⟩
  · rw [v] at q; exact absurd q (by decide)
  · exact absurd q hk
  · have ne : ∀ k, k < 2 ^ 31 → ¬ kmF (knF B n s.2.1) = k → ¬ nI (kmF (knF B n s.2.1)) = nI k := fun k hk q c => q ((nI_eq (by omega) hk).mp c)
    rw [if_neg (by exact ne 20 (by decide) u1), if_neg (by exact ne 24 (by decide) u2), if_neg (by exact ne 25 (by decide) u3), if_neg (by exact ne 26 (by decide) u4), if_neg (by exact ne 27 (by decide) u5), if_neg (by exact ne 28 (by decide) u6)]
    have ef : fiA 1 s = (1, s.2) := by unfold fiA; rw [if_pos hs]
    exact m_fail (k := 1) H (by decide) (by decide) (fun K hK hx => h K (by rw [← ef]; exact hK) hx)
