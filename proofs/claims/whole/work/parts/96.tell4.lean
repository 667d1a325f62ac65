/-! read: a tell keeps the later FAULT -/
theorem fi3_lk {B : Nat → Nat} {n : Nat} {u : s4_X} : (lok u → lok (fi3 B n u)) ∧ (fi3 B n u).2.2 = u.2.2 := by
  unfold fi3
  split
  · exact ⟨fun h => lok_pi h, pi_lf⟩
  · exact ⟨fun h => lok_st (lok_pi h), st_lf.trans pi_lf⟩
theorem pfn_lf {B : Nat → Nat} {n : Nat} {N : nm_X} {b : Bool} {s : s4_X} (h : (nwA B n N (pfA b s)).2.2.1 = 0) : s.2.2.1 = 0 := by
  have := (nw_lf h).1
  rwa [show (pfA b s).2.2 = s.2.2 from pf_lf] at this
theorem bo_lk {B : Nat → Nat} {n : Nat} {u : s4_X} (h : lok u) : lok (boU B n u) := by unfold boU; exact lok_in (lok_pi h)
theorem sl_lk {B : Nat → Nat} {n : Nat} {N : nm_X} : ∀ k s ns, (lok s → lok (slL B n N k s ns).1) ∧ ((slL B n N k s ns).1.1 = 0 → (slL B n N k s ns).1.2.2.1 = 0 → s.2.2.1 = 0)
  | 0, _, _ => ⟨fun h => h, fun _ h => h⟩
  | k + 1, s, ns => by
    rw [slL]
    by_cases c : s.1 = 0 ∧ knF B n s.2.1 = 148
    · rw [if_pos c]
      have q := si_lk (B := B) (n := n) (ns := ns) (N := N) (s := s)
      by_cases w : (siS B n N ns s).1 = 0
      · rw [if_pos w]
        have i := sl_lk (B := B) (n := n) (N := N) k (siS B n N ns s) (ns + 1)
        exact ⟨fun h => i.1 (q.1 h), fun a b => q.2 w (i.2 a b)⟩
      · rw [if_neg w]
        exact ⟨q.1, fun a _ => absurd a w⟩
    · rw [if_neg c]; exact ⟨fun h => h, fun _ h => h⟩
theorem te_lk {B : Nat → Nat} {n : Nat} {s : s4_X} {z : z6_X} : (lok s → lok (teS B n s z)) ∧ ((teS B n s z).1 = 0 → (teS B n s z).2.2.1 = 0 → s.2.2.1 = 0) := by
  unfold teS
  split
  · unfold fiS
    split
    · refine ⟨fun h => lok_st (lok_pi (lok_in (lok_in (lok_in (fi3_lk.1 (lok_nw (lok_pf h))))))), fun _ q => ?_⟩
      have e8 : ∀ u, (fi8 B n u).2.2 = u.2.2 := fun u => st_lf.trans pi_lf
      rw [e8] at q
      have := in_lf (in_lf (in_lf q))
      rw [fi3_lk.2] at this
      exact pfn_lf this
    · next c => exact ⟨fun h => lok_pf h, fun a => absurd a c⟩
  split
  · unfold peS
    split
    · refine ⟨fun h => lok_st (lok_in (lok_in (lok_in (lok_in (lok_nw (lok_pf h)))))), fun _ q => ?_⟩
      rw [show ∀ u, (paA B n 59 u).2.2 = u.2.2 from fun u => st_lf] at q
      exact pfn_lf (in_lf (in_lf (in_lf (in_lf q))))
    · next c => exact ⟨fun h => lok_pf h, fun a => absurd a c⟩
  split
  · unfold boS
    split
    · refine ⟨fun h => lok_st (bo_lk (bo_lk (bo_lk (lok_nw (lok_pf h))))), fun _ q => ?_⟩
      rw [show ∀ u, (paA B n 59 u).2.2 = u.2.2 from fun u => st_lf] at q
      exact pfn_lf (bo_lf (bo_lf (bo_lf q)))
    · next c => exact ⟨fun h => lok_pf h, fun a => absurd a c⟩
  split
  · unfold laS
    split
    · refine ⟨fun h => lok_st ((exL_lk 402 true _ _).1 (lok_st (lok_nw (lok_pf h)))), fun _ q => ?_⟩
      rw [show ∀ u, (paA B n 59 u).2.2 = u.2.2 from fun u => st_lf] at q
      have q2 := (exL_lk (B := B) (n := n) 402 true _ _).2 q
      rw [show (la2 B n z.1 (z.2.1 3) s).2.2 = (nwA B n z.1 (pfA (decide (6 ≤ z.2.1 3)) s)).2.2 from st_lf] at q2
      exact pfn_lf q2
    · next c => exact ⟨fun h => lok_pf h, fun a => absurd a c⟩
  split
  · unfold plS
    split
    · refine ⟨fun h => lok_st ((sl_lk 13 _ 0).1 (lok_st (lok_nw (lok_pf h)))), fun a q => ?_⟩
      rw [show ∀ u, (paA B n 125 u).2.2 = u.2.2 from fun u => st_lf] at q
      have q2 := (sl_lk (B := B) (n := n) 13 _ 0).2 (st_al a).1 q
      rw [show (pl3 B n z.1 (z.2.1 4) s).2.2 = (nwA B n z.1 (pfA (decide (4 ≤ z.2.1 4)) s)).2.2 from st_lf] at q2
      exact pfn_lf q2
    · next c => exact ⟨fun h => lok_pf h, fun a => absurd a c⟩
  · exact ⟨fun _ c => absurd (show (1 : Nat) = 0 from c) (by decide), fun c => absurd (show (1 : Nat) = 0 from c) (by decide)⟩
/-! the reference's store says z -/
def rF_X (J : st_I) (sd c : Nat) (P : Nat → Int32) : Prop := J 69 sd = nI c ∧ ∀ f, f < c → J 70 (8 * sd + f) = P (5 * f) ∧ J 72 (8 * sd + f) = P (5 * f + 4) ∧ ∀ i, i < 3 → J 71 (3 * (8 * sd + f) + i) = P (5 * f + 1 + i)
def rP_X (J : st_I) (sd c : Nat) (P : Nat → Int32) : Prop := J 73 sd = nI c ∧ ∀ f, f < c → J 74 (10 * sd + f) = P (5 * f) ∧ J 76 (10 * sd + f) = P (5 * f + 4) ∧ ∀ i, i < 3 → J 75 (3 * (10 * sd + f) + i) = P (5 * f + 1 + i)
def rB_X (J : st_I) (sd c : Nat) (P : Nat → Int32) : Prop := J 77 sd = nI c ∧ ∀ b, b < c → ∀ i, i < 3 → J 78 (12 * sd + 3 * b + i) = P (3 * b + i)
def lsF (E : Nat → Nat) (w : Nat) : Nat := if w = 0 then 0 else E (w - 1)
def rL_X (J : st_I) (sd c k : Nat) (E : Nat → Nat) (P : Nat → Int32) : Prop := J 79 sd = nI c ∧ J 58 44 = nI (420 * sd + k) ∧ J 58 12 = nI 0 ∧ (∀ j, j < k → iv_code (P j) (J 89 (420 * sd + j)) (J 90 (420 * sd + j))) ∧ ∀ w, w < c → J 80 (6 * sd + w) = nI (420 * sd + lsF E w) ∧ J 81 (6 * sd + w) = nI (420 * sd + E w)
def rW_X (J : st_I) (sd c : Nat) (S : Nat → Nat) (R : Nat → Nat → Nat × (Nat → Int32)) (lf : Nat) : Prop := J 82 sd = nI c ∧ ∀ q, q < c → J 83 (4 * sd + q) = nI (S q) ∧ ∀ k, k < S q → rQ J (12 * (4 * sd + q) + k) (R q k).1 (R q k).2 lf
theorem rF_X.cg {I J : st_I} {sd c : Nat} {P : Nat → Int32} (H : rF_X I sd c P) (h : ∀ q, 69 ≤ q → q ≤ 72 → J q = I q) : rF_X J sd c P := by
  unfold rF_X
  rw [h 69 (by decide) (by decide), h 70 (by decide) (by decide), h 71 (by decide) (by decide), h 72 (by decide) (by decide)]; exact H
theorem rP_X.cg {I J : st_I} {sd c : Nat} {P : Nat → Int32} (H : rP_X I sd c P) (h : ∀ q, 73 ≤ q → q ≤ 76 → J q = I q) : rP_X J sd c P := by
  unfold rP_X
  rw [h 73 (by decide) (by decide), h 74 (by decide) (by decide), h 75 (by decide) (by decide), h 76 (by decide) (by decide)]; exact H
theorem rB_X.cg {I J : st_I} {sd c : Nat} {P : Nat → Int32} (H : rB_X I sd c P) (h : ∀ q, 77 ≤ q → q ≤ 78 → J q = I q) : rB_X J sd c P := by
  unfold rB_X
  rw [h 77 (by decide) (by decide), h 78 (by decide) (by decide)]; exact H
theorem rL_X.cg {I J : st_I} {sd c k : Nat} {E : Nat → Nat} {P : Nat → Int32} (H : rL_X I sd c k E P) (h : ∀ q, (79 ≤ q ∧ q ≤ 81) ∨ q = 89 ∨ q = 90 → J q = I q) (h1 : J 58 44 = I 58 44) (h2 : J 58 12 = I 58 12) : rL_X J sd c k E P := by
  unfold rL_X
  rw [h 79 (by decide), h 80 (by decide), h 81 (by decide), h 89 (by decide), h 90 (by decide), h1, h2]; exact H
theorem rW_X.cg {I J : st_I} {sd c lf lf' : Nat} {S : Nat → Nat} {R : Nat → Nat → Nat × (Nat → Int32)} (H : rW_X I sd c S R lf) (h : ∀ q, 82 ≤ q → q ≤ 88 → J q = I q) (hl : lf' = 0 → lf = 0) : rW_X J sd c S R lf' := by
  refine ⟨by rw [h 82 (by decide) (by decide)]; exact H.1, fun q hq => ?_⟩
  obtain ⟨a, b⟩ := H.2 q hq
  refine ⟨by rw [h 83 (by decide) (by decide)]; exact a, fun k hk => ?_⟩
  have := (b k hk).lf hl
  unfold rQ at this ⊢
  rw [h 84 (by decide) (by decide), h 85 (by decide) (by decide), h 86 (by decide) (by decide), h 87 (by decide) (by decide), h 88 (by decide) (by decide)]; exact this
def rz (B : Nat → Nat) (n sd : Nat) (J : st_I) (M : st_L) (z : z6_X) (lf : Nat) : Prop := rN B n J M z.1 (sum_X z.2.1) lf ∧ J 58 19 = nI sd ∧ rF_X J sd (z.2.1 0) (z.2.2.1 10) ∧ rP_X J sd (z.2.1 1) (z.2.2.1 11) ∧ rB_X J sd (z.2.1 2) (z.2.2.1 12) ∧ rL_X J sd (z.2.1 3) (z.2.1 5) z.2.2.2.1 (z.2.2.1 13) ∧ rW_X J sd (z.2.1 4) z.2.2.2.2.1 z.2.2.2.2.2 lf
