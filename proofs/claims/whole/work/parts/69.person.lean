/-! read: a PERSON's tell, in the class -/
def pe2 (B : Nat → Nat) (n : Nat) (N : nm_X) (np : Nat) (s : s4_X) : s4_X := nwA B n N (pfA (decide (10 ≤ np)) s)
def pe6 (B : Nat → Nat) (n : Nat) (u : s4_X) : s4_X := inA B n 9 (inA B n 9 (inA B n 9 (inA B n 9 u)))
def peS (B : Nat → Nat) (n : Nat) (N : nm_X) (np : Nat) (s : s4_X) : s4_X := if (pfA (decide (10 ≤ np)) s).1 = 0 then paA B n 59 (pe6 B n (pe2 B n N np s)) else pfA (decide (10 ≤ np)) s
theorem x_person {d np : Nat} {B : Nat → Nat} {n : Nat} {I : st_I} {L : st_L} {s : s4_X} {N : nm_X} {a : Int32} {F : st_I → st_L → Prop} (H : cx B n I s) (HN : cN B n I L N) (h32 : np < 10 → N.1 < 32) (h9 : I 9 1 = nI np) (hnp : np ≤ 10) (hs : s.1 = 0) (hk : 2 ≤ knF B n s.2.1)
    (h : ∀ J M, cx B n J (peS B n N np s) → xt 11 1 I J → (∀ q, q ≠ 21 → M q = L q) → ((peS B n N np s).1 = 0 → np < 10 ∧ cN B n J M (nwN B n N (pfA (decide (10 ≤ np)) s) 143 np) ∧ J 9 1 = nI (np + 1) ∧ (∀ j, j < 5 * np → J 11 j = I 11 j) ∧ J 11 (5 * np) = a ∧ J 11 (5 * np + 1) = nI (ivA B n (pe2 B n N np s)) ∧ J 11 (5 * np + 2) = nI (ivA B n (inA B n 9 (pe2 B n N np s))) ∧ J 11 (5 * np + 3) = nI (ivA B n (inA B n 9 (inA B n 9 (pe2 B n N np s)))) ∧ J 11 (5 * np + 4) = nI (ivA B n (inA B n 9 (inA B n 9 (inA B n 9 (pe2 B n N np s)))))) → F J M) : EV (d + 3) mX5_takePerson [.ref 17, .int a] I L F := by
  refine sgX5_takePerson_0 ?_
  rw [h9]
  refine x_passFirst (b := 10) H hk (by omega) (by decide) (fun J1 hJ1 x1 => ?_)
  unfold peS at h
  by_cases z : (pfA (decide (10 ≤ np)) s).1 = 0
  · rw [if_pos z] at h
    have nf8 : np < 10 := by
      by_cases c : 10 ≤ np
      · unfold pfA at z
        rw [if_pos ⟨hs, decide_eq_true c⟩] at z
        exact absurd (show (2 : Nat) = 0 from z) (by decide)
      · omega
    rw [decide_eq_true (show s.1 = 0 ∧ (pfA (decide (10 ≤ np)) s).1 = 0 from ⟨hs, z⟩), if_neg (by decide)]
    refine x_takeNewName (kind := 143) (num := np) hJ1 (HN.x69 x1) (h32 nf8) (fun J2 M2 hJ2 hN2 x2 m2 => ?_)
    have e5 : nI np * 5 = nI (5 * np) := by rw [show nI np * 5 = nI (np * 5) from pk_mul np 5, Nat.mul_comm]
    rw [e5]
    have vp : ∀ c, c < 5 → vp_in (nI (5 * np + c)) 50 := fun c hc => vp_in_nI (by omega) (by decide)
    have ad : ∀ c : Nat, nI (5 * np) + nI c = nI (5 * np + c) := fun c => nI_add _ _
    rw [nI_clamp (by omega)]
    refine ⟨vp 0 (by decide), sgX5_takePerson_44 ?_⟩
    rw [if_neg (by decide)]
    refine x_takeInt (most := 9) (cx_tab hJ2 (by decide) (by decide) (by decide) (by decide)) (by decide) (fun J5 hJ5 x5 => ?_)
    rw [show nI (5 * np) + 1 = nI (5 * np + 1) from ad 1, nI_clamp (by omega)]
    refine ⟨vp 1 (by decide), sgX5_takePerson_44 ?_⟩
    rw [if_neg (by decide)]
    refine x_takeInt (most := 9) (cx_tab hJ5 (by decide) (by decide) (by decide) (by decide)) (by decide) (fun J6 hJ6 x6 => ?_)
    rw [show nI (5 * np) + (1 + 1) = nI (5 * np + 2) from ad 2, nI_clamp (by omega)]
    refine ⟨vp 2 (by decide), sgX5_takePerson_44 ?_⟩
    rw [if_neg (by decide)]
    refine x_takeInt (most := 9) (cx_tab hJ6 (by decide) (by decide) (by decide) (by decide)) (by decide) (fun J7 hJ7 x7 => ?_)
    rw [show nI (5 * np) + (1 + 1 + 1) = nI (5 * np + 3) from ad 3, nI_clamp (by omega)]
    refine ⟨vp 3 (by decide), sgX5_takePerson_44 ?_⟩
    rw [if_neg (by decide)]
    refine x_takeInt (most := 9) (cx_tab hJ7 (by decide) (by decide) (by decide) (by decide)) (by decide) (fun J8 hJ8 x8 => ?_)
    rw [show nI (5 * np) + (1 + 1 + 1 + 1) = nI (5 * np + 4) from ad 4, nI_clamp (by omega)]
    refine ⟨vp 4 (by decide), sgX5_takePerson_44 ?_⟩
    rw [if_pos (by decide)]
    refine x_pass (k := 59) (cx_tab hJ8 (by decide) (by decide) (by decide) (by decide)) (by decide) (by decide) (fun J9 hJ9 x9 => ?_)
    have fr : ∀ q, q ≠ 11 → q ≠ 17 → q ≠ 22 → q ≠ 23 → J9 q = I q := fun q a b c e => by
      rw [x9.1 q b, u_I_ne _ _ a, x8.1 q b, u_I_ne _ _ a, x7.1 q b, u_I_ne _ _ a, x6.1 q b, u_I_ne _ _ a, x5.1 q b, u_I_ne _ _ a, x2.1 q b c e, x1.1 q b]
    have e9 : J9 9 1 = nI np := by rw [fr 9 (by decide) (by decide) (by decide) (by decide)]; exact h9
    have e10 : ∀ j, J9 11 j = if j = 5 * np + 4 then nI (ivA B n (inA B n 9 (inA B n 9 (inA B n 9 (pe2 B n N np s))))) else if j = 5 * np + 3 then nI (ivA B n (inA B n 9 (inA B n 9 (pe2 B n N np s)))) else if j = 5 * np + 2 then nI (ivA B n (inA B n 9 (pe2 B n N np s))) else if j = 5 * np + 1 then nI (ivA B n (pe2 B n N np s)) else if j = 5 * np then a else I 11 j := by
      intro j
      rw [x9.1 11 (by decide)]
      simp only [u_I, if_true, x8.1 11 (by decide), x7.1 11 (by decide), x6.1 11 (by decide), x5.1 11 (by decide), x2.1 11 (by decide) (by decide) (by decide), x1.1 11 (by decide)]
      rfl
    have f17 : ∀ j, j < 6 ∨ (9 < j ∧ j ≠ 13) → J9 17 j = I 17 j := fun j hj => by
      have hj' : j < 6 ∨ 9 < j := by omega
      rw [x9.2 j hj', u_I_ne _ _ (by decide), x8.2 j hj', u_I_ne _ _ (by decide), x7.2 j hj', u_I_ne _ _ (by decide), x6.2 j hj', u_I_ne _ _ (by decide), x5.2 j hj', u_I_ne _ _ (by decide), x2.2 j hj, x1.2 j hj']
    rw [e9, nI_1]
    refine h _ M2 (cx_tab hJ9 (by decide) (by decide) (by decide) (by decide)) ⟨fun q a b c e f => by rw [u_I_ne _ _ a]; exact fr q b c e f, fun j hj => ?_, fun j hj => by rw [u_I_ne _ _ (by decide)]; exact f17 j hj⟩ m2 (fun _ => ⟨nf8, ?_, by simp [u_I], fun j hj => ?_, ?_, ?_, ?_, ?_, ?_⟩)
    · simp only [u_I, if_true, if_neg hj]; rw [fr 9 (by decide) (by decide) (by decide) (by decide)]
    · exact cN_tab ((cN_tab ((cN_tab ((cN_tab ((cN_tab ((cN_tab hN2 (by decide) (by decide) (by decide)).x69 x5) (by decide) (by decide) (by decide)).x69 x6) (by decide) (by decide) (by decide)).x69 x7) (by decide) (by decide) (by decide)).x69 x8) (by decide) (by decide) (by decide)).x69 x9) (by decide) (by decide) (by decide)
    all_goals rw [u_I_ne _ _ (by decide), e10]
    · rw [if_neg (by omega), if_neg (by omega), if_neg (by omega), if_neg (by omega), if_neg (by omega)]
    · rw [if_neg (by omega), if_neg (by omega), if_neg (by omega), if_neg (by omega), if_pos rfl]
    · rw [if_neg (by omega), if_neg (by omega), if_neg (by omega), if_pos rfl]
    · rw [if_neg (by omega), if_neg (by omega), if_pos rfl]
    · rw [if_neg (by omega), if_pos rfl]
    · rw [if_pos rfl]
  · rw [if_neg z] at h
    rw [decide_eq_false (fun c => z c.2), if_pos (by decide)]
    exact h J1 L hJ1 ⟨fun q a b c e f => x1.1 q c, fun j hj => by rw [x1.1 9 (by decide)], fun j hj => x1.2 j (by omega)⟩ (fun _ _ => rfl) (fun q => absurd q z)
