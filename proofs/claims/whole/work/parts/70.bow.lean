/-! read: a BOW's tell, in the class -/
def bo2 (B : Nat → Nat) (n : Nat) (N : nm_X) (nb : Nat) (s : s4_X) : s4_X := nwA B n N (pfA (decide (4 ≤ nb)) s)
def boU (B : Nat → Nat) (n : Nat) (u : s4_X) : s4_X := inA B n 9 (piA B n 45 u)
def boV (B : Nat → Nat) (n : Nat) (u : s4_X) : Int32 := if b01 (foB B n 45 u) = 0 then nI (ivA B n (piA B n 45 u)) else -(nI (ivA B n (piA B n 45 u)))
def boS (B : Nat → Nat) (n : Nat) (N : nm_X) (nb : Nat) (s : s4_X) : s4_X := if (pfA (decide (4 ≤ nb)) s).1 = 0 then paA B n 59 (boU B n (boU B n (boU B n (bo2 B n N nb s)))) else pfA (decide (4 ≤ nb)) s
theorem x_bow {d nb : Nat} {B : Nat → Nat} {n : Nat} {I : st_I} {L : st_L} {s : s4_X} {N : nm_X} {F : st_I → st_L → Prop} (H : cx B n I s) (HN : cN B n I L N) (h32 : nb < 4 → N.1 < 32) (h9 : I 9 2 = nI nb) (hnb : nb ≤ 4) (hs : s.1 = 0) (hk : 2 ≤ knF B n s.2.1)
    (h : ∀ J M, cx B n J (boS B n N nb s) → xt 12 2 I J → (∀ q, q ≠ 21 → M q = L q) → ((boS B n N nb s).1 = 0 → nb < 4 ∧ cN B n J M (nwN B n N (pfA (decide (4 ≤ nb)) s) 145 nb) ∧ J 9 2 = nI (nb + 1) ∧ (∀ j, j < 3 * nb → J 12 j = I 12 j) ∧ J 12 (3 * nb) = boV B n (bo2 B n N nb s) ∧ J 12 (3 * nb + 1) = boV B n (boU B n (bo2 B n N nb s)) ∧ J 12 (3 * nb + 2) = boV B n (boU B n (boU B n (bo2 B n N nb s)))) → F J M) : EV (d + 3) mX5_takeBow [.ref 17] I L F := by
  refine sgX5_takeBow_0 ?_
  rw [h9]
  refine x_passFirst (b := 4) H hk (by omega) (by decide) (fun J1 hJ1 x1 => ?_)
  unfold boS at h
  by_cases z : (pfA (decide (4 ≤ nb)) s).1 = 0
  · rw [if_pos z] at h
    have nf8 : nb < 4 := by
      by_cases c : 4 ≤ nb
      · unfold pfA at z
        rw [if_pos ⟨hs, decide_eq_true c⟩] at z
        exact absurd (show (2 : Nat) = 0 from z) (by decide)
      · omega
    rw [decide_eq_true (show s.1 = 0 ∧ (pfA (decide (4 ≤ nb)) s).1 = 0 from ⟨hs, z⟩), if_neg (by decide)]
    refine x_takeNewName (kind := 145) (num := nb) hJ1 (HN.x69 x1) (h32 nf8) (fun J2 M2 hJ2 hN2 x2 m2 => ?_)
    have vp : ∀ c, c < 3 → vp_in (nI (3 * nb + c)) 12 := fun c hc => vp_in_nI (by omega) (by decide)
    have e3 : nI nb * 3 = nI (3 * nb) := by rw [show nI nb * 3 = nI (nb * 3) from pk_mul nb 3, Nat.mul_comm]
    have ad : ∀ c : Nat, nI nb * 3 + nI c = nI (3 * nb + c) := fun c => by rw [e3]; exact nI_add _ _
    -- one of the three
    have one : ∀ (i : Nat) (x : Int32) (J : st_I) (u : s4_X), i < 3 → x = nI i → cx B n J u → (∀ K, cx B n K (boU B n u) → x69 J K → TV (d + 3) mX5_takeBow 28 [.ref 17, .int (nI nb), .int (x + 1), .null, .null] [] (u_I K 12 (3 * nb + i) (boV B n u)) M2 F) → TV (d + 3) mX5_takeBow 28 [.ref 17, .int (nI nb), .int x, .null, .null] [] J M2 F := by
      intro i x J u hi hx hJ hK
      subst hx
      refine sgX5_takeBow_28 ?_
      rw [if_neg (show ¬ (3 : Int32) ≤ nI i from nI_ge (b := 3) hi (by decide))]
      refine x_passIf (k := 45) hJ (by decide) (by decide) (fun K hK1 y1 => ?_)
      refine x_takeInt (most := 9) hK1 (by decide) (fun K2 hK2 y2 => ?_)
      rw [ad i, nI_clamp (by omega)]
      exact ⟨vp i hi, hK K2 hK2 (y1.tr y2)⟩
    refine one 0 0 J2 _ (by decide) rfl hJ2 (fun J5 hJ5 x5 => ?_)
    refine one 1 _ _ _ (by decide) rfl (cx_tab hJ5 (by decide) (by decide) (by decide) (by decide)) (fun J6 hJ6 x6 => ?_)
    refine one 2 _ _ _ (by decide) rfl (cx_tab hJ6 (by decide) (by decide) (by decide) (by decide)) (fun J7 hJ7 x7 => ?_)
    refine sgX5_takeBow_28 ?_
    rw [if_pos (by decide)]
    refine x_pass (k := 59) (cx_tab hJ7 (by decide) (by decide) (by decide) (by decide)) (by decide) (by decide) (fun J9 hJ9 x9 => ?_)
    have fr : ∀ q, q ≠ 12 → q ≠ 17 → q ≠ 22 → q ≠ 23 → J9 q = I q := fun q a b c e => by
      rw [x9.1 q b, u_I_ne _ _ a, x7.1 q b, u_I_ne _ _ a, x6.1 q b, u_I_ne _ _ a, x5.1 q b, x2.1 q b c e, x1.1 q b]
    have e9 : J9 9 2 = nI nb := by rw [fr 9 (by decide) (by decide) (by decide) (by decide)]; exact h9
    have e10 : ∀ j, J9 12 j = if j = 3 * nb + 2 then boV B n (boU B n (boU B n (bo2 B n N nb s))) else if j = 3 * nb + 1 then boV B n (boU B n (bo2 B n N nb s)) else if j = 3 * nb then boV B n (bo2 B n N nb s) else I 12 j := by
      intro j
      rw [x9.1 12 (by decide)]
      simp only [u_I, if_true, x7.1 12 (by decide), x6.1 12 (by decide), x5.1 12 (by decide), x2.1 12 (by decide) (by decide) (by decide), x1.1 12 (by decide)]
      rfl
    have f17 : ∀ j, j < 6 ∨ (9 < j ∧ j ≠ 13) → J9 17 j = I 17 j := fun j hj => by
      have hj' : j < 6 ∨ 9 < j := by omega
      rw [x9.2 j hj', u_I_ne _ _ (by decide), x7.2 j hj', u_I_ne _ _ (by decide), x6.2 j hj', u_I_ne _ _ (by decide), x5.2 j hj', x2.2 j hj, x1.2 j hj']
    rw [e9, nI_1]
    refine h _ M2 (cx_tab hJ9 (by decide) (by decide) (by decide) (by decide)) ⟨fun q a b c e f => by rw [u_I_ne _ _ a]; exact fr q b c e f, fun j hj => ?_, fun j hj => by rw [u_I_ne _ _ (by decide)]; exact f17 j hj⟩ m2 (fun _ => ⟨nf8, ?_, by simp [u_I], fun j hj => ?_, ?_, ?_, ?_⟩)
    · simp only [u_I, if_true, if_neg hj]; rw [fr 9 (by decide) (by decide) (by decide) (by decide)]
    · exact cN_tab ((cN_tab ((cN_tab ((cN_tab (hN2.x69 x5) (by decide) (by decide) (by decide)).x69 x6) (by decide) (by decide) (by decide)).x69 x7) (by decide) (by decide) (by decide)).x69 x9) (by decide) (by decide) (by decide)
    all_goals rw [u_I_ne _ _ (by decide), e10]
    · rw [if_neg (by omega), if_neg (by omega), if_neg (by omega)]
    · rw [if_neg (by omega), if_neg (by omega), if_pos rfl]
    · rw [if_neg (by omega), if_pos rfl]
    · rw [if_pos rfl]
  · rw [if_neg z] at h
    rw [decide_eq_false (fun c => z c.2), if_pos (by decide)]
    exact h J1 L hJ1 ⟨fun q a b c e f => x1.1 q c, fun j hj => by rw [x1.1 9 (by decide)], fun j hj => x1.2 j (by omega)⟩ (fun _ _ => rfl) (fun q => absurd q z)
