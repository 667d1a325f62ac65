/-! read: a FIDDLE's tell, in the class -/
def foB (B : Nat → Nat) (n k : Nat) (u : s4_X) : Bool := decide (u.1 = 0 ∧ knF B n u.2.1 = k ∧ (paA B n k u).1 = 0)
def fi2 (B : Nat → Nat) (n : Nat) (N : nm_X) (nf : Nat) (s : s4_X) : s4_X := nwA B n N (pfA (decide (8 ≤ nf)) s)
def fi3 (B : Nat → Nat) (n : Nat) (u : s4_X) : s4_X := if foB B n 135 u then piA B n 135 u else paA B n 141 (piA B n 135 u)
def fi6 (B : Nat → Nat) (n : Nat) (u : s4_X) : s4_X := inA B n 20 (inA B n 20 (inA B n 20 u))
def fi8 (B : Nat → Nat) (n : Nat) (u : s4_X) : s4_X := paA B n 59 (piA B n 142 u)
def fiS (B : Nat → Nat) (n : Nat) (N : nm_X) (nf : Nat) (s : s4_X) : s4_X := if (pfA (decide (8 ≤ nf)) s).1 = 0 then fi8 B n (fi6 B n (fi3 B n (fi2 B n N nf s))) else pfA (decide (8 ≤ nf)) s
/-- a tell's frame in the class: q is the table -/
def xt (a b : Nat) (I J : st_I) : Prop := (∀ q, q ≠ 9 → q ≠ a → q ≠ 17 → q ≠ 22 → q ≠ 23 → J q = I q) ∧ (∀ j, j ≠ b → J 9 j = I 9 j) ∧ ∀ j, j < 6 ∨ (9 < j ∧ j ≠ 13) → J 17 j = I 17 j
theorem cx_tab {B : Nat → Nat} {n q k : Nat} {x : Int32} {I : st_I} {s : s4_X} (H : cx B n I s) (h : q ≠ 17) (h2 : q ≠ 18) (h3 : q ≠ 19) (h4 : q ≠ 20) : cx B n (u_I I q k x) s := by
  unfold cx iv_byt bB at H ⊢
  rw [u_I_ne _ _ (Ne.symm h), u_I_ne _ _ (Ne.symm h2), u_I_ne _ _ (Ne.symm h3), u_I_ne _ _ (Ne.symm h4)]
  exact H
theorem cN_tab {B : Nat → Nat} {n q k : Nat} {x : Int32} {I : st_I} {L : st_L} {N : nm_X} (H : cN B n I L N) (h : q ≠ 17) (h2 : q ≠ 22) (h3 : q ≠ 23) : cN B n (u_I I q k x) L N := by
  unfold cN at H ⊢
  rw [u_I_ne _ _ (Ne.symm h), u_I_ne _ _ (Ne.symm h2), u_I_ne _ _ (Ne.symm h3)]
  exact H
theorem b01_b (b : Bool) : (if b01 b = 0 then (0 : Int32) else 1) = b01 b := by cases b <;> rfl
theorem x_fiddle {d nf : Nat} {B : Nat → Nat} {n : Nat} {I : st_I} {L : st_L} {s : s4_X} {N : nm_X} {F : st_I → st_L → Prop} (H : cx B n I s) (HN : cN B n I L N) (h32 : nf < 8 → N.1 < 32) (h9 : I 9 0 = nI nf) (hnf : nf ≤ 8) (hs : s.1 = 0) (hk : knF B n s.2.1 = 140)
    (h : ∀ J M, cx B n J (fiS B n N nf s) → xt 10 0 I J → (∀ q, q ≠ 21 → M q = L q) → ((fiS B n N nf s).1 = 0 → nf < 8 ∧ cN B n J M (nwN B n N (pfA (decide (8 ≤ nf)) s) 140 nf) ∧ J 9 0 = nI (nf + 1) ∧ (∀ j, j < 5 * nf → J 10 j = I 10 j) ∧ J 10 (5 * nf) = b01 (foB B n 135 (fi2 B n N nf s)) ∧ J 10 (5 * nf + 1) = nI (ivA B n (fi3 B n (fi2 B n N nf s))) ∧ J 10 (5 * nf + 2) = nI (ivA B n (inA B n 20 (fi3 B n (fi2 B n N nf s)))) ∧ J 10 (5 * nf + 3) = nI (ivA B n (inA B n 20 (inA B n 20 (fi3 B n (fi2 B n N nf s))))) ∧ J 10 (5 * nf + 4) = b01 (foB B n 142 (fi6 B n (fi3 B n (fi2 B n N nf s))))) → F J M) : EV (d + 3) mX5_takeFiddle [.ref 17] I L F := by
  refine sgX5_takeFiddle_0 ?_
  rw [h9]
  refine x_passFirst (b := 8) H (by omega) (by omega) (by decide) (fun J1 hJ1 x1 => ?_)
  unfold fiS at h
  by_cases z : (pfA (decide (8 ≤ nf)) s).1 = 0
  · rw [if_pos z] at h
    have nf8 : nf < 8 := by
      by_cases c : 8 ≤ nf
      · unfold pfA at z
        rw [if_pos ⟨hs, decide_eq_true c⟩] at z
        exact absurd (show (2 : Nat) = 0 from z) (by decide)
      · omega
    rw [decide_eq_true (show s.1 = 0 ∧ (pfA (decide (8 ≤ nf)) s).1 = 0 from ⟨hs, z⟩), if_neg (by decide)]
    refine x_takeNewName (kind := 140) (num := nf) hJ1 (HN.x69 x1) (h32 nf8) (fun J2 M2 hJ2 hN2 x2 m2 => ?_)
    refine x_passIf (k := 135) hJ2 (by decide) (by decide) (fun J3 hJ3 x3 => ?_)
    have hN3 := hN2.x69 x3
    have e5 : nI nf * 5 = nI (5 * nf) := by rw [show nI nf * 5 = nI (nf * 5) from pk_mul nf 5, Nat.mul_comm]
    rw [e5]
    have vp : ∀ c, c < 5 → vp_in (nI (5 * nf + c)) 40 := fun c hc => vp_in_nI (by omega) (by decide)
    have ad : ∀ c : Nat, nI (5 * nf) + nI c = nI (5 * nf + c) := fun c => nI_add _ _
    -- behind old or new
    have rest : ∀ (J4 : st_I), cx B n J4 (fi3 B n (fi2 B n N nf s)) → x69 J3 J4 → TV (d + 3) mX5_takeFiddle 51 [.ref 17, .null, .int (nI (5 * nf)), .int (b01 (foB B n 135 (fi2 B n N nf s))), .null] [] J4 M2 F := by
      intro J4 hJ4 x4
      refine sgX5_takeFiddle_51 ⟨vp 0 (by decide), ?_⟩
      rw [nI_clamp (by omega), b01_b]
      refine sgX5_takeFiddle_72 ?_
      rw [if_neg (by decide)]
      refine x_takeInt (most := 20) (cx_tab hJ4 (by decide) (by decide) (by decide) (by decide)) (by decide) (fun J5 hJ5 x5 => ?_)
      rw [show nI (5 * nf) + 1 = nI (5 * nf + 1) from ad 1, nI_clamp (by omega)]
      refine ⟨vp 1 (by decide), sgX5_takeFiddle_72 ?_⟩
      rw [if_neg (by decide)]
      refine x_takeInt (most := 20) (cx_tab hJ5 (by decide) (by decide) (by decide) (by decide)) (by decide) (fun J6 hJ6 x6 => ?_)
      rw [show nI (5 * nf) + (1 + 1) = nI (5 * nf + 2) from ad 2, nI_clamp (by omega)]
      refine ⟨vp 2 (by decide), sgX5_takeFiddle_72 ?_⟩
      rw [if_neg (by decide)]
      refine x_takeInt (most := 20) (cx_tab hJ6 (by decide) (by decide) (by decide) (by decide)) (by decide) (fun J7 hJ7 x7 => ?_)
      rw [show nI (5 * nf) + (1 + 1 + 1) = nI (5 * nf + 3) from ad 3, nI_clamp (by omega)]
      refine ⟨vp 3 (by decide), sgX5_takeFiddle_72 ?_⟩
      rw [if_pos (by decide)]
      refine x_passIf (k := 142) (cx_tab hJ7 (by decide) (by decide) (by decide) (by decide)) (by decide) (by decide) (fun J8 hJ8 x8 => ?_)
      rw [show nI (5 * nf) + 4 = nI (5 * nf + 4) from ad 4, nI_clamp (by omega), b01_b]
      refine ⟨vp 4 (by decide), ?_⟩
      refine x_pass (k := 59) (cx_tab hJ8 (by decide) (by decide) (by decide) (by decide)) (by decide) (by decide) (fun J9 hJ9 x9 => ?_)
      have e9 : J9 9 0 = nI nf := by
        rw [x9.1 9 (by decide), u_I_ne _ _ (by decide), x8.1 9 (by decide), u_I_ne _ _ (by decide), x7.1 9 (by decide), u_I_ne _ _ (by decide), x6.1 9 (by decide), u_I_ne _ _ (by decide), x5.1 9 (by decide), u_I_ne _ _ (by decide), x4.1 9 (by decide), x3.1 9 (by decide), x2.1 9 (by decide) (by decide) (by decide), x1.1 9 (by decide)]; exact h9
      have e10 : ∀ j, J9 10 j = if j = 5 * nf + 4 then b01 (foB B n 142 (fi6 B n (fi3 B n (fi2 B n N nf s)))) else if j = 5 * nf + 3 then nI (ivA B n (inA B n 20 (inA B n 20 (fi3 B n (fi2 B n N nf s))))) else if j = 5 * nf + 2 then nI (ivA B n (inA B n 20 (fi3 B n (fi2 B n N nf s)))) else if j = 5 * nf + 1 then nI (ivA B n (fi3 B n (fi2 B n N nf s))) else if j = 5 * nf then b01 (foB B n 135 (fi2 B n N nf s)) else I 10 j := by
        intro j
        rw [x9.1 10 (by decide)]
        simp only [u_I, if_true, x8.1 10 (by decide), x7.1 10 (by decide), x6.1 10 (by decide), x5.1 10 (by decide), x4.1 10 (by decide), x3.1 10 (by decide), x2.1 10 (by decide) (by decide) (by decide), x1.1 10 (by decide)]
        rfl
      rw [e9, nI_1]
      have fr : ∀ q, q ≠ 10 → q ≠ 17 → q ≠ 22 → q ≠ 23 → J9 q = I q := fun q a b c e => by
        rw [x9.1 q b, u_I_ne _ _ a, x8.1 q b, u_I_ne _ _ a, x7.1 q b, u_I_ne _ _ a, x6.1 q b, u_I_ne _ _ a, x5.1 q b, u_I_ne _ _ a, x4.1 q b, x3.1 q b, x2.1 q b c e, x1.1 q b]
      have f17 : ∀ j, j < 6 ∨ (9 < j ∧ j ≠ 13) → J9 17 j = I 17 j := fun j hj => by
        have hj' : j < 6 ∨ 9 < j := by omega
        rw [x9.2 j hj', u_I_ne _ _ (by decide), x8.2 j hj', u_I_ne _ _ (by decide), x7.2 j hj', u_I_ne _ _ (by decide), x6.2 j hj', u_I_ne _ _ (by decide), x5.2 j hj', u_I_ne _ _ (by decide), x4.2 j hj', x3.2 j hj', x2.2 j hj, x1.2 j hj']
      refine h _ M2 (cx_tab hJ9 (by decide) (by decide) (by decide) (by decide)) ⟨fun q a b c e f => by rw [u_I_ne _ _ a]; exact fr q b c e f, fun j hj => ?_, fun j hj => by rw [u_I_ne _ _ (by decide)]; exact f17 j hj⟩ m2 (fun _ => ⟨nf8, ?_, by simp [u_I], fun j hj => ?_, ?_, ?_, ?_, ?_, ?_⟩)
      · simp only [u_I, if_true, if_neg hj]; rw [fr 9 (by decide) (by decide) (by decide) (by decide)]
      · exact cN_tab ((cN_tab ((cN_tab ((cN_tab ((cN_tab ((cN_tab ((hN3.x69 x4)) (by decide) (by decide) (by decide)).x69 x5) (by decide) (by decide) (by decide)).x69 x6) (by decide) (by decide) (by decide)).x69 x7) (by decide) (by decide) (by decide)).x69 x8) (by decide) (by decide) (by decide)).x69 x9) (by decide) (by decide) (by decide)
      all_goals rw [u_I_ne _ _ (by decide), e10]
      · rw [if_neg (by omega), if_neg (by omega), if_neg (by omega), if_neg (by omega), if_neg (by omega)]
      · rw [if_neg (by omega), if_neg (by omega), if_neg (by omega), if_neg (by omega), if_pos rfl]
      · rw [if_neg (by omega), if_neg (by omega), if_neg (by omega), if_pos rfl]
      · rw [if_neg (by omega), if_neg (by omega), if_pos rfl]
      · rw [if_neg (by omega), if_pos rfl]
      · rw [if_pos rfl]
    have eF : decide ((nwA B n N (pfA (decide (8 ≤ nf)) s)).1 = 0 ∧ knF B n (nwA B n N (pfA (decide (8 ≤ nf)) s)).2.1 = 135 ∧ (paA B n 135 (nwA B n N (pfA (decide (8 ≤ nf)) s))).1 = 0) = foB B n 135 (fi2 B n N nf s) := rfl
    rw [eF]
    have eP : piA B n 135 (nwA B n N (pfA (decide (8 ≤ nf)) s)) = piA B n 135 (fi2 B n N nf s) := rfl
    rw [eP] at hJ3
    by_cases o : foB B n 135 (fi2 B n N nf s) = true
    · rw [if_neg (by rw [b01_1 o]; decide)]
      refine rest J3 ?_ x69.rf
      unfold fi3; rw [if_pos o]; exact hJ3
    · rw [if_pos (b01_0 o)]
      refine x_pass (k := 141) hJ3 (by decide) (by decide) (fun J4 hJ4 x4 => rest J4 ?_ x4)
      unfold fi3; rw [if_neg o]; exact hJ4
  · rw [if_neg z] at h
    rw [decide_eq_false (fun c => z c.2), if_pos (by decide)]
    exact h J1 L hJ1 ⟨fun q a b c e f => x1.1 q c, fun j hj => by rw [x1.1 9 (by decide)], fun j hj => x1.2 j (by omega)⟩ (fun _ _ => rfl) (fun q => absurd q z)
