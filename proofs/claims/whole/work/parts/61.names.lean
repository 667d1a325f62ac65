/-! read: NAMES, in the class. N = (how many, TOKENS, kinds, numbers) -/
abbrev nm_X := Nat × (Nat → Nat) × (Nat → Nat) × (Nat → Nat)
def tlF (B : Nat → Nat) (n t : Nat) : Nat := teF B n (psF B n t) - psF B n t
def nkT (b : Nat) (B : Nat → Nat) (n t : Nat) : Nat := nkF b B (psF B n t) (tlF B n t)
def eqT (B : Nat → Nat) (n a b : Nat) : Bool := decide (nkT 27 B n a = nkT 27 B n b)
theorem kd2 {B : Nat → Nat} {n t : Nat} (h : knF B n t = 2) : psF B n t < n ∧ tlF B n t = llF B n (psF B n t) ∧ 1 ≤ tlF B n t ∧ tlF B n t ≤ 8 ∧ psF B n t + tlF B n t ≤ n ∧ ∀ j, j < tlF B n t → lcB (B (psF B n t + j)) = true := by
  unfold knF kdF at h
  by_cases a : n ≤ psF B n t
  · rw [if_pos a] at h; omega
  rw [if_neg a] at h
  by_cases b : lcB (B (psF B n t)) = true
  · have te := te_let (n := n) (by omega) b
    have hle : llF B n (psF B n t) ≤ n - psF B n t := rnF_le _ _ _
    have e : tlF B n t = llF B n (psF B n t) := by unfold tlF; omega
    rw [if_pos b] at h
    by_cases c : teF B n (psF B n t) - psF B n t ≤ 8
    · refine ⟨by omega, e, by omega, c, by omega, fun j hj => ?_⟩
      rw [e] at hj
      exact rnF_all (p := fun j => lcB (B j)) _ _ _ hj
    · rw [if_neg c] at h; omega
  rw [if_neg b] at h
  by_cases c : dgB (B (psF B n t)) = true
  · rw [if_pos c] at h
    split at h <;> omega
  rw [if_neg c] at h
  split at h
  · omega
  · split at h
    · exact absurd h (sg_ne _ (by assumption)).2.1
    · omega
theorem nk_lt {B : Nat → Nat} {n t b : Nat} (h : knF B n t = 2) (hb : 27 ≤ b) (hb2 : b ≤ 32) : nkT b B n t < 2 ^ 63 := by
  obtain ⟨-, -, -, h4, -, h6⟩ := kd2 h
  have q := kf_lt (b := b) (g := fun j => B (psF B n t + j) - 96) (tlF B n t) (fun j hj => by have := lc_d (h6 j hj); omega)
  have q1 : b ^ tlF B n t ≤ 32 ^ tlF B n t := Nat.pow_le_pow_left hb2 _
  have q2 : 32 ^ tlF B n t ≤ 32 ^ 8 := Nat.pow_le_pow_right (by decide) h4
  exact Nat.lt_of_lt_of_le q (Nat.le_trans q1 (Nat.le_trans q2 (by decide)))
theorem nk_iff {B : Nat → Nat} {n t u : Nat} (h : knF B n t = 2) (g : knF B n u = 2) : nkT 32 B n t = nkT 32 B n u ↔ eqT B n t u = true := by
  obtain ⟨-, -, -, -, -, h6⟩ := kd2 h
  obtain ⟨-, -, -, -, -, g6⟩ := kd2 g
  have go : ∀ b c, 27 ≤ b → nkT b B n t = nkT b B n u → nkT c B n t = nkT c B n u := by
    intro b c hb e
    obtain ⟨e1, e2⟩ := kf_inj (b := b) (tlF B n t) (tlF B n u) (fun j hj => by have := lc_d (h6 j hj); exact ⟨this.1, by omega⟩) (fun j hj => by have := lc_d (g6 j hj); exact ⟨this.1, by omega⟩) e
    unfold nkT nkF
    rw [← e1]
    exact kf_congr _ e2
  exact ⟨fun e => decide_eq_true (go 32 27 (by decide) e), fun e => go 27 32 (by decide) (of_decide_eq_true e)⟩
def foF (p : Nat → Bool) : Nat → Nat → Option Nat
  | 0, _ => none
  | r + 1, j => if p j then some j else foF p r (j + 1)
theorem foF_lt {p : Nat → Bool} : ∀ r j a, foF p r j = some a → j ≤ a ∧ a < j + r ∧ p a = true
  | 0, j, a, h => by rw [foF] at h; exact absurd h (by simp)
  | r + 1, j, a, h => by
    rw [foF] at h
    by_cases z : p j = true
    · rw [if_pos z] at h
      have : j = a := by simpa using h
      subst this; exact ⟨Nat.le_refl _, by omega, z⟩
    · rw [if_neg z] at h
      obtain ⟨a1, a2, a3⟩ := foF_lt r (j + 1) a h
      exact ⟨by omega, by omega, a3⟩
def fnN (B : Nat → Nat) (n : Nat) (N : nm_X) (t : Nat) : Option Nat := foF (fun j => eqT B n (N.2.1 j) t) N.1 0
/-- the class's NAMES -/
def cN (B : Nat → Nat) (n : Nat) (I : st_I) (L : st_L) (N : nm_X) : Prop := I 17 13 = nI N.1 ∧ N.1 ≤ 32 ∧ ∀ j, j < N.1 → knF B n (N.2.1 j) = 2 ∧ L 21 j = lN (nkT 32 B n (N.2.1 j)) ∧ I 22 j = nI (N.2.2.1 j) ∧ I 23 j = nI (N.2.2.2 j)
theorem x_keyAt {d n t : Nat} {B : Nat → Nat} {I : st_I} {L : st_L} {F : Int64 → st_I → st_L → Prop} (H : lx I n) (eB : bB I = B) (h2 : knF B n t = 2) (h : F (lN (nkT 32 B n t)) I L) : EL (d + 1) mX5_keyAt [.ref 17, .int (nI (psF B n t))] I L F := by
  obtain ⟨k1, k2, k3, k4, k5, k6⟩ := kd2 h2
  have hn := H.1
  generalize hp : psF B n t = p at *
  have vE : nkT 32 B n t = nkF 32 B p (tlF B n t) := by unfold nkT; rw [hp]
  rw [vE] at h
  have key : ∀ r j, j + r = tlF B n t → TL (d + 1) mX5_keyAt 5 [.ref 17, .int (nI p), .long (lN (nkF 32 B p j)), .null, .int (nI (p + j))] [] I L F := by
    intro r
    induction r with
    | zero =>
      intro j hj
      obtain rfl : j = tlF B n t := by omega
      refine sgX5_keyAt_5 ?_
      rw [show nI p + 8 = nI (p + 8) from nI_add p 8]
      by_cases c : p + 8 ≤ p + tlF B n t
      · rw [if_pos (nI_le c (by omega))]; exact h
      · rw [if_neg (nI_ge (by omega) (by omega))]
        refine x_isLetter H (by omega) ?_
        have : (decide (p + tlF B n t < n) && lcB (bB I (p + tlF B n t))) = false := by
          by_cases e : p + tlF B n t < n
          · rw [decide_eq_true e, Bool.true_and, eB]
            have e2 : llF B n p < n - p := by omega
            have := rnF_stop (p := fun j => lcB (B j)) (n - p) p e2
            have e3 : ¬ lcB (B (p + tlF B n t)) = true := by rw [k2]; exact this
            simpa using e3
          · rw [decide_eq_false e, Bool.false_and]
        rw [this, if_pos (by decide)]; exact h
    | succ r ih =>
      intro j hj
      refine sgX5_keyAt_5 ?_
      rw [show nI p + 8 = nI (p + 8) from nI_add p 8, if_neg (nI_ge (by omega) (by omega))]
      refine x_isLetter H (by omega) ?_
      have hd := k6 j (by omega)
      have dz := of_decide_eq_true hd
      rw [decide_eq_true (show p + j < n by omega), Bool.true_and, eB, b01_1 hd, if_neg (by decide), nI_clamp (by omega)]
      refine ⟨vp_in_nI (by omega) (by decide), ?_⟩
      have e18 : I 18 (p + j) = nI (B (p + j)) := by
        obtain ⟨-, -, q3, -⟩ := bt_c (H.2.2 (p + j))
        have e : ub (I 18 (p + j)) = B (p + j) := by rw [← eB]; rfl
        rw [e] at q3
        rcases q3 with q3 | q3
        · exact q3.2
        · omega
      rw [e18, nI_l (by omega), show (32 : Int64) = lN 32 from rfl, lN_mul, lN_add, show lN (nkF 32 B p j * 32 + B (p + j)) - 97 = lN (nkF 32 B p j * 32 + B (p + j) - 97) from lN_sub (b := 97) (by omega), lN_1, show nkF 32 B p j * 32 + B (p + j) - 97 + 1 = nkF 32 B p (j + 1) by unfold nkF; rw [kf]; omega, nI_1]
      exact ih (j + 1) (by omega)
  exact sgX5_keyAt_0 (key (tlF B n t) 0 (by omega))
theorem x_nameOf {d n t : Nat} {B : Nat → Nat} {I : st_I} {L : st_L} {N : nm_X} {F : Int32 → st_I → st_L → Prop} (HN : cN B n I L N) (h2 : knF B n t = 2) (h : F (match fnN B n N t with | none => -1 | some j => nI j) I L) : EI d mX5_nameOf [.ref 17, .long (lN (nkT 32 B n t))] I L F := by
  obtain ⟨g1, g2, g3⟩ := HN
  have key : ∀ r j, j + r = N.1 → foF (fun j => eqT B n (N.2.1 j) t) r j = fnN B n N t → TI d mX5_nameOf 2 [.ref 17, .long (lN (nkT 32 B n t)), .null, .int (nI j)] [] I L F := by
    intro r
    induction r with
    | zero =>
      intro j hj he
      refine sgX5_nameOf_2 ?_
      rw [g1, if_pos (nI_le (by omega) (by omega))]
      rw [foF] at he
      rw [← he] at h; exact h
    | succ r ih =>
      intro j hj he
      refine sgX5_nameOf_2 ?_
      obtain ⟨q1, q2, q3, q4⟩ := g3 j (by omega)
      rw [g1, if_neg (nI_ge (by omega) (by omega)), nI_clamp (by omega), q2, nI_1]
      refine ⟨vp_in_nI (by omega) (by decide), ?_⟩
      have e : lg_cmp (lN (nkT 32 B n (N.2.1 j))) (lN (nkT 32 B n t)) = 0 ↔ eqT B n (N.2.1 j) t = true := by
        rw [lg_cmp_eq, pk_lEQ (nk_lt q1 (by decide) (by decide)) (nk_lt h2 (by decide) (by decide)), nk_iff q1 h2]
      rw [foF] at he
      by_cases z : eqT B n (N.2.1 j) t = true
      · rw [if_pos (e.mpr z)]
        rw [if_pos z] at he
        rw [← he] at h; exact h
      · rw [if_neg (fun q => z (e.mp q))]
        rw [if_neg z] at he
        exact ih (j + 1) (by omega) he
  exact sgX5_nameOf_0 (key N.1 0 (by omega) rfl)
