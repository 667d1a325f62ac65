def r_I (I : st_I) (p : Nat) (g : Nat → Int32) : st_I := fun q => if q = p then g else I q
theorem r_at (I : st_I) (p : Nat) (g : Nat → Int32) : r_I I p g p = g := by simp [r_I]
theorem r_ne {I : st_I} {p q : Nat} (g : Nat → Int32) (h : q ≠ p) : r_I I p g q = I q := by simp [r_I, h]
theorem r_u (I : st_I) (p k : Nat) (g : Nat → Int32) (x : Int32) : u_I (r_I I p g) p k x = r_I I p (upd g k x) := by
  funext a b
  by_cases h : a = p
  · subst h; by_cases h2 : b = k <;> simp [u_I, r_I, upd, h2]
  · simp [u_I, r_I, h]
theorem r_self (I : st_I) (p : Nat) : r_I I p (I p) = I := by funext q; by_cases h : q = p <;> simp [r_I, h]
theorem r_r (I : st_I) (p : Nat) (g g' : Nat → Int32) : r_I (r_I I p g) p g' = r_I I p g' := by funext q; by_cases h : q = p <;> simp [r_I, h]
theorem u_r (I : st_I) (p k : Nat) (x : Int32) : u_I I p k x = r_I I p (upd (I p) k x) := by
  rw [← r_u, r_self]
def rp_push (x : Int32) : Prop := 0 ≤ x ∨ x ≤ -128
theorem rp_s {c : Nat → Int32} {a j m : Nat} (h : rp_dep c a (j + 1) = some m) : ∃ t, rp_dep c a j = some t ∧ ((rp_push (c (a + j)) ∧ t < 24 ∧ m = t + 1) ∨ (¬ rp_push (c (a + j)) ∧ 2 ≤ t ∧ m = t - 1)) := by
  rw [rp_dep] at h
  cases e : rp_dep c a j with
  | none => rw [e] at h; cases h
  | some t =>
    rw [e] at h
    dsimp only at h
    refine ⟨t, rfl, ?_⟩
    by_cases hp : 0 ≤ c (a + j) ∨ c (a + j) ≤ -128
    · rw [if_pos hp] at h
      by_cases ht : t < 24
      · rw [if_pos ht] at h; exact Or.inl ⟨hp, ht, (Option.some.inj h).symm⟩
      · rw [if_neg ht] at h; cases h
    · rw [if_neg hp] at h
      by_cases ht : 2 ≤ t
      · rw [if_pos ht] at h; exact Or.inr ⟨hp, ht, (Option.some.inj h).symm⟩
      · rw [if_neg ht] at h; cases h
theorem rp_le {c : Nat → Int32} {a : Nat} : ∀ {j t : Nat}, rp_dep c a j = some t → t ≤ 24
  | 0, t, h => by rw [rp_dep] at h; have := Option.some.inj h; omega
  | j + 1, t, h => by
    obtain ⟨t', h1, h2⟩ := rp_s h
    have := rp_le h1
    omega
theorem rp_pre {c : Nat → Int32} {a n m : Nat} (h : rp_dep c a n = some m) : ∀ j, j ≤ n → ∃ t, rp_dep c a j = some t := by
  induction n generalizing m with
  | zero => intro j hj; obtain rfl : j = 0 := by omega
            exact ⟨m, h⟩
  | succ n ih =>
    intro j hj
    by_cases e : j = n + 1
    · subst e; exact ⟨m, h⟩
    · obtain ⟨t, h1, -⟩ := rp_s h
      exact ih h1 j (by omega)
def jn (k l r : Int32) : Int32 := if k = 42 then l * r else if k = 43 then l + r else if k = 45 then l - r else if k = 60 then (if r ≤ l then (0 : Int32) else 1) else (if l = r then (1 : Int32) else 0)
/-- the pile behind j codes from a on -/
def lq (c v : Nat → Int32) (a : Nat) : Nat → Nat → Int32
  | 0 => fun _ => 0
  | j + 1 => if 0 ≤ c (a + j) then upd (lq c v a j) ((rp_dep c a j).getD 0) (c (a + j)) else if c (a + j) ≤ -128 then upd (lq c v a j) ((rp_dep c a j).getD 0) (v (-(c (a + j)) - 128).toNatClampNeg) else upd (lq c v a j) ((rp_dep c a j).getD 0 - 2) (jn (-(c (a + j))) (lq c v a j ((rp_dep c a j).getD 0 - 2)) (lq c v a j ((rp_dep c a j).getD 0 - 1)))
/-- a code of the class's own kind: an INT, a VAR, or an operator -/
def cd_ok (x : Int32) : Prop := (∃ n, n ≤ 9999 ∧ x = nI n) ∨ (∃ n, n < 12 ∧ x = -(nI (128 + n))) ∨ x = -43 ∨ x = -45 ∨ x = -42 ∨ x = -60 ∨ x = -4
theorem cd_var : ∀ n, n < 12 → ¬ (0 : Int32) ≤ -(nI (128 + n)) ∧ -(nI (128 + n)) ≤ -128 ∧ (-(nI (128 + n))) < 0 ∧ -(-(nI (128 + n))) - 128 = nI n ∧ ¬ (-128 : Int32) < -(nI (128 + n)) := by decide +kernel
theorem jp_1 (t : Nat) : nI (t + 1) + (-1) = nI t := pk_m1 t
theorem jp_2 (t : Nat) (h : 2 ≤ t) : nI t + (-1) - 1 = nI (t - 2) := by
  obtain ⟨k, rfl⟩ : ∃ k, t = k + 2 := ⟨t - 2, by omega⟩
  rw [show k + 2 = (k + 1) + 1 from rfl, pk_m1, nI_pred]
  rfl
theorem jp_3 (t : Nat) (h : 1 ≤ t) : nI t + (-1) = nI (t - 1) := by
  obtain ⟨k, rfl⟩ : ∃ k, t = k + 1 := ⟨t - 1, by omega⟩
  rw [pk_m1]; rfl
theorem pX_joined {d : Nat} {I : st_I} {L : st_L} {F : Int32 → st_I → st_L → Prop} {k x y : Int32} (h : F (jn k x y) I L) : EI d mX7_joined [.int k, .int x, .int y] I L F := by
  refine sgX7_joined_0 ?_
  unfold jn at h
  repeat' split
  all_goals simp_all
theorem pX_likeLoop {d a n : Nat} {I : st_I} {L : st_L} {F : Int32 → st_I → st_L → Prop} (han : a + n ≤ 400) (hn : rp_dep (I 5) a n = some 1) (hc : ∀ j, j < n → cd_ok (I 5 (a + j))) (h : ∀ g, F (lq (I 5) (I 26) a n 0) (r_I I 27 g) L) :
    ∀ (r j t : Nat) (g : Nat → Int32), j + r = n → rp_dep (I 5) a j = some t → (∀ i, i < t → g i = lq (I 5) (I 26) a j i) → TI (d + 1) mX7_like 23 [.ref 25, .ref 1, .null, .int (nI (a + n)), .int (nI t), .int (nI (a + j)), .null, .null, .null] [] (r_I I 27 g) L F := by
  have r5 : ∀ g, r_I I 27 g 5 = I 5 := fun g => r_ne g (by decide)
  have r26 : ∀ g, r_I I 27 g 26 = I 26 := fun g => r_ne g (by decide)
  intro r
  induction r with
  | zero =>
    intro j t g hj ht hg
    obtain rfl : j = n := by omega
    refine sgX7_like_23 ?_
    rw [if_pos (nI_le (Nat.le_refl _) (by omega)), r_at]
    rw [hn] at ht
    rw [hg 0 (by have := Option.some.inj ht; omega)]
    exact h g
  | succ r ih =>
    intro j t g hj ht hg
    have ht24 := rp_le ht
    obtain ⟨t1, ht1⟩ := rp_pre hn (j + 1) (by omega)
    obtain ⟨t', e1, e2⟩ := rp_s ht1
    obtain rfl : t' = t := Option.some.inj (e1.symm.trans ht)
    refine sgX7_like_23 ?_
    rw [if_neg (nI_ge (by omega) (by omega)), r5, nI_clamp (by omega)]
    refine ⟨vp_in_nI (by omega) (by decide), ?_⟩
    have hgd : (rp_dep (I 5) a j).getD 0 = t' := by rw [ht]; rfl
    have op : ∀ x : Int32, I 5 (a + j) = x → ¬ 0 ≤ x → -128 < x → TI (d + 1) mX7_like 113 [.ref 25, .ref 1, .null, .int (nI (a + n)), .int (nI t'), .int (nI (a + j)), .int x, .null, .int 0] [] (r_I I 27 g) L F := by
      intro x hx h0 h1
      have hnp : ¬ rp_push (I 5 (a + j)) := by
        rw [hx]; rintro (q | q)
        · exact h0 q
        · exact absurd h1 (Int32.not_lt.mpr q)
      rcases e2 with ⟨q, -⟩ | ⟨-, q2, q3⟩
      · exact absurd q hnp
      refine sgX7_like_113 ?_
      rw [if_pos rfl, if_neg (show ¬ nI t' < 2 from nI_nlt (a := t') (b := 2) q2 (by omega)), jp_2 t' q2, jp_3 t' (by omega), nI_clamp (by omega), nI_clamp (by omega), r_at]
      refine ⟨vp_in_nI (by omega) (by decide), vp_in_nI (by omega) (by decide), pX_joined ⟨vp_in_nI (by omega) (by decide), ?_⟩⟩
      rw [r_u, nI_1, Nat.add_assoc]
      have := ih (j + 1) (t' - 1) (upd g (t' - 2) (jn (-x) (g (t' - 2)) (g (t' - 1)))) (by omega) (by rw [ht1, q3]) ?_
      · exact this
      · intro i hi
        rw [lq, hx, if_neg h0, if_neg (Int32.not_le.mpr h1), hgd, ← hg (t' - 2) (by omega), ← hg (t' - 1) (by omega)]
        by_cases hi2 : i = t' - 2
        · simp [upd, hi2]
        · simp only [upd, if_neg hi2]; exact hg i (by omega)
    rcases hc j (by omega) with ⟨m, hm, hx⟩ | ⟨m, hm, hx⟩ | hx | hx | hx | hx | hx
    · have h0 : (0 : Int32) ≤ nI m := nI_pos' (by omega)
      rcases e2 with ⟨-, q2, q3⟩ | ⟨q, -⟩
      · rw [hx, if_pos h0, if_neg (show ¬ (1 : Int32) = 0 by decide), if_neg (show ¬ (24 : Int32) ≤ nI t' from nI_ge (b := 24) q2 (by decide)), if_neg (nI_pos (by omega)), nI_clamp (by omega)]
        refine ⟨vp_in_nI q2 (by decide), ?_⟩
        rw [r_u, nI_1, nI_1, Nat.add_assoc]
        refine ih (j + 1) (t' + 1) _ (by omega) (by rw [ht1, q3]) ?_
        intro i hi
        rw [lq, hx, if_pos h0, hgd]
        by_cases hi2 : i = t'
        · simp [upd, hi2]
        · simp only [upd, if_neg hi2]; exact hg i (by omega)
      · exact absurd (Or.inl (by rw [hx]; exact h0)) q
    · obtain ⟨v1, v2, v3, v4, v5⟩ := cd_var m hm
      rcases e2 with ⟨-, q2, q3⟩ | ⟨q, -⟩
      · rw [hx, if_neg v1, v4, if_neg (nI_pos (by omega)), if_neg (show ¬ (12 : Int32) ≤ nI m from nI_ge (b := 12) hm (by decide)), if_neg (show ¬ (1 : Int32) = 0 by decide), if_neg (show ¬ (24 : Int32) ≤ nI t' from nI_ge (b := 24) q2 (by decide)), if_pos v3, nI_clamp (show m < 2 ^ 31 by omega), nI_clamp (show t' < 2 ^ 31 by omega), r26]
        refine ⟨vp_in_nI hm (by decide), vp_in_nI q2 (by decide), ?_⟩
        rw [r_u, nI_1, nI_1, Nat.add_assoc]
        refine ih (j + 1) (t' + 1) _ (by omega) (by rw [ht1, q3]) ?_
        intro i hi
        rw [lq, hx, if_neg v1, if_pos v2, hgd, v4, nI_clamp (by omega)]
        by_cases hi2 : i = t'
        · simp [upd, hi2]
        · simp only [upd, if_neg hi2]; exact hg i (by omega)
      · exact absurd (Or.inr (by rw [hx]; exact v2)) q
    all_goals
      rw [hx, if_neg (show ¬ (0 : Int32) ≤ _ by decide), if_pos (show -(_ : Int32) - 128 < 0 by decide), if_pos rfl]
      exact op _ hx (by decide) (by decide)
