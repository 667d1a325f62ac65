theorem lq_congr {c v v' : Nat → Int32} {a n : Nat} (hc : ∀ j, j < n → cd_ok (c (a + j))) (hv : ∀ i, i < 12 → v i = v' i) : ∀ j, j ≤ n → lq c v a j = lq c v' a j := by
  intro j
  induction j with
  | zero => intro _; rfl
  | succ j ih =>
    intro hj
    have e := ih (by omega)
    rw [lq, lq, e]
    rcases hc j (by omega) with ⟨m, hm, hx⟩ | ⟨m, hm, hx⟩ | hx | hx | hx | hx | hx
    · rw [hx, if_pos (nI_pos' (by omega)), if_pos (nI_pos' (by omega))]
    · obtain ⟨v1, v2, v3, v4, v5⟩ := cd_var m hm
      rw [hx, if_neg v1, if_pos v2, if_neg v1, if_pos v2, v4, nI_clamp (by omega), hv m hm]
    all_goals
      rw [hx, if_neg (by decide), if_neg (by decide), if_neg (by decide), if_neg (by decide)]
theorem LK_congr {I : st_I} {lv w : Nat} {v v' : Nat → Int32} (h : iv_law I lv w) (hv : ∀ i, i < 12 → v i = v' i) : LK I w v = LK I w v' := by
  obtain ⟨a, b, n, e1, e2, e3, e4, e5, e6, e7, e8⟩ := h
  rw [LK_eq e1 e2 e3, LK_eq e1 e2 e3, lq_congr (fun j hj => iv_code_ok (e8 j hj)) hv n (Nat.le_refl _)]
theorem LK_same {I I' : st_I} (h5 : I' 5 = I 5) (h6 : I' 6 = I 6) (w : Nat) (v : Nat → Int32) : LK I' w v = LK I w v := by
  simp only [LK, lw_a, h5, h6]
/-- the VARs -/
def vr (I : st_I) (p f b : Nat) (se sp no : Int32) (s : Nat → Int32) : Nat → Int32 := fun i => if i < 3 then I 2 (5 * f + 1 + i) + I 4 (3 * b + i) + s i else if i < 7 then I 3 (5 * p + 1 + (i - 3)) else if i = 7 then I 2 (5 * f) else if i = 8 then se else if i = 9 then sp else if i = 10 then I 3 (5 * p) else no
def s0 : Nat → Int32 := fun _ => 0
theorem ix5 (f k : Nat) : nI f * 5 + 1 + nI k = nI (5 * f + 1 + k) := by rw [show (5 : Int32) = nI 5 from rfl, pk_mul, nI_1, nI_add, Nat.mul_comm]
theorem ix3 (b k : Nat) : nI b * 3 + nI k = nI (3 * b + k) := by rw [show (3 : Int32) = nI 3 from rfl, pk_mul, nI_add, Nat.mul_comm]
theorem ix50 (f : Nat) : nI f * 5 = nI (5 * f) := by rw [show (5 : Int32) = nI 5 from rfl, pk_mul, Nat.mul_comm]
theorem ixa (a k : Nat) : nI a + nI k = nI (a + k) := nI_add a k
theorem pX_meetB {d p f : Nat} {I : st_I} {L : st_L} {F : st_I → st_L → Prop} (hp : p < 10) (hf : f < 8) (s : Nat → Int32) (hs : ∀ i, i < 3 → s i = s i) (P : Nat → Int32 → Prop)
    (h : ∀ g, (∀ i, i < 3 → P i (g i)) → (∀ i, 3 ≤ i → i < 7 → g i = I 3 (5 * p + 1 + (i - 3))) → F (u_I (u_I (r_I I 26 g) 26 7 (I 2 (5 * f))) 26 10 (I 3 (5 * p))) L) :
    ∀ (r k : Nat) (g : Nat → Int32), k + r = 4 → (∀ i, i < 3 → P i (g i)) → (∀ i, 3 ≤ i → i < 3 + k → g i = I 3 (5 * p + 1 + (i - 3))) → TV (d + 1) mX7_meet 65 [.ref 25, .ref 1, .int (nI p), .int (nI f), .null, .int (nI k)] [] (r_I I 26 g) L F := by
  have r2 : ∀ g, r_I I 26 g 2 = I 2 := fun g => r_ne g (by decide)
  have r3 : ∀ g, r_I I 26 g 3 = I 3 := fun g => r_ne g (by decide)
  intro r
  induction r with
  | zero =>
    intro k g hk h1 h2
    obtain rfl : k = 4 := by omega
    refine sgX7_meet_65 ?_
    rw [if_pos (by decide), ix50, ix50, nI_clamp (by omega), nI_clamp (by omega), r2, r3]
    exact ⟨vp_in_nI (by omega) (by decide), vp_in_nI (by omega) (by decide), h g h1 (fun i h3 h4 => h2 i h3 (by omega))⟩
  | succ r ih =>
    intro k g hk h1 h2
    refine sgX7_meet_65 ?_
    rw [if_neg (show ¬ (4 : Int32) ≤ nI k from nI_ge (b := 4) (by omega) (by decide)), ix5, show (3 : Int32) + nI k = nI (3 + k) from nI_add 3 k, nI_clamp (by omega), nI_clamp (by omega), r3]
    refine ⟨vp_in_nI (by omega) (by decide), vp_in_nI (by omega) (by decide), ?_⟩
    rw [r_u, nI_1]
    refine ih (k + 1) _ (by omega) ?_ ?_
    · intro i hi
      simp only [upd, if_neg (show ¬ i = 3 + k by omega)]; exact h1 i hi
    · intro i h3 h4
      by_cases e : i = 3 + k
      · subst e; simp only [upd, if_true]; rw [Nat.add_sub_cancel_left]
      · simp only [upd, if_neg e]; exact h2 i h3 (by omega)
theorem pX_meet {d lv nf np nb nl npl p f b : Nat} {I : st_I} {L : st_L} {F : st_I → st_L → Prop} (H : iv_told I lv nf np nb nl npl) (hpn : p < np) (hfn : f < nf) (hbn : b < nb) (h : ∀ g, (∀ i, i < 12 → i ≠ 8 → i ≠ 9 → i ≠ 11 → g i = vr I p f b 0 0 0 s0 i) → F (r_I I 26 g) L) : EV (d + 2) mX7_meet [.ref 25, .ref 1, .int (nI p), .int (nI f), .int (nI b)] I L F := by
  have bd := H.1
  have hp : p < 10 := by have := bd.2.2.1; omega
  have hf : f < 8 := by have := bd.2.1; omega
  have hb : b < 4 := by have := bd.2.2.2.1; omega
  have r2 : ∀ g, r_I I 26 g 2 = I 2 := fun g => r_ne g (by decide)
  have r4 : ∀ g, r_I I 26 g 4 = I 4 := fun g => r_ne g (by decide)
  have hB := pX_meetB (d := d + 1) (I := I) (L := L) (F := F) hp hf s0 (fun _ _ => rfl) (fun i x => x = I 2 (5 * f + 1 + i) + I 4 (3 * b + i)) (fun g h1 h2 => by
    rw [r_u, r_u]
    refine h _ (fun i hi h8 h9 h11 => ?_)
    by_cases e10 : i = 10
    · subst e10; simp [upd, vr]
    by_cases e7 : i = 7
    · subst e7; simp [upd, vr]
    simp only [upd, if_neg e10, if_neg e7, vr]
    by_cases e3 : i < 3
    · rw [if_pos e3, h1 i e3]; simp [s0]
    · rw [if_neg e3, if_pos (by omega)]; exact h2 i (by omega) (by omega))
  have hA : ∀ (r k : Nat) (g : Nat → Int32), k + r = 3 → (∀ i, i < k → g i = I 2 (5 * f + 1 + i) + I 4 (3 * b + i)) → TV (d + 2) mX7_meet 15 [.ref 25, .ref 1, .int (nI p), .int (nI f), .int (nI b), .int (nI k)] [] (r_I I 26 g) L F := by
    intro r
    induction r with
    | zero =>
      intro k g hk h1
      obtain rfl : k = 3 := by omega
      refine sgX7_meet_15 ?_
      rw [if_pos (by decide)]
      exact hB 4 0 g (by omega) h1 (fun i h3 h4 => by omega)
    | succ r ih =>
      intro k g hk h1
      refine sgX7_meet_15 ?_
      rw [if_neg (show ¬ (3 : Int32) ≤ nI k from nI_ge (b := 3) (by omega) (by decide)), ix5, ix3, show (0 : Int32) + nI k = nI k by simp, nI_clamp (by omega), nI_clamp (by omega), nI_clamp (by omega), r2, r4]
      refine ⟨vp_in_nI (by omega) (by decide), vp_in_nI (by omega) (by decide), vp_in_nI (by omega) (by decide), ?_⟩
      rw [r_u, nI_1]
      refine ih (k + 1) _ (by omega) ?_
      intro i hi
      by_cases e : i = k
      · subst e; simp only [upd, if_true]
      · simp only [upd, if_neg e]; exact h1 i (by omega)
  have := hA 3 0 (I 26) (by omega) (fun i hi => by omega)
  rw [r_self] at this
  refine sgX7_meet_0 (x_meet_i H hpn hfn hbn ?_)
  rw [if_neg (by decide)]
  exact this
theorem pX_attend {d p f b : Nat} {I : st_I} {L : st_L} {F : st_I → st_L → Prop} {se sp no : Int32} {I0 : st_I} {s : Nat → Int32} (hg : ∀ i, i < 12 → i ≠ 8 → i ≠ 9 → i ≠ 11 → I 26 i = vr I0 p f b 0 0 0 s i) (h : ∀ g, (∀ i, i < 12 → g i = vr I0 p f b se sp no s i) → F (r_I I 26 g) L) : EV d mX7_attend [.ref 25, .int se, .int sp, .int no] I L F := by
  refine sgX7_attend_0 ?_
  rw [u_r I 26 8, r_u, r_u]
  refine h _ (fun i hi => ?_)
  by_cases e11 : i = 11
  · subst e11; simp [upd, vr]
  by_cases e9 : i = 9
  · subst e9; simp [upd, vr]
  by_cases e8 : i = 8
  · subst e8; simp [upd, vr]
  simp only [upd, if_neg e11, if_neg e9, if_neg e8]
  rw [hg i hi e8 e9 e11]
  simp only [vr, if_neg e8, if_neg e9]
  by_cases e10 : i = 10
  · simp [e10]
  · by_cases e7 : i < 7
    · simp [e7]
    · have : i = 7 := by omega
      simp [this]
def mixd (a b : Int32) : Int32 := (((a ^^^ b) * 1103515245) + 12345) ^^^ ((((((a ^^^ b) * 1103515245) + 12345)).toUInt32 >>> ((15 : Int32).toUInt32 &&& Int32.toUInt32 31)).toInt32)
def lot10 (seed w : Int32) : Int32 := ((((mixd (mixd seed 11) w)).toUInt32 >>> ((1 : Int32).toUInt32 &&& Int32.toUInt32 31)).toInt32) - (((mixd (mixd seed 11) w)).toUInt32 >>> ((1 : Int32).toUInt32 &&& Int32.toUInt32 31)).toInt32 / 10 * 10
theorem pX_noise {d : Nat} {I : st_I} {L : st_L} {F : Int32 → st_I → st_L → Prop} {a b : Int32} (h : F (lot10 a b) I L) : EI (d + 1) mX7_noiseOf [.int a, .int b] I L F :=
  sgX7_noiseOf_0 (sgX7_stirred_0 (sgX7_stirred_0 h))
theorem pM_lot {d : Nat} {I : st_I} {L : st_L} {F : Int32 → st_I → st_L → Prop} {a b : Int32} (h : F (lot10 a b) I L) : EI (d + 1) mX12_lot [.int a, .int b, .int 10] I L F :=
  sgX12_lot_0 (sgX12_mixed_0 (sgX12_mixed_0 ⟨by decide, h⟩))
