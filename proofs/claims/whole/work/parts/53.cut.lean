/-! read: the reference's cut -/
/-- the class's kind in the reference -/
def kmL : List Nat := [32, 33, 34, 35, 36, 37, 38, 21, 31, 39, 40, 41, 20, 22, 23, 24, 25, 26, 27, 28, 29, 30]
def kmF (k : Nat) : Nat := if k = 0 then 0 else if k = 1 then 3 else if k = 2 then 1 else if k = 3 then 2 else if k = 4 then 11 else if k = 59 then 4 else if k = 58 then 5 else if k = 40 then 6 else if k = 41 then 7 else if k = 43 then 8 else if k = 45 then 9 else if k = 42 then 10 else if k = 60 then 12 else if k = 61 then 13 else if k = 44 then 14 else if k = 123 then 15 else if k = 125 then 16 else if k = 91 then 17 else if k = 93 then 18 else if 128 ≤ k then kmL.getD (k - 128) 3 else 3
/-- a number by its digits -/
def kf (b : Nat) (g : Nat → Nat) : Nat → Nat
  | 0 => 0
  | r + 1 => b * kf b g r + g r
theorem kf_congr {b : Nat} {g g' : Nat → Nat} : ∀ r, (∀ j, j < r → g j = g' j) → kf b g r = kf b g' r
  | 0, _ => rfl
  | r + 1, h => by rw [kf, kf, kf_congr r (fun j hj => h j (by omega)), h r (by omega)]
theorem kf_inj {b : Nat} {g g' : Nat → Nat} : ∀ r r', (∀ j, j < r → 1 ≤ g j ∧ g j < b) → (∀ j, j < r' → 1 ≤ g' j ∧ g' j < b) → kf b g r = kf b g' r' → r = r' ∧ ∀ j, j < r → g j = g' j
  | 0, 0, _, _, _ => ⟨rfl, fun j hj => by omega⟩
  | 0, r' + 1, _, h', e => by rw [kf, kf] at e; have := h' r' (by omega); omega
  | r + 1, 0, h, _, e => by rw [kf, kf] at e; have := h r (by omega); omega
  | r + 1, r' + 1, h, h', e => by
    rw [kf, kf] at e
    have q := h r (by omega)
    have q' := h' r' (by omega)
    have hb : 0 < b := by omega
    have m : (b * kf b g r + g r) % b = g r := by rw [Nat.mul_add_mod, Nat.mod_eq_of_lt q.2]
    have m' : (b * kf b g' r' + g' r') % b = g' r' := by rw [Nat.mul_add_mod, Nat.mod_eq_of_lt q'.2]
    have c : g r = g' r' := by rw [← m, ← m', e]
    have y : kf b g r = kf b g' r' := Nat.eq_of_mul_eq_mul_left hb (by omega)
    obtain ⟨z1, z2⟩ := kf_inj r r' (fun j hj => h j (by omega)) (fun j hj => h' j (by omega)) y
    subst z1
    refine ⟨rfl, fun j hj => ?_⟩
    by_cases e' : j = r
    · rw [e']; exact c
    · exact z2 j (by omega)
theorem kf_lt {b : Nat} {g : Nat → Nat} : ∀ r, (∀ j, j < r → g j < b) → kf b g r < b ^ r
  | 0, _ => by rw [kf, Nat.pow_zero]; exact Nat.one_pos
  | r + 1, h => by
    have ih := kf_lt r (fun j hj => h j (by omega))
    have q := h r (by omega)
    rw [kf, Nat.pow_succ]
    calc b * kf b g r + g r < b * kf b g r + b := by omega
      _ = b * (kf b g r + 1) := by rw [Nat.mul_add, Nat.mul_one]
      _ ≤ b * b ^ r := Nat.mul_le_mul_left _ ih
      _ = b ^ r * b := Nat.mul_comm _ _
/-- the words -/
def wlF (w : Nat) : Nat := rnF (fun k => lcB (wdk k)) 8 (8 * w)
theorem wl_ok : ∀ w, w < 22 → wlF w ≤ 7 ∧ 1 ≤ wlF w ∧ ∀ j, j < 8 → (if j < wlF w then lcB (wdk (8 * w + j)) = true else wdk (8 * w + j) = 32) := by decide +kernel
/-- a NAME's number: l letters from i on -/
def nkF (b : Nat) (B : Nat → Nat) (i l : Nat) : Nat := kf b (fun j => B (i + j) - 96) l
def wkF (w : Nat) : Nat := nkF 27 wdk (8 * w) (wlF w)
/-- the word by the reference's number -/
def wiL : List Nat := [12, 7, 13, 14, 15, 16, 17, 18, 19, 20, 21, 8, 0, 1, 2, 3, 4, 5, 6, 9, 10, 11]
def wiF (k : Nat) : Nat := wiL.getD k 0
theorem wi_ok : ∀ k, k < 22 → wiF k < 22 ∧ kmF (128 + wiF k) = 20 + k := by decide +kernel
theorem wi_inv : ∀ w, w < 22 → 20 ≤ kmF (128 + w) ∧ kmF (128 + w) < 42 ∧ wiF (kmF (128 + w) - 20) = w := by decide +kernel
theorem wk_lt : ∀ w, w < 22 → wkF w < 2 ^ 62 := by decide +kernel
def keyW (W : Nat → Int64) : Prop := ∀ k, k < 22 → W k = lN (wkF (wiF k))
theorem lc_d {c : Nat} (h : lcB c = true) : 1 ≤ c - 96 ∧ c - 96 < 27 ∧ 97 ≤ c ∧ c ≤ 122 := by
  have := of_decide_eq_true h; omega
/-- a word is met by its number -/
theorem mw_key {B : Nat → Nat} {i e w : Nat} (hw : w < 22) (hie : i ≤ e) (h8 : e - i ≤ 8) (hl : ∀ j, j < e - i → lcB (B (i + j)) = true) : mwF B i e w = true ↔ nkF 27 B i (e - i) = wkF w := by
  obtain ⟨l7, l1, lw⟩ := wl_ok w hw
  have hin : ∀ j, j < wlF w → lcB (wdk (8 * w + j)) = true := fun j hj => by have := lw j (by omega); rwa [if_pos hj] at this
  have hout : ∀ j, j < 8 → wlF w ≤ j → wdk (8 * w + j) = 32 := fun j h8 hj => by have := lw j h8; rwa [if_neg (by omega)] at this
  have a_in : ∀ j, j < e - i → aF B i e j = B (i + j) := fun j hj => by unfold aF; rw [if_pos (by omega)]
  have a_out : ∀ j, e - i ≤ j → aF B i e j = 32 := fun j hj => by unfold aF; rw [if_neg (by omega)]
  have no32 : ∀ c, lcB c = true → c ≠ 32 := fun c h q => by subst q; exact absurd h (by decide)
  rw [mwF_iff]
  constructor
  · intro h
    have el : e - i = wlF w := by
      rcases Nat.lt_trichotomy (e - i) (wlF w) with z | z | z
      · have q := h (e - i) (by omega)
        rw [a_out _ (Nat.le_refl _)] at q
        exact absurd q (no32 _ (hin _ z))
      · exact z
      · have q := h (wlF w) (by omega)
        rw [a_in _ z, hout _ (by omega) (Nat.le_refl _)] at q
        exact absurd q.symm (no32 _ (hl _ z))
    unfold wkF nkF
    rw [el]
    refine kf_congr _ (fun j hj => ?_)
    have q := h j (by omega)
    rw [a_in j (by omega)] at q
    rw [q]
  · intro h
    obtain ⟨el, eq⟩ := kf_inj (b := 27) (e - i) (wlF w) (fun j hj => by have := lc_d (hl j hj); exact ⟨this.1, this.2.1⟩) (fun j hj => by have := lc_d (hin j hj); exact ⟨this.1, this.2.1⟩) h
    intro j hj
    by_cases z : j < e - i
    · rw [a_in j z]
      have q := eq j z
      have q1 := lc_d (hl j z)
      have q2 := lc_d (hin j (by omega))
      omega
    · rw [a_out j (by omega), hout j hj (by omega)]
theorem wk_inj : ∀ w, w < 22 → ∀ v, v < 22 → wkF w = wkF v → w = v := by decide +kernel
theorem wd_some {B : Nat → Nat} {i e w : Nat} (hm : mwF B i e w = true) (hu : ∀ v, v < 22 → mwF B i e v = true → v = w) : ∀ r k, k + r = 22 → k ≤ w → w < 22 → wdF B i e r k = 128 + w
  | 0, k, h, hk, hw => by omega
  | r + 1, k, h, hk, hw => by
    rw [wdF]
    by_cases z : mwF B i e k = true
    · rw [if_pos z, hu k (by omega) z]
    · rw [if_neg z]
      have : k ≠ w := fun q => z (q ▸ hm)
      exact wd_some hm hu r (k + 1) (by omega) (by omega) hw
theorem wd_none {B : Nat → Nat} {i e : Nat} (hn : ∀ v, v < 22 → ¬ mwF B i e v = true) : ∀ r k, k + r = 22 → wdF B i e r k = 2
  | 0, _, _ => rfl
  | r + 1, k, h => by rw [wdF, if_neg (hn k (by omega)), wd_none hn r (k + 1) (by omega)]
