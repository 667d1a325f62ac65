/-! read: an E as a pure function. W = what waits, w of them, o brackets; C = codes, c of them -/
abbrev e5_X := (Nat → Nat) × Nat × Nat × (Nat → Int32) × Nat
def ppE (a b : Nat) (e : e5_X) : e5_X := if 0 < e.2.1 ∧ (e.1 (e.2.1 - 1) = a ∨ e.1 (e.2.1 - 1) = b) then (e.1, e.2.1 - 1, e.2.2.1, upd e.2.2.2.1 e.2.2.2.2 (-(nI (e.1 (e.2.1 - 1)))), e.2.2.2.2 + 1) else e
def hoE (k : Nat) (e : e5_X) : e5_X := (updN e.1 e.2.1 k, e.2.1 + 1, e.2.2)
def opE (k : Nat) (e : e5_X) : e5_X := (updN e.1 e.2.1 k, e.2.1 + 1, e.2.2.1 + 1, e.2.2.2)
def wrE (x : Int32) (e : e5_X) : e5_X := (e.1, e.2.1, e.2.2.1, upd e.2.2.2.1 e.2.2.2.2 x, e.2.2.2.2 + 1)
def cmE (k : Nat) (e : e5_X) : e5_X := (updN e.1 (e.2.1 - 1) k, e.2)
def clE (e : e5_X) : e5_X := if e.1 (e.2.1 - 1) = 40 then (e.1, e.2.1 - 1, e.2.2.1 - 1, e.2.2.2) else (e.1, e.2.1 - 1, e.2.2.1 - 1, upd e.2.2.2.1 e.2.2.2.2 (-(nI (e.1 (e.2.1 - 1)))), e.2.2.2.2 + 1)
def p2E (e : e5_X) : e5_X := ppE 43 45 (ppE 42 42 e)
/-- one step where a UNIT is due: 2 due again, 1 behind it -/
def uA (B : Nat → Nat) (n : Nat) (s : s4_X) (e : e5_X) : s4_X × e5_X × Nat := if knF B n s.2.1 = 40 ∨ knF B n s.2.1 = 91 then (pfA (decide (6 ≤ e.2.2.1)) s, opE (knF B n s.2.1) e, 2) else if 128 ≤ knF B n s.2.1 ∧ knF B n s.2.1 < 140 then (stA true s, wrE (-(nI (knF B n s.2.1))) e, 1) else (inA B n 9999 s, wrE (nI (ivA B n s)) e, 1)
/-- one step behind a UNIT: 0 the E ends -/
def gA (B : Nat → Nat) (n : Nat) (s : s4_X) (e : e5_X) : s4_X × e5_X × Nat := if knF B n s.2.1 = 42 then (stA true s, hoE 42 (ppE 42 42 e), 2) else if knF B n s.2.1 = 43 ∨ knF B n s.2.1 = 45 then (stA true s, hoE (knF B n s.2.1) (p2E e), 2) else if (p2E e).2.2.1 = 0 then (s, p2E e, 0) else if (p2E e).1 ((p2E e).2.1 - 1) = 91 then (paA B n (if knF B n s.2.1 = 4 then 4 else 60) s, cmE (knF B n s.2.1) (p2E e), 2) else (paA B n (if (p2E e).1 ((p2E e).2.1 - 1) = 40 then 41 else 93) s, clE (p2E e), 1)
def stE (B : Nat → Nat) (n : Nat) (due : Bool) (s : s4_X) (e : e5_X) : s4_X × e5_X × Nat := if due then uA B n s e else gA B n s e
def exL (B : Nat → Nat) (n : Nat) : Nat → Bool → s4_X → e5_X → s4_X × e5_X
  | 0, _, s, e => (s, e)
  | r + 1, due, s, e => if s.1 = 0 then (if (stE B n due s e).2.2 = 0 then ((stE B n due s e).1, (stE B n due s e).2.1) else exL B n r (decide ((stE B n due s e).2.2 = 2)) (stE B n due s e).1 (stE B n due s e).2.1) else (s, e)
/-- how what waits is nested: o brackets, t = 0 nothing, 1 a + or -, 2 a * waits in the innermost -/
def okW (W : Nat → Nat) : Nat → Nat → Nat → Prop
  | 0, o, t => o = 0 ∧ t = 0
  | w + 1, o, t => ((W w = 40 ∨ W w = 91 ∨ W w = 60 ∨ W w = 4) ∧ t = 0 ∧ ∃ o' t', o = o' + 1 ∧ t' ≤ 2 ∧ okW W w o' t') ∨ ((W w = 43 ∨ W w = 45) ∧ t = 1 ∧ okW W w o 0) ∨ (W w = 42 ∧ t = 2 ∧ ∃ t', t' ≤ 1 ∧ okW W w o t')
theorem okW_le {W : Nat → Nat} : ∀ w o t, okW W w o t → w ≤ 3 * o + t
  | 0, _, _, _ => Nat.zero_le _
  | w + 1, o, t, h => by
    rcases h with ⟨-, rfl, o', t', rfl, h2, h3⟩ | ⟨-, rfl, h3⟩ | ⟨-, rfl, t', h2, h3⟩
    · have := okW_le w o' t' h3; omega
    · have := okW_le w o 0 h3; omega
    · have := okW_le w o t' h3; omega
theorem okW_congr {W V : Nat → Nat} : ∀ w o t, (∀ i, i < w → V i = W i) → okW W w o t → okW V w o t
  | 0, _, _, _, h => h
  | w + 1, o, t, e, h => by
    unfold okW at h ⊢
    rw [e w (by omega)]
    have ih := fun o t => okW_congr (W := W) (V := V) w o t (fun i hi => e i (by omega))
    rcases h with ⟨h1, h2, o', t', h3, h4, h5⟩ | ⟨h1, h2, h3⟩ | ⟨h1, h2, t', h3, h4⟩
    · exact Or.inl ⟨h1, h2, o', t', h3, h4, ih _ _ h5⟩
    · exact Or.inr (Or.inl ⟨h1, h2, ih _ _ h3⟩)
    · exact Or.inr (Or.inr ⟨h1, h2, t', h3, ih _ _ h4⟩)
/-- how many of them join two -/
def opN (W : Nat → Nat) : Nat → Nat
  | 0 => 0
  | w + 1 => opN W w + (if W w = 40 ∨ W w = 91 then 0 else 1)
theorem opN_le (W : Nat → Nat) : ∀ w, opN W w ≤ w
  | 0 => Nat.le_refl _
  | w + 1 => by have := opN_le W w; rw [opN]; split <;> omega
theorem opN_congr {W V : Nat → Nat} : ∀ w, (∀ i, i < w → V i = W i) → opN V w = opN W w
  | 0, _ => rfl
  | w + 1, e => by rw [opN, opN, opN_congr w (fun i hi => e i (by omega)), e w (by omega)]
theorem rpd_congr {c c' : Nat → Int32} {a : Nat} : ∀ n, (∀ j, j < n → c' (a + j) = c (a + j)) → rp_dep c' a n = rp_dep c a n
  | 0, _ => rfl
  | n + 1, e => by rw [rp_dep, rp_dep, rpd_congr n (fun j hj => e j (by omega)), e n (by omega)]
theorem rpd_up {c : Nat → Int32} {a n D : Nat} {x : Int32} (h : rp_dep c a n = some D) (hx : 0 ≤ x ∨ x ≤ -128) (hD : D < 24) : rp_dep (upd c (a + n) x) a (n + 1) = some (D + 1) := by
  have e : rp_dep (upd c (a + n) x) a n = some D := by rw [← h]; exact rpd_congr n (fun j hj => by unfold upd; rw [if_neg (by omega)])
  have u : upd c (a + n) x (a + n) = x := by simp [upd]
  simp only [rp_dep, e, u, if_pos hx, if_pos hD]
theorem rpd_dn {c : Nat → Int32} {a n D k : Nat} (h : rp_dep c a n = some (D + 1)) (hk : k = 42 ∨ k = 43 ∨ k = 45 ∨ k = 60 ∨ k = 4) (hD : 1 ≤ D) : rp_dep (upd c (a + n) (-(nI k))) a (n + 1) = some D := by
  have e : rp_dep (upd c (a + n) (-(nI k))) a n = some (D + 1) := by rw [← h]; exact rpd_congr n (fun j hj => by unfold upd; rw [if_neg (by omega)])
  have hx : ¬ (0 ≤ -(nI k) ∨ -(nI k) ≤ -128) := by rcases hk with rfl | rfl | rfl | rfl | rfl <;> decide
  have u : upd c (a + n) (-(nI k)) (a + n) = -(nI k) := by simp [upd]
  simp only [rp_dep, e, u, if_neg hx, if_pos (show 2 ≤ D + 1 by omega)]
  rfl
/-- what holds while there is no FAULT: D = 0 where a UNIT is due, 1 behind one; m TOKENS are gone over -/
def gE (a m : Nat) (e : e5_X) (t D : Nat) : Prop := okW e.1 e.2.1 e.2.2.1 t ∧ t ≤ 2 ∧ (∀ i, e.1 i < 256) ∧ e.2.2.1 ≤ 6 ∧ e.2.2.2.2 + e.2.1 + 3 ≤ m ∧ a ≤ e.2.2.2.2 ∧ rp_dep e.2.2.2.1 a (e.2.2.2.2 - a) = some (opN e.1 e.2.1 + D)
theorem gE.w20 {a m t D : Nat} {e : e5_X} (H : gE a m e t D) : e.2.1 ≤ 20 := by
  have := okW_le _ _ _ H.1
  have h2 := H.2.1
  have h3 := H.2.2.2.1
  omega
theorem gE.mono {a m m' t D : Nat} {e : e5_X} (H : gE a m e t D) (h : m ≤ m') : gE a m' e t D := ⟨H.1, H.2.1, H.2.2.1, H.2.2.2.1, by have := H.2.2.2.2.1; omega, H.2.2.2.2.2⟩
theorem gE_unit {a m t : Nat} {e : e5_X} {x : Int32} (H : gE a m e t 0) (hx : 0 ≤ x ∨ x ≤ -128) : gE a (m + 1) (wrE x e) t 1 := by
  obtain ⟨h1, h2, h3, h4, h5, h6, h7⟩ := id H
  have hw := H.w20
  have ho := opN_le e.1 e.2.1
  refine ⟨h1, h2, h3, h4, ?_, ?_, ?_⟩
  · show e.2.2.2.2 + 1 + e.2.1 + 3 ≤ m + 1; omega
  · show a ≤ e.2.2.2.2 + 1; omega
  · have q := rpd_up h7 hx (by omega)
    show rp_dep (upd e.2.2.2.1 e.2.2.2.2 x) a (e.2.2.2.2 + 1 - a) = some (opN e.1 e.2.1 + 1)
    rw [show e.2.2.2.2 + 1 - a = e.2.2.2.2 - a + 1 by omega]
    rwa [show a + (e.2.2.2.2 - a) = e.2.2.2.2 by omega] at q
theorem updN_ne {W : Nat → Nat} {w k : Nat} : ∀ i, i < w → updN W w k i = W i := fun i hi => by unfold updN; rw [if_neg (by omega)]
theorem updN_eq {W : Nat → Nat} {w k : Nat} : updN W w k w = k := by simp [updN]
theorem updN_256 {W : Nat → Nat} {w k : Nat} (h : ∀ i, W i < 256) (hk : k < 256) : ∀ i, updN W w k i < 256 := fun i => by
  unfold updN; split
  · exact hk
  · exact h i
theorem gE_open {a m t k : Nat} {e : e5_X} (H : gE a m e t 0) (hk : k = 40 ∨ k = 91) (ho : e.2.2.1 < 6) : gE a (m + 1) (opE k e) 0 0 := by
  obtain ⟨h1, h2, h3, h4, h5, h6, h7⟩ := id H
  refine ⟨Or.inl ⟨?_, rfl, e.2.2.1, t, rfl, h2, okW_congr _ _ _ updN_ne h1⟩, by decide, updN_256 h3 (by omega), ?_, ?_, h6, ?_⟩
  · have e1 : (opE k e).1 e.2.1 = k := updN_eq
    rw [e1]; rcases hk with z | z
    · exact Or.inl z
    · exact Or.inr (Or.inl z)
  · show e.2.2.1 + 1 ≤ 6; omega
  · show e.2.2.2.2 + (e.2.1 + 1) + 3 ≤ m + 1; omega
  · show rp_dep e.2.2.2.1 a (e.2.2.2.2 - a) = some (opN (updN e.1 e.2.1 k) (e.2.1 + 1) + 0)
    rw [h7, opN, updN_eq, if_pos hk, opN_congr (W := e.1) _ updN_ne]
theorem gE_hold {a m t k t' : Nat} {e : e5_X} (H : gE a m e t 1) (hk : (k = 42 ∧ t ≤ 1 ∧ t' = 2) ∨ ((k = 43 ∨ k = 45) ∧ t = 0 ∧ t' = 1)) : gE a (m + 1) (hoE k e) t' 0 := by
  obtain ⟨h1, h2, h3, h4, h5, h6, h7⟩ := id H
  refine ⟨?_, by omega, updN_256 h3 (by omega), h4, ?_, h6, ?_⟩
  · rcases hk with ⟨rfl, b, rfl⟩ | ⟨b, rfl, rfl⟩
    · exact Or.inr (Or.inr ⟨updN_eq, rfl, t, b, okW_congr _ _ _ updN_ne h1⟩)
    · exact Or.inr (Or.inl ⟨by rw [show (hoE k e).1 e.2.1 = k from updN_eq]; exact b, rfl, okW_congr _ _ _ updN_ne h1⟩)
  · show e.2.2.2.2 + (e.2.1 + 1) + 3 ≤ m + 1; omega
  · show rp_dep e.2.2.2.1 a (e.2.2.2.2 - a) = some (opN (updN e.1 e.2.1 k) (e.2.1 + 1) + 0)
    rw [h7, opN, updN_eq, if_neg (by omega), opN_congr (W := e.1) _ updN_ne]
theorem gE_pop {a m t t' : Nat} {e : e5_X} (H : gE a m e t 1) (hw : 0 < e.2.1) (hk : e.1 (e.2.1 - 1) = 42 ∨ e.1 (e.2.1 - 1) = 43 ∨ e.1 (e.2.1 - 1) = 45 ∨ e.1 (e.2.1 - 1) = 60 ∨ e.1 (e.2.1 - 1) = 4) (o : Nat) (hoo : o ≤ e.2.2.1) (ht : t' ≤ 2) (hok : okW e.1 (e.2.1 - 1) o t') : gE a m (e.1, e.2.1 - 1, o, upd e.2.2.2.1 e.2.2.2.2 (-(nI (e.1 (e.2.1 - 1)))), e.2.2.2.2 + 1) t' 1 := by
  obtain ⟨h1, h2, h3, h4, h5, h6, h7⟩ := id H
  refine ⟨hok, ht, h3, ?_, ?_, ?_, ?_⟩
  · show o ≤ 6; omega
  · show e.2.2.2.2 + 1 + (e.2.1 - 1) + 3 ≤ m; omega
  · show a ≤ e.2.2.2.2 + 1; omega
  · have eo : opN e.1 e.2.1 = opN e.1 (e.2.1 - 1) + 1 := by
      obtain ⟨w, rfl'⟩ : ∃ w, e.2.1 = w + 1 := ⟨e.2.1 - 1, by omega⟩
      rw [rfl', opN, Nat.add_sub_cancel]
      rw [rfl', Nat.add_sub_cancel] at hk
      rw [if_neg (by omega)]
    rw [eo] at h7
    have q := rpd_dn h7 hk (by omega)
    show rp_dep (upd e.2.2.2.1 e.2.2.2.2 (-(nI (e.1 (e.2.1 - 1))))) a (e.2.2.2.2 + 1 - a) = some (opN e.1 (e.2.1 - 1) + 1)
    rw [show e.2.2.2.2 + 1 - a = e.2.2.2.2 - a + 1 by omega]
    rwa [show a + (e.2.2.2.2 - a) = e.2.2.2.2 by omega] at q
/-- the top of what waits -/
theorem okW_top {W : Nat → Nat} {w o t : Nat} (h : okW W w o t) : (w = 0 ∧ o = 0 ∧ t = 0) ∨ (0 < w ∧ (W (w - 1) = 40 ∨ W (w - 1) = 91 ∨ W (w - 1) = 60 ∨ W (w - 1) = 4) ∧ t = 0 ∧ ∃ o' t', o = o' + 1 ∧ t' ≤ 2 ∧ okW W (w - 1) o' t') ∨ (0 < w ∧ (W (w - 1) = 43 ∨ W (w - 1) = 45) ∧ t = 1 ∧ okW W (w - 1) o 0) ∨ (0 < w ∧ W (w - 1) = 42 ∧ t = 2 ∧ ∃ t', t' ≤ 1 ∧ okW W (w - 1) o t') := by
  cases w with
  | zero => exact Or.inl ⟨rfl, h.1, h.2⟩
  | succ w =>
    rw [Nat.add_sub_cancel]
    rcases h with ⟨h1, h2, h3⟩ | ⟨h1, h2, h3⟩ | ⟨h1, h2, h3⟩
    · exact Or.inr (Or.inl ⟨by omega, h1, h2, h3⟩)
    · exact Or.inr (Or.inr (Or.inl ⟨by omega, h1, h2, h3⟩))
    · exact Or.inr (Or.inr (Or.inr ⟨by omega, h1, h2, h3⟩))
theorem gE_pp1 {a m t : Nat} {e : e5_X} (H : gE a m e t 1) : ∃ t', t' ≤ 1 ∧ gE a m (ppE 42 42 e) t' 1 := by
  obtain ⟨h1, h2, h3, h4, h5, h6, h7⟩ := id H
  unfold ppE
  rcases okW_top h1 with ⟨z, -, rfl⟩ | ⟨z, b, rfl, -⟩ | ⟨z, b, rfl, -⟩ | ⟨z, b, rfl, t', c, q⟩
  · rw [if_neg (by omega)]; exact ⟨0, by omega, H⟩
  · rw [if_neg (by omega)]; exact ⟨0, by omega, H⟩
  · rw [if_neg (by omega)]; exact ⟨1, by omega, H⟩
  · rw [if_pos ⟨z, Or.inl b⟩]
    exact ⟨t', c, gE_pop H z (Or.inl b) e.2.2.1 (Nat.le_refl _) (by omega) q⟩
theorem gE_pp2 {a m t : Nat} {e : e5_X} (H : gE a m e t 1) (ht : t ≤ 1) : gE a m (ppE 43 45 e) 0 1 := by
  obtain ⟨h1, h2, h3, h4, h5, h6, h7⟩ := id H
  unfold ppE
  rcases okW_top h1 with ⟨z, -, rfl⟩ | ⟨z, b, rfl, -⟩ | ⟨z, b, rfl, q⟩ | ⟨z, b, rfl, t', c, q⟩
  · rw [if_neg (by omega)]; exact H
  · rw [if_neg (by omega)]; exact H
  · rw [if_pos ⟨z, b⟩]
    exact gE_pop H z (Or.inr (by omega)) e.2.2.1 (Nat.le_refl _) (by omega) q
  · omega
theorem gE_cmp {a m k : Nat} {e : e5_X} (H : gE a m e 0 1) (hb : e.1 (e.2.1 - 1) = 91) (hw : 0 < e.2.1) (hk : k = 60 ∨ k = 4) : gE a (m + 1) (cmE k e) 0 0 := by
  obtain ⟨h1, h2, h3, h4, h5, h6, h7⟩ := id H
  rcases okW_top h1 with ⟨z, -, -⟩ | ⟨z, b, -, o', t', c1, c2, q⟩ | ⟨z, b, c, -⟩ | ⟨z, b, c, -⟩
  · omega
  · obtain ⟨w, rfl'⟩ : ∃ w, e.2.1 = w + 1 := ⟨e.2.1 - 1, by omega⟩
    unfold cmE gE
    rw [rfl', Nat.add_sub_cancel] at hb q
    rw [rfl'] at h7 h5
    show okW (updN e.1 (e.2.1 - 1) k) e.2.1 e.2.2.1 0 ∧ _ ≤ 2 ∧ (∀ i, updN e.1 (e.2.1 - 1) k i < 256) ∧ e.2.2.1 ≤ 6 ∧ e.2.2.2.2 + e.2.1 + 3 ≤ m + 1 ∧ a ≤ e.2.2.2.2 ∧ rp_dep e.2.2.2.1 a (e.2.2.2.2 - a) = some (opN (updN e.1 (e.2.1 - 1) k) e.2.1 + 0)
    rw [rfl', Nat.add_sub_cancel]
    refine ⟨Or.inl ⟨by rw [updN_eq]; omega, rfl, o', t', c1, c2, okW_congr _ _ _ updN_ne q⟩, by decide, updN_256 h3 (by omega), h4, by omega, h6, ?_⟩
    rw [h7, opN, opN, updN_eq, if_pos (Or.inr hb), if_neg (by omega), opN_congr (W := e.1) _ updN_ne]
  · omega
  · omega
theorem gE_close {a m : Nat} {e : e5_X} (H : gE a m e 0 1) (hb : e.1 (e.2.1 - 1) ≠ 91) (ho : e.2.2.1 ≠ 0) : ∃ t, gE a (m + 1) (clE e) t 1 := by
  obtain ⟨h1, h2, h3, h4, h5, h6, h7⟩ := id H
  rcases okW_top h1 with ⟨z, c, -⟩ | ⟨z, b, -, o', t', c1, c2, q⟩ | ⟨z, b, c, -⟩ | ⟨z, b, c, -⟩
  · omega
  · refine ⟨t', ?_⟩
    unfold clE
    have eo : e.2.2.1 - 1 = o' := by omega
    rw [eo]
    by_cases k : e.1 (e.2.1 - 1) = 40
    · rw [if_pos k]
      obtain ⟨w, rfl'⟩ : ∃ w, e.2.1 = w + 1 := ⟨e.2.1 - 1, by omega⟩
      rw [rfl', Nat.add_sub_cancel] at q k ⊢
      rw [rfl'] at h7 h5
      refine ⟨q, c2, h3, ?_, ?_, h6, ?_⟩
      · show o' ≤ 6; omega
      · show e.2.2.2.2 + w + 3 ≤ m + 1; omega
      · show rp_dep e.2.2.2.1 a (e.2.2.2.2 - a) = some (opN e.1 w + 1)
        rw [h7, opN, if_pos (Or.inl k)]
    · rw [if_neg k]
      exact (gE_pop H z (by omega) o' (by omega) c2 q).mono (by omega)
  · omega
  · omega
theorem iv_lt (B : Nat → Nat) (n : Nat) (s : s4_X) : ivA B n s < 10000 := by
  unfold ivA
  split
  · next h => exact vl_lt (of_decide_eq_true (st_al h.2).2.1)
  · omega
theorem va_128 : ∀ k, k < 12 → -(nI (128 + k)) ≤ -128 := by decide
theorem pp_C {a b j : Nat} {e : e5_X} (h : j < e.2.2.2.2) : (ppE a b e).2.2.2.1 j = e.2.2.2.1 j ∧ j < (ppE a b e).2.2.2.2 := by
  unfold ppE
  split
  · exact ⟨by simp only [upd]; rw [if_neg (by omega)], Nat.lt_succ_of_lt h⟩
  · exact ⟨rfl, h⟩
theorem p2_C {j : Nat} {e : e5_X} (h : j < e.2.2.2.2) : (p2E e).2.2.2.1 j = e.2.2.2.1 j ∧ j < (p2E e).2.2.2.2 := by
  have q := pp_C (a := 42) (b := 42) h
  have q2 := pp_C (a := 43) (b := 45) q.2
  exact ⟨q2.1.trans q.1, q2.2⟩
theorem cl_C {j : Nat} {e : e5_X} (h : j < e.2.2.2.2) : (clE e).2.2.2.1 j = e.2.2.2.1 j := by
  unfold clE
  split
  · rfl
  · simp only [upd]; rw [if_neg (by omega)]
theorem wr_C {j : Nat} {x : Int32} {e : e5_X} (h : j < e.2.2.2.2) : (wrE x e).2.2.2.1 j = e.2.2.2.1 j := by
  unfold wrE
  simp only [upd]; rw [if_neg (by omega)]
theorem uA_ok {B : Nat → Nat} {n a t : Nat} {s : s4_X} {e : e5_X} (hs : s.1 = 0) (H : gE a s.2.1 e t 0) (z : (uA B n s e).1.1 = 0) : (∃ t', gE a (uA B n s e).1.2.1 (uA B n s e).2.1 t' (if (uA B n s e).2.2 = 2 then 0 else 1)) ∧ (uA B n s e).1.2.1 = s.2.1 + 1 ∧ (uA B n s e).2.2 ≠ 0 ∧ ∀ j, j < a → (uA B n s e).2.1.2.2.2.1 j = e.2.2.2.1 j := by
  have ha := H.2.2.2.2.2.1
  unfold uA at z ⊢
  by_cases k : knF B n s.2.1 = 40 ∨ knF B n s.2.1 = 91
  · rw [if_pos k] at z ⊢
    by_cases o : 6 ≤ e.2.2.1
    · rw [pf_full (decide_eq_true o) hs] at z; exact absurd (show (2 : Nat) = 0 from z) (by decide)
    · rw [pf_no (decide_eq_false o)] at z ⊢
      obtain ⟨-, -, -, z4⟩ := st_al z
      refine ⟨⟨0, ?_⟩, ?_, Nat.succ_ne_zero 1, fun j hj => rfl⟩
      · show gE a (stA true s).2.1 _ 0 0
        rw [z4]; exact gE_open H k (by omega)
      · show (stA true s).2.1 = _; rw [z4]
  rw [if_neg k] at z ⊢
  by_cases v : 128 ≤ knF B n s.2.1 ∧ knF B n s.2.1 < 140
  · rw [if_pos v] at z ⊢
    obtain ⟨-, -, -, z4⟩ := st_al z
    have q := va_128 (knF B n s.2.1 - 128) (by omega)
    rw [show 128 + (knF B n s.2.1 - 128) = knF B n s.2.1 by omega] at q
    refine ⟨⟨t, ?_⟩, ?_, Nat.succ_ne_zero 0, fun j hj => wr_C (by omega)⟩
    · show gE a (stA true s).2.1 _ t 1
      rw [z4]; exact gE_unit H (Or.inr q)
    · show (stA true s).2.1 = _; rw [z4]
  · rw [if_neg v] at z ⊢
    have z1 : (inA B n 9999 s).2.1 = s.2.1 + 1 := by
      unfold inA at z ⊢
      rw [la_1.1] at z
      rw [la_1.2]
      obtain ⟨-, -, -, z4⟩ := st_al (show (stA (decide (knF B n s.2.1 = 3)) s).1 = 0 from z)
      show (stA (decide (knF B n s.2.1 = 3)) s).2.1 = _
      rw [z4]
    refine ⟨⟨t, ?_⟩, z1, Nat.succ_ne_zero 0, fun j hj => wr_C (by omega)⟩
    show gE a (inA B n 9999 s).2.1 _ t 1
    rw [z1]; exact gE_unit H (Or.inl (nI_pos' (by have := iv_lt B n s; omega)))
theorem gA_ok {B : Nat → Nat} {n a t : Nat} {s : s4_X} {e : e5_X} (H : gE a s.2.1 e t 1) (z : (gA B n s e).1.1 = 0) : (∃ t', gE a (gA B n s e).1.2.1 (gA B n s e).2.1 t' (if (gA B n s e).2.2 = 2 then 0 else 1)) ∧ ((gA B n s e).2.2 ≠ 0 → (gA B n s e).1.2.1 = s.2.1 + 1) ∧ ((gA B n s e).2.2 = 0 → (gA B n s e).2.1.2.1 = 0 ∧ (gA B n s e).2.1.2.2.1 = 0 ∧ (gA B n s e).1 = s) ∧ ∀ j, j < a → (gA B n s e).2.1.2.2.2.1 j = e.2.2.2.1 j := by
  have ha := H.2.2.2.2.2.1
  obtain ⟨t1, ht1, H1⟩ := gE_pp1 H
  have H2 : gE a s.2.1 (p2E e) 0 1 := gE_pp2 H1 ht1
  unfold gA at z ⊢
  by_cases k : knF B n s.2.1 = 42
  · rw [if_pos k] at z ⊢
    obtain ⟨-, -, -, z4⟩ := st_al z
    refine ⟨⟨2, ?_⟩, fun _ => ?_, fun q => absurd q (Nat.succ_ne_zero _), fun j hj => (pp_C (by omega)).1⟩
    · show gE a (stA true s).2.1 _ 2 0
      rw [z4]; exact gE_hold H1 (Or.inl ⟨rfl, ht1, rfl⟩)
    · show (stA true s).2.1 = _; rw [z4]
  rw [if_neg k] at z ⊢
  by_cases v : knF B n s.2.1 = 43 ∨ knF B n s.2.1 = 45
  · rw [if_pos v] at z ⊢
    obtain ⟨-, -, -, z4⟩ := st_al z
    refine ⟨⟨1, ?_⟩, fun _ => ?_, fun q => absurd q (Nat.succ_ne_zero _), fun j hj => (p2_C (by omega)).1⟩
    · show gE a (stA true s).2.1 _ 1 0
      rw [z4]; exact gE_hold H2 (Or.inr ⟨v, rfl, rfl⟩)
    · show (stA true s).2.1 = _; rw [z4]
  rw [if_neg v] at z ⊢
  by_cases o : (p2E e).2.2.1 = 0
  · rw [if_pos o] at z ⊢
    refine ⟨⟨0, H2⟩, fun q => absurd rfl q, fun _ => ⟨?_, o, rfl⟩, fun j hj => (p2_C (by omega)).1⟩
    have := okW_le _ _ _ H2.1
    show (p2E e).2.1 = 0
    omega
  rw [if_neg o] at z ⊢
  have hw : 0 < (p2E e).2.1 := by
    rcases okW_top H2.1 with ⟨-, c, -⟩ | ⟨c, -⟩ | ⟨c, -⟩ | ⟨c, -⟩
    · exact absurd c o
    all_goals exact c
  by_cases b : (p2E e).1 ((p2E e).2.1 - 1) = 91
  · rw [if_pos b] at z ⊢
    obtain ⟨z1, z2, -, z4⟩ := st_al z
    have kk : knF B n s.2.1 = 60 ∨ knF B n s.2.1 = 4 := by
      have := of_decide_eq_true z2
      by_cases c : knF B n s.2.1 = 4
      · exact Or.inr c
      · rw [if_neg c] at this; exact Or.inl this
    refine ⟨⟨0, ?_⟩, fun _ => ?_, fun q => absurd q (Nat.succ_ne_zero _), fun j hj => (p2_C (by omega)).1⟩
    · show gE a (stA _ s).2.1 _ 0 0
      rw [z4]; exact gE_cmp H2 b hw kk
    · show (stA _ s).2.1 = _; rw [z4]
  · rw [if_neg b] at z ⊢
    obtain ⟨z1, z2, -, z4⟩ := st_al z
    obtain ⟨t', q⟩ := gE_close H2 b o
    refine ⟨⟨t', ?_⟩, fun _ => ?_, fun q => absurd q (Nat.succ_ne_zero _), fun j hj => (cl_C (p2_C (by omega)).2).trans (p2_C (by omega)).1⟩
    · show gE a (stA _ s).2.1 _ t' 1
      rw [z4]; exact q
    · show (stA _ s).2.1 = _; rw [z4]
theorem exL_ok {B : Nat → Nat} {n a : Nat} : ∀ r due s e t, (s.1 = 0 → s.2.1 ≤ 400 ∧ 401 ≤ r + s.2.1 ∧ gE a s.2.1 e t (if due = true then 0 else 1)) → (exL B n r due s e).1.1 = 0 → (rp_dep (exL B n r due s e).2.2.2.2.1 a ((exL B n r due s e).2.2.2.2.2 - a) = some 1 ∧ (exL B n r due s e).2.2.2.2.2 + 3 ≤ (exL B n r due s e).1.2.1 ∧ a ≤ (exL B n r due s e).2.2.2.2.2 ∧ (exL B n r due s e).2.2.2.1 = 0) ∧ ∀ j, j < a → (exL B n r due s e).2.2.2.2.1 j = e.2.2.2.1 j
  | 0, due, s, e, t, h, z => by
    rw [exL] at z
    have := h z
    omega
  | r + 1, due, s, e, t, h, z => by
    rw [exL] at z ⊢
    by_cases hs : s.1 = 0
    · rw [if_pos hs] at z ⊢
      obtain ⟨h1, h2, h3⟩ := h hs
      have key : (stE B n due s e).1.1 = 0 → (∃ t', gE a (stE B n due s e).1.2.1 (stE B n due s e).2.1 t' (if (stE B n due s e).2.2 = 2 then 0 else 1)) ∧ ((stE B n due s e).2.2 ≠ 0 → (stE B n due s e).1.2.1 = s.2.1 + 1) ∧ ((stE B n due s e).2.2 = 0 → (stE B n due s e).2.1.2.1 = 0 ∧ (stE B n due s e).2.1.2.2.1 = 0 ∧ (stE B n due s e).1 = s) ∧ (∀ j, j < a → (stE B n due s e).2.1.2.2.2.1 j = e.2.2.2.1 j) := by
        intro y
        unfold stE at y ⊢
        cases due with
        | true =>
          rw [if_pos rfl] at y ⊢
          obtain ⟨q1, q2, q3, q4⟩ := uA_ok hs h3 y
          exact ⟨q1, fun _ => q2, fun c => absurd c q3, q4⟩
        | false =>
          rw [if_neg (by decide)] at y ⊢
          exact gA_ok h3 y
      by_cases c : (stE B n due s e).2.2 = 0
      · rw [if_pos c] at z ⊢
        obtain ⟨⟨t', q1⟩, -, q3, q4⟩ := key z
        obtain ⟨w0, o0, es⟩ := q3 c
        rw [c, if_neg (by decide)] at q1
        obtain ⟨g1, g2, g3, g4, g5, g6, g7⟩ := q1
        rw [w0] at g7
        exact ⟨⟨g7, by show (stE B n due s e).2.1.2.2.2.2 + 3 ≤ (stE B n due s e).1.2.1; omega, g6, o0⟩, q4⟩
      · rw [if_neg c] at z ⊢
        by_cases y : (stE B n due s e).1.1 = 0
        · obtain ⟨⟨t', q1⟩, q2, -, q4⟩ := key y
          have e1 := q2 c
          have te : (stE B n due s e).1.2.1 ≤ 400 := by
            unfold stE at y e1 ⊢
            cases due with
            | true =>
              rw [if_pos rfl] at y e1 ⊢
              have : s.2.1 < 400 := by
                unfold uA at y
                split at y
                · unfold pfA at y
                  split at y
                  · exact absurd (show (2 : Nat) = 0 from y) (by decide)
                  · exact (st_al y).2.2.1
                · split at y
                  · exact (st_al y).2.2.1
                  · unfold inA at y
                    rw [la_1.1] at y
                    exact (st_al y).2.2.1
              omega
            | false =>
              rw [if_neg (by decide)] at y e1 ⊢
              have : s.2.1 < 400 ∨ s.2.1 + 1 = s.2.1 := by
                unfold gA at y e1
                split at y
                · exact Or.inl (st_al y).2.2.1
                · next k1 =>
                  rw [if_neg k1] at e1
                  split at y
                  · exact Or.inl (st_al y).2.2.1
                  · next k2 =>
                    rw [if_neg k2] at e1
                    split at y
                    · next k3 => rw [if_pos k3] at e1; exact Or.inr e1.symm
                    · split at y
                      · exact Or.inl (st_al y).2.2.1
                      · exact Or.inl (st_al y).2.2.1
              omega
          obtain ⟨f1, f2⟩ := exL_ok r _ _ _ t' (fun _ => ⟨te, by omega, by simpa using q1⟩) z
          exact ⟨f1, fun j hj => (f2 j hj).trans (q4 j hj)⟩
        · have e0 : exL B n r (decide ((stE B n due s e).2.2 = 2)) (stE B n due s e).1 (stE B n due s e).2.1 = ((stE B n due s e).1, (stE B n due s e).2.1) := by
            cases r with
            | zero => rfl
            | succ r => rw [exL, if_neg y]
          rw [e0] at z; exact absurd z y
    · rw [if_neg hs] at z; exact absurd z hs
