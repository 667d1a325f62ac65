/-! RUN -/
def cl100 (v : Int32) : Int32 := if 0 < (if v < 100 then v else 100) then (if v < 100 then v else 100) else 0
theorem cl_ref (v : Int32) : (if 0 ≤ v then (if v ≤ 100 then v else 100) else 0) = cl100 v := by
  unfold cl100
  by_cases h0 : 0 ≤ v
  · rw [if_pos h0]
    by_cases h1 : v < 100
    · rw [if_pos h1, if_pos (Int32.le_of_lt h1)]
      by_cases h2 : 0 < v
      · rw [if_pos h2]
      · rw [if_neg h2]; exact Int32.le_antisymm (Int32.not_lt.mp h2) h0
    · rw [if_neg h1, if_pos (show (0 : Int32) < 100 by decide)]
      by_cases h2 : v ≤ 100
      · rw [if_pos h2]; exact Int32.le_antisymm h2 (Int32.not_lt.mp h1)
      · rw [if_neg h2]
  · have h1 : v < 0 := Int32.not_le.mp h0
    have h2 : v < 100 := Int32.lt_trans h1 (by decide)
    rw [if_neg h0, if_pos h2, if_neg (Int32.not_lt.mpr (Int32.le_of_lt h1))]
theorem cl_nI (v : Int32) : ∃ k, k ≤ 100 ∧ cl100 v = nI k := by
  rw [← cl_ref]
  by_cases h0 : 0 ≤ v
  · rw [if_pos h0]
    by_cases h1 : v ≤ 100
    · rw [if_pos h1]; exact nI_of2 (n := 100) (M := 100) rfl (Int32.not_lt.mpr h0) h1
    · rw [if_neg h1]; exact ⟨100, Nat.le_refl _, rfl⟩
  · rw [if_neg h0]; exact ⟨0, by decide, rfl⟩
abbrev rn_X : Type := (Nat → Int32) × Nat
/-- what a PERSON says becomes FACTS -/
def an_X (I : st_I) (q k i : Nat) (v o : Int32) (X : rn_X) : rn_X := if I 8 (10 * (12 * q + k) + 2) = 0 then (rw6 (rw6 X.1 X.2 0 (I 8 (10 * (12 * q + k))) (I 8 (10 * (12 * q + k) + 4 + i)) (cl100 v) (nI i) (I 8 (10 * (12 * q + k) + 2))) (X.2 + 1) 1 (I 8 (10 * (12 * q + k))) (I 8 (10 * (12 * q + k) + 4 + i)) o (-1) (-1), X.2 + 2) else (rw6 X.1 X.2 0 (I 8 (10 * (12 * q + k))) (I 8 (10 * (12 * q + k) + 4 + i)) (cl100 v) (nI i) (I 8 (10 * (12 * q + k) + 2)), X.2 + 1)
/-- FACTS a FIDDLE of a SITTING -/
def cmf (I : st_I) (q k : Nat) : Nat := if I 8 (10 * (12 * q + k) + 2) = 0 then 2 else 1
theorem an_n (I : st_I) (q k i : Nat) (v o : Int32) (X : rn_X) : (an_X I q k i v o X).2 = X.2 + cmf I q k := by
  unfold an_X cmf; split <;> rfl
theorem an_lt (I : st_I) (q k i : Nat) (v o : Int32) (X : rn_X) {j : Nat} (h : j < 6 * X.2) : (an_X I q k i v o X).1 j = X.1 j := by
  unfold an_X
  split
  · dsimp only; rw [rw6_lt (by omega), rw6_lt h]
  · dsimp only; rw [rw6_lt h]
def yes01 (v : Int32) : Int32 := if v ≤ 0 then 0 else 1
theorem yes_bo (v : Int32) : bo (yes01 v) := by unfold yes01 bo; split; exact Or.inl rfl; exact Or.inr rfl
def ro_X (I : st_I) (w g : Nat) (s : Int32) (q k : Nat) (X : rn_X) : Nat → rn_X
  | 0 => X
  | i + 1 => an_X I q k i (sy I w s q k i) (yes01 (sy I g s q k i)) (ro_X I w g s q k X i)
def rs_X (I : st_I) (w g : Nat) (s : Int32) (q : Nat) (X : rn_X) : Nat → rn_X
  | 0 => X
  | k + 1 => ro_X I w g s q k (rs_X I w g s q X k) (nord I q k)
/-- how many FACTS the first k SITTINGS bring -/
def tot (I : st_I) (q : Nat) : Nat → Nat
  | 0 => 0
  | k + 1 => tot I q k + nord I q k * cmf I q k
theorem ro_n (I : st_I) (w g : Nat) (s : Int32) (q k : Nat) (X : rn_X) : ∀ i, (ro_X I w g s q k X i).2 = X.2 + i * cmf I q k
  | 0 => by simp [ro_X]
  | i + 1 => by rw [ro_X, an_n, ro_n I w g s q k X i, Nat.succ_mul]; omega
theorem rs_n (I : st_I) (w g : Nat) (s : Int32) (q : Nat) (X : rn_X) : ∀ k, (rs_X I w g s q X k).2 = X.2 + tot I q k
  | 0 => by simp [rs_X, tot]
  | k + 1 => by rw [rs_X, ro_n, rs_n I w g s q X k, tot]; omega
theorem ro_lt (I : st_I) (w g : Nat) (s : Int32) (q k : Nat) (X : rn_X) {j : Nat} (h : j < 6 * X.2) : ∀ i, (ro_X I w g s q k X i).1 j = X.1 j
  | 0 => rfl
  | i + 1 => by rw [ro_X, an_lt _ _ _ _ _ _ _ (by rw [ro_n]; omega), ro_lt I w g s q k X h i]
theorem rs_lt (I : st_I) (w g : Nat) (s : Int32) (q : Nat) (X : rn_X) {j : Nat} (h : j < 6 * X.2) : ∀ k, (rs_X I w g s q X k).1 j = X.1 j
  | 0 => rfl
  | k + 1 => by rw [rs_X, ro_lt _ _ _ _ _ _ _ (by rw [rs_n]; omega), rs_lt I w g s q X h k]
theorem cmf_le (I : st_I) (q k : Nat) : cmf I q k ≤ 2 := by unfold cmf; split <;> decide
theorem nord_le {I : st_I} {lv np nf nb q k : Nat} (h : iv_sit I lv np nf nb q k) : nord I q k ≤ 6 ∧ I 8 (10 * (12 * q + k) + 3) = nI (nord I q k) ∧ I 87 (48 * lv + 12 * q + k) = nI (nord I q k) := by
  obtain ⟨pp, bb, mm, h1, h2, h3, h4, e1, m1, e2, m2, hbo, m3, e3, m4, ho⟩ := h
  have hm : nord I q k = mm := by rw [nord, e3, nI_clamp (by omega)]
  rw [hm]; exact ⟨h4, e3, m4⟩
theorem tot_le {I : st_I} {lv np nf nb q n : Nat} (h : ∀ k, k < n → iv_sit I lv np nf nb q k) : tot I q n ≤ 12 * n := by
  induction n with
  | zero => simp [tot]
  | succ n ih =>
    rw [tot]
    have h1 := ih (fun k hk => h k (by omega))
    have h2 := (nord_le (h n (by omega))).1
    have h3 := cmf_le I q n
    have : nord I q n * cmf I q n ≤ 6 * 2 := Nat.mul_le_mul h2 h3
    omega
theorem tot_mono (I : st_I) (q : Nat) {m n : Nat} (h : m ≤ n) : tot I q m ≤ tot I q n := by
  induction n with
  | zero => obtain rfl : m = 0 := by omega
            exact Nat.le_refl _
  | succ n ih =>
    by_cases e : m = n + 1
    · subst e; exact Nat.le_refl _
    · have := ih (by omega)
      rw [tot]; omega
/-- one sitting's FACTS -/
theorem cmf_eq {I : st_I} {lv np nf nb q k : Nat} (h : iv_sit I lv np nf nb q k) : (I 8 (10 * (12 * q + k) + 2) = 0 ∧ cmf I q k = 2) ∨ (I 8 (10 * (12 * q + k) + 2) = 1 ∧ cmf I q k = 1) := by
  obtain ⟨pp, bb, mm, h1, h2, h3, h4, e1, m1, e2, m2, hbo, m3, e3, m4, ho⟩ := h
  rcases hbo with z | z
  · exact Or.inl ⟨z, by unfold cmf; rw [if_pos z]⟩
  · exact Or.inr ⟨z, by unfold cmf; rw [if_neg (by rw [z]; decide)]⟩
theorem pX_factsOf {d lv nf np nb nl npl q : Nat} {I : st_I} {L : st_L} {F : Int32 → st_I → st_L → Prop} (H : iv_told I lv nf np nb nl npl) (hq : q < npl) (h : F (nI (tot I q (nsit I q))) I L) : EI (d + 4) mX8_factsOf [.ref 1, .int (nI q)] I L F := by
  have h4 := H.1.2.2.2.2.2.1
  obtain ⟨e1, e2, e3, e4⟩ := nsit_eq (H.2.2.2.2.2 q hq)
  have key : ∀ (r k : Nat), k + r = nsit I q → TI (d + 4) mX8_factsOf 4 [.ref 1, .int (nI q), .int (nI (tot I q k)), .int (nI k), .null] [] I L F := by
    intro r
    induction r with
    | zero =>
      intro k hk
      obtain rfl : k = nsit I q := by omega
      refine sgX8_factsOf_4 (x_sits_i H hq ?_)
      rw [if_pos (nI_le (Nat.le_refl _) (by omega))]
      exact h
    | succ r ih =>
      intro k hk
      have hs := e4 k (by omega)
      obtain ⟨n1, n2, n3⟩ := nord_le hs
      have hkq : k < nsit I q := by omega
      refine sgX8_factsOf_4 (x_sits_i H hq ?_)
      rw [if_neg (nI_ge (by omega) (by omega))]
      refine pX_sat (c := 3) H hq hkq (by decide) (pX_sat (c := 2) H hq hkq (by decide) ?_)
      have := ih (k + 1) (by omega)
      rw [tot] at this
      rw [n2, nI_1]
      rcases cmf_eq hs with ⟨z1, z2⟩ | ⟨z1, z2⟩
      · rw [z2] at this
        rw [z1, if_neg (by decide), show (2 : Int32) * nI (nord I q k) = nI (2 * nord I q k) from pk_mul 2 _, nI_add, Nat.mul_comm 2]; exact this
      · rw [z2, Nat.mul_one] at this
        rw [z1, if_pos rfl, nI_add]; exact this
  exact sgX8_factsOf_0 (key (nsit I q) 0 (by omega))
/-- the class while it runs -/
def xr (I J : st_I) : Prop := ∀ q, q ≠ 26 → q ≠ 27 → q ≠ 28 → q ≠ 29 → J q = I q
theorem xr.told {I J : st_I} (h : xr I J) {lv nf np nb nl npl : Nat} (H : iv_told I lv nf np nb nl npl) : iv_told J lv nf np nb nl npl := iv_told_congr (fun p hp => h p (by omega) (by omega) (by omega) (by omega)) (by rw [h 58 (by decide) (by decide) (by decide) (by decide)]) H
theorem xr.sit {I J : st_I} (h : xr I J) {lv np nf nb q k : Nat} (hs : iv_sit I lv np nf nb q k) : iv_sit J lv np nf nb q k := iv_sit_same (h 8 (by decide) (by decide) (by decide) (by decide)) (h 84 (by decide) (by decide) (by decide) (by decide)) (h 85 (by decide) (by decide) (by decide) (by decide)) (h 86 (by decide) (by decide) (by decide) (by decide)) (h 87 (by decide) (by decide) (by decide) (by decide)) (h 88 (by decide) (by decide) (by decide) (by decide)) hs
theorem xr.sy {I J : st_I} (h : xr I J) (w : Nat) (seed : Int32) (q k i : Nat) : sy J w seed q k i = sy I w seed q k i := sy_same (h 2 (by decide) (by decide) (by decide) (by decide)) (h 3 (by decide) (by decide) (by decide) (by decide)) (h 4 (by decide) (by decide) (by decide) (by decide)) (h 5 (by decide) (by decide) (by decide) (by decide)) (h 6 (by decide) (by decide) (by decide) (by decide)) (h 8 (by decide) (by decide) (by decide) (by decide)) w seed q k i
theorem xr.tr {I J K : st_I} (h : xr I J) (g : xr J K) : xr I K := fun q a b c e => (g q a b c e).trans (h q a b c e)
theorem xr_of {I J : st_I} (h : xs I J) : xr I J := fun q a b _ _ => h q a b
theorem xr.rf {I : st_I} : xr I I := fun _ _ _ _ _ => rfl
theorem xr.nsit' {I J : st_I} (h : xr I J) (q : Nat) : nsit J q = nsit I q := by rw [nsit, nsit, h 7 (by decide) (by decide) (by decide) (by decide)]
theorem pX_answer {d lv nf np nb nl npl q k i n : Nat} {I J : st_I} {L : st_L} {F : st_I → st_L → Prop} {v o : Int32} (HJ : iv_told J lv nf np nb nl npl) (hq : q < npl) (hk : k < nsit J q) (hi : i < 6) (h8 : J 8 = I 8) (ho : bo o) (h28 : J 28 0 = nI n) (hn : n + cmf I q k ≤ 80) (h : ∀ K : st_I, (∀ a, a ≠ 28 → a ≠ 29 → K a = J a) → K 28 0 = nI (an_X I q k i v o (J 29, n)).2 → K 29 = (an_X I q k i v o (J 29, n)).1 → F K L) : EV (d + 4) mX11_answer [.ref 0, .int (nI q), .int (nI k), .int (nI i), .int v, .int o] J L F := by
  refine sgX11_answer_0 (pX_sat (c := 0) HJ hq hk (by decide) ?_)
  rw [show (4 : Int32) + nI i = nI (4 + i) from nI_add 4 i]
  refine pX_sat HJ hq hk (by omega) (pX_sat (c := 2) HJ hq hk (by decide) ?_)
  have hc : 0 < cmf I q k := by unfold cmf; split <;> decide
  refine x_add h28 (by omega) (fun K x1 x2 x3 => ?_)
  rw [Nat.add_zero, ← Nat.add_assoc, h8] at x3
  rw [h8, Nat.add_zero, ← Nat.add_assoc, bo_if ho]
  by_cases z : I 8 (10 * (12 * q + k) + 2) = 0
  · have c2 : cmf I q k = 2 := by unfold cmf; rw [if_pos z]
    rw [if_pos z]
    refine x_add x2 (by omega) (fun K2 y1 y2 y3 => h K2 (fun a a1 a2 => by rw [y1 a a1 a2, x1 a a1 a2]) ?_ ?_)
    · rw [y2, an_X, if_pos z]
    · rw [y3, x3, an_X, if_pos z]; rfl
  · rw [if_neg z]
    refine h K x1 ?_ ?_
    · rw [x2, an_X, if_neg z]
    · rw [x3, an_X, if_neg z]; rfl
theorem pX_runIn {d lv nf np nb nl npl w g q k : Nat} {s c : Int32} {I : st_I} {L : st_L} {F : Int32 → st_I → st_L → Prop} (H : iv_told I lv nf np nb nl npl) (hw : w < nl) (hg : g < nl) (hq : q < npl) (hk : k < nsit I q) (X : rn_X) (hX : X.2 + nord I q k * cmf I q k ≤ 80)
    (h : ∀ J, xr I J → J 28 0 = nI (ro_X I w g s q k X (nord I q k)).2 → J 29 = (ro_X I w g s q k X (nord I q k)).1 → TI (d + 6) mX11_run 65 [.ref 0, .int (nI q), .int (nI w), .int (nI g), .int s, .int c, .int (nI (k + 1)), .null] [] J L F) :
    ∀ (r i : Nat) (J : st_I), i + r = nord I q k → xr I J → J 28 0 = nI (ro_X I w g s q k X i).2 → J 29 = (ro_X I w g s q k X i).1 → TI (d + 6) mX11_run 81 [.ref 0, .int (nI q), .int (nI w), .int (nI g), .int s, .int c, .int (nI k), .int (nI i)] [] J L F := by
  have h4 := H.1.2.2.2.2.2.1
  obtain ⟨e1, e2, e3, e4⟩ := nsit_eq (H.2.2.2.2.2 q hq)
  have hs := e4 k hk
  obtain ⟨n1, n2, n3⟩ := nord_le hs
  intro r
  induction r with
  | zero =>
    intro i J hi hJ x1 x2
    obtain rfl : i = nord I q k := by omega
    refine sgX11_run_81 (pX_sat (c := 3) (hJ.told H) hq (by rw [hJ.nsit']; exact hk) (by decide) ?_)
    rw [hJ 8 (by decide) (by decide) (by decide) (by decide), n2, if_pos (nI_le (Nat.le_refl _) (by omega)), nI_1]
    exact h J hJ x1 x2
  | succ r ih =>
    intro i J hi hJ x1 x2
    have hkJ : k < nsit J q := by rw [hJ.nsit']; exact hk
    refine sgX11_run_81 (pX_sat (c := 3) (hJ.told H) hq hkJ (by decide) ?_)
    rw [hJ 8 (by decide) (by decide) (by decide) (by decide), n2, if_neg (nI_ge (by omega) (by omega))]
    have HJ := hJ.told H
    have nJ : nord J q k = nord I q k := by rw [nord, nord, hJ 8 (by decide) (by decide) (by decide) (by decide)]
    refine pX_seat HJ hq hkJ (hJ.sit hs) (by rw [nJ]; omega) (fun J2 y2 _ hv => ?_)
    have HJ2 := y2.told HJ
    have hv2 : ∀ j, j < 12 → J2 26 j = sV J2 s q k i j := fun j hj => by rw [hv j hj, sV_same (y2 2 (by decide) (by decide)) (y2 3 (by decide) (by decide)) (y2 4 (by decide) (by decide)) (y2 8 (by decide) (by decide))]
    refine pX_say (seed := s) (q := q) (k := k) (i := i) HJ2 hw hv2 (fun J3 y3 z3 => ?_)
    have HJ3 := y3.told HJ2
    refine pX_say (seed := s) (q := q) (k := k) (i := i) HJ3 hg (fun j hj => by rw [z3, hv2 j hj, sV_same (y3 2 (by decide) (by decide)) (y3 3 (by decide) (by decide)) (y3 4 (by decide) (by decide)) (y3 8 (by decide) (by decide))]) (fun J4 y4 _ => ?_)
    have t2 := hJ.tr (xr_of y2)
    have t3 := t2.tr (xr_of y3)
    have t4 := t3.tr (xr_of y4)
    rw [t2.sy, t3.sy]
    have q28 : J4 28 = J 28 := by rw [y4 28 (by decide) (by decide), y3 28 (by decide) (by decide), y2 28 (by decide) (by decide)]
    have q29 : J4 29 = J 29 := by rw [y4 29 (by decide) (by decide), y3 29 (by decide) (by decide), y2 29 (by decide) (by decide)]
    have hle : (i + 1) * cmf I q k ≤ nord I q k * cmf I q k := Nat.mul_le_mul_right _ (by omega)
    rw [Nat.succ_mul] at hle
    refine pX_answer (I := I) (n := (ro_X I w g s q k X i).2) (t4.told H) hq (by rw [t4.nsit']; exact hk) (by omega) (t4 8 (by decide) (by decide) (by decide) (by decide)) (yes_bo _) (by rw [q28, x1]) (by rw [ro_n]; omega) (fun K a1 a2 a3 => ?_)
    rw [nI_1]
    refine ih (i + 1) K (by omega) (fun a b1 b2 b3 b4 => by rw [a1 a b3 b4, t4 a b1 b2 b3 b4]) ?_ ?_
    · rw [a2, ro_X, q29, x2]; rfl
    · rw [a3, ro_X, q29, x2]; rfl
theorem pX_run {d lv nf np nb nl npl nF w g q : Nat} {s c : Int32} {I : st_I} {L : st_L} {F : Int32 → st_I → st_L → Prop} (H : iv_told I lv nf np nb nl npl) (hw : w < nl) (hg : g < nl) (hq : q < npl) (h28 : I 28 0 = nI nF) (hX : nF + tot I q (nsit I q) ≤ 80)
    (h : ∀ J, xr I J → J 28 0 = nI (nF + tot I q (nsit I q)) → J 29 = (rs_X I w g s q (I 29, nF) (nsit I q)).1 → F c J L) :
    ∀ (r k : Nat) (J : st_I), k + r = nsit I q → xr I J → J 28 0 = nI (rs_X I w g s q (I 29, nF) k).2 → J 29 = (rs_X I w g s q (I 29, nF) k).1 → TI (d + 6) mX11_run 65 [.ref 0, .int (nI q), .int (nI w), .int (nI g), .int s, .int c, .int (nI k), .null] [] J L F := by
  have h4 := H.1.2.2.2.2.2.1
  obtain ⟨e1, e2, e3, e4⟩ := nsit_eq (H.2.2.2.2.2 q hq)
  intro r
  induction r with
  | zero =>
    intro k J hk hJ x1 x2
    obtain rfl : k = nsit I q := by omega
    refine sgX11_run_65 (x_sits_i (hJ.told H) hq ?_)
    rw [hJ.nsit', if_pos (nI_le (Nat.le_refl _) (by omega))]
    rw [rs_n] at x1
    exact h J hJ x1 x2
  | succ r ih =>
    intro k J hk hJ x1 x2
    refine sgX11_run_65 (x_sits_i (hJ.told H) hq ?_)
    rw [hJ.nsit', if_neg (nI_ge (by omega) (by omega))]
    have hle := tot_mono I q (show k + 1 ≤ nsit I q by omega)
    rw [tot] at hle
    refine pX_runIn (I := I) H hw hg hq (by omega) (rs_X I w g s q (I 29, nF) k) (by rw [rs_n]; show nF + _ + _ ≤ 80; omega) (fun J2 y1 y2 y3 => ?_) (nord I q k) 0 J (by omega) hJ x1 x2
    exact ih (k + 1) J2 (by omega) y1 (by rw [y2, rs_X]) (by rw [y3, rs_X])
/-- the reference while it runs -/
def mr (I J : st_I) : Prop := (∀ q, q ≠ 58 → q ≠ 92 → q ≠ 93 → (q < 95 ∨ 100 < q) → J q = I q) ∧ ∀ k, k ≠ 52 → J 58 k = I 58 k
theorem mr.rf {I : st_I} : mr I I := ⟨fun _ _ _ _ _ => rfl, fun _ _ => rfl⟩
theorem mr.tr {I J K : st_I} (h : mr I J) (g : mr J K) : mr I K := ⟨fun q a b c e => (g.1 q a b c e).trans (h.1 q a b c e), fun k hk => (g.2 k hk).trans (h.2 k hk)⟩
theorem mr_of {I J : st_I} (h : ms I J) : mr I J := ⟨fun q _ b c _ => h q b c, fun k _ => by rw [h 58 (by decide) (by decide)]⟩
theorem mr_of6 {n : Nat} {I J : st_I} (h : ms6 n I J) : mr I J := ⟨fun q a _ _ e => h.1 q a e, h.2.1⟩
theorem mr.told {I J : st_I} (h : mr I J) {lv nf np nb nl npl : Nat} (H : iv_told I lv nf np nb nl npl) : iv_told J lv nf np nb nl npl := iv_told_congr (fun p hp => h.1 p (by omega) (by omega) (by omega) (by omega)) (h.2 18 (by decide)) H
theorem mr.sit {I J : st_I} (h : mr I J) {lv np nf nb q k : Nat} (hs : iv_sit I lv np nf nb q k) : iv_sit J lv np nf nb q k := iv_sit_same (h.1 8 (by decide) (by decide) (by decide) (by decide)) (h.1 84 (by decide) (by decide) (by decide) (by decide)) (h.1 85 (by decide) (by decide) (by decide) (by decide)) (h.1 86 (by decide) (by decide) (by decide) (by decide)) (h.1 87 (by decide) (by decide) (by decide) (by decide)) (h.1 88 (by decide) (by decide) (by decide) (by decide)) hs
theorem mr.sy {I J : st_I} (h : mr I J) (w : Nat) (seed : Int32) (q k i : Nat) : sy J w seed q k i = sy I w seed q k i := sy_same (h.1 2 (by decide) (by decide) (by decide) (by decide)) (h.1 3 (by decide) (by decide) (by decide) (by decide)) (h.1 4 (by decide) (by decide) (by decide) (by decide)) (h.1 5 (by decide) (by decide) (by decide) (by decide)) (h.1 6 (by decide) (by decide) (by decide) (by decide)) (h.1 8 (by decide) (by decide) (by decide) (by decide)) w seed q k i
theorem mr.set {I J : st_I} (h : mr I J) (hs : iv_set I) : iv_set J := fun i hi => by rw [h.1 94 (by decide) (by decide) (by decide) (by decide)]; exact hs i hi
/-- the FACTS of the reference are those of the rows -/
def fr_all (X : rn_X) (J : st_I) : Prop := J 58 52 = nI X.2 ∧ ∀ j, j < X.2 → iv_fr X.1 J j
theorem fr_ms {X : rn_X} {J K : st_I} (h : ms J K) (H : fr_all X J) : fr_all X K := ⟨by rw [h 58 (by decide) (by decide)]; exact H.1, fun j hj => iv_fr_keep (n := X.2) hj (fun _ _ => rfl) (fun q h1 h2 => by rw [h q (by omega) (by omega)]) (H.2 j hj)⟩
/-- one FACT more in the rows and in the reference -/
theorem fr_add {R : Nat → Int32} {n : Nat} {J K : st_I} {a b c e f g b' c' e' f' g' : Int32} (H : fr_all (R, n) J) (m1 : ms6 n J K) (m2 : K 58 52 = nI (n + 1)) (m3 : K 95 n = a) (m4 : K 96 n = b') (m5 : K 97 n = c') (m6 : K 98 n = e') (m7 : K 99 n = f') (m8 : K 100 n = g')
    (hb : b' = b) (hnew : (a = 0 ∧ (∃ p, p < 10 ∧ b = nI p) ∧ (∃ f, f < 8 ∧ c = nI f ∧ c' = nI f) ∧ (∃ v, v ≤ 100 ∧ e = nI v ∧ e' = nI v) ∧ (∃ sp, sp < 10 ∧ f = nI sp ∧ f' = nI sp) ∧ bo g ∧ g' = g) ∨ (a = 1 ∧ (∃ p, p < 10 ∧ b = nI p) ∧ (∃ f, f < 8 ∧ c = nI f ∧ c' = nI f) ∧ bo e ∧ e' = e ∧ f = -1 ∧ g = -1)) : fr_all (rw6 R n a b c e f g, n + 1) K := by
  obtain ⟨r0, r1, r2, r3, r4, r5⟩ := rw6_at R n a b c e f g
  refine ⟨m2, fun k hk => ?_⟩
  by_cases hkn : k = n
  · subst hkn
    refine ⟨by rw [m3]; exact r0.symm, by rw [m4, hb]; exact r1.symm, ?_⟩
    dsimp only
    rw [r0, r1, r2, r3, r4, r5, m5, m6, m7, m8]
    rcases hnew with h | h
    · exact Or.inl h
    · exact Or.inr (Or.inl h)
  · have hk' : k < n := by dsimp only at hk; omega
    exact m1.fr (R := R) (fun j hj => rw6_lt hj) hk' (H.2 k hk')
theorem pM_runIn {d lv nf np nb nl npl w g q k : Nat} {s c : Int32} {I : st_I} {L : st_L} {F : Int32 → st_I → st_L → Prop} (H : iv_told I lv nf np nb nl npl) (hset : iv_set I) (hw : w < nl) (hg : g < nl) (hq : q < npl) (hk : k < nsit I q) (X : rn_X) (hX : X.2 + nord I q k * cmf I q k ≤ 80)
    (h : ∀ J, mr I J → fr_all (ro_X I w g s q k X (nord I q k)) J → TI (d + 3) mX12_run 116 [.ref 58, .int (nI q), .int (nI w), .int (nI g), .int s, .int c, .int (nI (k + 1)), .null, .null, .null] [] J L F) :
    ∀ (r i : Nat) (J : st_I), i + r = nord I q k → mr I J → fr_all (ro_X I w g s q k X i) J → TI (d + 3) mX12_run 146 [.ref 58, .int (nI q), .int (nI w), .int (nI g), .int s, .int c, .int (nI k), .int (nI (48 * lv + 12 * q + k)), .int (nI i), .null] [] J L F := by
  obtain ⟨hlv, b1, b2, b3, b4, h4, h18, -⟩ := id H.1
  obtain ⟨e1, e2, e3, e4⟩ := nsit_eq (H.2.2.2.2.2 q hq)
  have hs := e4 k hk
  obtain ⟨n1, n2, n3⟩ := nord_le hs
  obtain ⟨pp, bb, mm, h1, h2, h3, h5, s1, m1, s2, m2, hbo, m3, s3, m4, ho⟩ := id hs
  have hmm : nord I q k = mm := by rw [nord, s3, nI_clamp (by omega)]
  have v96 : vp_in (nI (48 * lv + 12 * q + k)) 96 := vp_in_nI (by omega) (by decide)
  intro r
  induction r with
  | zero =>
    intro i J hi hJ x1
    obtain rfl : i = nord I q k := by omega
    refine sgX12_run_146 ?_
    rw [nI_clamp (by omega), hJ.1 87 (by decide) (by decide) (by decide) (by decide), n3, if_pos (nI_le (Nat.le_refl _) (by omega)), nI_1]
    exact ⟨v96, h J hJ x1⟩
  | succ r ih =>
    intro i J hi hJ x1
    obtain ⟨ff, hff, o1, o2⟩ := ho i (by omega)
    have HJ := hJ.told H
    have nJ : nord J q k = nord I q k := by rw [nord, nord, hJ.1 8 (by decide) (by decide) (by decide) (by decide)]
    have hle : (i + 1) * cmf I q k ≤ nord I q k * cmf I q k := Nat.mul_le_mul_right _ (by omega)
    rw [Nat.succ_mul] at hle
    have hc : 0 < cmf I q k := by unfold cmf; split <;> decide
    have hXi : (ro_X I w g s q k X i).2 + cmf I q k ≤ 80 := by rw [ro_n]; omega
    have v6 : vp_in (nI (6 * (48 * lv + 12 * q + k) + i)) 576 := vp_in_nI (by omega) (by decide)
    refine sgX12_run_146 ?_
    rw [nI_clamp (by omega), hJ.1 87 (by decide) (by decide) (by decide) (by decide), n3, if_neg (nI_ge (by omega) (by omega)), show (6 : Int32) * nI (48 * lv + 12 * q + k) + nI i = nI (6 * (48 * lv + 12 * q + k) + i) from mx 6 _ i, nI_clamp (by omega)]
    refine ⟨v96, pM_says HJ (hJ.set hset) hw (by omega) (by omega) (hJ.sit hs) (by rw [nJ]; omega) (fun J1 y1 => ?_)⟩
    have t1 := hJ.tr (mr_of y1)
    rw [cl_ref, hJ.sy, t1.1 88 (by decide) (by decide) (by decide) (by decide), t1.1 84 (by decide) (by decide) (by decide) (by decide), o2, m1]
    refine ⟨v96, v6, sgX12_run_218 ?_⟩
    rw [nI_clamp (by omega), t1.1 86 (by decide) (by decide) (by decide) (by decide), m3]
    have X1 := fr_ms y1 x1
    obtain ⟨cv, hcv, ecv⟩ := cl_nI (sy I w s q k i)
    refine ⟨v96, m_comes X1.1 (by omega) hbo (fun K z1 z2 z3 z4 z5 z6 z7 z8 => ?_)⟩
    have XK := fr_add (a := 0) (b := nI pp) (c := nI ff) (e := cl100 (sy I w s q k i)) (f := nI i) (g := I 8 (10 * (12 * q + k) + 2)) X1 z1 z2 z3 z4 z5 z6 z7 z8 rfl (Or.inl ⟨rfl, ⟨pp, by omega, rfl⟩, ⟨ff, by omega, rfl, rfl⟩, ⟨cv, hcv, ecv, ecv⟩, ⟨i, by omega, rfl, rfl⟩, hbo, rfl⟩)
    have tK := t1.tr (mr_of6 z1)
    rw [tK.1 86 (by decide) (by decide) (by decide) (by decide), m3]
    refine ⟨v96, ?_⟩
    rw [nI_1]
    rcases cmf_eq hs with ⟨w1, w2⟩ | ⟨w1, w2⟩
    · rw [if_pos w1, show (6 : Int32) * nI (48 * lv + 12 * q + k) + nI i = nI (6 * (48 * lv + 12 * q + k) + i) from mx 6 _ i, nI_clamp (show 6 * (48 * lv + 12 * q + k) + i < 2 ^ 31 by omega)]
      have nK : nord K q k = nord I q k := by rw [nord, nord, tK.1 8 (by decide) (by decide) (by decide) (by decide)]
      refine ⟨v96, v6, pM_says (tK.told H) (tK.set hset) hg (by omega) (by omega) (tK.sit hs) (by rw [nK]; omega) (fun K1 y2 => ?_)⟩
      have tK1 := tK.tr (mr_of y2)
      rw [tK.sy, tK.1 88 (by decide) (by decide) (by decide) (by decide), tK.1 84 (by decide) (by decide) (by decide) (by decide), o2, m1]
      have X2 := fr_ms y2 XK
      refine m_comes X2.1 (by show _ + 1 < 80; omega) (Or.inl rfl) (fun K2 z1 z2 z3 z4 z5 z6 z7 z8 => ?_)
      have XK2 := fr_add (a := 1) (b := nI pp) (c := nI ff) (e := yes01 (sy I g s q k i)) (f := -1) (g := -1) X2 z1 z2 z3 z4 z5 z6 z7 z8 rfl (Or.inr ⟨rfl, ⟨pp, by omega, rfl⟩, ⟨ff, by omega, rfl, rfl⟩, yes_bo _, rfl, rfl, rfl⟩)
      refine ih (i + 1) K2 (by omega) (tK1.tr (mr_of6 z1)) ?_
      rw [ro_X, an_X, if_pos w1, s1, o1]
      exact XK2
    · rw [if_neg (by rw [w1]; decide)]
      refine ih (i + 1) K (by omega) tK ?_
      rw [ro_X, an_X, if_neg (by rw [w1]; decide), s1, o1]
      exact XK
theorem pM_run {d lv nf np nb nl npl nF w g q : Nat} {s c : Int32} {I : st_I} {L : st_L} {F : Int32 → st_I → st_L → Prop} (R : Nat → Int32) (H : iv_told I lv nf np nb nl npl) (hset : iv_set I) (hw : w < nl) (hg : g < nl) (hq : q < npl) (hX : nF + tot I q (nsit I q) ≤ 80)
    (h : ∀ J, mr I J → fr_all (rs_X I w g s q (R, nF) (nsit I q)) J → F c J L) :
    ∀ (r k : Nat) (J : st_I), k + r = nsit I q → mr I J → fr_all (rs_X I w g s q (R, nF) k) J → TI (d + 3) mX12_run 116 [.ref 58, .int (nI q), .int (nI w), .int (nI g), .int s, .int c, .int (nI k), .null, .null, .null] [] J L F := by
  obtain ⟨hlv, b1, b2, b3, b4, h4, h18, -⟩ := id H.1
  obtain ⟨e1, e2, e3, e4⟩ := nsit_eq (H.2.2.2.2.2 q hq)
  intro r
  induction r with
  | zero =>
    intro k J hk hJ x1
    obtain rfl : k = nsit I q := by omega
    refine sgX12_run_116 ?_
    rw [hJ.2 18 (by decide), h18, show (4 : Int32) * nI lv + nI q = nI (4 * lv + q) from mx 4 lv q, nI_clamp (by omega), hJ.1 83 (by decide) (by decide) (by decide) (by decide), e2, if_pos (nI_le (Nat.le_refl _) (by omega))]
    exact ⟨vp_in_nI (by omega) (by decide), h J hJ x1⟩
  | succ r ih =>
    intro k J hk hJ x1
    refine sgX12_run_116 ?_
    rw [hJ.2 18 (by decide), h18, show (4 : Int32) * nI lv + nI q = nI (4 * lv + q) from mx 4 lv q, nI_clamp (by omega), hJ.1 83 (by decide) (by decide) (by decide) (by decide), e2, if_neg (nI_ge (by omega) (by omega))]
    refine ⟨vp_in_nI (by omega) (by decide), sgX12_sitAt_0 ?_⟩
    rw [hJ.2 18 (by decide), h18, show (48 : Int32) * nI lv + 12 * nI q + nI k = nI (48 * lv + 12 * q + k) by rw [show (48 : Int32) = nI 48 from rfl, show (12 : Int32) = nI 12 from rfl, pk_mul, pk_mul, nI_add, nI_add]]
    have hle := tot_mono I q (show k + 1 ≤ nsit I q by omega)
    rw [tot] at hle
    refine pM_runIn (I := I) H hset hw hg hq (by omega) (rs_X I w g s q (R, nF) k) (by rw [rs_n]; show nF + _ + _ ≤ 80; omega) (fun J2 y1 y2 => ?_) (nord I q k) 0 J (by omega) hJ x1
    exact ih (k + 1) J2 (by omega) y1 (by rw [rs_X]; exact y2)
theorem pM_runSum {d lv nf np nb nl npl w g q : Nat} {s : Int32} {I : st_I} {L : st_L} {F : Int32 → st_I → st_L → Prop} (H : iv_told I lv nf np nb nl npl) (hq : q < npl)
    (h : (if (I 58 52) + nI (tot I q (nsit I q)) ≤ 80 then TI (d + 1) mX12_run 116 [.ref 58, .int (nI q), .int (nI w), .int (nI g), .int s, .int (nI (tot I q (nsit I q))), .int 0, .null, .null, .null] [] I L F else F (-1) I L)) :
    ∀ (r k : Nat), k + r = nsit I q → TI (d + 1) mX12_run 32 [.ref 58, .int (nI q), .int (nI w), .int (nI g), .int s, .int (nI (tot I q k)), .int (nI k), .null, .null, .null] [] I L F := by
  obtain ⟨hlv, b1, b2, b3, b4, h4, h18, -⟩ := id H.1
  obtain ⟨e1, e2, e3, e4⟩ := nsit_eq (H.2.2.2.2.2 q hq)
  intro r
  induction r with
  | zero =>
    intro k hk
    obtain rfl : k = nsit I q := by omega
    refine sgX12_run_32 ?_
    rw [h18, show (4 : Int32) * nI lv + nI q = nI (4 * lv + q) from mx 4 lv q, nI_clamp (by omega), e2, if_pos (nI_le (Nat.le_refl _) (by omega))]
    exact ⟨vp_in_nI (by omega) (by decide), h⟩
  | succ r ih =>
    intro k hk
    have hs := e4 k (by omega)
    obtain ⟨n1, n2, n3⟩ := nord_le hs
    obtain ⟨pp, bb, mm, h1, h2, h3, h5, s1, m1, s2, m2, hbo, m3, s3, m4, ho⟩ := id hs
    have v96 : vp_in (nI (48 * lv + 12 * q + k)) 96 := vp_in_nI (by omega) (by decide)
    refine sgX12_run_32 ?_
    rw [h18, show (4 : Int32) * nI lv + nI q = nI (4 * lv + q) from mx 4 lv q, nI_clamp (by omega), e2, if_neg (nI_ge (by omega) (by omega))]
    refine ⟨vp_in_nI (by omega) (by decide), sgX12_sitAt_0 ?_⟩
    rw [h18, show (48 : Int32) * nI lv + 12 * nI q + nI k = nI (48 * lv + 12 * q + k) by rw [show (48 : Int32) = nI 48 from rfl, show (12 : Int32) = nI 12 from rfl, pk_mul, pk_mul, nI_add, nI_add], nI_clamp (by omega), m3, n3, nI_1]
    have := ih (k + 1) (by omega)
    rw [tot] at this
    refine ⟨v96, ?_⟩
    rcases cmf_eq hs with ⟨w1, w2⟩ | ⟨w1, w2⟩
    · rw [w2] at this
      rw [if_pos w1, show (2 : Int32) * nI (nord I q k) = nI (2 * nord I q k) from pk_mul 2 _, nI_add, Nat.mul_comm 2]; exact ⟨v96, this⟩
    · rw [w2, Nat.mul_one] at this
      rw [if_neg (by rw [w1]; decide), nI_add]; exact ⟨v96, this⟩
theorem op_run {lv nf np nb nl npl nF : Nat} {I : st_I} {L : st_L} {P : st_I → st_L → Prop} (H : iv_told I lv nf np nb nl npl) (hset : iv_set I) (HF : iv_facts I nF) (hP : ∀ J nF', fa nF nF' I J → P J L) (a b c s : Int32) :
    EI 60 mX11_run [.ref 0, .int a, .int b, .int c, .int s] I L (fun r I1 L1 => EI 60 mX12_run [.ref 58, .int a, .int b, .int c, .int s] I1 L1 (fun r' I2 L2 => r' = r ∧ P I2 L2)) := by
  have no : P I L := hP I nF (fa.rf HF)
  have bd := H.1
  have hnl := bd.2.2.2.2.1
  have h4 := bd.2.2.2.2.2.1
  have b80 := HF.1
  refine sgX11_run_0 ?_
  rcases ot_ix a npl (by omega) with ho | ⟨q, hq, rfl⟩
  · refine x_hasPlan_o H ho ?_
    rw [if_pos rfl]
    refine sgX12_run_0 (m_isPlan_o H ho ?_)
    rw [if_pos rfl]; exact ⟨rfl, no⟩
  refine x_hasPlan_i H hq ?_
  rw [if_neg (by decide)]
  rcases ot_ix b nl (by omega) with ho | ⟨w, hw, rfl⟩
  · refine x_hasLaw_o H ho ?_
    rw [if_pos rfl]
    refine sgX12_run_0 (m_isPlan_i H hq ?_)
    rw [if_neg (by decide)]
    refine m_isLaw_o H ho ?_
    rw [if_pos rfl]; exact ⟨rfl, no⟩
  refine x_hasLaw_i H hw ?_
  rw [if_neg (by decide)]
  rcases ot_ix c nl (by omega) with ho | ⟨g, hg, rfl⟩
  · refine x_hasLaw_o H ho ?_
    rw [if_pos rfl]
    refine sgX12_run_0 (m_isPlan_i H hq ?_)
    rw [if_neg (by decide)]
    refine m_isLaw_i H hw ?_
    rw [if_neg (by decide)]
    refine m_isLaw_o H ho ?_
    rw [if_pos rfl]; exact ⟨rfl, no⟩
  refine x_hasLaw_i H hg ?_
  rw [if_neg (by decide)]
  obtain ⟨e1, e2, e3, e4⟩ := nsit_eq (H.2.2.2.2.2 q hq)
  have ht := tot_le e4
  have to : ∀ (J : st_I) {F : Int32 → st_I → st_L → Prop}, iv_told J lv nf np nb nl npl → nsit J q = nsit I q → (if (J 58 52) + nI (tot J q (nsit J q)) ≤ 80 then TI 60 mX12_run 116 [.ref 58, .int (nI q), .int (nI w), .int (nI g), .int s, .int (nI (tot J q (nsit J q))), .int 0, .null, .null, .null] [] J L F else F (-1) J L) → EI 60 mX12_run [.ref 58, .int (nI q), .int (nI w), .int (nI g), .int s] J L F := by
    intro J F HJ hn h
    refine sgX12_run_0 (m_isPlan_i HJ hq ?_)
    rw [if_neg (by decide)]
    refine m_isLaw_i HJ hw ?_
    rw [if_neg (by decide)]
    refine m_isLaw_i HJ hg ?_
    rw [if_neg (by decide)]
    exact pM_runSum HJ hq h (nsit J q) 0 (by omega)
  refine pX_factsOf H hq ?_
  rw [HF.2.1, nI_add]
  by_cases hX : nF + tot I q (nsit I q) ≤ 80
  · rw [if_pos (show nI (nF + tot I q (nsit I q)) ≤ 80 from nI_le (b := 80) hX (by decide))]
    refine pX_run (d := 54) (nF := nF) H hw hg hq HF.2.1 hX (fun J x1 x2 x3 => ?_) (nsit I q) 0 I (by omega) xr.rf HF.2.1 rfl
    have HJ := x1.told H
    have hJ8 := x1 8 (by decide) (by decide) (by decide) (by decide)
    have nJ : nsit J q = nsit I q := by rw [nsit, nsit, x1 7 (by decide) (by decide) (by decide) (by decide)]
    have nordJ : nord J q = nord I q := by funext k; rw [nord, nord, hJ8]
    have cmJ : cmf J q = cmf I q := by funext k; rw [cmf, cmf, hJ8]
    have totJ : ∀ n, tot J q n = tot I q n := by
      intro n
      induction n with
      | zero => rfl
      | succ n ih => rw [tot, tot, ih, nordJ, cmJ]
    have anJ : an_X J q = an_X I q := by funext k i v o X; rw [an_X, an_X, hJ8]
    have roJ : ∀ k X n, ro_X J w g s q k X n = ro_X I w g s q k X n := by
      intro k X n
      induction n with
      | zero => rfl
      | succ n ih => rw [ro_X, ro_X, ih, x1.sy, x1.sy, anJ]
    have rsJ : ∀ X n, rs_X J w g s q X n = rs_X I w g s q X n := by
      intro X n
      induction n with
      | zero => rfl
      | succ n ih => rw [rs_X, rs_X, ih, roJ, nordJ]
    refine to J HJ nJ ?_
    have h52 : J 58 52 = nI nF := by rw [x1 58 (by decide) (by decide) (by decide) (by decide), HF.2.2.1]
    rw [nJ, totJ, h52, nI_add, if_pos (show nI (nF + tot I q (nsit I q)) ≤ 80 from nI_le (b := 80) hX (by decide))]
    have hsetJ : iv_set J := fun i hi => by rw [x1 94 (by decide) (by decide) (by decide) (by decide)]; exact hset i hi
    have fr0 : fr_all (rs_X J w g s q (I 29, nF) 0) J := ⟨h52, fun j hj => iv_fr_keep (n := nF) (I := I) hj (fun _ _ => rfl) (fun q h1 h2 => by rw [x1 q (by omega) (by omega) (by omega) (by omega)]) (show iv_fr (I 29) I j from HF.2.2.2 j hj)⟩
    refine pM_run (d := 57) (nF := nF) (I 29) HJ hsetJ hw hg hq (by rw [nJ, totJ]; exact hX) (fun K y1 y2 => ⟨rfl, ?_⟩) (nsit J q) 0 J (by omega) mr.rf fr0
    · rw [nJ, rsJ] at y2
      have k29 : K 29 = (rs_X I w g s q (I 29, nF) (nsit I q)).1 := by rw [y1.1 29 (by decide) (by decide) (by decide) (by decide), x3]
      have cnt : (rs_X I w g s q (I 29, nF) (nsit I q)).2 = nF + tot I q (nsit I q) := rs_n _ _ _ _ _ _ _
      refine hP K (nF + tot I q (nsit I q)) ⟨fun z z1 z2 z3 z4 z5 z6 z7 z8 => by rw [y1.1 z z5 z6 z7 z8, x1 z z1 z2 z3 z4], fun k hk => by rw [y1.2 k hk, x1 58 (by decide) (by decide) (by decide) (by decide)], by omega, fun j hj => by rw [k29]; exact rs_lt I w g s q (I 29, nF) hj _, hX, by rw [y1.1 28 (by decide) (by decide) (by decide) (by decide), x2], by rw [y2.1, cnt], fun k hk => ?_⟩
      rw [← iv_fr_eq, k29]
      exact y2.2 k (by rw [cnt]; exact hk)
  · have hi : ¬ nI (nF + tot I q (nsit I q)) ≤ 80 := nI_ge (a := 80) (by omega) (by omega)
    rw [if_neg hi]
    refine to I H rfl ?_
    rw [HF.2.2.1, nI_add, if_neg hi]; exact ⟨rfl, no⟩
