/-! NEAR AND FAR -/
abbrev n6_X : Type := Nat × (Nat → Nat)
def gN (M0 M1 : Nat → Nat) : Nat → n6_X
  | 0 => (0, fun _ => 0)
  | f + 1 => if (gN M0 M1 f).1 < 6 ∧ ¬ M0 f = 0 ∧ ¬ M1 f = 0 then ((gN M0 M1 f).1 + 1, updN (gN M0 M1 f).2 (gN M0 M1 f).1 f) else gN M0 M1 f
theorem gN_le (M0 M1 : Nat → Nat) : ∀ f, (gN M0 M1 f).1 ≤ 6
  | 0 => Nat.zero_le _
  | f + 1 => by have := gN_le M0 M1 f; rw [gN]; split; dsimp only; omega; omega
theorem gN_lt (M0 M1 : Nat → Nat) : ∀ f, ∀ i, i < (gN M0 M1 f).1 → (gN M0 M1 f).2 i < f
  | 0 => fun i hi => absurd hi (Nat.not_lt_zero _)
  | f + 1 => by
    intro i hi
    have ih := gN_lt M0 M1 f
    rw [gN] at hi ⊢
    split at hi
    · rename_i hc
      rw [if_pos hc]
      dsimp only at hi ⊢
      unfold updN
      split
      · omega
      · have := ih i (by omega); omega
    · rename_i hc
      rw [if_neg hc]
      have := ih i hi; omega
theorem gN_pos (M0 M1 : Nat → Nat) : ∀ f, ∀ i, i < (gN M0 M1 f).1 → ¬ M0 ((gN M0 M1 f).2 i) = 0 ∧ ¬ M1 ((gN M0 M1 f).2 i) = 0
  | 0 => fun i hi => absurd hi (Nat.not_lt_zero _)
  | f + 1 => by
    intro i hi
    have ih := gN_pos M0 M1 f
    rw [gN] at hi ⊢
    split at hi
    · rename_i hc
      rw [if_pos hc]
      dsimp only at hi ⊢
      unfold updN
      split
      · exact hc.2
      · exact ih i (by omega)
    · rename_i hc
      rw [if_neg hc]
      exact ih i hi
theorem gN_full {M0 M1 : Nat → Nat} {f : Nat} (h : 6 ≤ (gN M0 M1 f).1) : ∀ k, gN M0 M1 (f + k) = gN M0 M1 f
  | 0 => rfl
  | k + 1 => by rw [← Nat.add_assoc, gN, gN_full h k, if_neg (by omega)]
/-- how the MEANS part the a-th and the b-th -/
def svX (S : Nat → Int32) (M : Nat → Nat) (X : n6_X) (a b : Nat) : Int32 := sdv (S (X.2 a) * nI (M (X.2 b))) (S (X.2 b) * nI (M (X.2 a)))
def tri (x : Int32) : Prop := x = 0 ∨ x = 1 ∨ x = -1
theorem sdv_tri (x y : Int32) : tri (sdv x y) := by
  unfold sdv tri
  split
  · split
    · exact Or.inl rfl
    · exact Or.inr (Or.inl rfl)
  · exact Or.inr (Or.inr rfl)
theorem tri_mul {x y : Int32} (hx : tri x) (hy : tri y) : tri (x * y) ∧ (x * y).toInt = x.toInt * y.toInt := by
  rcases hx with h | h | h <;> rcases hy with g | g | g <;> subst h <;> subst g <;> exact ⟨by unfold tri; decide, by decide⟩
theorem tri_int {x : Int32} (h : tri x) : ((if x = 1 then (1 : Int) else 0) - (if x = -1 then 1 else 0) = x.toInt) ∧ -1 ≤ x.toInt ∧ x.toInt ≤ 1 := by
  rcases h with h | h | h <;> subst h <;> decide
/-- near and far part alike (1), or the other way (-1) -/
def pPr (N R : Nat → Nat → Int32) (g : Nat → Nat) (a b : Nat) : Int32 := N a b * R (g a) (g b)
def ptN (N R : Nat → Nat → Int32) (how : Int32) (g : Nat → Nat) (m : Nat) : Nat := sn (fun a => sn (fun b => if a < b ∧ pPr N R g a b = how then 1 else 0) m) m
def scZ (N R : Nat → Nat → Int32) (g : Nat → Nat) (k : Nat) : Int := siF (fun b => siF (fun a => (pPr N R g a b).toInt) b) k
theorem siF_add (a b : Nat → Int) : ∀ n, siF (fun i => a i + b i) n = siF a n + siF b n
  | 0 => rfl
  | n + 1 => by rw [siF, siF, siF, siF_add a b n]; omega
theorem siF_z {a : Nat → Int} {n : Nat} (h : ∀ i, i < n → a i = 0) : siF a n = 0 := by
  induction n with
  | zero => rfl
  | succ n ih => rw [siF, ih (fun i hi => h i (by omega)), h n (by omega)]; rfl
theorem siF_swap (a : Nat → Nat → Int) (n : Nat) : ∀ m, siF (fun i => siF (fun j => a i j) n) m = siF (fun j => siF (fun i => a i j) m) n
  | 0 => by simp only [siF]; exact (siF_z (fun _ _ => rfl)).symm
  | m + 1 => by
    rw [siF, siF_swap a n m]
    simp only [siF]
    exact (siF_add _ _ n).symm
theorem sn_int (a : Nat → Nat) : ∀ n, ((sn a n : Nat) : Int) = siF (fun i => (a i : Int)) n
  | 0 => rfl
  | n + 1 => by rw [sn, siF, ← sn_int a n]; omega
theorem siF_sub (a b : Nat → Int) : ∀ n, siF (fun i => a i - b i) n = siF a n - siF b n
  | 0 => rfl
  | n + 1 => by rw [siF, siF, siF, siF_sub a b n]; omega
theorem pt_sc {N R : Nat → Nat → Int32} (hN : ∀ a b, tri (N a b)) (hR : ∀ a b, tri (R a b)) (g : Nat → Nat) (m : Nat) : ((ptN N R 1 g m : Nat) : Int) - (ptN N R (-1) g m : Nat) = scZ N R g m := by
  unfold ptN scZ
  rw [sn_int, sn_int, ← siF_sub]
  have e1 : ∀ a, (((sn (fun b => if a < b ∧ pPr N R g a b = 1 then 1 else 0) m : Nat) : Int) - (sn (fun b => if a < b ∧ pPr N R g a b = -1 then 1 else 0) m : Nat)) = siF (fun b => if a < b then (pPr N R g a b).toInt else 0) m := by
    intro a
    rw [sn_int, sn_int, ← siF_sub]
    refine siF_congr (fun b _ => ?_)
    have ht : ((if pPr N R g a b = 1 then (1 : Int) else 0) - (if pPr N R g a b = -1 then 1 else 0)) = (pPr N R g a b).toInt := (tri_int (tri_mul (hN a b) (hR (g a) (g b))).1).1
    by_cases h : a < b
    · rw [if_pos h, ← ht]
      simp only [h, true_and]
      by_cases q1 : pPr N R g a b = 1
      · rw [if_pos q1, if_pos q1]
        by_cases q2 : pPr N R g a b = -1
        · rw [if_pos q2, if_pos q2]; rfl
        · rw [if_neg q2, if_neg q2]; rfl
      · rw [if_neg q1, if_neg q1]
        by_cases q2 : pPr N R g a b = -1
        · rw [if_pos q2, if_pos q2]; rfl
        · rw [if_neg q2, if_neg q2]; rfl
    · rw [if_neg h]
      simp only [h, false_and, if_false]; rfl
  rw [siF_congr (fun a _ => e1 a), siF_swap]
  refine siF_congr (fun b hb => ?_)
  obtain ⟨c, rfl⟩ : ∃ c, m = b + c := ⟨m - b, by omega⟩
  have sp : ∀ (f : Nat → Int) (c : Nat), siF f (b + c) = siF f b + siF (fun i => f (b + i)) c := by
    intro f c
    induction c with
    | zero => simp [siF]
    | succ c ih => rw [← Nat.add_assoc, siF, ih, siF]; omega
  rw [sp, siF_z (a := fun i => if b + i < b then (pPr N R g (b + i) b).toInt else 0) (fun i _ => if_neg (by omega)), Int.add_zero]
  exact siF_congr (fun a ha => if_pos ha)
theorem scZ_bd {N R : Nat → Nat → Int32} (hN : ∀ a b, tri (N a b)) (hR : ∀ a b, tri (R a b)) (g : Nat → Nat) {k : Nat} (hk : k ≤ 6) : -36 ≤ scZ N R g k ∧ scZ N R g k ≤ 36 := by
  have h := siF_bd (a := fun b => siF (fun a => (pPr N R g a b).toInt) b) (c := 6) (by decide) (n := k) (fun b hb => by
    have h1 := siF_bd (a := fun a => (pPr N R g a b).toInt) (c := 1) (by decide) (n := b) (fun a _ => (tri_int (tri_mul (hN a b) (hR (g a) (g b))).1).2)
    omega)
  unfold scZ; omega
theorem ptN_le (N R : Nat → Nat → Int32) (how : Int32) (g : Nat → Nat) {m : Nat} (hm : m ≤ 6) : ptN N R how g m ≤ 36 := by
  unfold ptN
  have h := sn_le (a := fun a => sn (fun b => if a < b ∧ pPr N R g a b = how then 1 else 0) m) (c := 6) (n := m) (fun a _ => by
    have := sn_le (a := fun b => if a < b ∧ pPr N R g a b = how then 1 else 0) (c := 1) (n := m) (fun b _ => by split <;> omega)
    omega)
  omega
/-- the class has gathered -/
def xN (J : st_I) (m : Nat) (N R : Nat → Nat → Int32) : Prop := J 49 0 = nI m ∧ J 49 1 = nI (ptN N R 1 (fun i => i) m) ∧ J 49 2 = nI (ptN N R (-1) (fun i => i) m) ∧ ∀ a b, a < m → b < m → J 51 (6 * a + b) = N a b ∧ J 52 (6 * a + b) = R a b
theorem pX_near {d lv nf np nb nl npl : Nat} {S0 S1 : Nat → Int32} {M0 M1 : Nat → Nat} {I : st_I} {L : st_L} {F : st_I → st_L → Prop} (H : iv_told I lv nf np nb nl npl) (h35 : ∀ f, f < nf → I 35 f = S0 f ∧ I 35 (8 + f) = S1 f ∧ I 36 f = nI (M0 f) ∧ I 36 (8 + f) = nI (M1 f)) (hM0 : ∀ f, M0 f ≤ 10) (hM1 : ∀ f, M1 f ≤ 10) (h : ∀ J : st_I, (∀ q, q ≠ 49 → q ≠ 50 → q ≠ 51 → q ≠ 52 → J q = I q) → xN J (gN M0 M1 nf).1 (svX S0 M0 (gN M0 M1 nf)) (svX S1 M1 (gN M0 M1 nf)) → F J L) : EV (d + 3) mX3_gather [.ref 49, .ref 1, .ref 30] I L F := by
  obtain ⟨hlv, b1, b2, b3, b4, b5, h18, c0, c1, -⟩ := id H.1
  have h6 := gN_le M0 M1 nf
  have hlt := gN_lt M0 M1 nf
  have hpo := gN_pos M0 M1 nf
  -- the pairs
  have two : ∀ (J0 : st_I), (∀ q, q ≠ 49 → q ≠ 50 → q ≠ 51 → q ≠ 52 → J0 q = I q) → J0 49 0 = nI (gN M0 M1 nf).1 → J0 49 1 = 0 → J0 49 2 = 0 → (∀ i, i < (gN M0 M1 nf).1 → J0 50 i = nI ((gN M0 M1 nf).2 i)) → TV (d + 3) mX3_gather 81 [.ref 49, .null, .ref 30, .int 0, .null] [] J0 L F := by
    intro J0 hJ0 x0 x1 x2 x50
    generalize gN M0 M1 nf = X at *
    generalize hN : svX S0 M0 X = N at *
    generalize hR : svX S1 M1 X = R at *
    have outer : ∀ (r a : Nat) (J : st_I), a + r = X.1 → (∀ q, q ≠ 49 → q ≠ 50 → q ≠ 51 → q ≠ 52 → J q = I q) → J 49 0 = nI X.1 → J 50 = J0 50 → J 49 1 = nI (sn (fun a => sn (fun b => if a < b ∧ pPr N R (fun i => i) a b = 1 then 1 else 0) X.1) a) → J 49 2 = nI (sn (fun a => sn (fun b => if a < b ∧ pPr N R (fun i => i) a b = -1 then 1 else 0) X.1) a) → (∀ a' b', a' < a → b' < X.1 → J 51 (6 * a' + b') = N a' b' ∧ J 52 (6 * a' + b') = R a' b') → TV (d + 3) mX3_gather 81 [.ref 49, .null, .ref 30, .int (nI a), .null] [] J L F := by
      intro r
      induction r with
      | zero =>
        intro a J ha hJ y0 y50 y1 y2 y3
        obtain rfl : a = X.1 := by omega
        refine sgX3_gather_81 ?_
        rw [y0, if_pos (nI_le (Nat.le_refl _) (by omega))]
        exact h J hJ ⟨y0, y1, y2, y3⟩
      | succ r ih =>
        intro a J ha hJ y0 y50 y1 y2 y3
        refine sgX3_gather_81 ?_
        rw [y0, if_neg (nI_ge (by omega) (by omega))]
        have inner : ∀ (c b : Nat) (J : st_I), b + c = X.1 → (∀ q, q ≠ 49 → q ≠ 50 → q ≠ 51 → q ≠ 52 → J q = I q) → J 49 0 = nI X.1 → J 50 = J0 50 → J 49 1 = nI (sn (fun a => sn (fun b => if a < b ∧ pPr N R (fun i => i) a b = 1 then 1 else 0) X.1) a + sn (fun b => if a < b ∧ pPr N R (fun i => i) a b = 1 then 1 else 0) b) → J 49 2 = nI (sn (fun a => sn (fun b => if a < b ∧ pPr N R (fun i => i) a b = -1 then 1 else 0) X.1) a + sn (fun b => if a < b ∧ pPr N R (fun i => i) a b = -1 then 1 else 0) b) → (∀ a' b', (a' < a ∨ (a' = a ∧ b' < b)) → b' < X.1 → J 51 (6 * a' + b') = N a' b' ∧ J 52 (6 * a' + b') = R a' b') → TV (d + 3) mX3_gather 92 [.ref 49, .null, .ref 30, .int (nI a), .int (nI b)] [] J L F := by
          intro c
          induction c with
          | zero =>
            intro b J hb hJ z0 z50 z1 z2 z3
            obtain rfl : b = X.1 := by omega
            refine sgX3_gather_92 ?_
            rw [z0, if_pos (nI_le (Nat.le_refl _) (by omega)), nI_1]
            exact ih (a + 1) J (by omega) hJ z0 z50 z1 z2 (fun a' b' h1 h2 => z3 a' b' (by omega) h2)
          | succ c ihc =>
            intro b J hb hJ z0 z50 z1 z2 z3
            have ha6 : a < X.1 := by omega
            have hb6 : b < X.1 := by omega
            have q35 : J 35 = I 35 := hJ 35 (by decide) (by decide) (by decide) (by decide)
            have q36 : J 36 = I 36 := hJ 36 (by decide) (by decide) (by decide) (by decide)
            refine sgX3_gather_92 ?_
            rw [z0, if_neg (nI_ge (by omega) (by omega))]
            have va : vp_in (nI a) 6 := vp_in_nI (by omega) (by decide)
            have vb : vp_in (nI b) 6 := vp_in_nI (by omega) (by decide)
            have v36 : vp_in (nI (6 * a + b)) 36 := vp_in_nI (by omega) (by decide)
            refine sgX3_gatherTwo_0 ?_
            rw [nI_clamp (by omega), nI_clamp (by omega), z50, x50 a ha6, x50 b hb6]
            have la := hlt a ha6
            have lb := hlt b hb6
            have ga := h35 _ la
            have gb := h35 _ lb
            have t0a := hM0 (X.2 a); have t0b := hM0 (X.2 b); have t1a := hM1 (X.2 a); have t1b := hM1 (X.2 b)
            have pa := hpo a ha6
            have pb := hpo b hb6
            refine ⟨va, vb, pX_parted (sa := S0 (X.2 a)) (sb := S0 (X.2 b)) (by omega) (by omega) (by rw [q35]; exact ga.1) (by rw [q36]; exact ga.2.2.1) (by rw [q35]; exact gb.1) (by rw [q36]; exact gb.2.2.1) (nI_nle (by omega) (by omega)) (nI_nle (by omega) (by omega)) ?_⟩
            rw [z50, x50 a ha6, x50 b hb6, show (8 : Int32) + nI (X.2 a) = nI (8 + X.2 a) from nI_add 8 _, show (8 : Int32) + nI (X.2 b) = nI (8 + X.2 b) from nI_add 8 _]
            refine ⟨va, vb, pX_parted (sa := S1 (X.2 a)) (sb := S1 (X.2 b)) (by omega) (by omega) (by rw [q35]; exact ga.2.1) (by rw [q36]; exact ga.2.2.2) (by rw [q35]; exact gb.2.1) (by rw [q36]; exact gb.2.2.2) (nI_nle (by omega) (by omega)) (nI_nle (by omega) (by omega)) ?_⟩
            have eN : sdv (S0 (X.2 a) * nI (M0 (X.2 b))) (S0 (X.2 b) * nI (M0 (X.2 a))) = N a b := by rw [← hN]; rfl
            have eR : sdv (S1 (X.2 a) * nI (M1 (X.2 b))) (S1 (X.2 b) * nI (M1 (X.2 a))) = R a b := by rw [← hR]; rfl
            rw [eN, eR, show nI a * 6 + nI b = nI (6 * a + b) by rw [show (6 : Int32) = nI 6 from rfl, pk_mul, nI_add, Nat.mul_comm], nI_clamp (show 6 * a + b < 2 ^ 31 by omega)]
            refine ⟨v36, v36, ?_⟩
            have st := ihc (b + 1)
            rw [sn, sn, ← Nat.add_assoc, ← Nat.add_assoc] at st
            -- the end of one pair
            have fin : ∀ (K : st_I), (∀ q, q ≠ 49 → q ≠ 51 → q ≠ 52 → K q = J q) → K 49 0 = nI X.1 → K 49 1 = nI (sn (fun a => sn (fun b => if a < b ∧ pPr N R (fun i => i) a b = 1 then 1 else 0) X.1) a + sn (fun b => if a < b ∧ pPr N R (fun i => i) a b = 1 then 1 else 0) b + (if a < b ∧ pPr N R (fun i => i) a b = 1 then 1 else 0)) → K 49 2 = nI (sn (fun a => sn (fun b => if a < b ∧ pPr N R (fun i => i) a b = -1 then 1 else 0) X.1) a + sn (fun b => if a < b ∧ pPr N R (fun i => i) a b = -1 then 1 else 0) b + (if a < b ∧ pPr N R (fun i => i) a b = -1 then 1 else 0)) → K 51 = (u_I J 51 (6 * a + b) (N a b)) 51 → K 52 = (u_I J 52 (6 * a + b) (R a b)) 52 → TV (d + 3) mX3_gather 92 [.ref 49, .null, .ref 30, .int (nI a), .int (nI b + 1)] [] K L F := by
              intro K k0 k1 k2 k3 k4 k5
              rw [nI_1]
              refine st K (by omega) (fun q q1 q2 q3 q4 => by rw [k0 q q1 q3 q4, hJ q q1 q2 q3 q4]) k1 (by rw [k0 50 (by decide) (by decide) (by decide)]; exact z50) k2 k3 (fun a' b' h1 h2 => ?_)
              rw [k4, k5]
              by_cases e : 6 * a' + b' = 6 * a + b
              · have ea : a' = a := by omega
                have eb : b' = b := by omega
                subst ea; subst eb
                simp [u_I]
              · simp only [u_I, if_true, if_neg e]
                exact z3 a' b' (by omega) h2
            have Kb : ∀ (K : st_I), K = u_I (u_I J 51 (6 * a + b) (N a b)) 52 (6 * a + b) (R a b) → (∀ q, q ≠ 49 → q ≠ 51 → q ≠ 52 → K q = J q) ∧ K 49 = J 49 ∧ K 51 = (u_I J 51 (6 * a + b) (N a b)) 51 ∧ K 52 = (u_I J 52 (6 * a + b) (R a b)) 52 := by
              intro K e
              subst e
              refine ⟨fun q _ q2 q3 => by rw [u_I_ne _ _ q3, u_I_ne _ _ q2], by rw [u_I_ne _ _ (by decide), u_I_ne _ _ (by decide)], by rw [u_I_ne _ _ (by decide)], by funext k; simp [u_I]⟩
            obtain ⟨k1, k2, k3, k4⟩ := Kb _ rfl
            generalize u_I (u_I J 51 (6 * a + b) (N a b)) 52 (6 * a + b) (R a b) = K at k1 k2 k3 k4 ⊢
            by_cases hab : a < b
            · rw [if_neg (nI_ge hab (by omega))]
              have ep : pPr N R (fun i => i) a b = N a b * R a b := rfl
              rw [ep] at fin
              by_cases q1 : N a b * R a b = 1
              · rw [if_pos q1]
                refine sgX3_gatherTwo_92 ?_
                rw [if_neg (nI_ge hab (by omega)), if_neg (by rw [q1]; decide)]
                refine fin _ (fun q a1 a2 a3 => by rw [u_I_ne _ _ a1]; exact k1 q a1 a2 a3) ?_ ?_ ?_ (by rw [u_I_ne _ _ (by decide)]; exact k3) (by rw [u_I_ne _ _ (by decide)]; exact k4)
                · simp only [u_I, if_true, show (0 : Nat) = 1 ↔ False by decide, if_false]; rw [k2]; exact z0
                · rw [if_pos ⟨hab, q1⟩]; simp only [u_I, if_true]; rw [z1]; exact nI_1 _
                · rw [if_neg (fun w => by rw [q1] at w; exact absurd w.2 (by decide)), Nat.add_zero]; simp only [u_I, if_true, show (2 : Nat) = 1 ↔ False by decide, if_false]; rw [k2]; exact z2
              · rw [if_neg q1]
                refine sgX3_gatherTwo_92 ?_
                rw [if_neg (nI_ge hab (by omega))]
                rw [if_neg (fun w => q1 w.2), Nat.add_zero] at fin
                by_cases q2 : N a b * R a b = -1
                · rw [if_pos q2]
                  refine fin _ (fun q a1 a2 a3 => by rw [u_I_ne _ _ a1]; exact k1 q a1 a2 a3) ?_ ?_ ?_ (by rw [u_I_ne _ _ (by decide)]; exact k3) (by rw [u_I_ne _ _ (by decide)]; exact k4)
                  · simp only [u_I, if_true, show (0 : Nat) = 2 ↔ False by decide, if_false]; rw [k2]; exact z0
                  · simp only [u_I, if_true, show (1 : Nat) = 2 ↔ False by decide, if_false]; rw [k2]; exact z1
                  · rw [if_pos ⟨hab, q2⟩]; simp only [u_I, if_true]; rw [k2, z2]; exact nI_1 _
                · rw [if_neg q2]
                  refine fin K k1 (by rw [k2]; exact z0) (by rw [k2]; exact z1) ?_ k3 k4
                  rw [if_neg (fun w => q2 w.2), Nat.add_zero, k2]; exact z2
            · rw [if_pos (nI_le (by omega) (by omega))]
              refine sgX3_gatherTwo_92 ?_
              rw [if_pos (nI_le (by omega) (by omega))]
              refine fin K k1 (by rw [k2]; exact z0) ?_ ?_ k3 k4
              · rw [if_neg (fun w => hab w.1), Nat.add_zero, k2]; exact z1
              · rw [if_neg (fun w => hab w.1), Nat.add_zero, k2]; exact z2
        exact inner X.1 0 J (by omega) hJ y0 y50 y1 y2 (fun a' b' h1 h2 => y3 a' b' (by omega) h2)
    exact outer X.1 0 J0 (by omega) hJ0 x0 rfl x1 x2 (fun a' b' h1 => absurd h1 (Nat.not_lt_zero _))
  have one : ∀ (r f : Nat) (J : st_I), f + r = nf → (∀ q, q ≠ 49 → q ≠ 50 → J q = I q) → J 49 0 = nI (gN M0 M1 f).1 → J 49 1 = 0 → J 49 2 = 0 → (∀ i, i < (gN M0 M1 f).1 → J 50 i = nI ((gN M0 M1 f).2 i)) → TV (d + 3) mX3_gather 17 [.ref 49, .ref 1, .ref 30, .int (nI f), .null] [] J L F := by
    intro r
    induction r with
    | zero =>
      intro f J hf hJ x0 x1 x2 x50
      obtain rfl : f = nf := by omega
      refine sgX3_gather_17 ?_
      rw [hJ 1 (by decide) (by decide), c0, if_pos (nI_le (Nat.le_refl _) (by omega))]
      exact two J (fun q q1 q2 _ _ => hJ q q1 q2) x0 x1 x2 x50
    | succ r ih =>
      intro f J hf hJ x0 x1 x2 x50
      have hle := gN_le M0 M1 f
      have st := ih (f + 1)
      rw [gN] at st
      have q36 : J 36 = I 36 := hJ 36 (by decide) (by decide)
      obtain ⟨-, -, m0f, m1f⟩ := h35 f (by omega)
      have a0 := hM0 f
      have a1 := hM1 f
      refine sgX3_gather_17 ?_
      rw [hJ 1 (by decide) (by decide), c0, if_neg (nI_ge (by omega) (by omega)), x0]
      by_cases h6' : 6 ≤ (gN M0 M1 f).1
      · rw [if_pos (show (6 : Int32) ≤ nI _ from nI_le (a := 6) h6' (by omega))]
        have e := gN_full h6' (r + 1)
        rw [hf] at e
        exact two J (fun q q1 q2 _ _ => hJ q q1 q2) (by rw [e]; exact x0) x1 x2 (by rw [e]; exact x50)
      · rw [if_neg (show ¬ (6 : Int32) ≤ nI _ from nI_ge (b := 6) (by omega) (by decide)), show (8 : Int32) + nI f = nI (8 + f) from nI_add 8 f, nI_1]
        by_cases z : M0 f = 0
        · refine x_hasMean_o (by omega) (by rw [q36, m0f, z]; decide) ?_
          rw [if_pos rfl]
          rw [if_neg (fun w => w.2.1 z)] at st
          exact st J (by omega) hJ x0 x1 x2 x50
        · refine x_hasMean_i (by omega) (by rw [q36, m0f]; exact nI_nle (by omega) (by omega)) ?_
          rw [if_neg (by decide)]
          by_cases y : M1 f = 0
          · refine x_hasMean_o (by omega) (by rw [q36, m1f, y]; decide) ?_
            rw [if_pos rfl]
            rw [if_neg (fun w => w.2.2 y)] at st
            exact st J (by omega) hJ x0 x1 x2 x50
          · refine x_hasMean_i (by omega) (by rw [q36, m1f]; exact nI_nle (by omega) (by omega)) ?_
            rw [if_neg (by decide), x0, nI_clamp (by omega), nI_1]
            rw [if_pos ⟨by omega, z, y⟩] at st
            refine ⟨vp_in_nI (by omega) (by decide), st _ (by omega) (fun q q1 q2 => by rw [u_I_ne _ _ q1, u_I_ne _ _ q2]; exact hJ q q1 q2) ?_ ?_ ?_ (fun i hi => ?_)⟩
            · simp [u_I]
            · simp only [u_I, if_true, show (1 : Nat) = 0 ↔ False by decide, show (49 : Nat) = 50 ↔ False by decide, if_false]; exact x1
            · simp only [u_I, if_true, show (2 : Nat) = 0 ↔ False by decide, show (49 : Nat) = 50 ↔ False by decide, if_false]; exact x2
            · dsimp only at hi ⊢
              unfold updN
              by_cases e : i = (gN M0 M1 f).1
              · rw [if_pos e]; subst e; simp [u_I]
              · rw [if_neg e]
                simp only [u_I, if_true, if_neg e, show (50 : Nat) = 49 ↔ False by decide, if_false]
                exact x50 i (by omega)
  exact sgX3_gather_0 (one nf 0 _ (by omega) (fun q q1 q2 => by rw [u_I_ne _ _ q1, u_I_ne _ _ q1, u_I_ne _ _ q1]) (by simp [u_I, gN]; rfl) (by simp [u_I]) (by simp [u_I]) (fun i hi => absurd hi (Nat.not_lt_zero _)))
