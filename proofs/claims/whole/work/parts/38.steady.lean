/-! STEADY -/
def dv (a b : Int32) : Nat := (a.toNatClampNeg - b.toNatClampNeg) + (b.toNatClampNeg - a.toNatClampNeg)
theorem dv_nI {a b : Nat} (ha : a ≤ 100) (hb : b ≤ 100) : dv (nI a) (nI b) = (a - b) + (b - a) := by unfold dv; rw [nI_clamp (by omega), nI_clamp (by omega)]
theorem abs_dv {a b : Nat} (ha : a ≤ 100) (hb : b ≤ 100) : (if 0 ≤ nI a - nI b then nI a - nI b else 0 - (nI a - nI b)) = nI (dv (nI a) (nI b)) ∧ (if 0 ≤ nI a - nI b then nI a - nI b else -(nI a - nI b)) = nI (dv (nI a) (nI b)) := by
  rw [dv_nI ha hb]
  by_cases h : b ≤ a
  · rw [pk_sub h, if_pos (nI_pos' (by omega)), if_pos (nI_pos' (by omega)), show b - a = 0 by omega]
    exact ⟨rfl, rfl⟩
  · have hn : ¬ 0 ≤ nI a - nI b := Int32.not_le.mpr (pk_sneg (by omega) (by omega))
    rw [if_neg hn, if_neg hn, show a - b = 0 by omega, Nat.zero_add, ← pk_sub (show a ≤ b by omega)]
    refine ⟨?_, ?_⟩
    · rw [Int32.zero_sub, Int32.neg_sub]
    · rw [Int32.neg_sub]
theorem kE_val {I : st_I} {nF nf np n : Nat} (HF : iv_facts I nF) (hn : n ≤ nF) (hnf : nf ≤ 8) (hnp : np ≤ 10) : ∀ m, m ≤ n → ∀ j, kE (I 29) (nI np) (nI nf) n m j = -1 ∨ ((∃ v, v ≤ 100 ∧ kE (I 29) (nI np) (nI nf) n m j = nI v) ∧ ∃ v, v ≤ 100 ∧ kB (I 29) (nI np) (nI nf) n m j = nI v) := by
  intro m
  induction m with
  | zero => intro _ j; exact Or.inl rfl
  | succ m ih =>
    intro hm j
    have hB := kB_val HF hn hnf hnp (m + 1) hm j
    have hB0 := kB_val HF hn hnf hnp m (by omega) j
    rw [kE]
    rw [kB] at hB ⊢
    by_cases e : kcb (I 29) (nI np) (nI nf) n m = true
    · rw [if_pos e] at hB ⊢
      rw [if_pos e]
      by_cases z : j = pi8 (I 29) m
      · simp only [upd, if_pos z] at hB ⊢
        rw [← z]
        rcases hB0 with y | y
        · exact Or.inl y
        · rcases hB with w | w
          · exfalso
            unfold kcb kc at e
            obtain ⟨e1, e2⟩ := Bool.and_eq_true_iff.mp e
            obtain ⟨e3, e4⟩ := Bool.and_eq_true_iff.mp e1
            obtain ⟨p, f, hp, hf, r1, r2, r3, hpi, c1, c2, hc⟩ := kb_ok HF hn (by omega) hnf hnp e4
            rcases hc with ⟨-, -, ⟨v, hv, v1⟩, -⟩ | ⟨z1, -⟩
            · rw [v1] at w; exact absurd (w ▸ nI_pos' (show v < 2 ^ 31 by omega)) (by decide)
            · have := of_decide_eq_true e3
              rw [z1] at this; exact absurd this (by decide)
          · exact Or.inr ⟨y, w⟩
      · simp only [upd, if_neg z]; exact ih (by omega) j
    · rw [if_neg e] at hB ⊢
      rw [if_neg e]; exact ih (by omega) j
theorem kE_out {I : st_I} {nF nf np n : Nat} (HF : iv_facts I nF) (hn : n ≤ nF) (hnf : nf ≤ 8) (hnp : np ≤ 10) {p f : Nat} (hf : nf ≤ f) (hf8 : f < 8) : ∀ m, m ≤ n → kE (I 29) (nI np) (nI nf) n m (8 * p + f) = -1 := by
  intro m
  induction m with
  | zero => intro _; rfl
  | succ m ih =>
    intro hm
    rw [kE]
    by_cases e : kcb (I 29) (nI np) (nI nf) n m = true
    · rw [if_pos e]
      unfold kcb kc at e
      obtain ⟨e1, e2⟩ := Bool.and_eq_true_iff.mp e
      obtain ⟨e3, e4⟩ := Bool.and_eq_true_iff.mp e1
      obtain ⟨p', f', hp', hf', r1, r2, r3, hpi, c1, c2, hc⟩ := kb_ok HF hn (by omega) hnf hnp e4
      simp only [upd, hpi, if_neg (show ¬ 8 * p + f = 8 * p' + f' by omega)]
      exact ih (by omega)
    · rw [if_neg e]; exact ih (by omega)
abbrev g7_X : Type := Nat × (Nat → Int32) × (Nat → Int32)
/-- the PAIRS among the first x -/
def gS (E B T : Nat → Int32) : Nat → g7_X
  | 0 => (0, fun _ => 0, fun _ => 0)
  | x + 1 => if (gS E B T x).1 < 7 ∧ T (5 * (x / 8)) = 0 ∧ ¬ E x = -1 then ((gS E B T x).1 + 1, upd (gS E B T x).2.1 (gS E B T x).1 (E x), upd (gS E B T x).2.2 (gS E B T x).1 (B x)) else gS E B T x
theorem gS_le (E B T : Nat → Int32) : ∀ x, (gS E B T x).1 ≤ 7
  | 0 => Nat.zero_le _
  | x + 1 => by have := gS_le E B T x; rw [gS]; split; dsimp only; omega; omega
theorem gS_full {E B T : Nat → Int32} {x : Nat} (h : 7 ≤ (gS E B T x).1) : ∀ k, gS E B T (x + k) = gS E B T x
  | 0 => rfl
  | k + 1 => by rw [← Nat.add_assoc, gS, gS_full h k, if_neg (by omega)]
theorem gS_skip {E B T : Nat → Int32} {x : Nat} : ∀ k, (∀ j, j < k → T (5 * ((x + j) / 8)) = 0 → E (x + j) = -1) → gS E B T (x + k) = gS E B T x
  | 0, _ => rfl
  | k + 1, h => by rw [← Nat.add_assoc, gS, if_neg (fun z => z.2.2 (h k (by omega) z.2.1)), gS_skip k (fun j hj => h j (by omega))]
/-- both MARKS of a PAIR are MARKS -/
def vS (X : g7_X) : Prop := ∀ j, j < X.1 → (∃ v, v ≤ 100 ∧ X.2.1 j = nI v) ∧ ∃ v, v ≤ 100 ∧ X.2.2 j = nI v
theorem gS_ok {E B T : Nat → Int32} (h : ∀ j, E j = -1 ∨ ((∃ v, v ≤ 100 ∧ E j = nI v) ∧ ∃ v, v ≤ 100 ∧ B j = nI v)) : ∀ x, vS (gS E B T x)
  | 0 => fun j hj => absurd hj (Nat.not_lt_zero _)
  | x + 1 => by
    intro j hj
    have ih := gS_ok (E := E) (B := B) (T := T) h x
    rw [gS] at hj ⊢
    split at hj
    · rename_i hc
      rw [if_pos hc]
      dsimp only at hj ⊢
      by_cases e : j = (gS E B T x).1
      · subst e
        simp only [upd, if_true]
        exact (h x).resolve_left hc.2.2
      · simp only [upd, if_neg e]
        exact ih j (by omega)
    · rename_i hc
      rw [if_neg hc]
      exact ih j hj
def offN (X : g7_X) (k : Nat) : Nat := sn (fun j => dv (X.2.1 j) (X.2.2 j)) k
theorem dv_le {X : g7_X} (h : vS X) {i j : Nat} (hi : i < X.1) (hj : j < X.1) : dv (X.2.1 i) (X.2.2 j) ≤ 100 := by
  obtain ⟨⟨a, ha, e1⟩, -⟩ := h i hi
  obtain ⟨-, b, hb, e2⟩ := h j hj
  rw [e1, e2, dv_nI ha hb]; omega
theorem sn_le {a : Nat → Nat} {c : Nat} : ∀ {n : Nat}, (∀ i, i < n → a i ≤ c) → sn a n ≤ n * c
  | 0, _ => by simp [sn]
  | n + 1, h => by
    have h1 := sn_le (fun i hi => h i (show i < n + 1 by omega)) (n := n)
    have h2 := h n (by omega)
    rw [sn, Nat.succ_mul]; omega
theorem offN_upd {X : g7_X} {a b : Int32} : sn (fun j => dv (upd X.2.1 X.1 a j) (upd X.2.2 X.1 b j)) (X.1 + 1) = offN X X.1 + dv a b := by
  rw [sn]
  congr 1
  · exact sn_congr (fun j hj => by simp only [upd, if_neg (show ¬ j = X.1 by omega)])
  · simp [upd]
/-- the class has gathered X -/
def xS (J : st_I) (X : g7_X) : Prop := J 40 0 = nI X.1 ∧ J 40 1 = nI (offN X X.1) ∧ (∀ j, j < X.1 → J 41 j = X.2.1 j) ∧ ∀ j, j < X.1 → J 42 j = X.2.2 j
theorem pX_steady {d lv nf np nb nl npl : Nat} {E B : Nat → Int32} {I : st_I} {L : st_L} {F : st_I → st_L → Prop} (H : iv_told I lv nf np nb nl npl) (hE : ∀ j, j < 80 → I 33 j = E j) (hB : ∀ j, j < 80 → I 32 j = B j) (hv : ∀ j, E j = -1 ∨ ((∃ v, v ≤ 100 ∧ E j = nI v) ∧ ∃ v, v ≤ 100 ∧ B j = nI v)) (h : ∀ J : st_I, (∀ q, q ≠ 40 → q ≠ 41 → q ≠ 42 → J q = I q) → xS J (gS E B (I 3) (8 * np)) → F J L) : EV (d + 2) mX6_gather [.ref 40, .ref 1, .ref 30] I L F := by
  obtain ⟨hlv, b1, b2, b3, b4, b5, h18, c0, c1, -⟩ := id H.1
  have key : ∀ (r x : Nat) (J : st_I), x + r = 8 * np → (∀ q, q ≠ 40 → q ≠ 41 → q ≠ 42 → J q = I q) → xS J (gS E B (I 3) x) → TV (d + 2) mX6_gather 12 [.ref 40, .ref 1, .ref 30, .int (nI x)] [] J L F := by
    intro r
    induction r with
    | zero =>
      intro x J hx hJ hX
      obtain rfl : x = 8 * np := by omega
      refine sgX6_gather_12 ?_
      rw [hJ 1 (by decide) (by decide) (by decide), c1, show nI np * 8 = nI (np * 8) from pk_mul np 8, if_pos (nI_le (by omega) (by omega))]
      exact h J hJ hX
    | succ r ih =>
      intro x J hx hJ hX
      have hle := gS_le E B (I 3) x
      refine sgX6_gather_12 ?_
      rw [hJ 1 (by decide) (by decide) (by decide), c1, show nI np * 8 = nI (np * 8) from pk_mul np 8, if_neg (nI_ge (by omega) (by omega)), hX.1]
      by_cases h7 : 7 ≤ (gS E B (I 3) x).1
      · rw [if_pos (show (7 : Int32) ≤ nI _ from nI_le (a := 7) h7 (by omega))]
        refine h J hJ ?_
        have := gS_full h7 (r + 1)
        rw [hx] at this
        rw [this]; exact hX
      · rw [if_neg (show ¬ (7 : Int32) ≤ nI _ from nI_ge (b := 7) (by omega) (by decide)), show nI x / 8 = nI (x / 8) from pk_div (d := 8) (by omega) (by decide) (by decide)]
        refine x_isPlayer_i (iv_told_congr (fun q hq => hJ q (by omega) (by omega) (by omega)) (by rw [hJ 58 (by decide) (by decide) (by decide)]) H) (show x / 8 < np by omega) ?_
        rw [hJ 3 (by decide) (by decide) (by decide), nI_1]
        have st := ih (x + 1)
        rw [gS] at st
        by_cases z : I 3 (5 * (x / 8)) = 0
        · rw [if_pos z, if_neg (by decide), nI_clamp (by omega), hJ 33 (by decide) (by decide) (by decide), hE x (by omega), hJ 32 (by decide) (by decide) (by decide), hB x (by omega), hX.1, nI_clamp (by omega)]
          have vx : vp_in (nI x) 80 := vp_in_nI (by omega) (by decide)
          have vc : vp_in (nI (gS E B (I 3) x).1) 7 := vp_in_nI (by omega) (by decide)
          refine ⟨vx, ?_⟩
          by_cases y : E x = -1
          · rw [if_pos y]
            rw [if_neg (fun w => w.2.2 y)] at st
            exact st J (by omega) hJ hX
          · rw [if_neg y]
            rw [if_pos ⟨by omega, z, y⟩] at st
            refine ⟨vx, vc, vx, vc, vc, vc, st _ (by omega) (fun q q1 q2 q3 => by rw [u_I_ne _ _ q1, u_I_ne _ _ q1, u_I_ne _ _ q3, u_I_ne _ _ q2]; exact hJ q q1 q2 q3) ?_⟩
            obtain ⟨⟨a, ha, e1⟩, ⟨b, hb, e2⟩⟩ := (hv x).resolve_left y
            refine ⟨by simp only [u_I, if_true]; exact nI_1 _, ?_, fun j hj => ?_, fun j hj => ?_⟩
            · have e3 : u_I (u_I (u_I (u_I J 41 (gS E B (I 3) x).1 (E x)) 42 (gS E B (I 3) x).1 (B x)) 40 1 (J 40 1 + nI (dv (E x) (B x)))) 40 0 (nI (gS E B (I 3) x).1 + 1) 40 1 = J 40 1 + nI (dv (E x) (B x)) := by simp [u_I]
              have e4 : ∀ z : Int32, (u_I J 41 (gS E B (I 3) x).1 z) 41 (gS E B (I 3) x).1 = z := fun z => by simp [u_I]
              have e5 : ∀ z w : Int32, (u_I (u_I J 41 (gS E B (I 3) x).1 z) 42 (gS E B (I 3) x).1 w) 42 (gS E B (I 3) x).1 = w := fun z w => by simp [u_I]
              rw [e4, e5, e1, e2, (abs_dv ha hb).1, ← e1, ← e2, e3, hX.2.1, nI_add]
              unfold offN
              exact congrArg nI (offN_upd (X := gS E B (I 3) x)).symm
            · dsimp only at hj
              by_cases e : j = (gS E B (I 3) x).1
              · subst e; simp [u_I, upd]
              · simp only [u_I, upd, if_neg e, if_true, show (41 : Nat) = 40 ↔ False by decide, show (41 : Nat) = 42 ↔ False by decide, if_false]
                exact hX.2.2.1 j (by omega)
            · dsimp only at hj
              by_cases e : j = (gS E B (I 3) x).1
              · subst e; simp [u_I, upd]
              · simp only [u_I, upd, if_neg e, if_true, show (42 : Nat) = 40 ↔ False by decide, show (42 : Nat) = 41 ↔ False by decide, if_false]
                exact hX.2.2.2 j (by omega)
        · rw [if_neg z, if_pos rfl]
          rw [if_neg (fun w => z w.2.1)] at st
          exact st J (by omega) hJ hX
  refine sgX6_gather_0 (key (8 * np) 0 _ (by omega) (fun q q1 q2 q3 => by rw [u_I_ne _ _ q1, u_I_ne _ _ q1]) ⟨by simp [u_I, gS]; rfl, by simp [u_I, gS, offN, sn]; rfl, fun j hj => absurd hj (Nat.not_lt_zero _), fun j hj => absurd hj (Nat.not_lt_zero _)⟩)
/-- a way counts -/
def sfL (X : g7_X) (g : Nat → Nat) : Nat := if sn (fun j => dv (X.2.1 j) (X.2.2 (g j))) X.1 ≤ offN X X.1 then 1 else 0
theorem sn_mono {a : Nat → Nat} {m n : Nat} (h : m ≤ n) : sn a m ≤ sn a n := by
  induction n with
  | zero => obtain rfl : m = 0 := by omega
            exact Nat.le_refl _
  | succ n ih =>
    by_cases e : m = n + 1
    · subst e; exact Nat.le_refl _
    · have := ih (by omega)
      rw [sn]; omega
theorem sn_z {a : Nat → Nat} {n : Nat} (h : ∀ i, i < n → a i = 0) : sn a n = 0 := by
  induction n with
  | zero => rfl
  | succ n ih => rw [sn, ih (fun i hi => h i (by omega)), h n (by omega)]
theorem wy_dead {X : g7_X} : ∀ (r x at' : Nat) (g : Nat → Nat), at' + r = X.1 → offN X X.1 < sn (fun j => dv (X.2.1 j) (X.2.2 (g j))) at' → wyG (sfL X) X.1 r x g at' = 0
  | 0, x, at', g, hat, hd => by
    obtain rfl : at' = X.1 := by omega
    rw [wyG, sfL, if_neg (by omega)]
  | r + 1, x, at', g, hat, hd => by
    rw [wyG]
    refine sn_z (fun i hi => ?_)
    split
    · rfl
    · refine wy_dead r _ (at' + 1) _ (by omega) ?_
      have e : sn (fun j => dv (X.2.1 j) (X.2.2 (updN g at' i j))) at' = sn (fun j => dv (X.2.1 j) (X.2.2 (g j))) at' := sn_congr (fun j hj => by unfold updN; rw [if_neg (show ¬ j = at' by omega)])
      rw [sn, e]; omega
theorem bt7 : ∀ x, x < 128 → ∀ i, i < 7 → ((nI x &&& (1 <<< (nI i &&& 31)) = 0 ↔ x.testBit i = false) ∧ (nI x ||| (1 <<< (nI i &&& 31))) = nI (x ||| 2 ^ i) ∧ x ||| 2 ^ i < 128) := by decide +kernel
theorem pX_swaysFrom {d : Nat} {X : g7_X} {J : st_I} {L : st_L} (h7 : X.1 ≤ 7) (hX : xS J X) (hv : vS X) : ∀ (r x at' : Nat) (g : Nat → Nat) {F : Int32 → st_I → st_L → Prop}, at' + r = X.1 → x < 128 → (∀ j, j < at' → g j < X.1) → F (nI (wyG (sfL X) X.1 r x g at')) J L → EI (d + r + 1) mX6_waysFrom [.ref 40, .int (nI at'), .int (nI x), .int (nI (offN X X.1) - nI (sn (fun j => dv (X.2.1 j) (X.2.2 (g j))) at'))] J L F := by
  have hM : offN X X.1 ≤ 700 := by
    have := sn_le (a := fun j => dv (X.2.1 j) (X.2.2 j)) (c := 100) (n := X.1) (fun i hi => dv_le hv hi hi)
    unfold offN; omega
  intro r
  induction r with
  | zero =>
    intro x at' g F hat hx hg hF
    have hs := sn_le (a := fun j => dv (X.2.1 j) (X.2.2 (g j))) (c := 100) (n := at') (fun i hi => dv_le hv (by omega) (hg i hi))
    obtain rfl : at' = X.1 := by omega
    rw [wyG, sfL] at hF
    refine sgX6_waysFrom_0 ?_
    by_cases z : sn (fun j => dv (X.2.1 j) (X.2.2 (g j))) X.1 ≤ offN X X.1
    · rw [if_pos z] at hF
      rw [pk_sub z, if_pos (nI_pos' (by omega)), hX.1, if_neg (nI_nlt (Nat.le_refl _) (by omega))]; exact hF
    · rw [if_neg z] at hF
      rw [if_neg (Int32.not_le.mpr (pk_sneg (by omega) (by omega)))]; exact hF
  | succ r ih =>
    intro x at' g F hat hx hg hF
    have hs := sn_le (a := fun j => dv (X.2.1 j) (X.2.2 (g j))) (c := 100) (n := at') (fun i hi => dv_le hv (by omega) (hg i hi))
    refine sgX6_waysFrom_0 ?_
    by_cases z : sn (fun j => dv (X.2.1 j) (X.2.2 (g j))) at' ≤ offN X X.1
    · rw [if_pos (by rw [pk_sub z]; exact nI_pos' (by omega)), hX.1, if_pos (nI_lt (by omega) (by omega))]
      rw [wyG] at hF
      have key : ∀ (c i : Nat), i + c = X.1 → TI (d + (r + 1) + 1) mX6_waysFrom 22 [.ref 40, .int (nI at'), .int (nI x), .int (nI (offN X X.1) - nI (sn (fun j => dv (X.2.1 j) (X.2.2 (g j))) at')), .int (nI (sn (fun i => if x.testBit i then 0 else wyG (sfL X) X.1 r (x ||| 2 ^ i) (updN g at' i) (at' + 1)) i)), .int (nI i)] [] J L F := by
        intro c
        induction c with
        | zero =>
          intro i hi
          obtain rfl : i = X.1 := by omega
          refine sgX6_waysFrom_22 ?_
          rw [hX.1, if_pos (nI_le (Nat.le_refl _) (by omega))]; exact hF
        | succ c ihc =>
          intro i hi
          obtain ⟨t1, t2, t3⟩ := bt7 x hx i (by omega)
          have st := ihc (i + 1) (by omega)
          rw [sn] at st
          refine sgX6_waysFrom_22 ?_
          rw [hX.1, if_neg (nI_ge (by omega) (by omega)), t2, nI_1, nI_1]
          cases hb : x.testBit i
          · rw [if_pos (t1.mpr hb), nI_clamp (by omega), nI_clamp (by omega), hX.2.2.1 at' (by omega), hX.2.2.2 i (by omega)]
            rw [hb, if_neg (by decide)] at st
            obtain ⟨⟨a, ha, e1⟩, -⟩ := hv at' (by omega)
            obtain ⟨-, b, hb', e2⟩ := hv i (by omega)
            refine ⟨vp_in_nI (by omega) (by decide), vp_in_nI (by omega) (by decide), ?_⟩
            have e3 : sn (fun j => dv (X.2.1 j) (X.2.2 (updN g at' i j))) (at' + 1) = sn (fun j => dv (X.2.1 j) (X.2.2 (g j))) at' + dv (X.2.1 at') (X.2.2 i) := by
              rw [sn]
              congr 1
              · exact sn_congr (fun j hj => by unfold updN; rw [if_neg (show ¬ j = at' by omega)])
              · unfold updN; rw [if_pos rfl]
            have e4 : nI (offN X X.1) - nI (sn (fun j => dv (X.2.1 j) (X.2.2 (g j))) at') - nI (dv (X.2.1 at') (X.2.2 i)) = nI (offN X X.1) - nI (sn (fun j => dv (X.2.1 j) (X.2.2 (updN g at' i j))) (at' + 1)) := by rw [e3, ← nI_add, Int32.sub_sub]
            have e5 : (if 0 ≤ X.2.1 at' - X.2.2 i then X.2.1 at' - X.2.2 i else 0 - (X.2.1 at' - X.2.2 i)) = nI (dv (X.2.1 at') (X.2.2 i)) := by rw [e1, e2]; exact (abs_dv ha hb').1
            rw [e5, e4]
            refine ih (x ||| 2 ^ i) (at' + 1) (updN g at' i) (by omega) t3 (fun j hj => ?_) ?_
            · unfold updN
              split
              · omega
              · exact hg j (by omega)
            · rw [nI_add]; exact st
          · rw [if_neg (fun w => by rw [t1.mp w] at hb; exact absurd hb (by decide))]
            rw [hb, if_pos rfl, Nat.add_zero] at st
            exact st
      exact key X.1 0 (by omega)
    · rw [if_neg (Int32.not_le.mpr (pk_sneg (by omega) (by omega)))]
      rw [wy_dead (r + 1) x at' g hat (by omega)] at hF
      exact hF
theorem pX_sways {d : Nat} {X : g7_X} {J : st_I} {L : st_L} {F : Int32 → st_I → st_L → Prop} (h7 : X.1 ≤ 7) (hX : xS J X) (hv : vS X) (h : F (nI (wyG (sfL X) X.1 X.1 0 (fun _ => 0) 0)) J L) : EI (d + 9) mX6_ways [.ref 40] J L F := by
  refine sgX6_ways_0 ?_
  have := pX_swaysFrom (d := d + 7 - X.1) h7 hX hv X.1 0 0 (fun _ => 0) (F := F) (by omega) (by decide) (fun j hj => absurd hj (Nat.not_lt_zero _)) h
  rw [show d + 7 - X.1 + X.1 + 1 = d + 8 by omega] at this
  rw [sn, show nI 0 = 0 from rfl, Int32.sub_zero] at this
  rw [hX.2.1]
  exact this
/-! the reference -/
def mS (J : st_I) (X : g7_X) : Prop := J 58 61 = nI X.1 ∧ (∀ j, j < X.1 → J 103 j = X.2.1 j) ∧ ∀ j, j < X.1 → J 104 j = X.2.2 j
/-- what the reference's gathering leaves -/
def m58 (c : Nat) (I J : st_I) : Prop := (∀ q, q ≠ 58 → q < 101 → J q = I q) ∧ ∀ k, k < c → J 58 k = I 58 k
theorem m58.kq' {c : Nat} {I J : st_I} (h : m58 c I J) (hc : 53 ≤ c) : kq I J := ⟨fun q a _ _ => h.1 q (by omega) (by omega), fun q a b _ _ => h.1 q (by omega) (by omega), fun k hk => h.2 k (by omega)⟩
theorem m58.tr {c : Nat} {I J K : st_I} (h : m58 c I J) (g : m58 c J K) : m58 c I K := ⟨fun q a b => (g.1 q a b).trans (h.1 q a b), fun k hk => (g.2 k hk).trans (h.2 k hk)⟩
theorem pM_steadies {d lv nf np nb nl npl nF n : Nat} {I : st_I} {L : st_L} {F : st_I → st_L → Prop} (H : iv_told I lv nf np nb nl npl) (HF : iv_facts I nF) (hn : n ≤ nF) (h : ∀ J : st_I, m58 53 I J → mS J (gS (kE (I 29) (nI np) (nI nf) n n) (kB (I 29) (nI np) (nI nf) n n) (I 3) (8 * np)) → F J L) : EV (d + 3) mX12_steadies [.ref 58, .int (nI n)] I L F := by
  have h80 := HF.1
  obtain ⟨hlv, b1, b2, b3, b4, b5, h18, c0, c1, c2, c3, c4, m0, m1, -⟩ := id H.1
  have v2 : vp_in (nI lv) 2 := vp_in_nI (by omega) (by decide)
  have scan : ∀ (p f : Nat) (J : st_I), p < np → f < nf → m58 53 I J → (TV (d + 3) mX12_steadies 64 [.ref 58, .int (nI n), .int (nI p), .int (nI f), .int (kE (I 29) (nI np) (nI nf) n n (8 * p + f)), .int (kB (I 29) (nI np) (nI nf) n n (8 * p + f)), .int (nI n)] [] J L F) → ∀ (r k : Nat), k + r = n → TV (d + 3) mX12_steadies 64 [.ref 58, .int (nI n), .int (nI p), .int (nI f), .int (kE (I 29) (nI np) (nI nf) n k (8 * p + f)), .int (kB (I 29) (nI np) (nI nf) n k (8 * p + f)), .int (nI k)] [] J L F := by
    intro p f J hp hf hJ hend r
    have HJ := (hJ.kq' (by decide)).told H
    have HFJ := (hJ.kq' (by decide)).facts HF
    have e29 : J 29 = I 29 := hJ.1 29 (by decide) (by decide)
    induction r with
    | zero => intro k hk; obtain rfl : k = n := by omega
              exact hend
    | succ r ih =>
      intro k hk
      have st := ih (k + 1) (by omega)
      have vk : vp_in (nI k) 80 := vp_in_nI (by omega) (by decide)
      refine sgX12_steadies_64 ?_
      rw [if_neg (nI_ge (by omega) (by omega))]
      refine pM_counts HJ HFJ hn (by omega) (Or.inl rfl) ?_
      rw [e29, nI_1, nI_clamp (by omega)]
      rw [kE, kB] at st
      have keep : kcb (I 29) (nI np) (nI nf) n k = false → TV (d + 3) mX12_steadies 64 [.ref 58, .int (nI n), .int (nI p), .int (nI f), .int (kE (I 29) (nI np) (nI nf) n k (8 * p + f)), .int (kB (I 29) (nI np) (nI nf) n k (8 * p + f)), .int (nI (k + 1))] [] J L F := by
        intro e; rw [e, if_neg (by decide), if_neg (by decide)] at st; exact st
      cases hb : kc (I 29) (nI np) (nI nf) n k 0
      · rw [if_pos (by decide)]
        exact keep (by unfold kcb; rw [hb, Bool.false_and])
      · rw [if_neg (by decide)]
        have hz : I 29 (6 * k) = 0 := by unfold kc at hb; exact of_decide_eq_true (Bool.and_eq_true_iff.mp hb).1
        have hkb : kb (I 29) (nI np) (nI nf) n k = true := by rw [kc_split hz] at hb; exact hb
        obtain ⟨p', f', hp', hf', r1, r2, r3, hpi, q1, q2, hc⟩ := kb_ok HF hn (by omega) b1 b2 hkb
        rcases hc with ⟨-, q98, ⟨v, hv, v1⟩, ⟨sp, hsp, s1, -⟩, hbo, q100⟩ | ⟨z, -⟩
        · obtain ⟨e95, e96, -⟩ := HF.2.2.2 k (by omega)
          rw [hJ.1 100 (by decide) (by decide), hJ.1 96 (by decide) (by decide), hJ.1 97 (by decide) (by decide), hJ.1 98 (by decide) (by decide), q100, e96, r1, r3, q98]
          refine ⟨vk, ?_⟩
          by_cases y : I 29 (6 * k + 5) = 0
          · rw [if_pos y]
            have ek : kcb (I 29) (nI np) (nI nf) n k = true := by unfold kcb; rw [hb, decide_eq_true y]; rfl
            rw [ek, if_pos rfl, if_pos rfl, hpi] at st
            refine ⟨vk, ?_⟩
            by_cases w : nI p' = nI p
            · rw [if_pos w]
              refine ⟨vk, ?_⟩
              by_cases u : nI f' = nI f
              · rw [if_pos u]
                have ep : p' = p := (nI_eq (by omega) (by omega)).mp w
                have ef : f' = f := (nI_eq (by omega) (by omega)).mp u
                subst ep; subst ef
                simp only [upd, if_true] at st
                exact ⟨vk, st⟩
              · rw [if_neg u]
                have : ¬ 8 * p + f = 8 * p' + f' := fun e => u (by rw [show f' = f by omega])
                simp only [upd, if_neg this] at st
                exact st
            · rw [if_neg w]
              have : ¬ 8 * p + f = 8 * p' + f' := fun e => w (by rw [show p' = p by omega])
              simp only [upd, if_neg this] at st
              exact st
          · rw [if_neg y]
            exact keep (by unfold kcb; rw [decide_eq_false y, Bool.and_false])
        · rw [hz] at z; exact absurd z (by decide)
  have hval := kE_val HF hn b1 b2 n (Nat.le_refl _)
  have hout : ∀ p f, nf ≤ f → f < 8 → kE (I 29) (nI np) (nI nf) n n (8 * p + f) = -1 := fun p f h1 h2 => kE_out HF hn b1 b2 h1 h2 n (Nat.le_refl _)
  generalize hE : kE (I 29) (nI np) (nI nf) n n = E at *
  generalize hB : kB (I 29) (nI np) (nI nf) n n = B at *
  have outer : ∀ (r p : Nat) (J : st_I), p + r = np → m58 53 I J → mS J (gS E B (I 3) (8 * p)) → TV (d + 3) mX12_steadies 7 [.ref 58, .int (nI n), .int (nI p), .null, .null, .null, .null] [] J L F := by
    intro r
    induction r with
    | zero =>
      intro p J hp hJ hX
      obtain rfl : p = np := by omega
      refine sgX12_steadies_7 ?_
      rw [hJ.2 18 (by decide), h18, nI_clamp (by omega), hJ.1 73 (by decide) (by decide), m1, if_pos (nI_le (Nat.le_refl _) (by omega))]
      exact ⟨v2, h J hJ hX⟩
    | succ r ih =>
      intro p J hp hJ hX
      refine sgX12_steadies_7 ?_
      rw [hJ.2 18 (by decide), h18, nI_clamp (by omega), hJ.1 73 (by decide) (by decide), m1, if_neg (nI_ge (by omega) (by omega))]
      refine ⟨v2, ?_⟩
      have inner : ∀ (r' f : Nat) (J : st_I), f + r' = nf → m58 53 I J → mS J (gS E B (I 3) (8 * p + f)) → TV (d + 3) mX12_steadies 22 [.ref 58, .int (nI n), .int (nI p), .int (nI f), .null, .null, .null] [] J L F := by
        intro r'
        induction r' with
        | zero =>
          intro f J hf hJ hX
          obtain rfl : f = nf := by omega
          refine sgX12_steadies_22 ?_
          rw [hJ.2 18 (by decide), h18, nI_clamp (by omega), hJ.1 69 (by decide) (by decide), m0, if_pos (nI_le (Nat.le_refl _) (by omega)), nI_1]
          refine ⟨v2, ih (p + 1) J (by omega) hJ ?_⟩
          have e := gS_skip (E := E) (B := B) (T := I 3) (x := 8 * p + f) (8 - f) (fun j hj _ => by rw [Nat.add_assoc]; exact hout p (f + j) (by omega) (by omega))
          rw [show 8 * p + f + (8 - f) = 8 * (p + 1) by omega] at e
          rw [e]; exact hX
        | succ r' ih' =>
          intro f J hf hJ hX
          have hle := gS_le E B (I 3) (8 * p + f)
          refine sgX12_steadies_22 ?_
          rw [hJ.2 18 (by decide), h18, nI_clamp (by omega), hJ.1 69 (by decide) (by decide), m0, if_neg (nI_ge (by omega) (by omega)), hX.1, nI_1, nI_1]
          refine ⟨v2, ?_⟩
          by_cases h7 : 7 ≤ (gS E B (I 3) (8 * p + f)).1
          · rw [if_pos (show (7 : Int32) ≤ nI _ from nI_le (a := 7) h7 (by omega))]
            refine ih (p + 1) J (by omega) hJ ?_
            have e := gS_full h7 (8 - f)
            rw [show 8 * p + f + (8 - f) = 8 * (p + 1) by omega] at e
            rw [e]; exact hX
          · rw [if_neg (show ¬ (7 : Int32) ≤ nI _ from nI_ge (b := 7) (by omega) (by decide))]
            refine pM_isPlayer ((hJ.kq' (by decide)).told H) (by omega) ?_
            rw [hJ.1 3 (by decide) (by decide)]
            have st := ih' (f + 1)
            rw [← Nat.add_assoc, gS, show (8 * p + f) / 8 = p by omega] at st
            by_cases z : I 3 (5 * p) = 0
            · rw [if_pos z, if_neg (by decide)]
              have hend : TV (d + 3) mX12_steadies 64 [.ref 58, .int (nI n), .int (nI p), .int (nI f), .int (E (8 * p + f)), .int (B (8 * p + f)), .int (nI n)] [] J L F := by
                refine sgX12_steadies_64 ?_
                rw [if_pos (nI_le (Nat.le_refl _) (by omega)), hX.1, nI_1, nI_1, nI_clamp (by omega)]
                by_cases y : E (8 * p + f) = -1
                · rw [if_pos y]
                  rw [if_neg (fun w => w.2.2 y)] at st
                  exact st J (by omega) hJ hX
                · rw [if_neg y]
                  rw [if_pos ⟨by omega, z, y⟩] at st
                  have vc : vp_in (nI (gS E B (I 3) (8 * p + f)).1) 12 := vp_in_nI (by omega) (by decide)
                  refine ⟨vc, vc, st _ (by omega) ⟨fun q q1 q2 => ?_, fun k hk => ?_⟩ ⟨?_, fun j hj => ?_, fun j hj => ?_⟩⟩
                  · rw [u_I_ne _ _ q1, u_I_ne _ _ (by omega), u_I_ne _ _ (by omega)]; exact hJ.1 q q1 q2
                  · simp only [u_I, if_true, if_neg (show ¬ k = 61 by omega), show (58 : Nat) = 104 ↔ False by decide, show (58 : Nat) = 103 ↔ False by decide, if_false]; exact hJ.2 k hk
                  · simp [u_I]
                  · dsimp only at hj
                    by_cases e : j = (gS E B (I 3) (8 * p + f)).1
                    · subst e; simp [u_I, upd]
                    · simp only [u_I, upd, if_neg e, if_true, show (103 : Nat) = 58 ↔ False by decide, show (103 : Nat) = 104 ↔ False by decide, if_false]
                      exact hX.2.1 j (by omega)
                  · dsimp only at hj
                    by_cases e : j = (gS E B (I 3) (8 * p + f)).1
                    · subst e; simp [u_I, upd]
                    · simp only [u_I, upd, if_neg e, if_true, show (104 : Nat) = 58 ↔ False by decide, show (104 : Nat) = 103 ↔ False by decide, if_false]
                      exact hX.2.2 j (by omega)
              have := scan p f J (by omega) (by omega) hJ hend n 0 (by omega)
              exact this
            · rw [if_neg z, if_pos rfl]
              rw [if_neg (fun w => z w.2.1)] at st
              exact st J (by omega) hJ hX
      exact inner nf 0 J (by omega) hJ hX
  refine sgX12_steadies_0 (outer np 0 _ (by omega) ⟨fun q q1 q2 => by rw [u_I_ne _ _ q1], fun k hk => by simp [u_I, show ¬ k = 61 by omega]⟩ ⟨by simp [u_I, gS]; rfl, fun j hj => absurd hj (Nat.not_lt_zero _), fun j hj => absurd hj (Nat.not_lt_zero _)⟩)
theorem pM_off {d : Nat} {X : g7_X} {J : st_I} {L : st_L} {F : Int32 → st_I → st_L → Prop} (h7 : X.1 ≤ 7) (hX : mS J X) (hv : vS X) (h : F (nI (offN X X.1)) J L) : EI (d + 1) mX12_off [.ref 58] J L F := by
  have key : ∀ (r k : Nat), k + r = X.1 → TI (d + 1) mX12_off 4 [.ref 58, .int (nI (offN X k)), .int (nI k)] [] J L F := by
    intro r
    induction r with
    | zero =>
      intro k hk
      obtain rfl : k = X.1 := by omega
      refine sgX12_off_4 ?_
      rw [hX.1, if_pos (nI_le (Nat.le_refl _) (by omega))]; exact h
    | succ r ih =>
      intro k hk
      obtain ⟨⟨a, ha, e1⟩, ⟨b, hb, e2⟩⟩ := hv k (by omega)
      have vk : vp_in (nI k) 12 := vp_in_nI (by omega) (by decide)
      refine sgX12_off_4 ?_
      rw [hX.1, if_neg (nI_ge (by omega) (by omega)), nI_clamp (by omega), hX.2.1 k (by omega), hX.2.2 k (by omega)]
      refine ⟨vk, vk, sgX12_bare_0 ?_⟩
      rw [e1, e2, (abs_dv ha hb).2, nI_1, nI_add]
      have := ih (k + 1) (by omega)
      rw [offN, sn, ← offN, e1, e2] at this
      exact this
  exact sgX12_off_0 (key X.1 0 (by omega))
theorem pM_steadyCount {d lv nf np nb nl npl nF n : Nat} {I : st_I} {L : st_L} {F : Int32 → st_I → st_L → Prop} (H : iv_told I lv nf np nb nl npl) (HF : iv_facts I nF) (hn : n ≤ nF) (X : g7_X) (eX : X = gS (kE (I 29) (nI np) (nI nf) n n) (kB (I 29) (nI np) (nI nf) n n) (I 3) (8 * np)) (h : ∀ J : st_I, m58 53 I J → mS J X → F (nI (wyG (sfL X) X.1 X.1 0 (fun _ => 0) 0)) J L) : EI (d + 4) mX12_steadyCount [.ref 58, .int (nI n)] I L F := by
  obtain ⟨hlv, b1, b2, -⟩ := id H.1
  have hv : vS X := by rw [eX]; exact gS_ok (kE_val HF hn b1 b2 n (Nat.le_refl _)) _
  have h7 : X.1 ≤ 7 := by rw [eX]; exact gS_le _ _ _ _
  refine sgX12_steadyCount_0 (pM_steadies H HF hn (fun K hK hX => ?_))
  rw [← eX] at hX
  refine pM_off h7 hX hv ?_
  have hM : offN X X.1 ≤ 700 := by
    have := sn_le (a := fun j => dv (X.2.1 j) (X.2.2 j)) (c := 100) (n := X.1) (fun i hi => dv_le hv hi hi)
    unfold offN; omega
  have hfac := fac_le X.1 (by omega)
  have key : ∀ (r w : Nat) (J : st_I), w + r = facN X.1 → m58 53 I J → mS J X → TI (d + 4) mX12_steadyCount 15 [.ref 58, .null, .int (nI (offN X X.1)), .int (nI (sn (fun w => sfL X (gvN X.1 X.1 0 (fun _ => 0) 0 w)) w)), .int (nI w), .null, .null] [] J L F := by
    intro r
    induction r with
    | zero =>
      intro w J hw hJ hX
      obtain rfl : w = facN X.1 := by omega
      refine sgX12_steadyCount_15 ?_
      rw [hX.1]
      refine m_fact (by omega) ?_
      rw [if_pos (nI_le (Nat.le_refl _) (by omega)), gv_all]
      exact h J hJ hX
    | succ r ih =>
      intro w J hw hJ hX
      refine sgX12_steadyCount_15 ?_
      rw [hX.1]
      refine m_fact (by omega) ?_
      rw [if_neg (nI_ge (by omega) (by omega)), hX.1]
      refine m_gives (by omega) (by omega) (fun K hK hg1 hg2 => ?_)
      have hXK : mS K X := ⟨by rw [hK 58 (by decide) (by decide)]; exact hX.1, fun j hj => by rw [hK 103 (by decide) (by decide)]; exact hX.2.1 j hj, fun j hj => by rw [hK 104 (by decide) (by decide)]; exact hX.2.2 j hj⟩
      have hK2 : m58 53 I K := hJ.tr ⟨fun q q1 q2 => hK q (by omega) (by omega), fun k hk => by rw [hK 58 (by decide) (by decide)]⟩
      generalize hg : gvN X.1 X.1 0 (fun _ => 0) 0 w = g at hg1 hg2
      have st := ih (w + 1) K (by omega) hK2 hXK
      rw [sn, hg] at st
      have inner : ∀ (c k : Nat), k + c = X.1 → TI (d + 4) mX12_steadyCount 43 [.ref 58, .null, .int (nI (offN X X.1)), .int (nI (sn (fun w => sfL X (gvN X.1 X.1 0 (fun _ => 0) 0 w)) w)), .int (nI w), .int (nI (sn (fun j => dv (X.2.1 j) (X.2.2 (g j))) k)), .int (nI k)] [] K L F := by
        intro c
        induction c with
        | zero =>
          intro k hk
          obtain rfl : k = X.1 := by omega
          have hs := sn_le (a := fun j => dv (X.2.1 j) (X.2.2 (g j))) (c := 100) (n := X.1) (fun i hi => dv_le hv hi (hg2 i hi))
          refine sgX12_steadyCount_43 ?_
          rw [hXK.1, if_pos (nI_le (Nat.le_refl _) (by omega)), nI_1, nI_1]
          rw [sfL] at st
          by_cases z : sn (fun j => dv (X.2.1 j) (X.2.2 (g j))) X.1 ≤ offN X X.1
          · rw [if_neg (nI_nlt z (by omega))]
            rw [if_pos z] at st; exact st
          · rw [if_pos (nI_lt (by omega) (by omega))]
            rw [if_neg z] at st; exact st
        | succ c ihc =>
          intro k hk
          have hgk := hg2 k (by omega)
          obtain ⟨⟨a, ha, e1⟩, -⟩ := hv k (by omega)
          obtain ⟨-, b, hb, e2⟩ := hv (g k) hgk
          refine sgX12_steadyCount_43 ?_
          rw [hXK.1, if_neg (nI_ge (by omega) (by omega)), nI_clamp (by omega), hg1 k (by omega), nI_clamp (by omega), hXK.2.1 k (by omega), hXK.2.2 (g k) hgk, e1, e2]
          refine ⟨vp_in_nI (by omega) (by decide), vp_in_nI (by omega) (by decide), vp_in_nI (by omega) (by decide), sgX12_bare_0 ?_⟩
          rw [(abs_dv ha hb).2, nI_1, nI_add]
          have := ihc (k + 1) (by omega)
          rw [sn, e1, e2] at this
          exact this
      exact inner X.1 0 (by omega)
  exact key (facN X.1) 0 K (by omega) hK hX
theorem op_steady {lv nf np nb nl npl nF : Nat} {I : st_I} {L : st_L} {P : st_I → st_L → Prop} (H : iv_told I lv nf np nb nl npl) (HF : iv_facts I nF) (hk : iv_kn I nf np nF) (hP : ∀ J, kq I J → iv_kn J nf np nF → J 57 = I 57 → P J L) (c e : Int32) :
    EI 60 mX11_steady [.ref 0, .int c, .int e] I L (fun r I1 L1 => EI 60 mX12_steady [.ref 58, .int c, .int e] I1 L1 (fun r' I2 L2 => r' = r ∧ P I2 L2)) := by
  have no : P I L := hP I kq.rf hk rfl
  have h80 := HF.1
  refine sgX11_steady_0 ?_
  rcases ot_ix e 2 (by decide) with ho | ⟨k, hk2, rfl⟩
  · have bad : EI 60 mX12_steady [.ref 58, .int c, .int e] I L (fun r' I2 L2 => r' = -1 ∧ P I2 L2) := by
      refine sgX12_steady_0 ?_
      rcases ot_ix c (nF + 1) (by omega) with ho2 | ⟨n, hn, rfl⟩
      · refine m_isKnown_o HF ho2 ?_
        rw [if_pos rfl]; exact ⟨rfl, no⟩
      · refine m_isKnown_i HF (by omega) ?_
        rw [if_neg (by decide)]
        refine in_out (n := 2) (by decide) ho ?_
        rw [if_pos rfl]; exact ⟨rfl, no⟩
    by_cases z : e < 0
    · rw [if_pos z]; exact bad
    · obtain ⟨i, hi, rfl⟩ := nI_of z
      have : 2 ≤ i := (nI_leI (by omega) hi).mp (ho.resolve_left z)
      rw [if_neg z, if_pos (show (1 : Int32) < nI i from nI_lt (a := 1) (by omega) hi)]; exact bad
  rw [if_neg (nI_pos (by omega)), if_neg (show ¬ (1 : Int32) < nI k from nI_nlt (a := 1) (b := k) (by omega) (by decide))]
  rcases ot_ix c (nF + 1) (by omega) with ho | ⟨n, hn, rfl⟩
  · refine x_knows_o HF ho ?_
    rw [if_pos rfl]
    refine sgX12_steady_0 (m_isKnown_o HF ho ?_)
    rw [if_pos rfl]; exact ⟨rfl, no⟩
  refine x_knows_i H HF hk (by omega) (fun J hJ => ?_)
  have HJ := hJ.kq'.told H
  have HFJ := hJ.kq'.facts HF
  obtain ⟨hlv, b1, b2, -⟩ := id HJ.1
  rw [if_neg (by decide)]
  refine pX_steady HJ hJ.2.2.2.2.1 hJ.2.2.2.1 (kE_val HFJ (by omega) b1 b2 n (Nat.le_refl _)) (fun K hK hX => ?_)
  have kK' : kq J K := ⟨fun q a _ _ => hK q (by omega) (by omega) (by omega), fun q a b _ _ => hK q (by omega) (by omega) (by omega), fun k _ => by rw [hK 58 (by decide) (by decide) (by decide)]⟩
  have HK := kK'.told HJ
  have HFK := kK'.facts HFJ
  have e29 : K 29 = J 29 := hK 29 (by decide) (by decide) (by decide)
  have e3 : K 3 = J 3 := hK 3 (by decide) (by decide) (by decide)
  have knK : iv_kn K nf np nF := iv_kn_same (fun q hq => hK q (by omega) (by omega) (by omega)) (hJ.kn (by omega))
  rw [hX.1, hX.2.1]
  refine sgX12_steady_0 (m_isKnown_i HFK (by omega) ?_)
  rw [if_neg (by decide)]
  refine in_in (n := 2) (by decide) hk2 ?_
  rw [if_neg (by decide)]
  refine pM_steadies HK HFK (by omega) (fun M hM hXM => ?_)
  rw [e29, e3] at hXM
  have pk : P M L := hP M ((hJ.kq'.tr kK').tr (hM.kq' (by decide))) (iv_kn_same (fun q hq => hM.1 q (by omega) (by omega)) knK) (by rw [hM.1 57 (by decide) (by decide), hK 57 (by decide) (by decide) (by decide), hJ.1 57 (by decide)])
  by_cases z : nI k = 0
  · rw [if_pos z, if_pos z]; exact ⟨hXM.1, pk⟩
  · rw [if_neg z, if_neg z]
    exact pM_off (gS_le _ _ _ _) hXM (gS_ok (kE_val HFJ (by omega) b1 b2 n (Nat.le_refl _)) _) ⟨rfl, pk⟩
theorem op_steadyWays {lv nf np nb nl npl nF : Nat} {I : st_I} {L : st_L} {P : st_I → st_L → Prop} (H : iv_told I lv nf np nb nl npl) (HF : iv_facts I nF) (hk : iv_kn I nf np nF) (hP : ∀ J, kq I J → iv_kn J nf np nF → J 57 = I 57 → P J L) (c : Int32) :
    EI 60 mX11_steadyWays [.ref 0, .int c] I L (fun r I1 L1 => EI 60 mX12_steadyWays [.ref 58, .int c] I1 L1 (fun r' I2 L2 => r' = r ∧ P I2 L2)) := by
  have no : P I L := hP I kq.rf hk rfl
  have h80 := HF.1
  refine sgX11_steadyWays_0 ?_
  rcases ot_ix c (nF + 1) (by omega) with ho | ⟨n, hn, rfl⟩
  · refine x_knows_o HF ho ?_
    rw [if_pos rfl]
    refine sgX12_steadyWays_0 (m_isKnown_o HF ho ?_)
    rw [if_pos rfl]; exact ⟨rfl, no⟩
  refine x_knows_i H HF hk (by omega) (fun J hJ => ?_)
  have HJ := hJ.kq'.told H
  have HFJ := hJ.kq'.facts HF
  obtain ⟨hlv, b1, b2, -⟩ := id HJ.1
  rw [if_neg (by decide)]
  refine pX_steady HJ hJ.2.2.2.2.1 hJ.2.2.2.1 (kE_val HFJ (by omega) b1 b2 n (Nat.le_refl _)) (fun K hK hX => ?_)
  have kK' : kq J K := ⟨fun q a _ _ => hK q (by omega) (by omega) (by omega), fun q a b _ _ => hK q (by omega) (by omega) (by omega), fun k _ => by rw [hK 58 (by decide) (by decide) (by decide)]⟩
  have HK := kK'.told HJ
  have HFK := kK'.facts HFJ
  have e29 : K 29 = J 29 := hK 29 (by decide) (by decide) (by decide)
  have e3 : K 3 = J 3 := hK 3 (by decide) (by decide) (by decide)
  have knK : iv_kn K nf np nF := iv_kn_same (fun q hq => hK q (by omega) (by omega) (by omega)) (hJ.kn (by omega))
  have hv := gS_ok (T := J 3) (kE_val HFJ (show n ≤ nF by omega) b1 b2 n (Nat.le_refl _)) (8 * np)
  refine pX_sways (gS_le _ _ _ _) hX hv ?_
  refine sgX12_steadyWays_0 (m_isKnown_i HFK (by omega) ?_)
  rw [if_neg (by decide)]
  refine pM_steadyCount HK HFK (by omega) (gS (kE (J 29) (nI np) (nI nf) n n) (kB (J 29) (nI np) (nI nf) n n) (J 3) (8 * np)) (by rw [e29, e3]) (fun M hM _ => ⟨rfl, hP M ((hJ.kq'.tr kK').tr (hM.kq' (by decide))) (iv_kn_same (fun q hq => hM.1 q (by omega) (by omega)) knK) (by rw [hM.1 57 (by decide) (by decide), hK 57 (by decide) (by decide) (by decide), hJ.1 57 (by decide)])⟩)
