/-! read: the class's scan -/
def wdk (k : Nat) : Nat := (js_ch 1 k).toNatClampNeg
theorem wdk_ok : ∀ k, k < 176 → js_ch 1 k = nI (wdk k) ∧ wdk k < 128 := by decide +kernel
/-- what stands at a word's place j -/
def aF (B : Nat → Nat) (i e j : Nat) : Nat := if i + j < e then B (i + j) else 32
def alF (p : Nat → Bool) : Nat → Bool
  | 0 => true
  | r + 1 => alF p r && p r
theorem alF_iff (p : Nat → Bool) : ∀ r, alF p r = true ↔ ∀ j, j < r → p j = true
  | 0 => ⟨fun _ j hj => by omega, fun _ => rfl⟩
  | r + 1 => by
    rw [alF, Bool.and_eq_true, alF_iff p r]
    constructor
    · intro h j hj
      by_cases e : j = r
      · rw [e]; exact h.2
      · exact h.1 j (by omega)
    · exact fun h => ⟨fun j hj => h j (by omega), h r (by omega)⟩
def mwF (B : Nat → Nat) (i e w : Nat) : Bool := alF (fun j => decide (wdk (8 * w + j) = aF B i e j)) 8
theorem mwF_iff {B : Nat → Nat} {i e w : Nat} : mwF B i e w = true ↔ ∀ j, j < 8 → wdk (8 * w + j) = aF B i e j := by
  unfold mwF
  rw [alF_iff]
  exact ⟨fun h j hj => of_decide_eq_true (h j hj), fun h j hj => decide_eq_true (h j hj)⟩
theorem x_isWord {d n i e w : Nat} {I : st_I} {L : st_L} {F : Int32 → st_I → st_L → Prop} (H : lx I n) (he : e ≤ n) (hi : i < e) (hw : w < 22) (h : F (b01 (mwF (bB I) i e w)) I L) : EI (d + 4) mX5_isWord [.ref 17, .int (nI w), .int (nI i), .int (nI e)] I L F := by
  obtain ⟨h1, h2, h3⟩ := id H
  have step : ∀ (j : Nat) (x : Int32), j < 8 → bt x → ub x = aF (bB I) i e j → (wdk (8 * w + j) = aF (bB I) i e j → TI (d + 4) mX5_isWord 3 [.ref 17, .int (nI w), .int (nI i), .int (nI e), .int (nI (j + 1)), .null] [] I L F) → TI (d + 4) mX5_isWord 32 [.ref 17, .int (nI w), .int (nI i), .int (nI e), .int (nI j), .null] [.int x] I L F := by
    intro j x hj hx hu hn
    obtain ⟨q1, q2⟩ := wdk_ok (8 * w + j) (by omega)
    refine sgX5_isWord_32 ?_
    rw [show nI w * 8 + nI j = nI (8 * w + j) by rw [show (8 : Int32) = nI 8 from rfl, pk_mul, nI_add, Nat.mul_comm]]
    refine js_charAt (by omega) ?_
    rw [q1, nI_1]
    by_cases z : wdk (8 * w + j) = aF (bB I) i e j
    · rw [if_pos ((by_eq hx q2).mpr (hu.trans z.symm)).symm]; exact hn z
    · rw [if_neg (fun q => z (((by_eq hx q2).mp q.symm).symm.trans hu))]
      rw [b01_0 (fun q => z (mwF_iff.mp q j hj))] at h; exact h
  have key : ∀ r j, j + r = 8 → (∀ k, k < j → wdk (8 * w + k) = aF (bB I) i e k) → TI (d + 4) mX5_isWord 3 [.ref 17, .int (nI w), .int (nI i), .int (nI e), .int (nI j), .null] [] I L F := by
    intro r
    induction r with
    | zero =>
      intro j hj hk
      obtain rfl : j = 8 := by omega
      refine sgX5_isWord_3 ?_
      rw [if_pos (show (8 : Int32) ≤ nI 8 from nI_le (a := 8) (Nat.le_refl _) (by decide))]
      rw [b01_1 (mwF_iff.mpr hk)] at h; exact h
    | succ r ih =>
      intro j hj hk
      refine sgX5_isWord_3 ?_
      rw [if_neg (show ¬ (8 : Int32) ≤ nI j from nI_ge (b := 8) (by omega) (by decide)), nI_add]
      have go : wdk (8 * w + j) = aF (bB I) i e j → TI (d + 4) mX5_isWord 3 [.ref 17, .int (nI w), .int (nI i), .int (nI e), .int (nI (j + 1)), .null] [] I L F := fun z => ih (j + 1) (by omega) (fun k hk2 => by
        by_cases c : k = j
        · subst c; exact z
        · exact hk k (by omega))
      by_cases z : i + j < e
      · rw [if_neg (nI_ge z (by omega)), nI_clamp (by omega)]
        exact ⟨vp_in_nI (by omega) (by decide), step j _ (by omega) (h3 _) (by unfold aF; rw [if_pos z]; rfl) go⟩
      · rw [if_pos (nI_le (by omega) (by omega))]
        exact step j 32 (by omega) (by unfold bt; decide) (by unfold aF; rw [if_neg z]; decide) go
  exact sgX5_isWord_0 (key 8 0 rfl (fun k hk => by omega))
def wdF (B : Nat → Nat) (i e : Nat) : Nat → Nat → Nat
  | 0, _ => 2
  | r + 1, w => if mwF B i e w then 128 + w else wdF B i e r (w + 1)
theorem x_wordOf {d n i e : Nat} {I : st_I} {L : st_L} {F : Int32 → st_I → st_L → Prop} (H : lx I n) (he : e ≤ n) (hi : i < e) (h : F (nI (wdF (bB I) i e 22 0)) I L) : EI (d + 5) mX5_wordOf [.ref 17, .int (nI i), .int (nI e)] I L F := by
  have key : ∀ r w, w + r = 22 → wdF (bB I) i e r w = wdF (bB I) i e 22 0 → TI (d + 5) mX5_wordOf 2 [.ref 17, .int (nI i), .int (nI e), .int (nI w)] [] I L F := by
    intro r
    induction r with
    | zero =>
      intro w hw hq
      obtain rfl : w = 22 := by omega
      refine sgX5_wordOf_2 ?_
      rw [if_pos (show (22 : Int32) ≤ nI 22 from nI_le (a := 22) (Nat.le_refl _) (by decide))]
      rw [← hq] at h; exact h
    | succ r ih =>
      intro w hw hq
      refine sgX5_wordOf_2 ?_
      rw [if_neg (show ¬ (22 : Int32) ≤ nI w from nI_ge (b := 22) (by omega) (by decide)), nI_1]
      refine x_isWord H he hi (by omega) ?_
      rw [wdF] at hq
      by_cases z : mwF (bB I) i e w = true
      · rw [b01_1 z, if_neg (by decide), show (128 : Int32) + nI w = nI (128 + w) from nI_add 128 w]
        rw [if_pos z] at hq
        rw [← hq] at h; exact h
      · rw [b01_0 z, if_pos rfl]
        rw [if_neg z] at hq
        exact ih (w + 1) (by omega) hq
  exact sgX5_wordOf_0 (key 22 0 rfl rfl)
/-- the signs -/
def sgB (c : Nat) : Bool := decide (0 ≤ js_ix (nI c))
def kdF (B : Nat → Nat) (n i e : Nat) : Nat := if n ≤ i then 0 else if lcB (B i) then (if e - i ≤ 8 then wdF B i e 22 0 else 1) else if dgB (B i) then (if e - i ≤ 4 then 3 else 1) else if e - i = 2 then 4 else if sgB (B i) then B i else 1
theorem x_kindOf {d n i e : Nat} {I : st_I} {L : st_L} {F : Int32 → st_I → st_L → Prop} (H : lx I n) (he : e ≤ n) (hi : i ≤ e) (hi2 : i < n → i < e) (h : F (nI (kdF (bB I) n i e)) I L) : EI (d + 6) mX5_kindOf [.ref 17, .int (nI i), .int (nI e)] I L F := by
  obtain ⟨h1, h2, h3⟩ := id H
  refine sgX5_kindOf_0 ?_
  rw [h2]
  unfold kdF at h
  by_cases z : i < n
  · have hie := hi2 z
    rw [if_neg (by omega)] at h
    rw [if_pos (nI_lt z (by omega)), pk_sub (by omega), nI_clamp (by omega)]
    refine x_isLetter H (by omega) ?_
    rw [decide_eq_true z, Bool.true_and]
    by_cases y : lcB (bB I i) = true
    · rw [if_pos y] at h
      rw [b01_1 y, if_neg (by decide)]
      by_cases v : e - i ≤ 8
      · rw [if_pos v] at h
        rw [if_pos (show nI (e - i) ≤ 8 from nI_le (b := 8) v (by decide))]
        exact x_wordOf H he hie h
      · rw [if_neg v] at h
        rw [if_neg (show ¬ nI (e - i) ≤ 8 from nI_ge (a := 8) (by omega) (by omega))]; exact h
    · rw [if_neg y] at h
      rw [b01_0 y, if_pos rfl]
      refine x_isDigit H (by omega) ?_
      rw [decide_eq_true z, Bool.true_and]
      by_cases x : dgB (bB I i) = true
      · rw [if_pos x] at h
        rw [b01_1 x, if_neg (by decide)]
        by_cases v : e - i ≤ 4
        · rw [if_pos v] at h
          rw [if_pos (show nI (e - i) ≤ 4 from nI_le (b := 4) v (by decide))]; exact h
        · rw [if_neg v] at h
          rw [if_neg (show ¬ nI (e - i) ≤ 4 from nI_ge (a := 4) (by omega) (by omega))]; exact h
      · rw [if_neg x] at h
        rw [b01_0 x, if_pos rfl]
        obtain ⟨q1, q2, -, q4⟩ := bt_c (h3 i)
        by_cases v : e - i = 2
        · rw [if_pos v] at h
          rw [if_pos (show nI (e - i) = 2 by rw [v]; rfl)]; exact h
        · rw [if_neg v] at h
          rw [if_neg (show ¬ nI (e - i) = 2 from fun q => v ((nI_eq (by omega) (by decide)).mp (q.trans (lit 2))))]
          refine ⟨vp_in_nI (by omega) (by decide), ?_⟩
          rw [q2, q4]
          refine js_indexOf q1 ?_
          by_cases u : sgB (bB I i) = true
          · rw [if_pos u] at h
            rw [if_pos (show 0 ≤ js_ix (nI (ub (I 18 i))) from of_decide_eq_true u)]; exact h
          · rw [if_neg u] at h
            rw [if_neg (show ¬ 0 ≤ js_ix (nI (ub (I 18 i))) from fun q => u (decide_eq_true q))]; exact h
  · rw [if_pos (by omega)] at h
    rw [if_neg (nI_nlt (by omega) (by omega))]; exact h
theorem wdF_lt (B : Nat → Nat) (i e : Nat) : ∀ r w, w + r ≤ 22 → wdF B i e r w < 150
  | 0, _, _ => by rw [wdF]; decide
  | r + 1, w, h => by
    rw [wdF]; split
    · omega
    · exact wdF_lt B i e r (w + 1) (by omega)
theorem kdF_lt {B : Nat → Nat} (hB : ∀ j, B j < 256) (n i e : Nat) : kdF B n i e < 256 := by
  have h1 := wdF_lt B i e 22 0 (by decide)
  have h2 := hB i
  unfold kdF
  repeat' split
  all_goals omega
/-- where TOKEN i begins -/
def psF (B : Nat → Nat) (n : Nat) : Nat → Nat
  | 0 => skF B n 0
  | i + 1 => skF B n (teF B n (psF B n i))
/-- its kind -/
def knF (B : Nat → Nat) (n i : Nat) : Nat := kdF B n (psF B n i) (teF B n (psF B n i))
theorem skF_le {B : Nat → Nat} {n i : Nat} (h : i ≤ n) : i ≤ skF B n i ∧ skF B n i ≤ n := by
  have := rnF_le (fun j => blB (B j)) (n - i) i
  unfold skF; omega
theorem teF_le {B : Nat → Nat} {n i : Nat} (h : i ≤ n) : i ≤ teF B n i ∧ teF B n i ≤ n ∧ (i < n → i < teF B n i) := by
  have h1 := rnF_le (fun j => lcB (B j)) (n - i) i
  have h2 := rnF_le (fun j => dgB (B j)) (n - i) i
  unfold teF llF dlF
  repeat' split
  all_goals omega
theorem psF_le (B : Nat → Nat) (n : Nat) : ∀ i, psF B n i ≤ n
  | 0 => (skF_le (Nat.zero_le n)).2
  | i + 1 => (skF_le (teF_le (psF_le B n i)).2.1).2
/-- the class has scanned: TOKENS 0 .. k, the first k of them neither END nor BAD -/
def xk (I J : st_I) (n k : Nat) : Prop := (∀ q, q ≠ 19 → q ≠ 20 → J q = I q) ∧ (∀ i, i < k → J 19 i = nI (knF (bB I) n i) ∧ J 20 i = nI (psF (bB I) n i))
/-- as far as the class goes -/
def spF (B : Nat → Nat) (n : Nat) : Nat → Nat → Nat
  | 0, i => i
  | r + 1, i => if knF B n i = 0 ∨ knF B n i = 1 then i + 1 else spF B n r (i + 1)
theorem pX_scan {d n : Nat} {I : st_I} {L : st_L} {F : st_I → st_L → Prop} (H : lx I n) (h : ∀ J, xk I J n (spF (bB I) n 401 0) → F J L) : EV (d + 7) mX5_scan [.ref 17] I L F := by
  obtain ⟨h1, h2, h3⟩ := id H
  have keep : ∀ J : st_I, (∀ q, q ≠ 19 → q ≠ 20 → J q = I q) → lx J n ∧ bB J = bB I := fun J hJ => ⟨⟨h1, by rw [hJ 17 (by decide) (by decide)]; exact h2, fun j => by rw [hJ 18 (by decide) (by decide)]; exact h3 j⟩, by funext j; unfold bB; rw [hJ 18 (by decide) (by decide)]⟩
  have key : ∀ (r i f : Nat) (J : st_I), i + r = 401 → f ≤ n → psF (bB I) n i = skF (bB I) n f → xk I J n i → spF (bB I) n r i = spF (bB I) n 401 0 → TV (d + 7) mX5_scan 4 [.ref 17, .int (nI f), .int (nI i), .null] [] J L F := by
    intro r
    induction r with
    | zero =>
      intro i f J hi hf hp hJ hs
      refine sgX5_scan_4 ?_
      rw [if_pos (show (400 : Int32) < nI i from nI_lt (a := 400) (by omega) (by omega))]
      rw [spF] at hs
      exact h J (by rw [← hs]; exact hJ)
    | succ r ih =>
      intro i f J hi hf hp hJ hs
      refine sgX5_scan_4 ?_
      rw [if_neg (show ¬ (400 : Int32) < nI i from nI_nlt (a := 400) (by omega) (by decide))]
      obtain ⟨HJ, eB⟩ := keep J hJ.1
      have blanks : ∀ (r2 g : Nat), g + r2 = n → g + rnF (fun j => blB (bB I j)) r2 g = psF (bB I) n i → TV (d + 7) mX5_scan 11 [.ref 17, .int (nI g), .int (nI i), .null] [] J L F := by
        have tok : ∀ g, g = psF (bB I) n i → TV (d + 7) mX5_scan 37 [.ref 17, .int (nI g), .int (nI i), .null] [] J L F := by
          intro g hg
          have hgn : g ≤ n := by rw [hg]; exact psF_le _ _ _
          obtain ⟨t1, t2, t3⟩ := teF_le (B := bB I) hgn
          have vi : vp_in (nI i) 401 := vp_in_nI (by omega) (by decide)
          refine sgX5_scan_37 (x_endOf HJ hgn ?_)
          rw [eB, nI_clamp (by omega)]
          obtain ⟨HJ2, eB2⟩ := keep (u_I J 20 i (nI g)) (fun q a b => by rw [u_I_ne _ _ b]; exact hJ.1 q a b)
          refine ⟨vi, x_kindOf (i := g) (e := teF (bB I) n g) HJ2 t2 t1 t3 ?_⟩
          rw [eB2]
          have ek : kdF (bB I) n g (teF (bB I) n g) = knF (bB I) n i := by unfold knF; rw [← hg]
          rw [ek]
          have hJ' : xk I (u_I (u_I J 20 i (nI g)) 19 i (nI (knF (bB I) n i))) n (i + 1) := by
            refine ⟨fun q a b => by rw [u_I_ne _ _ a, u_I_ne _ _ b]; exact hJ.1 q a b, fun j hj => ?_⟩
            by_cases e : j = i
            · subst e; rw [← hg]; simp [u_I]
            · have := hJ.2 j (by omega)
              simp only [u_I, if_true, if_neg e, show (19 : Nat) = 20 ↔ False by decide, show (20 : Nat) = 19 ↔ False by decide, if_false]
              exact this
          have e19 : (u_I (u_I J 20 i (nI g)) 19 i (nI (knF (bB I) n i))) 19 i = nI (knF (bB I) n i) := by simp [u_I]
          rw [e19]
          rw [spF] at hs
          have hlt : knF (bB I) n i < 2 ^ 31 := Nat.lt_of_lt_of_le (kdF_lt (fun j => (bt_c (h3 j)).1) _ _ _) (by decide)
          refine ⟨vi, vi, ?_⟩
          by_cases z : knF (bB I) n i = 0
          · rw [if_pos (by rw [z]; rfl)]
            rw [if_pos (Or.inl z)] at hs
            exact h _ (by rw [← hs]; exact hJ')
          · rw [if_neg (fun q => z ((nI_eq hlt (by decide)).mp (q.trans (lit 0))))]
            refine ⟨vi, ?_⟩
            by_cases y : knF (bB I) n i = 1
            · rw [if_pos (by rw [y]; rfl)]
              rw [if_pos (Or.inr y)] at hs
              exact h _ (by rw [← hs]; exact hJ')
            · rw [if_neg (fun q => y ((nI_eq hlt (by decide)).mp (q.trans (lit 1)))), nI_1]
              rw [if_neg (fun q => q.elim z y)] at hs
              exact ih (i + 1) (teF (bB I) n g) _ (by omega) t2 (by rw [psF, ← hg]) hJ' hs
        intro r2
        induction r2 with
        | zero =>
          intro g hg he
          refine sgX5_scan_11 ?_
          rw [HJ.2.1, if_pos (nI_le (by omega) (by omega))]
          exact tok g he
        | succ r2 ih2 =>
          intro g hg he
          refine sgX5_scan_11 ?_
          rw [HJ.2.1, if_neg (nI_ge (by omega) (by omega)), nI_clamp (by omega), nI_1]
          refine ⟨vp_in_nI (by omega) (by decide), x_isBlank (HJ.2.2 g) ?_⟩
          have ebb : ub (J 18 g) = bB I g := by rw [← eB]; rfl
          rw [ebb]
          by_cases z : blB (bB I g) = true
          · rw [b01_1 z, if_neg (by decide)]
            rw [rnF_s (p := fun j => blB (bB I j)) z] at he
            exact ih2 (g + 1) (by omega) (by omega)
          · rw [b01_0 z, if_pos rfl]
            rw [rnF_n (p := fun j => blB (bB I j)) z] at he
            exact tok g he
      exact blanks (n - f) f (by omega) hp.symm
  exact sgX5_scan_0 (key 401 0 0 I rfl (Nat.zero_le n) rfl ⟨fun _ _ _ => rfl, fun i hi => by omega⟩ rfl)
