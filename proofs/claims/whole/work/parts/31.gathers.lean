theorem b01_10 (b : Bool) : (b01 b = 1 ↔ b = true) ∧ (b01 b = 0 ↔ b = false) := by cases b <;> decide
theorem kc_split {R : Nat → Int32} {P Q : Int32} {n k : Nat} {s : Int32} (h : R (6 * k) = s) : kc R P Q n k s = kb R P Q n k := by unfold kc; rw [decide_eq_true h, Bool.true_and]
theorem kc_no {R : Nat → Int32} {P Q : Int32} {n k : Nat} {s : Int32} (h : ¬ R (6 * k) = s) : kc R P Q n k s = false := by unfold kc; rw [decide_eq_false h, Bool.false_and]
theorem pX_learnLoop {d lv nf np nb nl npl nF n : Nat} {I : st_I} {L : st_L} {F : st_I → st_L → Prop} (H : iv_told I lv nf np nb nl npl) (HF : iv_facts I nF) (hn : n ≤ nF) (h : ∀ J : st_I, kst I J nf np n n → EV (d + 2) mX2_learnMeans [.ref 30, .ref 1] J L F) :
    ∀ (r m : Nat) (J : st_I), m + r = n → kst I J nf np n m → TV (d + 3) mX2_learn 29 [.ref 30, .ref 1, .ref 28, .null, .int (nI m)] [] J L F := by
  have h80 := HF.1
  obtain ⟨hlv, b1, b2, b3, b4, b5, -⟩ := id H.1
  intro r
  induction r with
  | zero =>
    intro m J hm hJ
    obtain rfl : m = n := by omega
    refine sgX2_learn_29 ?_
    rw [hJ.2.1, if_pos (nI_le (Nat.le_refl _) (by omega))]
    exact h J hJ
  | succ r ih =>
    intro m J hm hJ
    have HJ := hJ.told H
    have e29 := hJ.1 29 (by decide)
    have e3 := hJ.1 3 (by decide)
    have e2 := hJ.1 2 (by decide)
    have e31 : J 31 m = b01 (kb (I 29) (nI np) (nI nf) n m) := by
      rw [hJ.2.2.1 m (by omega)]; unfold sc kbm; rw [decide_eq_true (show m < n by omega), Bool.true_and]
    have vm : vp_in (nI m) 80 := vp_in_nI (by omega) (by decide)
    have h28 : J 28 0 = nI nF := by rw [hJ.1 28 (by decide)]; exact HF.2.1
    have hmF : m < nF := by omega
    refine sgX2_learn_29 ?_
    rw [hJ.2.1, if_neg (nI_ge (by omega) (by omega)), nI_clamp (by omega), e31, nI_1]
    refine ⟨vm, ?_⟩
    cases hb : kb (I 29) (nI np) (nI nf) n m
    · rw [if_neg (by decide)]
      refine sgX2_learn_70 ?_
      rw [nI_clamp (by omega), e31, hb, if_neg (by decide), nI_1]
      exact ⟨vm, ih (m + 1) J (by omega) (kst_skip hJ hb)⟩
    · rw [if_pos (by decide)]
      obtain ⟨p, f, hp, hf, r1, r2, r3, hpi, c1, c2, hc⟩ := kb_ok HF hn (by omega) b1 b2 hb
      refine x_of (c := 0) h28 h80 hmF (by decide) ?_
      rw [e29, Nat.add_zero]
      rcases hc with ⟨z, -, ⟨v, hv, v1⟩, ⟨sp, hsp, s1, -⟩, hbo, -⟩ | ⟨z, -, hbo⟩
      · rw [if_pos z]
        refine pX_learnMark (I := I) HJ h28 h80 hmF e29 e3 hp hf r1 r2 rfl s1 hsp hbo (fun K k0 k1 k2 k3 k4 k5 => ?_)
        exact ih (m + 1) K (by omega) (kst_mark hJ hb z hpi c1 rfl s1 hsp k0 k1 k2 k3 k4 k5 (by omega))
      · rw [if_neg (by rw [z]; decide)]
        refine sgX2_learn_70 ?_
        rw [nI_clamp (by omega), e31, hb, if_pos (by decide), nI_1]
        refine ⟨vm, x_of (c := 2) h28 h80 hmF (by decide) ?_⟩
        rw [e29, r2]
        refine x_isOld_i HJ hf (x_of (c := 3) h28 h80 hmF (by decide) ?_)
        rw [e29, e2]
        refine sgX2_learnGuess_0 ?_
        have kg : kc (I 29) (nI np) (nI nf) n m 1 = true := by rw [kc_split z, hb]
        refine ih (m + 1) _ (by omega) (kst_guess hJ kg z (fun q hq => by rw [u_I_ne _ _ hq, u_I_ne _ _ hq, u_I_ne _ _ hq, u_I_ne _ _ hq, u_I_ne _ _ hq]) (fun c hc => ?_))
        have hold := (H.2.1 f hf).1
        rcases (show c = 0 ∨ c = 1 ∨ c = 2 ∨ c = 3 ∨ c = 4 by omega) with e | e | e | e | e <;> subst e <;> simp only [u_I, gk, kg, c2, if_true, if_false, Bool.true_and, show (1 : Nat) = 0 ↔ False by decide, show (2 : Nat) = 0 ↔ False by decide, show (3 : Nat) = 0 ↔ False by decide, show (4 : Nat) = 0 ↔ False by decide, show (0 : Nat) = 1 ↔ False by decide, show (2 : Nat) = 1 ↔ False by decide, show (3 : Nat) = 1 ↔ False by decide, show (4 : Nat) = 1 ↔ False by decide, show (0 : Nat) = 2 ↔ False by decide, show (1 : Nat) = 2 ↔ False by decide, show (3 : Nat) = 2 ↔ False by decide, show (4 : Nat) = 2 ↔ False by decide, show (0 : Nat) = 3 ↔ False by decide, show (1 : Nat) = 3 ↔ False by decide, show (2 : Nat) = 3 ↔ False by decide, show (4 : Nat) = 3 ↔ False by decide, show (0 : Nat) = 4 ↔ False by decide, show (1 : Nat) = 4 ↔ False by decide, show (2 : Nat) = 4 ↔ False by decide, show (3 : Nat) = 4 ↔ False by decide]
        · rfl
        all_goals
          congr 1
          rcases hold with y | y <;> rcases hbo with w | w <;> (try rw [w]) <;> (try rw [y]) <;> decide
/-- the means, p PEOPLE done, of the next one f FIDDLES -/
def kmS (B T : Nat → Int32) (far : Int32) (g p f : Nat) : Int32 := if g < f then sS B T far g (p + 1) else sS B T far g p
def kmM (B T : Nat → Int32) (far : Int32) (g p f : Nat) : Nat := if g < f then sM B T far g (p + 1) else sM B T far g p
def kmR (I : st_I) (B : Nat → Int32) (nf p f : Nat) (J : st_I) : Prop := (∀ q, q ≠ 35 → q ≠ 36 → J q = I q) ∧ ∀ g, g < nf → J 35 g = kmS B (I 3) 0 g p f ∧ J 35 (8 + g) = kmS B (I 3) 1 g p f ∧ J 36 g = nI (kmM B (I 3) 0 g p f) ∧ J 36 (8 + g) = nI (kmM B (I 3) 1 g p f)
theorem kmR_next {I : st_I} {B : Nat → Int32} {nf p : Nat} {J : st_I} (h : kmR I B nf p nf J) : kmR I B nf (p + 1) 0 J := by
  refine ⟨h.1, fun g hg => ?_⟩
  obtain ⟨a, b, c, e⟩ := h.2 g hg
  unfold kmS kmM at *
  rw [if_pos hg] at a b c e
  rw [if_neg (Nat.not_lt_zero _), if_neg (Nat.not_lt_zero _), if_neg (Nat.not_lt_zero _), if_neg (Nat.not_lt_zero _)]
  exact ⟨a, b, c, e⟩
theorem kmR_skip {I : st_I} {B : Nat → Int32} {nf p f : Nat} {J : st_I} (h : kmR I B nf p f J) (hB : B (8 * p + f) = -1) : kmR I B nf p (f + 1) J := by
  refine ⟨h.1, fun g hg => ?_⟩
  have e := h.2 g hg
  unfold kmS kmM at *
  by_cases hgf : g = f
  · subst hgf
    rw [if_neg (Nat.lt_irrefl _), if_neg (Nat.lt_irrefl _), if_neg (Nat.lt_irrefl _), if_neg (Nat.lt_irrefl _)] at e
    rw [if_pos (by omega), if_pos (by omega), if_pos (by omega), if_pos (by omega), sS, sS, sM, sM, hB]
    simp only [if_true, ite_self]
    exact e
  · have : g < f + 1 ↔ g < f := by omega
    simp only [this]
    exact e
theorem kmR_add {I : st_I} {B : Nat → Int32} {nf p f : Nat} {J K : st_I} (h : kmR I B nf p f J) (hf : f < nf) (h8 : nf ≤ 8) (hB : ¬ B (8 * p + f) = -1) (hK : K = u_I (u_I J 35 ((if I 3 (5 * p) = 0 then 0 else 8) + f) (J 35 ((if I 3 (5 * p) = 0 then 0 else 8) + f) + B (8 * p + f))) 36 ((if I 3 (5 * p) = 0 then 0 else 8) + f) (J 36 ((if I 3 (5 * p) = 0 then 0 else 8) + f) + 1)) : kmR I B nf p (f + 1) K := by
  subst hK
  refine ⟨fun q h1 h2 => by rw [u_I_ne _ _ h2, u_I_ne _ _ h1]; exact h.1 q h1 h2, fun g hg => ?_⟩
  have e := h.2 g hg
  unfold kmS kmM at *
  by_cases z : I 3 (5 * p) = 0
  · simp only [if_pos z, Nat.zero_add]
    by_cases hgf : g = f
    · subst hgf
      rw [if_neg (Nat.lt_irrefl _), if_neg (Nat.lt_irrefl _), if_neg (Nat.lt_irrefl _), if_neg (Nat.lt_irrefl _)] at e
      rw [if_pos (by omega), if_pos (by omega), if_pos (by omega), if_pos (by omega), sS, sS, sM, sM]
      simp only [if_pos z, show ((1 : Int32) = 0) = False by decide, if_false, if_neg hB, u_I, if_true, show (35 : Nat) = 36 ↔ False by decide, show (36 : Nat) = 35 ↔ False by decide, show 8 + g = g ↔ False from ⟨fun z => by omega, False.elim⟩]
      exact ⟨by rw [e.1], e.2.1, by rw [e.2.2.1]; exact nI_1 _, e.2.2.2⟩
    · have : g < f + 1 ↔ g < f := by omega
      simp only [this, u_I, if_true, show (35 : Nat) = 36 ↔ False by decide, show (36 : Nat) = 35 ↔ False by decide, if_false, if_neg hgf, show 8 + g = f ↔ False from ⟨fun z => by omega, False.elim⟩]
      exact e
  · simp only [if_neg z]
    by_cases hgf : g = f
    · subst hgf
      rw [if_neg (Nat.lt_irrefl _), if_neg (Nat.lt_irrefl _), if_neg (Nat.lt_irrefl _), if_neg (Nat.lt_irrefl _)] at e
      rw [if_pos (by omega), if_pos (by omega), if_pos (by omega), if_pos (by omega), sS, sS, sM, sM]
      simp only [if_neg z, show ((0 : Int32) = 1) = False by decide, if_true, if_false, if_neg hB, u_I, show (35 : Nat) = 36 ↔ False by decide, show (36 : Nat) = 35 ↔ False by decide, show g = 8 + g ↔ False from ⟨fun z => by omega, False.elim⟩]
      exact ⟨e.1, by rw [e.2.1], e.2.2.1, by rw [e.2.2.2]; exact nI_1 _⟩
    · have : g < f + 1 ↔ g < f := by omega
      simp only [this, u_I, if_true, show (35 : Nat) = 36 ↔ False by decide, show (36 : Nat) = 35 ↔ False by decide, if_false, show g = 8 + f ↔ False from ⟨fun z => by omega, False.elim⟩, show 8 + g = 8 + f ↔ False from ⟨fun z => by omega, False.elim⟩]
      exact e
theorem pX_learnMeans {d lv nf np nb nl npl : Nat} {I : st_I} {L : st_L} {F : st_I → st_L → Prop} (B : Nat → Int32) (H : iv_told I lv nf np nb nl npl) (hB : ∀ j, j < 80 → I 32 j = B j) (h0 : ∀ j, j < 16 → I 35 j = 0 ∧ I 36 j = 0) (h : ∀ J : st_I, (∀ q, q ≠ 35 → q ≠ 36 → J q = I q) → (∀ f, f < nf → J 35 f = sS B (I 3) 0 f np ∧ J 35 (8 + f) = sS B (I 3) 1 f np ∧ J 36 f = nI (sM B (I 3) 0 f np) ∧ J 36 (8 + f) = nI (sM B (I 3) 1 f np)) → F J L) : EV (d + 2) mX2_learnMeans [.ref 30, .ref 1] I L F := by
  obtain ⟨hlv, b1, b2, b3, b4, b5, h18, c0, c1, -⟩ := id H.1
  have key : ∀ (r p : Nat) (J : st_I), p + r = np → kmR I B nf p 0 J → TV (d + 2) mX2_learnMeans 2 [.ref 30, .ref 1, .int (nI p), .null, .null, .null] [] J L F := by
    intro r
    induction r with
    | zero =>
      intro p J hp hJ
      obtain rfl : p = np := by omega
      refine sgX2_learnMeans_2 ?_
      rw [hJ.1 1 (by decide) (by decide), c1, if_pos (nI_le (Nat.le_refl _) (by omega))]
      refine h J hJ.1 (fun f hf => ?_)
      have := hJ.2 f hf
      unfold kmS kmM at this
      rw [if_neg (Nat.not_lt_zero _), if_neg (Nat.not_lt_zero _), if_neg (Nat.not_lt_zero _), if_neg (Nat.not_lt_zero _)] at this
      exact this
    | succ r ih =>
      intro p J hp hJ
      have T0 : ∀ K : st_I, (∀ q, q ≠ 35 → q ≠ 36 → K q = I q) → iv_told K lv nf np nb nl npl := fun K hK => iv_told_congr (fun q hq => hK q (by omega) (by omega)) (by rw [hK 58 (by decide) (by decide)]) H
      refine sgX2_learnMeans_2 ?_
      rw [hJ.1 1 (by decide) (by decide), c1, if_neg (nI_ge (by omega) (by omega))]
      refine x_isPlayer_i (T0 J hJ.1) (by omega) ?_
      rw [hJ.1 3 (by decide) (by decide)]
      have es : (if (if I 3 (5 * p) = 0 then (1 : Int32) else 0) = 0 then (8 : Int32) else 0) = nI (if I 3 (5 * p) = 0 then 0 else 8) := by
        by_cases z : I 3 (5 * p) = 0
        · rw [if_pos z, if_pos z]; rfl
        · rw [if_neg z, if_neg z]; rfl
      rw [es]
      have hs8 : (if I 3 (5 * p) = 0 then 0 else 8) ≤ 8 := by split <;> decide
      have inner : ∀ (r' f : Nat) (J : st_I), f + r' = nf → kmR I B nf p f J → TV (d + 2) mX2_learnMeans 28 [.ref 30, .ref 1, .int (nI p), .int (nI (if I 3 (5 * p) = 0 then 0 else 8)), .int (nI f), .null] [] J L F := by
        intro r'
        induction r' with
        | zero =>
          intro f J hf hJ
          obtain rfl : f = nf := by omega
          refine sgX2_learnMeans_28 ?_
          rw [hJ.1 1 (by decide) (by decide), c0, if_pos (nI_le (Nat.le_refl _) (by omega)), nI_1]
          exact ih (p + 1) J (by omega) (kmR_next hJ)
        | succ r' ih' =>
          intro f J hf hJ
          refine sgX2_learnMeans_28 ?_
          rw [hJ.1 1 (by decide) (by decide), c0, if_neg (nI_ge (by omega) (by omega)), show nI p * 8 + nI f = nI (8 * p + f) by rw [show (8 : Int32) = nI 8 from rfl, pk_mul, nI_add, Nat.mul_comm], nI_clamp (show 8 * p + f < 2 ^ 31 by omega), hJ.1 32 (by decide) (by decide), hB _ (by omega), nI_1, nI_add, nI_clamp (show (if I 3 (5 * p) = 0 then 0 else 8) + f < 2 ^ 31 by omega)]
          refine ⟨vp_in_nI (by omega) (by decide), ?_⟩
          have v16 : vp_in (nI ((if I 3 (5 * p) = 0 then 0 else 8) + f)) 16 := vp_in_nI (by omega) (by decide)
          by_cases z : B (8 * p + f) = -1
          · rw [if_pos z]; exact ih' (f + 1) J (by omega) (kmR_skip hJ z)
          · rw [if_neg z]; exact ⟨v16, v16, v16, v16, ih' (f + 1) _ (by omega) (kmR_add hJ (by omega) b1 z rfl)⟩
      exact inner nf 0 J (by omega) hJ
  refine sgX2_learnMeans_0 (key np 0 I (by omega) ⟨fun _ _ _ => rfl, fun g hg => ?_⟩)
  unfold kmS kmM
  rw [if_neg (Nat.not_lt_zero _), if_neg (Nat.not_lt_zero _), if_neg (Nat.not_lt_zero _), if_neg (Nat.not_lt_zero _)]
  exact ⟨(h0 g (by omega)).1, (h0 (8 + g) (by omega)).1, (h0 g (by omega)).2, (h0 (8 + g) (by omega)).2⟩
theorem f_at (I : st_I) (q n : Nat) (v : Int32) {j : Nat} (h : j < n) : f_I I q n v q j = v := by simp [f_I, h]
theorem f_ne (I : st_I) {q a : Nat} (n : Nat) (v : Int32) (h : a ≠ q) : f_I I q n v a = I a := by funext b; simp [f_I, h]
theorem x_fill {d q n : Nat} {I : st_I} {L : st_L} {F : st_I → st_L → Prop} {v : Int32} (hq : shp[q]? = some (.inl (0, n))) (hn : n < 2 ^ 31) (h : F (f_I I q n v) L) : EV d mJ7_fill_53178 [.ref q, .int v] I L F := js_fill hq hn ⟨rfl, rfl, h⟩
theorem pX_learn {d lv nf np nb nl npl nF n : Nat} {I : st_I} {L : st_L} {F : st_I → st_L → Prop} (H : iv_told I lv nf np nb nl npl) (HF : iv_facts I nF) (hn : n ≤ nF) (h : ∀ J : st_I, (∀ q, q < 30 ∨ 39 < q → J q = I q) → J 30 0 = nI n → kK J nf np n → F J L) : EV (d + 3) mX2_learn [.ref 30, .ref 1, .ref 28, .int (nI n)] I L F := by
  have em : (if 0 < (if I 28 0 < nI n then I 28 0 else nI n) then (if I 28 0 < nI n then I 28 0 else nI n) else 0) = nI n := by
    have h80 := HF.1
    rw [HF.2.1, if_neg (nI_nlt hn (by omega))]
    by_cases z : n = 0
    · subst z; rfl
    · rw [if_pos (show 0 < nI n from nI_lt (a := 0) (by omega) (by omega))]
  refine sgX2_learn_0 ?_
  rw [em]
  refine sgX2_clear_0 ?_
  refine x_fill (n := 80) rfl (by decide) (x_fill (n := 80) rfl (by decide) (x_fill (n := 80) rfl (by decide) (x_fill (n := 80) rfl (by decide) (x_fill (n := 16) rfl (by decide) (x_fill (n := 16) rfl (by decide) (x_fill (n := 10) rfl (by decide) (x_fill (n := 10) rfl (by decide) (x_fill (n := 5) rfl (by decide) ?_))))))))
  generalize hJ : f_I (f_I (f_I (f_I (f_I (f_I (f_I (f_I (f_I (u_I I 30 0 (nI n)) 31 80 0) 32 80 (-1)) 33 80 (-1)) 34 80 (-1)) 35 16 0) 36 16 0) 37 10 0) 38 10 0) 39 5 0 = J
  have eJ : ∀ q, q < 30 ∨ 39 < q → J q = I q := fun q hq => by
    subst hJ
    rw [f_ne _ _ _ (by omega), f_ne _ _ _ (by omega), f_ne _ _ _ (by omega), f_ne _ _ _ (by omega), f_ne _ _ _ (by omega), f_ne _ _ _ (by omega), f_ne _ _ _ (by omega), f_ne _ _ _ (by omega), f_ne _ _ _ (by omega), u_I_ne _ _ (by omega)]
  have HJ : iv_told J lv nf np nb nl npl := iv_told_congr (fun q hq => eJ q (by omega)) (by rw [eJ 58 (by decide)]) H
  have HFJ : iv_facts J nF := iv_facts_congr (fun q hq => eJ q (by omega)) (by rw [eJ 58 (by decide)]) HF
  have e30 : J 30 0 = nI n := by subst hJ; simp [f_I, u_I]
  have e31 : ∀ j, j < 80 → J 31 j = 0 := fun j hj => by subst hJ; simp [f_I, hj]
  have e32 : ∀ j, j < 80 → J 32 j = -1 := fun j hj => by subst hJ; simp [f_I, hj]
  have e33 : ∀ j, j < 80 → J 33 j = -1 := fun j hj => by subst hJ; simp [f_I, hj]
  have e34 : ∀ j, j < 80 → J 34 j = -1 := fun j hj => by subst hJ; simp [f_I, hj]
  have e35 : ∀ j, j < 16 → J 35 j = 0 ∧ J 36 j = 0 := fun j hj => by subst hJ; simp [f_I, hj]
  have e37 : ∀ j, j < 10 → J 37 j = 0 ∧ J 38 j = 0 := fun j hj => by subst hJ; simp [f_I, hj]
  have e39 : ∀ j, j < 5 → J 39 j = 0 := fun j hj => by subst hJ; simp [f_I, hj]
  refine pX_sift HJ HFJ hn e30 e31 (fun K hK hc => ?_)
  have eK : ∀ q, q < 30 ∨ 39 < q → K q = I q := fun q hq => by rw [hK q (by omega)]; exact eJ q hq
  rw [eJ 29 (by decide)] at hc
  refine pX_learnLoop (d := d) (I := I) H HF hn (fun M hM => ?_) n 0 K (by omega) ⟨eK, by rw [hK 30 (by decide)]; exact e30, hc, fun j hj => by rw [hK 32 (by decide)]; exact e32 j hj, fun j hj => by rw [hK 33 (by decide)]; exact e33 j hj, fun j hj => by rw [hK 34 (by decide)]; exact e34 j hj, fun j hj => by rw [hK 35 (by decide), hK 36 (by decide)]; exact e35 j hj, fun sp hs => by rw [hK 37 (by decide), hK 38 (by decide)]; exact e37 sp hs, fun c hc => by rw [hK 39 (by decide)]; exact e39 c hc⟩
  obtain ⟨a1, a2, a3, a4, a5, a6, a7, a8, a9⟩ := id hM
  refine pX_learnMeans _ (hM.told H) a4 a7 (fun N hN hm => ?_)
  have q29 : N 29 = I 29 := by rw [hN 29 (by decide) (by decide), a1 29 (by decide)]
  have q3 : N 3 = I 3 := by rw [hN 3 (by decide) (by decide), a1 3 (by decide)]
  have q2 : N 2 = I 2 := by rw [hN 2 (by decide) (by decide), a1 2 (by decide)]
  refine h N (fun q hq => by rw [hN q (by omega) (by omega), a1 q hq]) (by rw [hN 30 (by decide) (by decide)]; exact a2) ?_
  unfold kK
  rw [q29, q3, q2]
  rw [a1 3 (by decide)] at hm
  refine ⟨fun j hj => by rw [hN 31 (by decide) (by decide)]; exact a3 j hj, fun j hj => by rw [hN 32 (by decide) (by decide)]; exact a4 j hj, fun j hj => by rw [hN 33 (by decide) (by decide)]; exact a5 j hj, fun j hj => by rw [hN 34 (by decide) (by decide)]; exact a6 j hj, hm, fun sp hs => by rw [hN 37 (by decide) (by decide), hN 38 (by decide) (by decide)]; exact a8 sp hs, fun c hc => by rw [hN 39 (by decide) (by decide)]; exact a9 c hc⟩
