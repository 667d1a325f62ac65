def pi8 (R : Nat → Int32) (k : Nat) : Nat := 8 * (R (6 * k + 1)).toNatClampNeg + (R (6 * k + 2)).toNatClampNeg
/-- fact k is a MARK that counts: blind, seen -/
def kcb (R : Nat → Int32) (P Q : Int32) (n k : Nat) : Bool := kc R P Q n k 0 && decide (R (6 * k + 5) = 0)
def kcs (R : Nat → Int32) (P Q : Int32) (n k : Nat) : Bool := kc R P Q n k 0 && !decide (R (6 * k + 5) = 0)
/-- the LAST blind MARKS, the ones ahead of them, the LAST seen ones, by the first m facts -/
def kB (R : Nat → Int32) (P Q : Int32) (n : Nat) : Nat → (Nat → Int32)
  | 0 => fun _ => -1
  | m + 1 => if kcb R P Q n m then upd (kB R P Q n m) (pi8 R m) (R (6 * m + 3)) else kB R P Q n m
def kE (R : Nat → Int32) (P Q : Int32) (n : Nat) : Nat → (Nat → Int32)
  | 0 => fun _ => -1
  | m + 1 => if kcb R P Q n m then upd (kE R P Q n m) (pi8 R m) (kB R P Q n m (pi8 R m)) else kE R P Q n m
def kS (R : Nat → Int32) (P Q : Int32) (n : Nat) : Nat → (Nat → Int32)
  | 0 => fun _ => -1
  | m + 1 => if kcs R P Q n m then upd (kS R P Q n m) (pi8 R m) (R (6 * m + 3)) else kS R P Q n m
/-- a blind MARK of a player at a spot -/
def kcp (R : Nat → Int32) (P Q : Int32) (T : Nat → Int32) (n k : Nat) : Bool := kcb R P Q n k && decide (T (5 * (R (6 * k + 1)).toNatClampNeg) = 0)
def kPS (R : Nat → Int32) (P Q : Int32) (T : Nat → Int32) (n sp : Nat) : Nat → Int32
  | 0 => 0
  | m + 1 => if kcp R P Q T n m && decide (R (6 * m + 4) = nI sp) then kPS R P Q T n sp m + R (6 * m + 3) else kPS R P Q T n sp m
def kPM (R : Nat → Int32) (P Q : Int32) (T : Nat → Int32) (n sp : Nat) : Nat → Nat := cn (fun k => kcp R P Q T n k && decide (R (6 * k + 4) = nI sp))
/-- GUESSES: m, r, u, t, a -/
def gk (R : Nat → Int32) (P Q : Int32) (O : Nat → Int32) (n c k : Nat) : Bool := kc R P Q n k 1 && (if c = 0 then true else if c = 1 then decide (R (6 * k + 3) = 1) == !decide (O (5 * (R (6 * k + 2)).toNatClampNeg) = 0) else if c = 2 then decide (R (6 * k + 3) = 1) else if c = 3 then !decide (O (5 * (R (6 * k + 2)).toNatClampNeg) = 0) else decide (R (6 * k + 3) = 1) && !decide (O (5 * (R (6 * k + 2)).toNatClampNeg) = 0))
/-- MEANS: S and N -/
def sS (B T : Nat → Int32) (far : Int32) (f : Nat) : Nat → Int32
  | 0 => 0
  | p + 1 => if (if T (5 * p) = 0 then (1 : Int32) else 0) = far then sS B T far f p else if B (8 * p + f) = -1 then sS B T far f p else sS B T far f p + B (8 * p + f)
def sM (B T : Nat → Int32) (far : Int32) (f : Nat) : Nat → Nat
  | 0 => 0
  | p + 1 => if (if T (5 * p) = 0 then (1 : Int32) else 0) = far then sM B T far f p else if B (8 * p + f) = -1 then sM B T far f p else sM B T far f p + 1
theorem sM_le (B T : Nat → Int32) (far : Int32) (f : Nat) : ∀ p, sM B T far f p ≤ p
  | 0 => Nat.le_refl _
  | p + 1 => by have := sM_le B T far f p; rw [sM]; repeat' split
                all_goals omega
/-- what the class knows is right -/
def kK (J : st_I) (nf np n : Nat) : Prop := (∀ j, j < 80 → J 31 j = sc (J 29) (nI np) (nI nf) n j) ∧ (∀ j, j < 80 → J 32 j = kB (J 29) (nI np) (nI nf) n n j) ∧ (∀ j, j < 80 → J 33 j = kE (J 29) (nI np) (nI nf) n n j) ∧ (∀ j, j < 80 → J 34 j = kS (J 29) (nI np) (nI nf) n n j)
  ∧ (∀ f, f < nf → J 35 f = sS (kB (J 29) (nI np) (nI nf) n n) (J 3) 0 f np ∧ J 35 (8 + f) = sS (kB (J 29) (nI np) (nI nf) n n) (J 3) 1 f np ∧ J 36 f = nI (sM (kB (J 29) (nI np) (nI nf) n n) (J 3) 0 f np) ∧ J 36 (8 + f) = nI (sM (kB (J 29) (nI np) (nI nf) n n) (J 3) 1 f np))
  ∧ (∀ sp, sp < 10 → J 37 sp = kPS (J 29) (nI np) (nI nf) (J 3) n sp n ∧ J 38 sp = nI (kPM (J 29) (nI np) (nI nf) (J 3) n sp n)) ∧ ∀ c, c < 5 → J 39 c = nI (cn (gk (J 29) (nI np) (nI nf) (J 2) n c) n)
/-- a fact that counts: its parts -/
theorem kb_ok {I : st_I} {nF nf np n k : Nat} (HF : iv_facts I nF) (hn : n ≤ nF) (hk : k < n) (hnf : nf ≤ 8) (hnp : np ≤ 10) (h : kb (I 29) (nI np) (nI nf) n k = true) : ∃ p f, p < np ∧ f < nf ∧ I 29 (6 * k + 1) = nI p ∧ I 29 (6 * k + 2) = nI f ∧ I 97 k = nI f ∧ pi8 (I 29) k = 8 * p + f ∧ (I 29 (6 * k + 1)).toNatClampNeg = p ∧ (I 29 (6 * k + 2)).toNatClampNeg = f ∧ ((I 29 (6 * k) = 0 ∧ I 98 k = I 29 (6 * k + 3) ∧ (∃ v, v ≤ 100 ∧ I 29 (6 * k + 3) = nI v) ∧ (∃ sp, sp < 10 ∧ I 29 (6 * k + 4) = nI sp ∧ I 99 k = nI sp) ∧ bo (I 29 (6 * k + 5)) ∧ I 100 k = I 29 (6 * k + 5)) ∨ (I 29 (6 * k) = 1 ∧ I 98 k = I 29 (6 * k + 3) ∧ bo (I 29 (6 * k + 3)))) := by
  have h80 := HF.1
  have hb := of_decide_eq_true h
  have mk : ∀ p f, p < 10 → f < 8 → I 29 (6 * k + 1) = nI p → I 29 (6 * k + 2) = nI f → p < np ∧ f < nf ∧ pi8 (I 29) k = 8 * p + f ∧ (I 29 (6 * k + 1)).toNatClampNeg = p ∧ (I 29 (6 * k + 2)).toNatClampNeg = f := by
    intro p f hp hf a b
    have q1 := hb.2.1
    have q2 := hb.2.2.1
    rw [a] at q1; rw [b] at q2
    refine ⟨(nI_ltI (by omega) (by omega)).mp q1, (nI_ltI (by omega) (by omega)).mp q2, ?_, by rw [a, nI_clamp (by omega)], by rw [b, nI_clamp (by omega)]⟩
    unfold pi8
    rw [a, b, nI_clamp (by omega), nI_clamp (by omega)]
  obtain ⟨e95, e96, hc⟩ := HF.2.2.2 k (by omega)
  rcases hc with ⟨z, ⟨p, hp, a⟩, ⟨f, hf, b, c⟩, ⟨v, hv, v1, v2⟩, s, q1, q2⟩ | ⟨z, ⟨p, hp, a⟩, ⟨f, hf, b, c⟩, q1, q2, -⟩ | ⟨z, -⟩
  · obtain ⟨m1, m2, m3, m4, m5⟩ := mk p f hp hf a b
    exact ⟨p, f, m1, m2, a, b, c, m3, m4, m5, Or.inl ⟨z, by rw [v1, v2], ⟨v, hv, v1⟩, s, q1, q2⟩⟩
  · obtain ⟨m1, m2, m3, m4, m5⟩ := mk p f hp hf a b
    exact ⟨p, f, m1, m2, a, b, c, m3, m4, m5, Or.inr ⟨z, q2, q1⟩⟩
  · exact absurd z hb.1
/-- while the class learns -/
def kst (I J : st_I) (nf np n m : Nat) : Prop := (∀ q, q < 30 ∨ 39 < q → J q = I q) ∧ J 30 0 = nI n ∧ (∀ j, j < 80 → J 31 j = sc (I 29) (nI np) (nI nf) n j) ∧ (∀ j, j < 80 → J 32 j = kB (I 29) (nI np) (nI nf) n m j) ∧ (∀ j, j < 80 → J 33 j = kE (I 29) (nI np) (nI nf) n m j) ∧ (∀ j, j < 80 → J 34 j = kS (I 29) (nI np) (nI nf) n m j)
  ∧ (∀ j, j < 16 → J 35 j = 0 ∧ J 36 j = 0)
  ∧ (∀ sp, sp < 10 → J 37 sp = kPS (I 29) (nI np) (nI nf) (I 3) n sp m ∧ J 38 sp = nI (kPM (I 29) (nI np) (nI nf) (I 3) n sp m)) ∧ ∀ c, c < 5 → J 39 c = nI (cn (gk (I 29) (nI np) (nI nf) (I 2) n c) m)
theorem kst.told {I J : st_I} {nf np n m : Nat} (h : kst I J nf np n m) {lv nb nl npl : Nat} (H : iv_told I lv nf np nb nl npl) : iv_told J lv nf np nb nl npl := iv_told_congr (fun q hq => h.1 q (by omega)) (by rw [h.1 58 (by decide)]) H
theorem kst_skip {I J : st_I} {nf np n m : Nat} (h : kst I J nf np n m) (hb : kb (I 29) (nI np) (nI nf) n m = false) : kst I J nf np n (m + 1) := by
  obtain ⟨a1, a2, a3, a4, a5, a6, a7, a8, a9⟩ := h
  have k0 : ∀ s, kc (I 29) (nI np) (nI nf) n m s = false := fun s => by unfold kc; rw [hb, Bool.and_false]
  have k1 : kcb (I 29) (nI np) (nI nf) n m = false := by unfold kcb; rw [k0, Bool.false_and]
  have k2 : kcs (I 29) (nI np) (nI nf) n m = false := by unfold kcs; rw [k0, Bool.false_and]
  have k3 : kcp (I 29) (nI np) (nI nf) (I 3) n m = false := by unfold kcp; rw [k1, Bool.false_and]
  refine ⟨a1, a2, a3, fun j hj => ?_, fun j hj => ?_, fun j hj => ?_, a7, fun sp hs => ?_, fun c hc => ?_⟩
  · rw [a4 j hj, kB, k1, if_neg (by decide)]
  · rw [a5 j hj, kE, k1, if_neg (by decide)]
  · rw [a6 j hj, kS, k2, if_neg (by decide)]
  · rw [(a8 sp hs).1, (a8 sp hs).2, kPS, k3, Bool.false_and, if_neg (by decide), kPM, cn, k3, Bool.false_and, if_neg (by decide)]
    exact ⟨rfl, rfl⟩
  · rw [a9 c hc, cn]
    unfold gk
    rw [k0, Bool.false_and, if_neg (by decide)]; rfl
theorem kst_guess {I J K : st_I} {nf np n m : Nat} (h : kst I J nf np n m) (hb : kc (I 29) (nI np) (nI nf) n m 1 = true) (h1 : I 29 (6 * m) = 1) (hK : ∀ q, q ≠ 39 → K q = J q) (h39 : ∀ c, c < 5 → K 39 c = J 39 c + b01 (gk (I 29) (nI np) (nI nf) (I 2) n c m)) : kst I K nf np n (m + 1) := by
  obtain ⟨a1, a2, a3, a4, a5, a6, a7, a8, a9⟩ := h
  have k0 : kc (I 29) (nI np) (nI nf) n m 0 = false := by unfold kc; rw [decide_eq_false (by rw [h1]; decide), Bool.false_and]
  have k1 : kcb (I 29) (nI np) (nI nf) n m = false := by unfold kcb; rw [k0, Bool.false_and]
  have k2 : kcs (I 29) (nI np) (nI nf) n m = false := by unfold kcs; rw [k0, Bool.false_and]
  have k3 : kcp (I 29) (nI np) (nI nf) (I 3) n m = false := by unfold kcp; rw [k1, Bool.false_and]
  refine ⟨fun q hq => by rw [hK q (by omega)]; exact a1 q hq, by rw [hK 30 (by decide)]; exact a2, fun j hj => by rw [hK 31 (by decide)]; exact a3 j hj, fun j hj => ?_, fun j hj => ?_, fun j hj => ?_, fun j hj => by rw [hK 35 (by decide), hK 36 (by decide)]; exact a7 j hj, fun sp hs => ?_, fun c hc => ?_⟩
  · rw [hK 32 (by decide), a4 j hj, kB, k1, if_neg (by decide)]
  · rw [hK 33 (by decide), a5 j hj, kE, k1, if_neg (by decide)]
  · rw [hK 34 (by decide), a6 j hj, kS, k2, if_neg (by decide)]
  · rw [hK 37 (by decide), hK 38 (by decide), (a8 sp hs).1, (a8 sp hs).2, kPS, k3, Bool.false_and, if_neg (by decide), kPM, cn, k3, Bool.false_and, if_neg (by decide)]
    exact ⟨rfl, rfl⟩
  · rw [h39 c hc, a9 c hc, cn]
    cases gk (I 29) (nI np) (nI nf) (I 2) n c m
    · rw [if_neg (by decide)]; simp [b01]
    · rw [if_pos rfl]; exact nI_1 _
theorem kst_mark {I J K : st_I} {nf np n m p f sp : Nat} {v : Int32} (h : kst I J nf np n m) (hb : kb (I 29) (nI np) (nI nf) n m = true) (h0 : I 29 (6 * m) = 0) (hpi : pi8 (I 29) m = 8 * p + f) (hp : (I 29 (6 * m + 1)).toNatClampNeg = p) (hv : I 29 (6 * m + 3) = v) (hsp : I 29 (6 * m + 4) = nI sp) (hs10 : sp < 10) (hK : ∀ q, q ≠ 32 → q ≠ 33 → q ≠ 34 → q ≠ 37 → q ≠ 38 → K q = J q)
    (e32 : K 32 = if I 29 (6 * m + 5) = 0 then upd (J 32) (8 * p + f) v else J 32) (e33 : K 33 = if I 29 (6 * m + 5) = 0 then upd (J 33) (8 * p + f) (J 32 (8 * p + f)) else J 33) (e34 : K 34 = if I 29 (6 * m + 5) = 0 then J 34 else upd (J 34) (8 * p + f) v)
    (e37 : K 37 = if I 29 (6 * m + 5) = 0 ∧ I 3 (5 * p) = 0 then upd (J 37) sp (J 37 sp + v) else J 37) (e38 : K 38 = if I 29 (6 * m + 5) = 0 ∧ I 3 (5 * p) = 0 then upd (J 38) sp (J 38 sp + 1) else J 38) (hpf : 8 * p + f < 80) : kst I K nf np n (m + 1) := by
  obtain ⟨a1, a2, a3, a4, a5, a6, a7, a8, a9⟩ := h
  have k0 : kc (I 29) (nI np) (nI nf) n m 0 = true := by unfold kc; rw [decide_eq_true h0, hb]; rfl
  have k1 : kcb (I 29) (nI np) (nI nf) n m = decide (I 29 (6 * m + 5) = 0) := by unfold kcb; rw [k0, Bool.true_and]
  have k2 : kcs (I 29) (nI np) (nI nf) n m = !decide (I 29 (6 * m + 5) = 0) := by unfold kcs; rw [k0, Bool.true_and]
  have k3 : kcp (I 29) (nI np) (nI nf) (I 3) n m = decide (I 29 (6 * m + 5) = 0 ∧ I 3 (5 * p) = 0) := by unfold kcp; rw [k1, hp]; simp
  have kg : kc (I 29) (nI np) (nI nf) n m 1 = false := by unfold kc; rw [decide_eq_false (by rw [h0]; decide), Bool.false_and]
  refine ⟨fun q hq => by rw [hK q (by omega) (by omega) (by omega) (by omega) (by omega)]; exact a1 q hq, by rw [hK 30 (by decide) (by decide) (by decide) (by decide) (by decide)]; exact a2, fun j hj => by rw [hK 31 (by decide) (by decide) (by decide) (by decide) (by decide)]; exact a3 j hj, fun j hj => ?_, fun j hj => ?_, fun j hj => ?_, fun j hj => by rw [hK 35 (by decide) (by decide) (by decide) (by decide) (by decide), hK 36 (by decide) (by decide) (by decide) (by decide) (by decide)]; exact a7 j hj, fun s hs => ?_, fun c hc => ?_⟩
  · rw [e32, kB, k1, hpi, hv]
    by_cases z : I 29 (6 * m + 5) = 0
    · rw [if_pos z, decide_eq_true z, if_pos rfl]; simp only [upd]; rw [a4 j hj]
    · rw [if_neg z, decide_eq_false z, if_neg (by decide)]; exact a4 j hj
  · rw [e33, kE, k1, hpi]
    by_cases z : I 29 (6 * m + 5) = 0
    · rw [if_pos z, decide_eq_true z, if_pos rfl]; simp only [upd]; rw [a5 j hj, a4 _ hpf]
    · rw [if_neg z, decide_eq_false z, if_neg (by decide)]; exact a5 j hj
  · rw [e34, kS, k2, hpi, hv]
    by_cases z : I 29 (6 * m + 5) = 0
    · rw [if_pos z, decide_eq_true z, if_neg (by decide)]; exact a6 j hj
    · rw [if_neg z, decide_eq_false z, if_pos (show (!false) = true from rfl)]; simp only [upd]; rw [a6 j hj]
  · rw [e37, e38, kPS, kPM, cn, k3, hsp, hv]
    by_cases z : I 29 (6 * m + 5) = 0 ∧ I 3 (5 * p) = 0
    · rw [if_pos z, if_pos z, decide_eq_true z, Bool.true_and]
      by_cases y : s = sp
      · subst y
        rw [decide_eq_true rfl, if_pos rfl, if_pos rfl]
        simp only [upd, if_true]
        rw [(a8 s hs).1, (a8 s hs).2, nI_1]
        exact ⟨rfl, rfl⟩
      · rw [decide_eq_false (fun w => y ((nI_eq (by omega) (by omega)).mp w.symm)), if_neg (by decide), if_neg (by decide)]
        simp only [upd, if_neg y]
        exact a8 s hs
    · rw [if_neg z, if_neg z, decide_eq_false z, Bool.false_and, if_neg (by decide), if_neg (by decide)]
      exact a8 s hs
  · rw [hK 39 (by decide) (by decide) (by decide) (by decide) (by decide), a9 c hc, cn]
    unfold gk
    rw [kg, Bool.false_and, if_neg (by decide)]; rfl
theorem pX_learnMark {d lv nf np nb nl npl nF m p f sp : Nat} {v : Int32} {I J : st_I} {L : st_L} {F : st_I → st_L → Prop} (HJ : iv_told J lv nf np nb nl npl) (h28 : J 28 0 = nI nF) (h80 : nF ≤ 80) (hm : m < nF) (e29 : J 29 = I 29) (e3 : J 3 = I 3) (hp : p < np) (hf : f < nf) (h1 : I 29 (6 * m + 1) = nI p) (h2 : I 29 (6 * m + 2) = nI f) (hv : I 29 (6 * m + 3) = v) (hsp : I 29 (6 * m + 4) = nI sp) (hs10 : sp < 10) (hbo : bo (I 29 (6 * m + 5)))
    (h : ∀ K : st_I, (∀ q, q ≠ 32 → q ≠ 33 → q ≠ 34 → q ≠ 37 → q ≠ 38 → K q = J q) → (K 32 = if I 29 (6 * m + 5) = 0 then upd (J 32) (8 * p + f) v else J 32) → (K 33 = if I 29 (6 * m + 5) = 0 then upd (J 33) (8 * p + f) (J 32 (8 * p + f)) else J 33) → (K 34 = if I 29 (6 * m + 5) = 0 then J 34 else upd (J 34) (8 * p + f) v) → (K 37 = if I 29 (6 * m + 5) = 0 ∧ I 3 (5 * p) = 0 then upd (J 37) sp (J 37 sp + v) else J 37) → (K 38 = if I 29 (6 * m + 5) = 0 ∧ I 3 (5 * p) = 0 then upd (J 38) sp (J 38 sp + 1) else J 38) → F K L) : EV (d + 2) mX2_learnMark [.ref 30, .ref 1, .ref 28, .int (nI m)] J L F := by
  have bd := HJ.1
  obtain ⟨hlv, b1, b2, b3, b4, b5, -⟩ := id HJ.1
  refine sgX2_learnMark_0 (x_of (c := 1) h28 h80 hm (by decide) ?_)
  refine x_of (c := 2) h28 h80 hm (by decide) (x_of (c := 3) h28 h80 hm (by decide) (x_of (c := 5) h28 h80 hm (by decide) ?_))
  rw [e29, h1, h2, hv, show nI p * 8 + nI f = nI (8 * p + f) by rw [show (8 : Int32) = nI 8 from rfl, pk_mul, nI_add, Nat.mul_comm], nI_clamp (by omega)]
  have v80 : vp_in (nI (8 * p + f)) 80 := vp_in_nI (by omega) (by decide)
  rcases hbo with z | z
  · rw [z, if_neg (by decide)]
    rw [z] at h
    simp only [if_true, true_and] at h
    refine ⟨v80, v80, v80, x_of (c := 4) (nF := nF) (by rw [u_I_ne _ _ (by decide), u_I_ne _ _ (by decide)]; exact h28) h80 hm (by decide) ?_⟩
    refine x_isPlayer_i (iv_told_congr (fun q hq => by rw [u_I_ne _ _ (by omega), u_I_ne _ _ (by omega)]) (by rw [u_I_ne _ _ (by decide), u_I_ne _ _ (by decide)]) HJ) hp ?_
    have e29u : (u_I (u_I J 33 (8 * p + f) (J 32 (8 * p + f))) 32 (8 * p + f) v) 29 (6 * m + 4) = nI sp := by rw [u_I_ne _ _ (by decide), u_I_ne _ _ (by decide), e29, hsp]
    have e3u : (u_I (u_I J 33 (8 * p + f) (J 32 (8 * p + f))) 32 (8 * p + f) v) 3 = I 3 := by rw [u_I_ne _ _ (by decide), u_I_ne _ _ (by decide), e3]
    rw [e29u, e3u]
    by_cases y : I 3 (5 * p) = 0
    · rw [if_pos y, if_neg (by decide), if_neg (nI_pos (by omega)), if_neg (show ¬ (10 : Int32) ≤ nI sp from nI_ge (b := 10) hs10 (by decide)), nI_clamp (by omega)]
      have v10 : vp_in (nI sp) 10 := vp_in_nI (by omega) (by decide)
      refine ⟨v10, v10, v10, v10, h _ (fun q q1 q2 q3 q4 q5 => ?_) ?_ ?_ ?_ ?_ ?_⟩
      · rw [u_I_ne _ _ q5, u_I_ne _ _ q4, u_I_ne _ _ q1, u_I_ne _ _ q2]
      · funext k; simp [u_I, upd]
      · funext k; simp [u_I, upd]
      · funext k; simp [u_I]
      · rw [if_pos y]; funext k; simp [u_I, upd]
      · rw [if_pos y]; funext k; simp [u_I, upd]
    · rw [if_neg y, if_pos rfl]
      refine h _ (fun q q1 q2 q3 q4 q5 => ?_) ?_ ?_ ?_ ?_ ?_
      · rw [u_I_ne _ _ q1, u_I_ne _ _ q2]
      · funext k; simp [u_I, upd]
      · funext k; simp [u_I, upd]
      · funext k; simp [u_I]
      · rw [if_neg y]; funext k; simp [u_I]
      · rw [if_neg y]; funext k; simp [u_I]
  · rw [z, if_pos rfl]
    rw [z] at h
    simp only [show ((1 : Int32) = 0) = False by decide, if_false, false_and] at h
    refine ⟨v80, h _ (fun q q1 q2 q3 q4 q5 => ?_) ?_ ?_ ?_ ?_ ?_⟩
    · rw [u_I_ne _ _ q3]
    · funext k; simp [u_I]
    · funext k; simp [u_I]
    · funext k; simp [u_I, upd]
    · funext k; simp [u_I]
    · funext k; simp [u_I]
