/-! read: the class's further steps -/
def piA (B : Nat → Nat) (n k : Nat) (s : s4_X) : s4_X := if knF B n s.2.1 = k then paA B n k s else s
theorem x_passIf {d n k : Nat} {B : Nat → Nat} {I : st_I} {L : st_L} {s : s4_X} {F : Int32 → st_I → st_L → Prop} (H : cx B n I s) (hk : 2 ≤ k) (hk2 : k < 256) (h : ∀ J, cx B n J (piA B n k s) → x69 I J → F (b01 (decide (s.1 = 0 ∧ knF B n s.2.1 = k ∧ (paA B n k s).1 = 0))) J L) : EI (d + 1) mX5_passIf [.ref 17, .int (nI k)] I L F := by
  obtain ⟨l1, l2, l3, l4, l5, l6⟩ := H.lt
  refine sgX5_passIf_0 ?_
  rw [l3, nI_clamp (by omega), l4]
  refine ⟨l2, ?_⟩
  unfold piA at h
  by_cases y : knF B n s.2.1 = k
  · rw [if_pos y] at h
    rw [if_pos (by rw [y])]
    refine x_pass H hk hk2 (fun J hJ hx => ?_)
    have q := h J hJ hx
    by_cases w : s.1 = 0 ∧ (paA B n k s).1 = 0
    · rw [decide_eq_true (show s.1 = 0 ∧ knF B n s.2.1 = k ∧ (paA B n k s).1 = 0 from ⟨w.1, y, w.2⟩)] at q
      rw [decide_eq_true w, if_neg (by decide)]; exact q
    · rw [decide_eq_false (show ¬ (s.1 = 0 ∧ knF B n s.2.1 = k ∧ (paA B n k s).1 = 0) from fun c => w ⟨c.1, c.2.2⟩)] at q
      rw [decide_eq_false w, if_pos (by decide)]; exact q
  · rw [if_neg y] at h
    rw [if_neg (fun q => y ((nI_eq (by omega) (by omega)).mp q))]
    have q := h I H x69.rf
    rw [decide_eq_false (fun c => y c.2.1)] at q
    exact q
def pfA (full : Bool) (s : s4_X) : s4_X := if s.1 = 0 ∧ full = true then (2, s.2) else stA true s
theorem x_passFirst {d n a b : Nat} {B : Nat → Nat} {I : st_I} {L : st_L} {s : s4_X} {F : Int32 → st_I → st_L → Prop} (H : cx B n I s) (hk : 2 ≤ knF B n s.2.1) (ha : a < 2 ^ 31) (hb : b < 2 ^ 31) (h : ∀ J, cx B n J (pfA (decide (b ≤ a)) s) → x69 I J → F (b01 (decide (s.1 = 0 ∧ (pfA (decide (b ≤ a)) s).1 = 0))) J L) : EI (d + 1) mX5_passFirst [.ref 17, .int (nI a), .int (nI b)] I L F := by
  obtain ⟨l1, l2, l3, l4, l5, l6⟩ := H.lt
  have go : ∀ (J : st_I) (s' : s4_X), cx B n J s' → x69 I J → s'.2 = s.2 → (∀ K, cx B n K (stA true s') → x69 J K → F (b01 (decide (s'.1 = 0 ∧ (stA true s').1 = 0))) K L) → TI (d + 1) mX5_passFirst 17 [.ref 17, .null, .null] [] J L F := by
    intro J s' hJ hx he hF
    obtain ⟨m1, m2, m3, m4, m5, m6⟩ := hJ.lt
    refine sgX5_passFirst_17 ?_
    rw [m3, nI_clamp (by omega), m4]
    refine ⟨m2, x_pass hJ (by rw [he]; exact hk) m6 (fun K hK hxK => ⟨?_, ?_⟩)⟩
    · unfold b01; split
      · exact Or.inr rfl
      · exact Or.inl rfl
    · have e : paA B n (knF B n s'.2.1) s' = stA true s' := by unfold paA; rw [decide_eq_true rfl]
      rw [e] at hK ⊢
      exact hF K hK hxK
  refine sgX5_passFirst_0 ?_
  unfold pfA at h
  by_cases z : s.1 = 0
  · have h4 : I 17 7 = 0 := by rw [H.2.2.2.1, z]; exact nI_0
    rw [h4, if_pos rfl]
    by_cases y : b ≤ a
    · rw [if_neg (nI_nlt y (by omega))]
      rw [if_pos (⟨z, decide_eq_true y⟩ : s.1 = 0 ∧ decide (b ≤ a) = true)] at h
      have hd := cx_dead (f := 2) H (by decide)
      refine go (u_I I 17 7 (nI 2)) (2, s.2) hd x69_7 rfl (fun K hK hxK => ?_)
      have e : stA true (2, s.2) = (2, s.2) := rfl
      rw [e] at hK ⊢
      have q := h K hK (x69_7.tr hxK)
      rw [decide_eq_false (fun c => absurd (show (2 : Nat) = 0 from c.2) (by decide))] at q
      rw [decide_eq_false (fun c => absurd (show (2 : Nat) = 0 from c.2) (by decide))]
      exact q
    · rw [if_pos (nI_lt (by omega) (by omega))]
      rw [if_neg (fun c => y (of_decide_eq_true c.2))] at h
      exact go I s H x69.rf rfl h
  · have nz : ¬ I 17 7 = 0 := by rw [H.2.2.2.1]; exact nI_ne0 (by omega) (by have := H.2.2.2.2.1; omega)
    rw [if_neg nz]
    rw [if_neg (fun c => z c.1)] at h
    exact go I s H x69.rf rfl h
theorem x_failLater {d n k tok : Nat} {B : Nat → Nat} {I : st_I} {L : st_L} {s : s4_X} {F : st_I → st_L → Prop} (H : cx B n I s) (hk : 1 ≤ k) (hk2 : k ≤ 5) (h : ∀ J, cx B n J (laA true k tok s) → x69 I J → F J L) : EV d mX5_failLater [.ref 17, .int (nI k), .int (nI (psF B n tok))] I L F := by
  obtain ⟨h1, h2, h3, h4, h5, h6, h7, h8⟩ := id H
  refine sgX5_failLater_0 ?_
  unfold laA at h
  rw [if_pos rfl] at h
  by_cases z : s.2.2.1 = 0
  · rw [if_pos z] at h
    rw [h6, z, nI_0, if_pos rfl]
    have hx : x69 I (u_I (u_I I 17 8 (nI k)) 17 9 (nI (psF B n tok))) := ⟨fun q hq => by rw [u_I_ne _ _ hq, u_I_ne _ _ hq], fun j hj => by simp only [u_I, if_true]; rw [if_neg (by omega), if_neg (by omega)]⟩
    refine h _ ⟨H.base hx, h2, by simp [u_I]; exact h3, by simp [u_I]; exact h4, h5, by simp [u_I], hk2, fun _ => by simp [u_I]⟩ hx
  · rw [if_neg z] at h
    rw [if_neg (by rw [h6]; exact nI_ne0 (by omega) (by omega))]
    exact h I H x69.rf
theorem rnF_stop {p : Nat → Bool} : ∀ r i, rnF p r i < r → ¬ p (i + rnF p r i) = true
  | 0, _, h => by rw [rnF] at h; omega
  | r + 1, i, h => by
    by_cases z : p i = true
    · rw [rnF_s z] at h ⊢
      have := rnF_stop (p := p) r (i + 1) (by omega)
      rwa [show i + (rnF p r (i + 1) + 1) = i + 1 + rnF p r (i + 1) by omega]
    · rw [rnF_n z]; exact z
theorem kd3 {B : Nat → Nat} {n t : Nat} (h : knF B n t = 3) : psF B n t < n ∧ ¬ lcB (B (psF B n t)) = true ∧ dgB (B (psF B n t)) = true ∧ teF B n (psF B n t) - psF B n t = dlF B n (psF B n t) ∧ dlF B n (psF B n t) ≤ 4 := by
  unfold knF kdF at h
  have h3 := wd_n3 B (psF B n t) (teF B n (psF B n t)) 22 0
  by_cases a : n ≤ psF B n t
  · rw [if_pos a] at h; omega
  rw [if_neg a] at h
  by_cases b : lcB (B (psF B n t)) = true
  · rw [if_pos b] at h
    split at h <;> omega
  rw [if_neg b] at h
  by_cases c : dgB (B (psF B n t)) = true
  · rw [if_pos c] at h
    have te := te_dig (n := n) (by omega) b c
    have e : teF B n (psF B n t) - psF B n t = dlF B n (psF B n t) := by omega
    rw [e] at h
    by_cases q : dlF B n (psF B n t) ≤ 4
    · exact ⟨by omega, b, c, e, q⟩
    · rw [if_neg q] at h; omega
  rw [if_neg c] at h
  split at h
  · omega
  · split at h
    · exact absurd h (sg_ne _ (by assumption)).2.2
    · omega
theorem vl_lt {B : Nat → Nat} {n t : Nat} (h : knF B n t = 3) : vlF B n t < 10000 := by
  obtain ⟨h1, h2, h3, h4, h5⟩ := kd3 h
  unfold vlF
  rw [h4]
  have q := kf_val (B := B) (f := psF B n t) (dlF B n (psF B n t)) (fun j hj => rnF_all (p := fun j => dgB (B j)) _ _ _ hj)
  have q2 : 10 ^ dlF B n (psF B n t) ≤ 10 ^ 4 := Nat.pow_le_pow_right (by decide) h5
  omega
theorem x_takeInt {d n most : Nat} {B : Nat → Nat} {I : st_I} {L : st_L} {s : s4_X} {F : Int32 → st_I → st_L → Prop} (H : cx B n I s) (hm : most < 10000) (h : ∀ J, cx B n J (inA B n most s) → x69 I J → F (nI (ivA B n s)) J L) : EI (d + 2) mX5_takeInt [.ref 17, .int (nI most)] I L F := by
  obtain ⟨l1, l2, l3, l4, l5, l6⟩ := H.lt
  refine sgX5_takeInt_0 ?_
  rw [l3, nI_clamp (by omega), l5]
  refine ⟨l2, x_pass H (by decide) (by decide) (fun J hJ hx => ?_)⟩
  unfold inA ivA at h
  by_cases w : s.1 = 0 ∧ (paA B n 3 s).1 = 0
  · rw [decide_eq_true w, if_neg (by decide)]
    rw [if_pos w] at h
    have k3 : knF B n s.2.1 = 3 := by
      by_cases c : knF B n s.2.1 = 3
      · exact c
      · have := w.2
        unfold paA stA at this
        rw [if_pos w.1, decide_eq_false c, if_neg (by decide)] at this
        exact absurd (show (1 : Nat) = 0 from this) (by decide)
    obtain ⟨k1, k2, k4, k5, k6⟩ := kd3 k3
    have lj : lx J n := ⟨hJ.1.1, hJ.1.2.1, hJ.1.2.2.1⟩
    have eB : bB J = B := hJ.1.2.2.2.1
    have v0 := vl_lt k3
    generalize hp : psF B n s.2.1 = p at *
    have vE : vlF B n s.2.1 = kf 10 (fun j => B (p + j) - 48) (dlF B n p) := by unfold vlF; rw [hp, k5]
    have hall : ∀ j, j < dlF B n p → dgB (B (p + j)) = true := fun j hj => rnF_all (p := fun j => dgB (B j)) _ _ _ hj
    have hle : dlF B n p ≤ n - p := rnF_le _ _ _
    have hn2 := H.1.1
    have fin : TI (d + 2) mX5_takeInt 64 [.ref 17, .int (nI most), .int (nI p), .int (nI (vlF B n s.2.1)), .null] [] J L F := by
      refine sgX5_takeInt_64 ?_
      by_cases y : most < vlF B n s.2.1
      · rw [if_neg (nI_ge y (by omega)), ← hp]
        refine x_failLater hJ (by decide) (by decide) (fun K hK hxK => ?_)
        have q := h K (by rw [decide_eq_true (show s.1 = 0 ∧ (paA B n 3 s).1 = 0 ∧ most < vlF B n s.2.1 from ⟨w.1, w.2, y⟩)]; exact hK) (hx.tr hxK)
        exact q
      · rw [if_pos (nI_le (by omega) (by omega))]
        exact h J (by rw [decide_eq_false (fun c => y c.2.2)]; exact hJ) hx
    have key : ∀ r j, j + r = dlF B n p → TI (d + 2) mX5_takeInt 25 [.ref 17, .int (nI most), .int (nI p), .int (nI (kf 10 (fun j => B (p + j) - 48) j)), .int (nI (p + j))] [] J L F := by
      intro r
      induction r with
      | zero =>
        intro j hj
        obtain rfl : j = dlF B n p := by omega
        refine sgX5_takeInt_25 ?_
        rw [show nI p + 4 = nI (p + 4) from nI_add p 4, ← vE]
        by_cases c : p + 4 ≤ p + dlF B n p
        · rw [if_pos (nI_le c (by omega))]; exact fin
        · rw [if_neg (nI_ge (by omega) (by omega))]
          refine x_isDigit lj (by omega) ?_
          have : (decide (p + dlF B n p < n) && dgB (bB J (p + dlF B n p))) = false := by
            by_cases e : p + dlF B n p < n
            · rw [decide_eq_true e, Bool.true_and, eB]
              have := rnF_stop (p := fun j => dgB (B j)) (n - p) p (by unfold dlF at e; omega)
              have e2 : ¬ dgB (B (p + dlF B n p)) = true := this
              simpa using e2
            · rw [decide_eq_false e, Bool.false_and]
          rw [this, if_pos (by decide)]; exact fin
      | succ r ih =>
        intro j hj
        refine sgX5_takeInt_25 ?_
        rw [show nI p + 4 = nI (p + 4) from nI_add p 4, if_neg (nI_ge (by omega) (by omega))]
        refine x_isDigit lj (by omega) ?_
        have hd := hall j (by omega)
        have dz := of_decide_eq_true hd
        rw [decide_eq_true (show p + j < n by omega), Bool.true_and, eB, b01_1 hd, if_neg (by decide), nI_clamp (by omega)]
        refine ⟨vp_in_nI (by omega) (by decide), ?_⟩
        have e18 : J 18 (p + j) = nI (B (p + j)) := by
          obtain ⟨-, -, q3, -⟩ := bt_c (lj.2.2 (p + j))
          have e : ub (J 18 (p + j)) = B (p + j) := by rw [← eB]; rfl
          rw [e] at q3
          rcases q3 with q3 | q3
          · exact q3.2
          · omega
        rw [e18, show nI (kf 10 (fun j => B (p + j) - 48) j) * 10 = nI (kf 10 (fun j => B (p + j) - 48) j * 10) from pk_mul _ 10, nI_add, show nI (kf 10 (fun j => B (p + j) - 48) j * 10 + B (p + j)) - 48 = nI (kf 10 (fun j => B (p + j) - 48) j * 10 + B (p + j) - 48) from pk_sub (b := 48) (by omega), show kf 10 (fun j => B (p + j) - 48) j * 10 + B (p + j) - 48 = kf 10 (fun j => B (p + j) - 48) (j + 1) by rw [kf]; omega, nI_1]
        exact ih (j + 1) (by omega)
    exact key (dlF B n p) 0 (by omega)
  · rw [decide_eq_false w, if_pos (by decide)]
    rw [if_neg w] at h
    exact h J (by rw [decide_eq_false (fun c => w ⟨c.1, c.2.1⟩)]; exact hJ) hx
