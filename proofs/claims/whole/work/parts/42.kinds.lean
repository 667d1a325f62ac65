/-! KINDS BY FIDDLES -/
def sSN (B T : Nat → Int32) (far : Int32) (f : Nat) : Nat → Nat
  | 0 => 0
  | p + 1 => if (if T (5 * p) = 0 then (1 : Int32) else 0) = far then sSN B T far f p else if B (8 * p + f) = -1 then sSN B T far f p else sSN B T far f p + (B (8 * p + f)).toNatClampNeg
theorem sSN_eq {B : Nat → Int32} (hv : okB B) (T : Nat → Int32) (far : Int32) (f : Nat) : ∀ p, sS B T far f p = nI (sSN B T far f p) ∧ sSN B T far f p ≤ 100 * sM B T far f p
  | 0 => ⟨rfl, Nat.le_refl _⟩
  | p + 1 => by
    obtain ⟨h1, h2⟩ := sSN_eq hv T far f p
    rw [sS, sSN, sM]
    by_cases z : (if T (5 * p) = 0 then (1 : Int32) else 0) = far
    · rw [if_pos z, if_pos z, if_pos z]; exact ⟨h1, h2⟩
    · rw [if_neg z, if_neg z, if_neg z]
      by_cases y : B (8 * p + f) = -1
      · rw [if_pos y, if_pos y, if_pos y]; exact ⟨h1, h2⟩
      · rw [if_neg y, if_neg y, if_neg y]
        obtain ⟨v, hv1, hv2⟩ := (hv (8 * p + f)).resolve_left y
        rw [hv2, nI_clamp (by omega), h1, nI_add]
        exact ⟨rfl, by omega⟩
def cL (M : Nat → Nat) : Nat → Nat
  | 0 => 1
  | f + 1 => if M f = 0 then cL M f else Nat.lcm (cL M f) (M f)
theorem dvd2520 : ∀ b, b < 11 → 0 < b → 2520 % b = 0 := by decide
theorem cL_ok {M : Nat → Nat} (hM : ∀ f, M f ≤ 10) : ∀ f, cL M f ∣ 2520
  | 0 => by rw [cL]; exact Nat.one_dvd _
  | f + 1 => by
    rw [cL]
    split
    · exact cL_ok hM f
    · exact Nat.lcm_dvd (cL_ok hM f) (Nat.dvd_of_mod_eq_zero (dvd2520 _ (by have := hM f; omega) (by omega)))
theorem cL_le {M : Nat → Nat} (hM : ∀ f, M f ≤ 10) (f : Nat) : cL M f ≤ 2520 := Nat.le_of_dvd (by decide) (cL_ok hM f)
theorem cL_pos {M : Nat → Nat} (hM : ∀ f, M f ≤ 10) (f : Nat) : 0 < cL M f := Nat.pos_of_dvd_of_pos (cL_ok hM f) (by decide)
theorem cL_dvd {M : Nat → Nat} {g : Nat} (h0 : ¬ M g = 0) : ∀ f, g < f → M g ∣ cL M f
  | 0, h => by omega
  | f + 1, h => by
    rw [cL]
    by_cases e : g = f
    · subst e; rw [if_neg h0]; exact Nat.dvd_lcm_right _ _
    · split
      · exact cL_dvd h0 f (by omega)
      · exact Nat.dvd_trans (cL_dvd h0 f (by omega)) (Nat.dvd_lcm_left _ _)
theorem x_common {d a b : Nat} {I : st_I} {L : st_L} {F : Int32 → st_I → st_L → Prop} (ha0 : 0 < a) (ha : a ≤ 2520) (hb0 : 0 < b) (hb : b ≤ 10) (h : F (nI (Nat.lcm a b)) I L) : EI d mX10_commonMultiple [.int (nI a), .int (nI b)] I L F := by
  have stop : ∀ i, b ∣ (i + 1) * a → (∀ k, 0 < k → k ≤ i → ¬ b ∣ k * a) → Nat.lcm a b = (i + 1) * a := by
    intro i h1 h2
    have d1 : Nat.lcm a b ∣ (i + 1) * a := Nat.lcm_dvd (Nat.dvd_mul_left a (i + 1)) h1
    obtain ⟨k, hk⟩ := Nat.dvd_lcm_left a b
    have hpos : 0 < Nat.lcm a b := Nat.lcm_pos ha0 hb0
    have hle : Nat.lcm a b ≤ (i + 1) * a := Nat.le_of_dvd (Nat.mul_pos (by omega) ha0) d1
    rw [hk, Nat.mul_comm a k] at hle hpos
    have k1 : 0 < k := by
      rcases Nat.eq_zero_or_pos k with z | z
      · rw [z, Nat.zero_mul] at hpos; omega
      · exact z
    have k2 : k ≤ i + 1 := Nat.le_of_mul_le_mul_right hle ha0
    by_cases e : k = i + 1
    · rw [hk, e, Nat.mul_comm]
    · have := Nat.dvd_lcm_right a b
      rw [hk, Nat.mul_comm] at this
      exact absurd this (h2 k k1 (by omega))
  have key : ∀ (r i : Nat), i + r = b → (∀ k, 0 < k → k ≤ i → ¬ b ∣ k * a) → TI d mX10_commonMultiple 4 [.int (nI a), .int (nI b), .int (nI ((i + 1) * a)), .int (nI i)] [] I L F := by
    intro r
    induction r with
    | zero =>
      intro i hi hn
      obtain rfl : i = b := by omega
      exact absurd (Nat.dvd_mul_right i a) (hn i hb0 (Nat.le_refl _))
    | succ r ih =>
      intro i hi hn
      have hm : (i + 1) * a ≤ 10 * 2520 := Nat.mul_le_mul (by omega) ha
      refine sgX10_commonMultiple_4 ?_
      rw [if_neg (nI_ge (by omega) (by omega)), pk_rem (by omega) hb0 (by omega)]
      refine ⟨nI_ne0 hb0 (by omega), ?_⟩
      by_cases z : (i + 1) * a % b = 0
      · rw [z, if_pos (show nI 0 = 0 from rfl), ← stop i (Nat.dvd_of_mod_eq_zero z) hn]; exact h
      · have hlt : (i + 1) * a % b < b := Nat.mod_lt _ hb0
        rw [if_neg (nI_ne0 (by omega) (by omega)), nI_add, nI_1, show (i + 1) * a + a = (i + 1 + 1) * a by rw [Nat.succ_mul (i + 1)]]
        refine ih (i + 1) (by omega) (fun k k1 k2 => ?_)
        by_cases e : k = i + 1
        · subst e; exact fun w => z (Nat.mod_eq_zero_of_dvd w)
        · exact hn k k1 (by omega)
  refine sgX10_commonMultiple_0 ?_
  have := key b 0 (by omega) (fun k k1 k2 => by omega)
  rw [Nat.zero_add, Nat.one_mul] at this
  exact this
theorem m_common {d a b : Nat} {I : st_I} {L : st_L} {F : Int32 → st_I → st_L → Prop} (ha0 : 0 < a) (ha : a ≤ 2520) (hb0 : 0 < b) (hb : b ≤ 10) (h : F (nI (Nat.lcm a b)) I L) : EI d mX12_commonOf [.int (nI a), .int (nI b)] I L F := by
  have key : ∀ (r y x : Nat), y < r → x < 2 ^ 31 → y < 2 ^ 31 → Nat.gcd x y = Nat.gcd a b → TI d mX12_commonOf 4 [.int (nI a), .int (nI b), .int (nI x), .int (nI y), .null] [] I L F := by
    intro r
    induction r with
    | zero => intro y x hy; omega
    | succ r ih =>
      intro y x hy hx hy2 hg
      refine sgX12_commonOf_4 ?_
      by_cases z : y = 0
      · subst z
        rw [Nat.gcd_zero_right] at hg
        have hgp : 0 < x := by rw [hg]; exact Nat.gcd_pos_of_pos_left b ha0
        have hga : x ∣ a := by rw [hg]; exact Nat.gcd_dvd_left a b
        rw [if_pos (show nI 0 = 0 from rfl), pk_div (by omega) hgp hx, pk_mul]
        have e : a / x * b = Nat.lcm a b := by
          unfold Nat.lcm
          rw [← hg, Nat.div_mul_right_comm hga]
        rw [e]
        exact ⟨nI_ne0 hgp hx, h⟩
      · rw [if_neg (nI_ne0 (by omega) hy2), pk_rem hx (by omega) hy2]
        have hlt : x % y < y := Nat.mod_lt _ (by omega)
        refine ⟨nI_ne0 (by omega) hy2, ih (x % y) y (by omega) hy2 (by omega) ?_⟩
        rw [← hg, Nat.gcd_comm x y, Nat.gcd_rec y x, Nat.gcd_comm]
  exact sgX12_commonOf_0 (key (b + 1) b a (by omega) (by omega) (by omega) rfl)
abbrev kd_X : Type := Nat × (Nat → Nat) × (Nat → Nat)
/-- the FIDDLES with a MEAN, among the first f: V, old or not -/
def gD (S M : Nat → Nat) (O : Nat → Int32) (Lc : Nat) : Nat → kd_X
  | 0 => (0, fun _ => 0, fun _ => 0)
  | f + 1 => if M f = 0 then gD S M O Lc f else ((gD S M O Lc f).1 + 1, updN (gD S M O Lc f).2.1 (gD S M O Lc f).1 (S f * (Lc / M f)), updN (gD S M O Lc f).2.2 (gD S M O Lc f).1 (if O (5 * f) = 0 then 0 else 1))
theorem gD_le (S M : Nat → Nat) (O : Nat → Int32) (Lc : Nat) : ∀ f, (gD S M O Lc f).1 ≤ f
  | 0 => Nat.le_refl _
  | f + 1 => by have := gD_le S M O Lc f; rw [gD]; split; omega; dsimp only; omega
def okD (X : kd_X) : Prop := X.1 ≤ 8 ∧ ∀ i, i < X.1 → X.2.1 i ≤ 252000 ∧ X.2.2 i ≤ 1
theorem gD_ok {S M : Nat → Nat} {O : Nat → Int32} {Lc : Nat} (hS : ∀ f, S f ≤ 100 * M f) (hL : Lc ≤ 2520) : ∀ f, ∀ i, i < (gD S M O Lc f).1 → (gD S M O Lc f).2.1 i ≤ 252000 ∧ (gD S M O Lc f).2.2 i ≤ 1
  | 0 => fun i hi => absurd hi (Nat.not_lt_zero _)
  | f + 1 => by
    intro i hi
    have ih := gD_ok (O := O) hS hL f
    rw [gD] at hi ⊢
    by_cases z : M f = 0
    · rw [if_pos z] at hi ⊢; exact ih i hi
    · rw [if_neg z] at hi ⊢
      dsimp only at hi ⊢
      unfold updN
      by_cases e : i = (gD S M O Lc f).1
      · rw [if_pos e, if_pos e]
        have h1 : S f * (Lc / M f) ≤ 100 * M f * (Lc / M f) := Nat.mul_le_mul_right _ (hS f)
        have h2 : M f * (Lc / M f) ≤ Lc := Nat.mul_div_le _ _
        rw [Nat.mul_assoc] at h1
        exact ⟨by omega, by split <;> omega⟩
      · rw [if_neg e, if_neg e]; exact ih i (by omega)
theorem gD_olds {S M : Nat → Nat} {O : Nat → Int32} {Lc f : Nat} : sn (gD S M O Lc (f + 1)).2.2 (gD S M O Lc (f + 1)).1 = sn (gD S M O Lc f).2.2 (gD S M O Lc f).1 + (if M f = 0 then 0 else if O (5 * f) = 0 then 0 else 1) := by
  rw [gD]
  by_cases z : M f = 0
  · rw [if_pos z, if_pos z, Nat.add_zero]
  · rw [if_neg z, if_neg z]
    dsimp only
    rw [sn]
    congr 1
    · exact sn_congr (fun i hi => by unfold updN; rw [if_neg (show ¬ i = (gD S M O Lc f).1 by omega)])
    · unfold updN; rw [if_pos rfl]
/-- the class has gathered X -/
def xD (J : st_I) (X : kd_X) (Lc : Nat) : Prop := J 43 3 = nI X.1 ∧ J 43 2 = nI Lc ∧ J 43 0 = nI (sn X.2.2 X.1) ∧ J 43 1 = nI (X.1 - sn X.2.2 X.1) ∧ (∀ i, i < X.1 → J 44 i = nI (X.2.1 i)) ∧ ∀ i, i < X.1 → J 45 i = nI (X.2.2 i)
theorem okD_olds {X : kd_X} (h : okD X) : sn X.2.2 X.1 ≤ X.1 := by
  have := sn_le (a := X.2.2) (c := 1) (n := X.1) (fun i hi => (h.2 i hi).2)
  omega
theorem pX_kinds {d lv nf np nb nl npl : Nat} {S M : Nat → Nat} {I : st_I} {L : st_L} {F : st_I → st_L → Prop} (H : iv_told I lv nf np nb nl npl) (h35 : ∀ f, f < nf → I 35 f = nI (S f) ∧ I 36 f = nI (M f)) (hM : ∀ f, M f ≤ 10) (hS : ∀ f, S f ≤ 100 * M f) (h : ∀ J : st_I, (∀ q, q ≠ 43 → q ≠ 44 → q ≠ 45 → J q = I q) → xD J (gD S M (I 2) (cL M nf) nf) (cL M nf) → F J L) : EV (d + 2) mX1_gather [.ref 43, .ref 1, .ref 30] I L F := by
  obtain ⟨hlv, b1, b2, b3, b4, b5, h18, c0, c1, -⟩ := id H.1
  have T0 : ∀ K : st_I, (∀ q, q ≠ 43 → q ≠ 44 → q ≠ 45 → K q = I q) → iv_told K lv nf np nb nl npl := fun K hK => iv_told_congr (fun q hq => hK q (by omega) (by omega) (by omega)) (by rw [hK 58 (by decide) (by decide) (by decide)]) H
  have hL := cL_le hM nf
  have two : ∀ (r f : Nat) (J : st_I), f + r = nf → (∀ q, q ≠ 43 → q ≠ 44 → q ≠ 45 → J q = I q) → J 43 3 = nI (gD S M (I 2) (cL M nf) f).1 → J 43 2 = nI (cL M nf) → J 43 0 = nI (sn (gD S M (I 2) (cL M nf) f).2.2 (gD S M (I 2) (cL M nf) f).1) → (∀ i, i < (gD S M (I 2) (cL M nf) f).1 → J 44 i = nI ((gD S M (I 2) (cL M nf) f).2.1 i)) → (∀ i, i < (gD S M (I 2) (cL M nf) f).1 → J 45 i = nI ((gD S M (I 2) (cL M nf) f).2.2 i)) → TV (d + 2) mX1_gather 59 [.ref 43, .ref 1, .ref 30, .int (nI f), .null] [] J L F := by
    intro r
    induction r with
    | zero =>
      intro f J hf hJ x1 x2 x3 x4 x5
      obtain rfl : f = nf := by omega
      have hle := gD_le S M (I 2) (cL M f) f
      have hol := okD_olds ⟨by omega, gD_ok (O := I 2) hS hL f⟩
      refine sgX1_gather_59 ?_
      rw [hJ 1 (by decide) (by decide) (by decide), c0, if_pos (nI_le (Nat.le_refl _) (by omega)), x1, x3, pk_sub hol]
      refine h _ (fun q q1 q2 q3 => by rw [u_I_ne _ _ q1]; exact hJ q q1 q2 q3) ⟨?_, ?_, ?_, ?_, fun i hi => ?_, fun i hi => ?_⟩
      · simp only [u_I, if_true, show (3 : Nat) = 1 ↔ False by decide, if_false]; exact x1
      · simp only [u_I, if_true, show (2 : Nat) = 1 ↔ False by decide, if_false]; exact x2
      · simp only [u_I, if_true, show (0 : Nat) = 1 ↔ False by decide, if_false]; exact x3
      · simp only [u_I, if_true]
      · rw [u_I_ne _ _ (by decide)]; exact x4 i hi
      · rw [u_I_ne _ _ (by decide)]; exact x5 i hi
    | succ r ih =>
      intro f J hf hJ x1 x2 x3 x4 x5
      have hle := gD_le S M (I 2) (cL M nf) f
      have hol := okD_olds ⟨show (gD S M (I 2) (cL M nf) f).1 ≤ 8 by omega, gD_ok (O := I 2) hS hL f⟩
      have hMf := hM f
      have st := ih (f + 1)
      rw [gD_olds] at st
      rw [gD] at st
      refine sgX1_gather_59 ?_
      rw [hJ 1 (by decide) (by decide) (by decide), c0, if_neg (nI_ge (by omega) (by omega)), nI_clamp (by omega), hJ 36 (by decide) (by decide) (by decide), (h35 f (by omega)).2, nI_1]
      have v16 : vp_in (nI f) 16 := vp_in_nI (by omega) (by decide)
      refine ⟨v16, ?_⟩
      by_cases z : M f = 0
      · rw [if_pos z, if_pos z, Nat.add_zero] at st
        rw [z, if_pos (show nI 0 ≤ 0 by decide)]
        exact st J (by omega) hJ x1 x2 x3 x4 x5
      · rw [if_neg z, if_neg z] at st
        have v8 : vp_in (nI (gD S M (I 2) (cL M nf) f).1) 8 := vp_in_nI (by omega) (by decide)
        rw [if_neg (nI_nle (by omega) (by omega)), x1, x2, nI_clamp (by omega), hJ 35 (by decide) (by decide) (by decide), (h35 f (by omega)).1, pk_div (by omega) (by omega) (by omega), pk_mul]
        have hJ2 : ∀ q, q ≠ 43 → q ≠ 44 → q ≠ 45 → (u_I J 44 (gD S M (I 2) (cL M nf) f).1 (nI (S f * (cL M nf / M f)))) q = I q := fun q q1 q2 q3 => by rw [u_I_ne _ _ q2]; exact hJ q q1 q2 q3
        refine ⟨v16, nI_ne0 (by omega) (by omega), v8, x_isOld_i (T0 _ hJ2) (by omega) ?_⟩
        rw [hJ2 2 (by decide) (by decide) (by decide), u_I_ne _ _ (by decide), x1, nI_clamp (by omega)]
        have e45 : ∀ z : Int32, (u_I (u_I J 44 (gD S M (I 2) (cL M nf) f).1 (nI (S f * (cL M nf / M f)))) 45 (gD S M (I 2) (cL M nf) f).1 z) 45 (gD S M (I 2) (cL M nf) f).1 = z := fun z => by simp [u_I]
        have eo : (if I 2 (5 * f) = 0 then (0 : Int32) else 1) = nI (if I 2 (5 * f) = 0 then 0 else 1) := by
          by_cases w : I 2 (5 * f) = 0
          · rw [if_pos w, if_pos w]; rfl
          · rw [if_neg w, if_neg w]; rfl
        rw [e45, eo, x3, nI_add, nI_1]
        refine ⟨v8, v8, st _ (by omega) (fun q q1 q2 q3 => by rw [u_I_ne _ _ q1, u_I_ne _ _ q1, u_I_ne _ _ q3]; exact hJ2 q q1 q2 q3) ?_ ?_ ?_ (fun i hi => ?_) (fun i hi => ?_)⟩
        · simp [u_I]
        · simp only [u_I, if_true, show (2 : Nat) = 3 ↔ False by decide, show (2 : Nat) = 0 ↔ False by decide, show (43 : Nat) = 45 ↔ False by decide, show (43 : Nat) = 44 ↔ False by decide, if_false]; exact x2
        · simp only [u_I, if_true, show (0 : Nat) = 3 ↔ False by decide, if_false]
        · dsimp only at hi
          unfold updN
          dsimp only
          by_cases e : i = (gD S M (I 2) (cL M nf) f).1
          · rw [if_pos e]; subst e; simp [u_I]
          · rw [if_neg e]
            simp only [u_I, if_true, if_neg e, show (44 : Nat) = 43 ↔ False by decide, show (44 : Nat) = 45 ↔ False by decide, if_false]
            exact x4 i (by omega)
        · dsimp only at hi
          unfold updN
          dsimp only
          by_cases e : i = (gD S M (I 2) (cL M nf) f).1
          · rw [if_pos e]; subst e; simp [u_I]
          · rw [if_neg e]
            simp only [u_I, if_true, if_neg e, show (45 : Nat) = 43 ↔ False by decide, show (45 : Nat) = 44 ↔ False by decide, if_false]
            exact x5 i (by omega)
  have one : ∀ (r f : Nat) (J : st_I), f + r = nf → (∀ q, q ≠ 43 → J q = I q) → J 43 3 = 0 → J 43 0 = 0 → J 43 2 = nI (cL M f) → TV (d + 2) mX1_gather 17 [.ref 43, .ref 1, .ref 30, .int (nI f), .null] [] J L F := by
    intro r
    induction r with
    | zero =>
      intro f J hf hJ x1 x2 x3
      obtain rfl : f = nf := by omega
      refine sgX1_gather_17 ?_
      rw [hJ 1 (by decide), c0, if_pos (nI_le (Nat.le_refl _) (by omega))]
      exact two f 0 J (by omega) (fun q q1 _ _ => hJ q q1) x1 x3 x2 (fun i hi => absurd hi (Nat.not_lt_zero _)) (fun i hi => absurd hi (Nat.not_lt_zero _))
    | succ r ih =>
      intro f J hf hJ x1 x2 x3
      have hMf := hM f
      have st := ih (f + 1)
      rw [cL] at st
      have v16 : vp_in (nI f) 16 := vp_in_nI (by omega) (by decide)
      refine sgX1_gather_17 ?_
      rw [hJ 1 (by decide), c0, if_neg (nI_ge (by omega) (by omega)), nI_clamp (by omega), hJ 36 (by decide), (h35 f (by omega)).2, nI_1]
      refine ⟨v16, ?_⟩
      by_cases z : M f = 0
      · rw [if_pos z] at st
        rw [z, if_pos (show nI 0 ≤ 0 by decide)]
        exact st J (by omega) hJ x1 x2 x3
      · rw [if_neg z] at st
        rw [if_neg (nI_nle (by omega) (by omega)), x3]
        refine ⟨v16, x_common (cL_pos hM f) (cL_le hM f) (by omega) hMf ?_⟩
        refine st _ (by omega) (fun q q1 => by rw [u_I_ne _ _ q1]; exact hJ q q1) ?_ ?_ ?_
        · simp only [u_I, if_true, show (3 : Nat) = 2 ↔ False by decide, if_false]; exact x1
        · simp only [u_I, if_true, show (0 : Nat) = 2 ↔ False by decide, if_false]; exact x2
        · simp [u_I]
  exact sgX1_gather_0 (one nf 0 _ (by omega) (fun q q1 => by rw [u_I_ne _ _ q1, u_I_ne _ _ q1, u_I_ne _ _ q1]) (by simp [u_I]) (by simp [u_I]) (by simp [u_I, cL]; rfl))
/-! sets -/
/-- ways to take left of the places from at' on, so that what is taken is Sm at least -/
def kwF (W : Nat → Nat) (Sm : Nat) : Nat → Nat → Nat → Nat → Nat
  | 0, _, left, ch => if left = 0 ∧ Sm ≤ ch then 1 else 0
  | r + 1, at', left, ch => (if left = 0 then 0 else kwF W Sm r (at' + 1) (left - 1) (ch + W at')) + kwF W Sm r (at' + 1) left ch
theorem kw_0 (W : Nat → Nat) (Sm : Nat) : ∀ (r at' ch : Nat), kwF W Sm r at' 0 ch = if Sm ≤ ch then 1 else 0
  | 0, at', ch => by rw [kwF]; simp
  | r + 1, at', ch => by rw [kwF, if_pos rfl, kw_0 W Sm r, Nat.zero_add]
theorem kw_big (W : Nat → Nat) (Sm : Nat) : ∀ (r at' left ch : Nat), r < left → kwF W Sm r at' left ch = 0
  | 0, at', left, ch, h => by rw [kwF, if_neg (by omega)]
  | r + 1, at', left, ch, h => by rw [kwF, if_neg (by omega), kw_big W Sm r _ _ _ (by omega), kw_big W Sm r _ _ _ (by omega)]
theorem kw_bin (W : Nat → Nat) : ∀ (r at' left ch : Nat), kwF W 0 r at' left ch = bin r left
  | 0, at', left, ch => by
    rw [kwF]
    cases left with
    | zero => rfl
    | succ l => rw [if_neg (by omega)]; rfl
  | r + 1, at', left, ch => by
    rw [kwF]
    cases left with
    | zero => rw [if_pos rfl, kw_bin W r, bin_0, bin_0]
    | succ l => rw [if_neg (by omega), kw_bin W r, kw_bin W r, Nat.add_sub_cancel]; rfl
def pcF : Nat → Nat → Nat
  | 0, _ => 0
  | r + 1, w => w % 2 + pcF r (w / 2)
def coF (W : Nat → Nat) : Nat → Nat → Nat → Nat
  | 0, _, _ => 0
  | r + 1, at', w => (if w % 2 = 1 then W at' else 0) + coF W r (at' + 1) (w / 2)
theorem kw_sum (W : Nat → Nat) (Sm : Nat) : ∀ (r at' left ch : Nat), sn (fun w => if pcF r w = left ∧ Sm ≤ ch + coF W r at' w then 1 else 0) (2 ^ r) = kwF W Sm r at' left ch
  | 0, at', left, ch => by
    rw [kwF, Nat.pow_zero, sn, sn, Nat.zero_add]
    show (if pcF 0 0 = left ∧ Sm ≤ ch + coF W 0 at' 0 then 1 else 0) = _
    by_cases h : left = 0 ∧ Sm ≤ ch
    · rw [if_pos h, if_pos]
      exact ⟨h.1.symm, h.2⟩
    · rw [if_neg h, if_neg]
      exact fun z => h ⟨z.1.symm, z.2⟩
  | r + 1, at', left, ch => by
    rw [Nat.pow_succ, Nat.mul_comm, sn_ms, kwF, ← kw_sum W Sm r (at' + 1) left ch, sn, sn, sn, Nat.zero_add, Nat.add_comm]
    congr 1
    · by_cases h : left = 0
      · rw [if_pos h]
        refine sn_z (fun w _ => ?_)
        rw [pcF, show (1 + 2 * w) % 2 = 1 by omega, if_neg (by omega)]
      · rw [if_neg h, ← kw_sum W Sm r (at' + 1) (left - 1) (ch + W at')]
        refine sn_congr (fun w _ => ?_)
        rw [pcF, coF, show (1 + 2 * w) % 2 = 1 by omega, show (1 + 2 * w) / 2 = w by omega, if_pos (show (1 : Nat) = 1 from rfl), ← Nat.add_assoc]
        have : (1 + pcF r w = left) ↔ pcF r w = left - 1 := by omega
        simp only [this]
    · refine sn_congr (fun w _ => ?_)
      rw [pcF, coF, show (0 + 2 * w) % 2 = 0 by omega, show (0 + 2 * w) / 2 = w by omega, if_neg (show ¬ (0 : Nat) = 1 by decide), Nat.zero_add, Nat.zero_add]
/-- the first k places of a set: how many, and what they have -/
def pkF (w k : Nat) : Nat := sn (fun i => w / 2 ^ i % 2) k
def onF (W : Nat → Nat) (w k : Nat) : Nat := sn (fun i => if w / 2 ^ i % 2 = 1 then W i else 0) k
theorem pc_pk (w : Nat) : ∀ (r at' : Nat), pkF w at' + pcF r (w / 2 ^ at') = pkF w (at' + r)
  | 0, at' => by rw [pcF]; rfl
  | r + 1, at' => by
    have := pc_pk w r (at' + 1)
    rw [pcF, Nat.div_div_eq_div_mul, ← Nat.pow_succ, ← Nat.add_assoc]
    rw [show pkF w at' + w / 2 ^ at' % 2 = pkF w (at' + 1) from rfl, this]
    congr 1; omega
theorem co_on (W : Nat → Nat) (w : Nat) : ∀ (r at' : Nat), onF W w at' + coF W r at' (w / 2 ^ at') = onF W w (at' + r)
  | 0, at' => by rw [coF]; rfl
  | r + 1, at' => by
    have := co_on W w r (at' + 1)
    rw [coF, Nat.div_div_eq_div_mul, ← Nat.pow_succ, ← Nat.add_assoc]
    rw [show onF W w at' + (if w / 2 ^ at' % 2 = 1 then W at' else 0) = onF W w (at' + 1) from rfl, this]
    congr 1; omega
theorem pc_all (w m : Nat) : pcF m w = pkF w m := by
  have := pc_pk w m 0
  rw [Nat.pow_zero, Nat.div_one, Nat.zero_add] at this
  rw [← this]; simp [pkF, sn]
theorem co_all (W : Nat → Nat) (w m : Nat) : coF W m 0 w = onF W w m := by
  have := co_on W w m 0
  rw [Nat.pow_zero, Nat.div_one, Nat.zero_add] at this
  rw [← this]; simp [onF, sn]
/-- the way of what is old itself counts -/
theorem kw_one (W o : Nat → Nat) (Sm : Nat) (ho : ∀ i, o i ≤ 1) : ∀ (r at' ch : Nat), Sm ≤ ch + sn (fun i => o (at' + i) * W (at' + i)) r → 0 < kwF W Sm r at' (sn (fun i => o (at' + i)) r) ch
  | 0, at', ch, h => by
    rw [kwF, sn, if_pos ⟨rfl, by rw [sn] at h; omega⟩]; decide
  | r + 1, at', ch, h => by
    rw [sn_head] at h ⊢
    have e1 : sn (fun i => o (at' + (i + 1))) r = sn (fun i => o (at' + 1 + i)) r := sn_congr (fun i _ => by rw [show at' + (i + 1) = at' + 1 + i by omega])
    have e2 : sn (fun i => o (at' + (i + 1)) * W (at' + (i + 1))) r = sn (fun i => o (at' + 1 + i) * W (at' + 1 + i)) r := sn_congr (fun i _ => by rw [show at' + (i + 1) = at' + 1 + i by omega])
    rw [e1]
    rw [e2] at h
    rw [kwF, Nat.add_zero]
    rw [Nat.add_zero] at h
    rcases (show o at' = 0 ∨ o at' = 1 by have := ho at'; omega) with z | z
    · rw [z, Nat.zero_mul, Nat.zero_add] at h
      rw [z, Nat.zero_add]
      have := kw_one W o Sm ho r (at' + 1) ch h
      omega
    · rw [z, Nat.one_mul] at h
      rw [z, if_neg (by omega), Nat.add_comm 1, Nat.add_sub_cancel]
      have := kw_one W o Sm ho r (at' + 1) (ch + W at') (by omega)
      omega
