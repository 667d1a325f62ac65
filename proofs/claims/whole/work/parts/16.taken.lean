def xs (I I' : st_I) : Prop := ∀ q, q ≠ 26 → q ≠ 27 → I' q = I q
def ms (I I' : st_I) : Prop := ∀ q, q ≠ 92 → q ≠ 93 → I' q = I q
theorem xs.rf {I : st_I} : xs I I := fun _ _ _ => rfl
theorem ms.rf {I : st_I} : ms I I := fun _ _ _ => rfl
theorem xs.tr {I J K : st_I} (h : xs I J) (g : xs J K) : xs I K := fun q a b => (g q a b).trans (h q a b)
theorem ms.tr {I J K : st_I} (h : ms I J) (g : ms J K) : ms I K := fun q a b => (g q a b).trans (h q a b)
theorem xs.r26 {I J : st_I} (h : xs I J) (g : Nat → Int32) : xs I (r_I J 26 g) := fun q a b => by rw [r_ne g a]; exact h q a b
theorem xs.r27 {I J : st_I} (h : xs I J) (g : Nat → Int32) : xs I (r_I J 27 g) := fun q a b => by rw [r_ne g b]; exact h q a b
theorem ms.r92 {I J : st_I} (h : ms I J) (g : Nat → Int32) : ms I (r_I J 92 g) := fun q a b => by rw [r_ne g a]; exact h q a b
theorem ms.r93 {I J : st_I} (h : ms I J) (g : Nat → Int32) : ms I (r_I J 93 g) := fun q a b => by rw [r_ne g b]; exact h q a b
theorem xs.told {I J : st_I} (h : xs I J) {lv nf np nb nl npl : Nat} (H : iv_told I lv nf np nb nl npl) : iv_told J lv nf np nb nl npl := iv_told_congr (fun p hp => h p (by omega) (by omega)) (by rw [h 58 (by decide) (by decide)]) H
theorem ms.told {I J : st_I} (h : ms I J) {lv nf np nb nl npl : Nat} (H : iv_told I lv nf np nb nl npl) : iv_told J lv nf np nb nl npl := iv_told_congr (fun p hp => h p (by omega) (by omega)) (by rw [h 58 (by decide) (by decide)]) H
theorem pX_likeT {d lv nf np nb nl npl w : Nat} {I : st_I} {L : st_L} {F : Int32 → st_I → st_L → Prop} (H : iv_told I lv nf np nb nl npl) (hw : w < nl) (h : ∀ I', xs I I' → I' 26 = I 26 → F (LK I w (I 26)) I' L) : EI (d + 2) mX7_like [.ref 25, .ref 1, .int (nI w)] I L F :=
  pX_like H hw (fun g => h _ (xs.rf.r27 g) (r_ne g (by decide)))
theorem vr_same {I J : st_I} (h2 : J 2 = I 2) (h3 : J 3 = I 3) (h4 : J 4 = I 4) (p f b : Nat) (se sp no : Int32) (s : Nat → Int32) : vr J p f b se sp no s = vr I p f b se sp no s := by
  funext i; simp only [vr, h2, h3, h4]
/-- what the PERSON of SITTING k of PLAN q says of the FIDDLE at spot i -/
def sV (I : st_I) (seed : Int32) (q k i : Nat) : Nat → Int32 := vr I (I 8 (10 * (12 * q + k))).toNatClampNeg (I 8 (10 * (12 * q + k) + 4 + i)).toNatClampNeg (I 8 (10 * (12 * q + k) + 1)).toNatClampNeg (I 8 (10 * (12 * q + k) + 2)) (nI i) (lot10 seed (nI (10 * k + i))) s0
def sy (I : st_I) (w : Nat) (seed : Int32) (q k i : Nat) : Int32 := LK I w (sV I seed q k i)
theorem sV_same {I J : st_I} (h2 : J 2 = I 2) (h3 : J 3 = I 3) (h4 : J 4 = I 4) (h8 : J 8 = I 8) (seed : Int32) (q k i : Nat) : sV J seed q k i = sV I seed q k i := by
  simp only [sV, h8, vr_same h2 h3 h4]
theorem sy_same {I J : st_I} (h2 : J 2 = I 2) (h3 : J 3 = I 3) (h4 : J 4 = I 4) (h5 : J 5 = I 5) (h6 : J 6 = I 6) (h8 : J 8 = I 8) (w : Nat) (seed : Int32) (q k i : Nat) : sy J w seed q k i = sy I w seed q k i := by
  simp only [sy, LK_same h5 h6, sV_same h2 h3 h4 h8]
theorem xs.sy {I J : st_I} (h : xs I J) (w : Nat) (seed : Int32) (q k i : Nat) : sy J w seed q k i = sy I w seed q k i := sy_same (h 2 (by decide) (by decide)) (h 3 (by decide) (by decide)) (h 4 (by decide) (by decide)) (h 5 (by decide) (by decide)) (h 6 (by decide) (by decide)) (h 8 (by decide) (by decide)) w seed q k i
theorem ms.sy {I J : st_I} (h : ms I J) (w : Nat) (seed : Int32) (q k i : Nat) : sy J w seed q k i = sy I w seed q k i := sy_same (h 2 (by decide) (by decide)) (h 3 (by decide) (by decide)) (h 4 (by decide) (by decide)) (h 5 (by decide) (by decide)) (h 6 (by decide) (by decide)) (h 8 (by decide) (by decide)) w seed q k i
theorem xs.nsit' {I J : st_I} (h : xs I J) (q : Nat) : nsit J q = nsit I q := by rw [nsit, h 7 (by decide) (by decide), ← nsit]
theorem pX_seat {d lv nf np nb nl npl q k i : Nat} {seed : Int32} {I : st_I} {L : st_L} {F : st_I → st_L → Prop} (H : iv_told I lv nf np nb nl npl) (hq : q < npl) (hk : k < nsit I q) (hs : iv_sit I lv np nf nb q k) (hi : i < nord I q k) (h : ∀ I', xs I I' → I' 27 = I 27 → (∀ j, j < 12 → I' 26 j = sV I seed q k i j) → F I' L) : EV (d + 4) mX7_seat [.ref 25, .ref 1, .int (nI q), .int (nI k), .int (nI i), .int seed] I L F := by
  obtain ⟨⟨hlv, hnf, hnp, hnb, -⟩, -⟩ := id H
  obtain ⟨pp, bb, mm, h1, h2, h3, h4, e1, -, e2, -, hbo, -, e3, -, ho⟩ := hs
  have hm : nord I q k = mm := by rw [nord, e3, nI_clamp (by omega)]
  rw [hm] at hi
  obtain ⟨ff, hff, e4, -⟩ := ho i hi
  refine sgX7_seat_0 (pX_sat (c := 0) H hq hk (by omega) ?_)
  rw [show (4 : Int32) + nI i = nI (4 + i) from nI_add 4 i]
  refine pX_sat H hq hk (by omega) ?_
  refine pX_sat (c := 1) H hq hk (by omega) ?_
  rw [show I 8 (10 * (12 * q + k) + 0) = nI pp from e1, ← Nat.add_assoc, e4, e2]
  refine pX_meet H h1 hff h2 (fun g hg => ?_)
  have xg : xs I (r_I I 26 g) := xs.rf.r26 g
  refine pX_sat (c := 2) (xg.told H) hq (by rw [xg.nsit']; exact hk) (by omega) ?_
  rw [r_ne g (by decide), show (10 : Int32) * nI k + nI i = nI (10 * k + i) by rw [show (10 : Int32) = nI 10 from rfl, pk_mul, nI_add]]
  refine pX_noise ?_
  refine pX_attend (I0 := I) (s := s0) (p := pp) (f := ff) (b := bb) (by rw [r_at]; exact hg) (fun g2 hg2 => ?_)
  rw [r_r]
  refine h _ (xs.rf.r26 g2) (r_ne g2 (by decide)) (fun j hj => ?_)
  rw [r_at, hg2 j hj, sV, e1, e2, e4, nI_clamp (by omega), nI_clamp (by omega), nI_clamp (by omega)]
theorem pX_say {d lv nf np nb nl npl q k i w : Nat} {seed : Int32} {I : st_I} {L : st_L} {F : Int32 → st_I → st_L → Prop} (H : iv_told I lv nf np nb nl npl) (hw : w < nl) (h26 : ∀ j, j < 12 → I 26 j = sV I seed q k i j) (h : ∀ I', xs I I' → I' 26 = I 26 → F (sy I w seed q k i) I' L) : EI (d + 2) mX7_like [.ref 25, .ref 1, .int (nI w)] I L F := by
  refine pX_likeT H hw (fun I' h1 h2 => ?_)
  rw [LK_congr (H.2.2.2.2.1 w hw) h26]
  exact h I' h1 h2
/-- the best of the first n + 1 -/
def cb (s : Nat → Int32) : Nat → Nat
  | 0 => 0
  | n + 1 => if s (cb s n) < s (n + 1) then n + 1 else cb s n
theorem cb_le (s : Nat → Int32) : ∀ n, cb s n ≤ n
  | 0 => Nat.le_refl _
  | n + 1 => by
    rw [cb]; have := cb_le s n
    split <;> omega
/-- TAKEN (a FIDDLE's number, as the class's row has it) -/
def tk (I : st_I) (w : Nat) (seed : Int32) (q k : Nat) : Int32 := I 8 (10 * (12 * q + k) + 4 + cb (sy I w seed q k) (nord I q k - 1))
theorem pX_choice {d lv nf np nb nl npl q k w : Nat} {seed : Int32} {I : st_I} {L : st_L} {F : Int32 → st_I → st_L → Prop} (H : iv_told I lv nf np nb nl npl) (hw : w < nl) (hq : q < npl) (hk : k < nsit I q) (hs : iv_sit I lv np nf nb q k) (h : ∀ I', xs I I' → F (tk I w seed q k) I' L) : EI (d + 5) mX7_choice [.ref 25, .ref 1, .int (nI q), .int (nI k), .int (nI w), .int seed] I L F := by
  obtain ⟨⟨hlv, hnf, hnp, hnb, -⟩, -⟩ := id H
  have hs0 := hs
  obtain ⟨pp, bb, mm, h1, h2, h3, h4, e1, -, e2, -, hbo, -, e3, -, ho⟩ := hs
  have hm : nord I q k = mm := by rw [nord, e3, nI_clamp (by omega)]
  have key : ∀ (r i : Nat) (J : st_I), i + 1 + r = mm → xs I J → TI (d + 5) mX7_choice 9 [.ref 25, .ref 1, .int (nI q), .int (nI k), .int (nI w), .int seed, .int (I 8 (10 * (12 * q + k) + 4 + cb (sy I w seed q k) i)), .int (sy I w seed q k (cb (sy I w seed q k) i)), .int (nI (i + 1)), .null] [] J L F := by
    intro r
    induction r with
    | zero =>
      intro i J hi hJ
      refine sgX7_choice_9 (pX_sat (c := 3) (hJ.told H) hq (by rw [hJ.nsit']; exact hk) (by omega) ?_)
      rw [hJ 8 (by decide) (by decide), e3, if_pos (nI_le (by omega) (by omega))]
      have e : tk I w seed q k = I 8 (10 * (12 * q + k) + 4 + cb (sy I w seed q k) i) := by rw [tk, hm, show mm - 1 = i by omega]
      rw [← e]; exact h J hJ
    | succ r ih =>
      intro i J hi hJ
      have HJ := hJ.told H
      have hsJ : iv_sit J lv np nf nb q k := by
        have h8 := hJ 8 (by decide) (by decide); have h84 := hJ 84 (by decide) (by decide); have h85 := hJ 85 (by decide) (by decide); have h86 := hJ 86 (by decide) (by decide); have h87 := hJ 87 (by decide) (by decide); have h88 := hJ 88 (by decide) (by decide)
        simp only [iv_sit, h8, h84, h85, h86, h87, h88] at hs0 ⊢; exact hs0
      have hkJ : k < nsit J q := by rw [hJ.nsit']; exact hk
      refine sgX7_choice_9 (pX_sat (c := 3) HJ hq hkJ (by omega) ?_)
      rw [hJ 8 (by decide) (by decide), e3, if_neg (nI_ge (by omega) (by omega))]
      refine pX_seat HJ hq hkJ hsJ (by rw [nord, hJ 8 (by decide) (by decide), ← nord, hm]; omega) (fun J2 x2 _ hv => ?_)
      have hJ2 := hJ.tr x2
      refine pX_say (seed := seed) (q := q) (k := k) (i := i + 1) (x2.told HJ) hw (fun j hj => by rw [hv j hj, sV_same (x2 2 (by decide) (by decide)) (x2 3 (by decide) (by decide)) (x2 4 (by decide) (by decide)) (x2 8 (by decide) (by decide))]) (fun J3 x3 _ => ?_)
      have hJ3 := hJ2.tr x3
      rw [hJ2.sy]
      obtain ⟨fc, hfc, ec, -⟩ := ho (cb (sy I w seed q k) i) (by have := cb_le (sy I w seed q k) i; omega)
      rw [if_neg (by rw [ec]; exact fun q => absurd (q ▸ nI_pos' (show fc < 2 ^ 31 by omega)) (by decide))]
      by_cases hc : sy I w seed q k (cb (sy I w seed q k) i) < sy I w seed q k (i + 1)
      · rw [if_neg (Int32.not_le.mpr hc)]
        refine sgX7_choice_54 ?_
        rw [show (4 : Int32) + nI (i + 1) = nI (4 + (i + 1)) from nI_add 4 (i + 1)]
        refine pX_sat (hJ3.told H) hq (by rw [hJ3.nsit']; exact hk) (by omega) ?_
        rw [hJ3 8 (by decide) (by decide), nI_1]
        have := ih (i + 1) J3 (by omega) hJ3
        rw [cb, if_pos hc] at this
        rw [← Nat.add_assoc]
        exact this
      · rw [if_pos (Int32.not_lt.mp hc), nI_1]
        have := ih (i + 1) J3 (by omega) hJ3
        rw [cb, if_neg hc] at this
        exact this
  -- the first FIDDLE
  refine sgX7_choice_0 (sgX7_choice_9 (pX_sat (c := 3) H hq hk (by omega) ?_))
  rw [e3, if_neg (show ¬ nI mm ≤ 0 from nI_nle (by omega) (by omega))]
  refine pX_seat (i := 0) H hq hk hs0 (by rw [hm]; omega) (fun J2 x2 _ hv => ?_)
  refine pX_say (seed := seed) (q := q) (k := k) (i := 0) (x2.told H) hw (fun j hj => by rw [hv j hj, sV_same (x2 2 (by decide) (by decide)) (x2 3 (by decide) (by decide)) (x2 4 (by decide) (by decide)) (x2 8 (by decide) (by decide))]) (fun J3 x3 _ => ?_)
  rw [if_pos rfl, x2.sy]
  refine sgX7_choice_54 (pX_sat (c := 4) ((x2.tr x3).told H) hq (by rw [(x2.tr x3).nsit']; exact hk) (by omega) ?_)
  rw [(x2.tr x3) 8 (by decide) (by decide)]
  exact key (mm - 1) 0 J3 (by omega) (x2.tr x3)
