/-! read: a sit, in the class. R = the sit's row: who, bow, seen, -, then the FIDDLES, m of them -/
theorem dup_congr {R R' : Nat → Int32} {r r' m : Nat} {f : Int32} (h : ∀ i, i < m → R' (r' + 4 + i) = R (r + 4 + i)) : dupB R' r' m f = dupB R r m f := by
  have key : ∀ q i, i + q = m → foF (fun i => decide (R' (r' + 4 + i) = f)) q i = foF (fun i => decide (R (r + 4 + i) = f)) q i := by
    intro q
    induction q with
    | zero => intro i _; rfl
    | succ q ih => intro i hi; rw [foF, foF, h i (by omega), ih (i + 1) (by omega)]
  unfold dupB
  rw [key m 0 (by omega)]
theorem or_congr {B : Nat → Nat} {n r r' m : Nat} {N : nm_X} {R R' : Nat → Int32} {s : s4_X} (h : ∀ i, i < m → R' (r' + 4 + i) = R (r + 4 + i)) : orA B n N R' r' m s = orA B n N R r m s := by
  unfold orA
  rw [dup_congr h]
theorem tn_al {B : Nat → Nat} {n k : Nat} {N : nm_X} {s : s4_X} (h : (tnA B n N k s).1 = 0) : s.1 = 0 ∧ alv B n s = true := by
  unfold tnA at h
  rw [la_1.1] at h
  have := st_al h
  exact ⟨this.1, decide_eq_true ⟨this.1, h⟩⟩
theorem or_al {B : Nat → Nat} {n r m : Nat} {N : nm_X} {R : Nat → Int32} {s : s4_X} (h : (orA B n N R r m s).1 = 0) : m < 6 ∧ s.1 = 0 ∧ orU B n m s = s ∧ (tnA B n N 140 s).1 = 0 ∧ orA B n N R r m s = laA (dupB R r m (tnV B n N 140 s)) 3 s.2.1 (tnA B n N 140 s) := by
  have h2 := h
  unfold orA at h2
  rw [la_1.1] at h2
  obtain ⟨a1, a2⟩ := tn_al h2
  obtain ⟨b1, b2, -, -⟩ := alv_2 a2
  by_cases c : 6 ≤ m ∧ s.1 = 0 ∧ knF B n s.2.1 = 2
  · exfalso
    unfold orU at a1
    rw [if_pos c] at a1
    exact absurd (show (2 : Nat) = 0 from a1) (by decide)
  · have e : orU B n m s = s := by unfold orU; rw [if_neg c]
    rw [e] at a1 a2 b1 b2 h2
    have m6 : m < 6 := by
      by_cases q : 6 ≤ m
      · exact absurd ⟨q, a1, b2⟩ c
      · omega
    refine ⟨m6, a1, e, h2, ?_⟩
    unfold orA
    rw [e, decide_eq_true (show (tnA B n N 140 s).1 = 0 ∧ m < 6 from ⟨h2, m6⟩), Bool.true_and]
/-- the FIDDLES of a sit, each behind a ',' but the first; k may still come -/
def odL (B : Nat → Nat) (n : Nat) (N : nm_X) : Nat → s4_X → Nat → (Nat → Int32) → s4_X × Nat × (Nat → Int32)
  | 0, s, m, R => (s, m, R)
  | k + 1, s, m, R => if (orA B n N R 0 m s).1 = 0 then (if foB B n 44 (orA B n N R 0 m s) = true then odL B n N k (paA B n 44 (orA B n N R 0 m s)) (m + 1) (upd R (4 + m) (tnV B n N 140 s)) else (piA B n 44 (orA B n N R 0 m s), m + 1, upd R (4 + m) (tnV B n N 140 s))) else (orA B n N R 0 m s, m, R)
theorem odL_m {B : Nat → Nat} {n : Nat} {N : nm_X} : ∀ k s m R, m + (k + 1) = 7 → (odL B n N (k + 1) s m R).1.1 = 0 → m < (odL B n N (k + 1) s m R).2.1 ∧ (odL B n N (k + 1) s m R).2.1 ≤ 6
  | k, s, m, R, hk, h => by
    rw [odL] at h ⊢
    by_cases z : (orA B n N R 0 m s).1 = 0
    · rw [if_pos z] at h ⊢
      have m6 := (or_al z).1
      by_cases c : foB B n 44 (orA B n N R 0 m s) = true
      · rw [if_pos c] at h ⊢
        cases k with
        | zero => omega
        | succ k =>
          have := odL_m k _ _ _ (by omega) h
          omega
      · rw [if_neg c]
        exact ⟨Nat.lt_succ_self _, by show m + 1 ≤ 6; omega⟩
    · rw [if_neg z] at h; exact absurd h z
def si1 (ns : Nat) (s : s4_X) : s4_X := pfA (decide (12 ≤ ns)) s
def si3 (B : Nat → Nat) (n : Nat) (N : nm_X) (ns : Nat) (s : s4_X) : s4_X := paA B n 149 (tnA B n N 143 (si1 ns s))
def si4 (B : Nat → Nat) (n : Nat) (N : nm_X) (ns : Nat) (s : s4_X) : s4_X := tnA B n N 145 (si3 B n N ns s)
def si6 (B : Nat → Nat) (n : Nat) (N : nm_X) (ns : Nat) (s : s4_X) : s4_X := paA B n 58 (piA B n 136 (si4 B n N ns s))
def siR (B : Nat → Nat) (n : Nat) (N : nm_X) (ns : Nat) (s : s4_X) : Nat → Int32 := fun j => if j = 2 then b01 (foB B n 136 (si4 B n N ns s)) else if j = 1 then tnV B n N 145 (si3 B n N ns s) else tnV B n N 143 (si1 ns s)
def siX (B : Nat → Nat) (n : Nat) (N : nm_X) (ns : Nat) (s : s4_X) : s4_X × Nat × (Nat → Int32) := odL B n N 7 (si6 B n N ns s) 0 (siR B n N ns s)
def siS (B : Nat → Nat) (n : Nat) (N : nm_X) (ns : Nat) (s : s4_X) : s4_X := if (si1 ns s).1 = 0 then paA B n 59 (siX B n N ns s).1 else si1 ns s
/-- the class's row of a sit -/
def cR (I : st_I) (r m : Nat) (R : Nat → Int32) : Prop := I 16 (r + 3) = nI m ∧ ∀ j, j < 4 + m → j ≠ 3 → I 16 (r + j) = R j
/-- frame of a sit in the class -/
def xsi (q r : Nat) (I J : st_I) : Prop := (∀ p, p ≠ 15 → p ≠ 16 → p ≠ 17 → J p = I p) ∧ (∀ j, j < 6 ∨ 9 < j → J 17 j = I 17 j) ∧ (∀ j, j ≠ q → J 15 j = I 15 j) ∧ ∀ j, j < r → J 16 j = I 16 j
theorem xsi.tr {q r : Nat} {I J K : st_I} (h : xsi q r I J) (g : xsi q r J K) : xsi q r I K := ⟨fun p a b c => (g.1 p a b c).trans (h.1 p a b c), fun j a => (g.2.1 j a).trans (h.2.1 j a), fun j a => (g.2.2.1 j a).trans (h.2.2.1 j a), fun j a => (g.2.2.2 j a).trans (h.2.2.2 j a)⟩
theorem x69.xsi {q r : Nat} {I J : st_I} (h : x69 I J) : xsi q r I J := ⟨fun p _ _ c => h.1 p c, fun j a => h.2 j a, fun j _ => by rw [h.1 15 (by decide)], fun j _ => by rw [h.1 16 (by decide)]⟩
theorem xsi_16 {q r i : Nat} {I : st_I} {x : Int32} (h : i < 10) : xsi q r I (u_I I 16 (r + i) x) := ⟨fun p _ b _ => by rw [u_I_ne _ _ b], fun j _ => by rw [u_I_ne _ _ (by decide)], fun j _ => by rw [u_I_ne _ _ (by decide)], fun j a => by simp only [u_I, if_true]; rw [if_neg (by omega)]⟩
theorem cN.q {B : Nat → Nat} {n : Nat} {I J : st_I} {L : st_L} {N : nm_X} (H : cN B n I L N) (h1 : J 17 13 = I 17 13) (h2 : J 22 = I 22) (h3 : J 23 = I 23) : cN B n J L N := by
  unfold cN; rw [h1, h2, h3]; exact H
theorem cN.xsi {B : Nat → Nat} {n q r : Nat} {I J : st_I} {L : st_L} {N : nm_X} (H : cN B n I L N) (h : xsi q r I J) : cN B n J L N := H.q (h.2.1 13 (by omega)) (h.1 22 (by decide) (by decide) (by decide)) (h.1 23 (by decide) (by decide) (by decide))
theorem cR.x69 {I J : st_I} {r m : Nat} {R : Nat → Int32} (H : cR I r m R) (h : x69 I J) : cR J r m R := by
  unfold cR; rw [h.1 16 (by decide)]; exact H
/-- behind a FIDDLE of a sit -/
theorem x_sit_126 {d q r ns : Nat} {B : Nat → Nat} {n : Nat} {L : st_L} {N : nm_X} {F : st_I → st_L → Prop} {I0 : st_I} (hso : ∀ j, j < N.1 → N.2.2.1 j < 2 ^ 31) (hq : q < 4) (hr : r + 10 ≤ 480) (hns : ns < 12) : ∀ (k m : Nat) (R : Nat → Int32) (u : s4_X) (I : st_I), m + k = 7 → 1 ≤ m → m ≤ 7 → cx B n I u → xsi q r I0 I → cN B n I L N → I 15 q = nI ns → (u.1 = 0 → m ≤ 6 ∧ cR I r m R)
    → (∀ J, cx B n J (paA B n 59 (if u.1 = 0 then (if foB B n 44 u = true then odL B n N k (paA B n 44 u) m R else (piA B n 44 u, m, R)) else (u, m, R)).1) → xsi q r I0 J → J 15 q = nI (ns + 1) → ((if u.1 = 0 then (if foB B n 44 u = true then odL B n N k (paA B n 44 u) m R else (piA B n 44 u, m, R)) else (u, m, R)).1.1 = 0 → cR J r (if u.1 = 0 then (if foB B n 44 u = true then odL B n N k (paA B n 44 u) m R else (piA B n 44 u, m, R)) else (u, m, R)).2.1 (if u.1 = 0 then (if foB B n 44 u = true then odL B n N k (paA B n 44 u) m R else (piA B n 44 u, m, R)) else (u, m, R)).2.2) → F J L) → TV (d + 4) mX5_takeSit 126 [.ref 17, .int (nI q), .null, .int (nI r), .int (nI (m - 1))] [] I L F := by
  -- the ';'
  have last : ∀ (I : st_I) (u : s4_X), cx B n I u → xsi q r I0 I → I 15 q = nI ns → (∀ J, cx B n J (paA B n 59 u) → xsi q r I0 J → J 15 q = nI (ns + 1) → (∀ j, J 16 j = I 16 j) → F J L) → TV (d + 4) mX5_takeSit 153 [.ref 17, .int (nI q), .null, .null, .null] [] I L F := by
    intro I u hI hx h15 hF
    refine sgX5_takeSit_153 (x_pass (k := 59) hI (by decide) (by decide) (fun J hJ x1 => ?_))
    have v : vp_in (nI q) 4 := vp_in_nI (by omega) (by decide)
    rw [nI_clamp (by omega), x1.1 15 (by decide), h15, nI_1]
    refine ⟨v, v, hF _ (cx_tab hJ (by decide) (by decide) (by decide) (by decide)) ((hx.tr x1.xsi).tr ⟨fun p a _ _ => by rw [u_I_ne _ _ a], fun j _ => by rw [u_I_ne _ _ (by decide)], fun j a => by simp only [u_I, if_true, if_neg a], fun j _ => by rw [u_I_ne _ _ (by decide)]⟩) (by simp [u_I]) (fun j => by rw [u_I_ne _ _ (by decide), x1.1 16 (by decide)])⟩
  intro k
  induction k with
  | zero =>
    intro m R u I hk h1 h7 H hx HN h15 hR hF
    have m7 : m = 7 := by omega
    have dead : ¬ u.1 = 0 := fun z => by have := (hR z).1; omega
    rw [if_neg dead] at hF
    refine sgX5_takeSit_126 ?_
    rw [if_pos (by rw [m7]; decide)]
    exact last I u H hx h15 (fun J a b c _ => hF J a b c (fun z => absurd z dead))
  | succ k ih =>
    intro m R u I hk h1 h7 H hx HN h15 hR hF
    refine sgX5_takeSit_126 ?_
    rw [if_neg (show ¬ (6 : Int32) ≤ nI (m - 1) from nI_ge (b := 6) (by omega) (by decide))]
    refine x_passIf (k := 44) H (by decide) (by decide) (fun J hJ x1 => ?_)
    have ef : decide (u.1 = 0 ∧ knF B n u.2.1 = 44 ∧ (paA B n 44 u).1 = 0) = foB B n 44 u := rfl
    rw [ef]
    have j15 : J 15 q = nI ns := by rw [x1.1 15 (by decide)]; exact h15
    by_cases c : foB B n 44 u = true
    · have z := (of_decide_eq_true c).1
      have kn := (of_decide_eq_true c).2.1
      rw [if_pos z, if_pos c] at hF
      rw [b01_1 c, if_neg (by decide)]
      have ep : piA B n 44 u = paA B n 44 u := by unfold piA; rw [if_pos kn]
      rw [ep] at hJ
      obtain ⟨m6, hR'⟩ := hR z
      have hRJ := hR'.x69 x1
      refine x_ordered (r := r) (m := m) hJ (HN.x69 x1) hso hr (by omega) hRJ.1 (fun K hK f1 f2 f3 f4 => ?_)
      have eo : orA B n N (J 16) r m (paA B n 44 u) = orA B n N R 0 m (paA B n 44 u) := or_congr (fun i hi => by
        have := hRJ.2 (4 + i) (by omega) (by omega)
        rw [Nat.zero_add, Nat.add_assoc]; exact this)
      rw [eo] at hK f4
      rw [nI_1, show m - 1 + 1 = m + 1 - 1 by omega]
      have xK : xsi q r I0 K := (hx.tr x1.xsi).tr ⟨fun p a b e => f1 p b e, fun j a => f2 j a, fun j a => by rw [f1 15 (by decide) (by decide)], fun j a => f3 j (by omega) (by omega)⟩
      have nK : cN B n K L N := (HN.x69 x1).q (f2 13 (by omega)) (f1 22 (by decide) (by decide)) (f1 23 (by decide) (by decide))
      have k15 : K 15 q = nI ns := by rw [f1 15 (by decide) (by decide)]; exact j15
      rw [odL] at hF
      by_cases y : (orA B n N R 0 m (paA B n 44 u)).1 = 0
      · rw [if_pos y] at hF
        refine ih (m + 1) (upd R (4 + m) (tnV B n N 140 (paA B n 44 u))) (orA B n N R 0 m (paA B n 44 u)) K (by omega) (by omega) (by omega) hK xK nK k15 (fun _ => ?_) (fun K2 => ?_)
        · obtain ⟨g1, g2, g3⟩ := f4 y
          refine ⟨by omega, g2, fun j hj hj3 => ?_⟩
          unfold upd
          by_cases e : j = 4 + m
          · rw [if_pos e, e, ← Nat.add_assoc]; exact g3
          · rw [if_neg e, f3 (r + j) (by omega) (by omega)]; exact hRJ.2 j (by omega) hj3
        · rw [if_pos y]; exact hF K2
      · rw [if_neg y] at hF
        refine ih (m + 1) R (orA B n N R 0 m (paA B n 44 u)) K (by omega) (by omega) (by omega) hK xK nK k15 (fun z => absurd z y) (fun K2 => ?_)
        rw [if_neg y]
        exact fun a b e _ => hF K2 a b e (fun z => absurd z y)
    · rw [b01_0 c, if_pos rfl]
      refine last J (piA B n 44 u) hJ (hx.tr x1.xsi) j15 (fun K a b e f => ?_)
      by_cases z : u.1 = 0
      · rw [if_pos z, if_neg c] at hF
        refine hF K a b e (fun _ => ?_)
        unfold cR
        rw [f]
        refine ⟨((hR z).2.x69 x1).1, fun j hj hj3 => ?_⟩
        rw [f]; exact ((hR z).2.x69 x1).2 j hj hj3
      · rw [if_neg z] at hF
        rw [pi_dead z] at a
        exact hF K a b e (fun y => absurd y z)
theorem x_sit {d q ns : Nat} {B : Nat → Nat} {n : Nat} {I : st_I} {L : st_L} {s : s4_X} {N : nm_X} {F : st_I → st_L → Prop} (H : cx B n I s) (HN : cN B n I L N) (hso : ∀ j, j < N.1 → N.2.2.1 j < 2 ^ 31) (hq : q < 4) (h15 : I 15 q = nI ns) (hns : ns ≤ 12) (hs : s.1 = 0) (hk : 2 ≤ knF B n s.2.1)
    (h : ∀ J, cx B n J (siS B n N ns s) → xsi q ((q * 12 + ns) * 10) I J → ((siS B n N ns s).1 = 0 → ns < 12 ∧ J 15 q = nI (ns + 1) ∧ cR J ((q * 12 + ns) * 10) (siX B n N ns s).2.1 (siX B n N ns s).2.2) → F J L) : EV (d + 4) mX5_takeSit [.ref 17, .int (nI q)] I L F := by
  refine sgX5_takeSit_0 ?_
  rw [nI_clamp (by omega), h15]
  refine ⟨vp_in_nI (by omega) (by decide), x_passFirst (b := 12) H hk (by omega) (by decide) (fun J1 hJ1 x1 => ?_)⟩
  have e1 : pfA (decide (12 ≤ ns)) s = si1 ns s := rfl
  rw [e1] at hJ1 ⊢
  unfold siS at h
  by_cases z : (si1 ns s).1 = 0
  · rw [if_pos z] at h
    have n12 : ns < 12 := by
      by_cases o : 12 ≤ ns
      · unfold si1 at z
        rw [pf_full (decide_eq_true o) hs] at z
        exact absurd (show (2 : Nat) = 0 from z) (by decide)
      · omega
    rw [decide_eq_true (show s.1 = 0 ∧ (si1 ns s).1 = 0 from ⟨hs, z⟩), if_neg (by decide)]
    refine x_takeToldName (kind := 143) hJ1 (HN.x69 x1) (by decide) hso (fun J2 hJ2 x2 => ?_)
    have er : (nI q * 12 + nI ns) * 10 = nI ((q * 12 + ns) * 10) := by
      rw [show nI q * 12 = nI (q * 12) from pk_mul q 12, nI_add, show nI (q * 12 + ns) * 10 = nI ((q * 12 + ns) * 10) from pk_mul (q * 12 + ns) 10]
    rw [er]
    generalize hr : (q * 12 + ns) * 10 = r at *
    have r480 : r + 10 ≤ 480 := by omega
    have ad : ∀ c : Nat, nI r + nI c = nI (r + c) := fun c => nI_add _ _
    have vp : ∀ c, c < 10 → vp_in (nI (r + c)) 480 := fun c hc => vp_in_nI (by omega) (by decide)
    rw [nI_clamp (by omega), show nI r + 1 = nI (r + 1) from ad 1, show nI r + 2 = nI (r + 2) from ad 2, show nI r + 3 = nI (r + 3) from ad 3]
    refine ⟨vp 0 (by decide), ?_⟩
    have y2 : xsi q r I (u_I J2 16 r (tnV B n N 143 (si1 ns s))) := (x1.xsi.tr x2.xsi).tr (xsi_16 (i := 0) (by decide))
    refine x_pass (k := 149) (cx_tab hJ2 (by decide) (by decide) (by decide) (by decide)) (by decide) (by decide) (fun J3 hJ3 x3 => ?_)
    have y3 := y2.tr x3.xsi
    refine x_takeToldName (kind := 145) hJ3 (HN.xsi y3) (by decide) hso (fun J4 hJ4 x4 => ?_)
    rw [nI_clamp (by omega)]
    refine ⟨vp 1 (by decide), ?_⟩
    have y4 : xsi q r I (u_I J4 16 (r + 1) (tnV B n N 145 (si3 B n N ns s))) := (y3.tr x4.xsi).tr (xsi_16 (i := 1) (by decide))
    refine x_passIf (k := 136) (cx_tab hJ4 (by decide) (by decide) (by decide) (by decide)) (by decide) (by decide) (fun J5 hJ5 x5 => ?_)
    rw [nI_clamp (by omega), nI_clamp (by omega)]
    refine ⟨vp 2 (by decide), vp 3 (by decide), ?_⟩
    have ef : decide ((tnA B n N 145 (paA B n 149 (tnA B n N 143 (si1 ns s)))).1 = 0 ∧ knF B n (tnA B n N 145 (paA B n 149 (tnA B n N 143 (si1 ns s)))).2.1 = 136 ∧ (paA B n 136 (tnA B n N 145 (paA B n 149 (tnA B n N 143 (si1 ns s))))).1 = 0) = foB B n 136 (si4 B n N ns s) := rfl
    rw [ef, b01_b]
    have y5 : xsi q r I (u_I (u_I J5 16 (r + 2) (b01 (foB B n 136 (si4 B n N ns s)))) 16 (r + 3) 0) := ((y4.tr x5.xsi).tr (xsi_16 (i := 2) (by decide))).tr (xsi_16 (i := 3) (by decide))
    refine x_pass (k := 58) (cx_tab (cx_tab hJ5 (by decide) (by decide) (by decide) (by decide)) (by decide) (by decide) (by decide) (by decide)) (by decide) (by decide) (fun J6 hJ6 x6 => ?_)
    have e6 : paA B n 58 (piA B n 136 (tnA B n N 145 (paA B n 149 (tnA B n N 143 (si1 ns s))))) = si6 B n N ns s := rfl
    rw [e6] at hJ6
    have y6 := y5.tr x6.xsi
    have c16 : ∀ j, J6 16 j = if j = r + 3 then 0 else if j = r + 2 then b01 (foB B n 136 (si4 B n N ns s)) else if j = r + 1 then tnV B n N 145 (si3 B n N ns s) else if j = r then tnV B n N 143 (si1 ns s) else J2 16 j := by
      intro j
      rw [x6.1 16 (by decide)]
      simp only [u_I, if_true, x5.1 16 (by decide), x4.1 16 (by decide), x3.1 16 (by decide)]
      rfl
    have hR6 : cR J6 r 0 (siR B n N ns s) := by
      refine ⟨by rw [c16, if_pos rfl]; rfl, fun j hj hj3 => ?_⟩
      rw [c16, if_neg (by omega)]
      unfold siR
      by_cases j2 : j = 2
      · rw [if_pos (by omega), if_pos j2]
      rw [if_neg (by omega), if_neg j2]
      by_cases j1 : j = 1
      · rw [if_pos (by omega), if_pos j1]
      rw [if_neg (by omega), if_neg j1, if_pos (by omega)]
    refine x_ordered (r := r) (m := 0) hJ6 (HN.xsi y6) hso r480 (by decide) hR6.1 (fun K hK f1 f2 f3 f4 => ?_)
    have eo : orA B n N (J6 16) r 0 (si6 B n N ns s) = orA B n N (siR B n N ns s) 0 0 (si6 B n N ns s) := or_congr (fun i hi => absurd hi (Nat.not_lt_zero _))
    rw [eo] at hK f4
    have xK : xsi q r I K := y6.tr ⟨fun p a b e => f1 p b e, fun j a => f2 j a, fun j a => by rw [f1 15 (by decide) (by decide)], fun j a => f3 j (by omega) (by omega)⟩
    have k15 : K 15 q = nI ns := by
      rw [f1 15 (by decide) (by decide), x6.1 15 (by decide), u_I_ne _ _ (by decide), u_I_ne _ _ (by decide), x5.1 15 (by decide), u_I_ne _ _ (by decide), x4.1 15 (by decide), x3.1 15 (by decide), u_I_ne _ _ (by decide), x2.1 15 (by decide), x1.1 15 (by decide)]; exact h15
    have eX : siX B n N ns s = (if (orA B n N (siR B n N ns s) 0 0 (si6 B n N ns s)).1 = 0 then (if foB B n 44 (orA B n N (siR B n N ns s) 0 0 (si6 B n N ns s)) = true then odL B n N 6 (paA B n 44 (orA B n N (siR B n N ns s) 0 0 (si6 B n N ns s))) (0 + 1) (upd (siR B n N ns s) (4 + 0) (tnV B n N 140 (si6 B n N ns s))) else (piA B n 44 (orA B n N (siR B n N ns s) 0 0 (si6 B n N ns s)), 0 + 1, upd (siR B n N ns s) (4 + 0) (tnV B n N 140 (si6 B n N ns s)))) else (orA B n N (siR B n N ns s) 0 0 (si6 B n N ns s), 0, siR B n N ns s)) := rfl
    rw [eX] at h
    by_cases y : (orA B n N (siR B n N ns s) 0 0 (si6 B n N ns s)).1 = 0
    · rw [if_pos y] at h
      refine x_sit_126 (r := r) (ns := ns) hso hq r480 n12 6 1 (upd (siR B n N ns s) (4 + 0) (tnV B n N 140 (si6 B n N ns s))) (orA B n N (siR B n N ns s) 0 0 (si6 B n N ns s)) K (by omega) (by omega) (by omega) hK xK (HN.xsi xK) k15 (fun _ => ?_) (fun K2 => ?_)
      · obtain ⟨g1, g2, g3⟩ := f4 y
        refine ⟨by omega, g2, fun j hj hj3 => ?_⟩
        unfold upd
        by_cases e : j = 4
        · rw [if_pos (by omega), e]; exact g3
        · rw [if_neg (by omega), f3 (r + j) (by omega) (by omega)]; exact hR6.2 j (by omega) hj3
      · rw [if_pos y]
        exact fun a b e f => h K2 a b (fun z2 => ⟨n12, e, f (st_al z2).1⟩)
    · rw [if_neg y] at h
      refine x_sit_126 (r := r) (ns := ns) hso hq r480 n12 6 1 (siR B n N ns s) (orA B n N (siR B n N ns s) 0 0 (si6 B n N ns s)) K (by omega) (by omega) (by omega) hK xK (HN.xsi xK) k15 (fun c => absurd c y) (fun K2 => ?_)
      rw [if_neg y]
      exact fun a b e _ => h K2 a b (fun z2 => absurd (st_al z2).1 y)
  · rw [if_neg z] at h
    rw [decide_eq_false (fun c => z c.2), if_pos (by decide)]
    exact h J1 hJ1 x1.xsi (fun q => absurd q z)
