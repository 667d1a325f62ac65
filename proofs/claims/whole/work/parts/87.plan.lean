/-! read: a PLAN's tell, in the class -/
def pl3 (B : Nat → Nat) (n : Nat) (N : nm_X) (npl : Nat) (s : s4_X) : s4_X := paA B n 123 (nwA B n N (pfA (decide (4 ≤ npl)) s))
def plN (B : Nat → Nat) (n : Nat) (N : nm_X) (npl : Nat) (s : s4_X) : nm_X := nwN B n N (pfA (decide (4 ≤ npl)) s) 147 npl
/-- the sits; k may still come -/
def slL (B : Nat → Nat) (n : Nat) (N : nm_X) : Nat → s4_X → Nat → s4_X × Nat
  | 0, s, ns => (s, ns)
  | k + 1, s, ns => if s.1 = 0 ∧ knF B n s.2.1 = 148 then (if (siS B n N ns s).1 = 0 then slL B n N k (siS B n N ns s) (ns + 1) else (siS B n N ns s, ns)) else (s, ns)
/-- the state ahead of sit k -/
def stS (B : Nat → Nat) (n : Nat) (N : nm_X) (s : s4_X) : Nat → s4_X
  | 0 => s
  | k + 1 => siS B n N k (stS B n N s k)
def plX (B : Nat → Nat) (n : Nat) (N : nm_X) (npl : Nat) (s : s4_X) : s4_X × Nat := slL B n (plN B n N npl s) 13 (pl3 B n N npl s) 0
def plS (B : Nat → Nat) (n : Nat) (N : nm_X) (npl : Nat) (s : s4_X) : s4_X := if (pfA (decide (4 ≤ npl)) s).1 = 0 then paA B n 125 (plX B n N npl s).1 else pfA (decide (4 ≤ npl)) s
/-- sit k of the PLAN -/
def plR (B : Nat → Nat) (n : Nat) (N : nm_X) (npl : Nat) (s : s4_X) (k : Nat) : s4_X × Nat × (Nat → Int32) := siX B n (plN B n N npl s) k (stS B n (plN B n N npl s) (pl3 B n N npl s) k)
theorem si_al {B : Nat → Nat} {n ns : Nat} {N : nm_X} {s : s4_X} (h : (siS B n N ns s).1 = 0) : ns < 12 ∧ s.1 = 0 ∧ (siX B n N ns s).1.1 = 0 ∧ siS B n N ns s = paA B n 59 (siX B n N ns s).1 := by
  unfold siS at h ⊢
  by_cases z : (si1 ns s).1 = 0
  · rw [if_pos z] at h ⊢
    refine ⟨?_, ?_, (st_al h).1, rfl⟩
    · by_cases o : 12 ≤ ns
      · unfold si1 pfA at z
        by_cases hs : s.1 = 0
        · rw [if_pos ⟨hs, decide_eq_true o⟩] at z
          exact absurd (show (2 : Nat) = 0 from z) (by decide)
        · rw [if_neg (fun q => hs q.1), st_dead hs] at z; exact absurd z hs
      · omega
    · unfold si1 pfA at z
      by_cases hs : s.1 = 0
      · exact hs
      · rw [if_neg (fun q => hs q.1), st_dead hs] at z; exact z
  · rw [if_neg z] at h; exact absurd h z
theorem stS_ok {B : Nat → Nat} {n : Nat} {N : nm_X} {s : s4_X} : ∀ k, (stS B n N s k).1 = 0 → ∀ j, j < k → (siX B n N j (stS B n N s j)).1.1 = 0 ∧ (stS B n N s j).1 = 0
  | 0, _, j, hj => by omega
  | k + 1, h, j, hj => by
    rw [stS] at h
    obtain ⟨-, a2, a3, -⟩ := si_al h
    by_cases e : j = k
    · subst e; exact ⟨a3, a2⟩
    · exact stS_ok k a2 j (by omega)
def xpl (q : Nat) (I J : st_I) : Prop := (∀ p, p ≠ 9 → p ≠ 15 → p ≠ 16 → p ≠ 17 → p ≠ 22 → p ≠ 23 → J p = I p) ∧ (∀ j, j ≠ 4 → J 9 j = I 9 j) ∧ (∀ j, j < 6 ∨ (9 < j ∧ j ≠ 13) → J 17 j = I 17 j) ∧ (∀ j, j ≠ q → J 15 j = I 15 j) ∧ ∀ j, j < q * 12 * 10 → J 16 j = I 16 j
theorem xpl.tr {q : Nat} {I J K : st_I} (h : xpl q I J) (g : xpl q J K) : xpl q I K := ⟨fun p a b c d e f => (g.1 p a b c d e f).trans (h.1 p a b c d e f), fun j a => (g.2.1 j a).trans (h.2.1 j a), fun j a => (g.2.2.1 j a).trans (h.2.2.1 j a), fun j a => (g.2.2.2.1 j a).trans (h.2.2.2.1 j a), fun j a => (g.2.2.2.2 j a).trans (h.2.2.2.2 j a)⟩
theorem x22.xpl {q : Nat} {I J : st_I} (h : x22 I J) : xpl q I J := ⟨fun p _ _ _ c e f => h.1 p c e f, fun j _ => by rw [h.1 9 (by decide) (by decide) (by decide)], fun j a => h.2 j a, fun j _ => by rw [h.1 15 (by decide) (by decide) (by decide)], fun j _ => by rw [h.1 16 (by decide) (by decide) (by decide)]⟩
theorem xsi.xpl {q k : Nat} {I J : st_I} (h : xsi q ((q * 12 + k) * 10) I J) : xpl q I J := ⟨fun p _ a b c _ _ => h.1 p a b c, fun j _ => by rw [h.1 9 (by decide) (by decide) (by decide)], fun j a => h.2.1 j (by omega), fun j a => h.2.2.1 j a, fun j a => h.2.2.2 j (by omega)⟩
theorem x_plan_45 {d q : Nat} {B : Nat → Nat} {n : Nat} {L : st_L} {N : nm_X} {s0 : s4_X} {F : st_I → st_L → Prop} {I0 : st_I} (hso : ∀ j, j < N.1 → N.2.2.1 j < 2 ^ 31) (hq : q < 4) : ∀ (k ns : Nat) (I : st_I) (s : s4_X), k + ns = 13 → cx B n I s → cN B n I L N → xpl q I0 I → I 9 4 = nI q → (s.1 = 0 → s = stS B n N s0 ns ∧ ns ≤ 12 ∧ I 15 q = nI ns ∧ ∀ j, j < ns → cR I ((q * 12 + j) * 10) (siX B n N j (stS B n N s0 j)).2.1 (siX B n N j (stS B n N s0 j)).2.2) → (∀ J, cx B n J (paA B n 125 (slL B n N k s ns).1) → cN B n J L N → xpl q I0 J → J 9 4 = nI (q + 1) → ((slL B n N k s ns).1.1 = 0 → (slL B n N k s ns).2 ≤ 12 ∧ J 15 q = nI (slL B n N k s ns).2 ∧ ∀ j, j < (slL B n N k s ns).2 → cR J ((q * 12 + j) * 10) (siX B n N j (stS B n N s0 j)).2.1 (siX B n N j (stS B n N s0 j)).2.2) → F J L) → TV (d + 5) mX5_takePlan 45 [.ref 17, .int (nI q), .int (nI ns)] [] I L F := by
  have last : ∀ (I : st_I) (u : s4_X), cx B n I u → cN B n I L N → xpl q I0 I → I 9 4 = nI q → (∀ J, cx B n J (paA B n 125 u) → cN B n J L N → xpl q I0 J → J 9 4 = nI (q + 1) → (∀ j, J 15 j = I 15 j) → (∀ j, J 16 j = I 16 j) → F J L) → TV (d + 5) mX5_takePlan 84 [.ref 17, .null, .null] [] I L F := by
    intro I u hI hN hx h9 hF
    refine sgX5_takePlan_84 (x_pass (k := 125) hI (by decide) (by decide) (fun J hJ x1 => ?_))
    rw [x1.1 9 (by decide), h9, nI_1]
    refine hF _ (cx_tab hJ (by decide) (by decide) (by decide) (by decide)) (cN_tab (hN.x69 x1) (by decide) (by decide) (by decide)) ((hx.tr x1.x22.xpl).tr ⟨fun p a _ _ _ _ _ => by rw [u_I_ne _ _ a], fun j a => by simp only [u_I, if_true, if_neg a], fun j _ => by rw [u_I_ne _ _ (by decide)], fun j _ => by rw [u_I_ne _ _ (by decide)], fun j _ => by rw [u_I_ne _ _ (by decide)]⟩) (by simp [u_I]) (fun j => by rw [u_I_ne _ _ (by decide), x1.1 15 (by decide)]) (fun j => by rw [u_I_ne _ _ (by decide), x1.1 16 (by decide)])
  intro k
  induction k with
  | zero =>
    intro ns I s hk H HN hx h9 hR hF
    rw [slL] at hF
    refine sgX5_takePlan_45 ?_
    rw [if_pos (by rw [show ns = 13 by omega]; decide)]
    refine last I s H HN hx h9 (fun J a b c e f g => hF J a b c e (fun z => ?_))
    have := (hR z).2.1; omega
  | succ k ih =>
    intro ns I s hk H HN hx h9 hR hF
    obtain ⟨l1, l2, l3, l4, l5, l6⟩ := H.lt
    refine sgX5_takePlan_45 ?_
    rw [if_neg (show ¬ (12 : Int32) < nI ns from nI_nlt (a := 12) (by omega) (by decide)), H.2.2.2.1, l3, nI_clamp (by omega), l4]
    rw [slL] at hF
    have stop : ¬ (s.1 = 0 ∧ knF B n s.2.1 = 148) → TV (d + 5) mX5_takePlan 84 [.ref 17, .null, .null] [] I L F := by
      intro c
      rw [if_neg c] at hF
      refine last I s H HN hx h9 (fun J a b c e f g => hF J a b c e (fun z => ?_))
      obtain ⟨-, r2, r3, r4⟩ := hR z
      refine ⟨r2, by rw [f]; exact r3, fun j hj => ?_⟩
      obtain ⟨q1, q2⟩ := r4 j hj
      exact ⟨by rw [g]; exact q1, fun i a b => by rw [g]; exact q2 i a b⟩
    by_cases z : s.1 = 0
    · rw [if_pos (by rw [z]; exact nI_0)]
      refine ⟨l2, ?_⟩
      by_cases y : knF B n s.2.1 = 148
      · rw [if_pos (by rw [y]; rfl)]
        rw [if_pos ⟨z, y⟩] at hF
        obtain ⟨r1, r2, r3, r4⟩ := hR z
        refine x_sit H HN hso hq r3 r2 z (by omega) (fun J hJ xJ gg => ?_)
        rw [nI_1]
        have xx := hx.tr xJ.xpl
        have j9 : J 9 4 = nI q := by rw [xJ.1 9 (by decide) (by decide) (by decide)]; exact h9
        by_cases w : (siS B n N ns s).1 = 0
        · rw [if_pos w] at hF
          obtain ⟨q1, q2, q3⟩ := gg w
          refine ih (ns + 1) J _ (by omega) hJ (HN.xsi xJ) xx j9 (fun _ => ⟨by rw [stS, ← r1], by omega, q2, fun j hj => ?_⟩) hF
          by_cases e : j = ns
          · subst e; rw [← r1]; exact q3
          · obtain ⟨p1, p2⟩ := r4 j (by omega)
            have m6 : (siX B n N j (stS B n N s0 j)).2.1 ≤ 6 := (odL_m 6 _ 0 _ (by omega) (stS_ok ns (by rw [← r1]; exact z) j (by omega)).1).2
            refine ⟨by rw [xJ.2.2.2 _ (by omega)]; exact p1, fun i a b => by rw [xJ.2.2.2 _ (by omega)]; exact p2 i a b⟩
        · rw [if_neg w] at hF
          cases k with
          | zero =>
            refine sgX5_takePlan_45 ?_
            rw [if_pos (by rw [show ns + 1 = 13 by omega]; decide)]
            exact last J _ hJ (HN.xsi xJ) xx j9 (fun K a b c e _ _ => hF K a b c e (fun c => absurd c w))
          | succ k =>
            refine sgX5_takePlan_45 ?_
            rw [if_neg (show ¬ (12 : Int32) < nI (ns + 1) from nI_nlt (a := 12) (by omega) (by decide)), hJ.2.2.2.1, if_neg (nI_ne0 (Nat.pos_of_ne_zero w) (by have := hJ.2.2.2.2.1; omega))]
            exact last J _ hJ (HN.xsi xJ) xx j9 (fun K a b c e _ _ => hF K a b c e (fun c => absurd c w))
      · rw [if_neg (by exact fun q => y ((nI_eq (b := 148) (by omega) (by decide)).mp q))]
        exact stop (fun c => y c.2)
    · rw [if_neg (nI_ne0 (Nat.pos_of_ne_zero z) (by have := H.2.2.2.2.1; omega))]
      exact stop (fun c => z c.1)
theorem nw_so {B : Nat → Nat} {n so wh : Nat} {N : nm_X} {s : s4_X} (h : ∀ j, j < N.1 → N.2.2.1 j < 2 ^ 31) (hs : so < 2 ^ 31) : ∀ j, j < (nwN B n N s so wh).1 → (nwN B n N s so wh).2.2.1 j < 2 ^ 31 := by
  intro j hj
  unfold nwN at hj ⊢
  split
  · next c =>
    rw [if_pos c] at hj
    have hj' : j < N.1 + 1 := hj
    simp only [pushN]
    split
    · exact hs
    · exact h j (by omega)
  · next c => rw [if_neg c] at hj; exact h j hj
theorem x_plan {d q : Nat} {B : Nat → Nat} {n : Nat} {I : st_I} {L : st_L} {s : s4_X} {N : nm_X} {F : st_I → st_L → Prop} (H : cx B n I s) (HN : cN B n I L N) (h32 : q < 4 → N.1 < 32) (hso : ∀ j, j < N.1 → N.2.2.1 j < 2 ^ 31) (h9 : I 9 4 = nI q) (hq : q ≤ 4) (hs : s.1 = 0) (hk : 2 ≤ knF B n s.2.1)
    (h : ∀ J M, cx B n J (plS B n N q s) → xpl q I J → (∀ p, p ≠ 21 → M p = L p) → ((plS B n N q s).1 = 0 → q < 4 ∧ cN B n J M (plN B n N q s) ∧ J 9 4 = nI (q + 1) ∧ (plX B n N q s).2 ≤ 12 ∧ J 15 q = nI (plX B n N q s).2 ∧ ∀ k, k < (plX B n N q s).2 → cR J ((q * 12 + k) * 10) (plR B n N q s k).2.1 (plR B n N q s k).2.2) → F J M) : EV (d + 5) mX5_takePlan [.ref 17] I L F := by
  refine sgX5_takePlan_0 ?_
  rw [h9]
  refine x_passFirst (b := 4) H hk (by omega) (by decide) (fun J1 hJ1 x1 => ?_)
  unfold plS at h
  by_cases z : (pfA (decide (4 ≤ q)) s).1 = 0
  · rw [if_pos z] at h
    have n4 : q < 4 := by
      by_cases o : 4 ≤ q
      · rw [pf_full (decide_eq_true o) hs] at z
        exact absurd (show (2 : Nat) = 0 from z) (by decide)
      · omega
    rw [decide_eq_true (show s.1 = 0 ∧ (pfA (decide (4 ≤ q)) s).1 = 0 from ⟨hs, z⟩), if_neg (by decide)]
    refine x_takeNewName (kind := 147) (num := q) hJ1 (HN.x69 x1) (h32 n4) (fun J2 M2 hJ2 hN2 x2 m2 => ?_)
    refine x_pass (k := 123) hJ2 (by decide) (by decide) (fun J3 hJ3 x3 => ?_)
    rw [nI_clamp (by omega)]
    refine ⟨vp_in_nI (by omega) (by decide), ?_⟩
    have xx : xpl q I (u_I J3 15 q 0) := ((x1.x22.xpl.tr x2.xpl).tr x3.x22.xpl).tr ⟨fun p _ b _ _ _ _ => by rw [u_I_ne _ _ b], fun j _ => by rw [u_I_ne _ _ (by decide)], fun j _ => by rw [u_I_ne _ _ (by decide)], fun j a => by simp only [u_I, if_true, if_neg a], fun j _ => by rw [u_I_ne _ _ (by decide)]⟩
    refine x_plan_45 (d := d) (N := plN B n N q s) (s0 := pl3 B n N q s) (I0 := I) (nw_so hso (by decide)) n4 13 0 _ (pl3 B n N q s) (by omega) (cx_tab hJ3 (by decide) (by decide) (by decide) (by decide)) (cN_tab (hN2.x69 x3) (by decide) (by decide) (by decide)) xx ?_ (fun _ => ⟨rfl, by decide, by simp [u_I]; rfl, fun j hj => absurd hj (Nat.not_lt_zero _)⟩) (fun J a b c e f => h J M2 a c m2 (fun y => ?_))
    · rw [u_I_ne _ _ (by decide), x3.1 9 (by decide), x2.1 9 (by decide) (by decide) (by decide), x1.1 9 (by decide)]; exact h9
    · obtain ⟨f1, f2, f3⟩ := f (st_al y).1
      exact ⟨n4, b, e, f1, f2, f3⟩
  · rw [if_neg z] at h
    rw [decide_eq_false (fun c => z c.2), if_pos (by decide)]
    exact h J1 L hJ1 x1.x22.xpl (fun _ _ => rfl) (fun c => absurd c z)
