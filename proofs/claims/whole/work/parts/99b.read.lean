/-! read: from the first TOKEN to the last, in the class -/
def rdL (B : Nat → Nat) (n : Nat) : Nat → s4_X → z6_X → s4_X × z6_X
  | 0, s, z => (s, z)
  | r + 1, s, z => if s.1 = 0 ∧ ¬ knF B n s.2.1 = 0 then rdL B n r (teS B n s z) (teZ B n s z) else (s, z)
def z0_X : z6_X := ((0, fun _ => 0, fun _ => 0, fun _ => 0), fun _ => 0, fun _ _ => 0, fun _ => 0, fun _ => 0, fun _ _ => (0, fun _ => 0))
def s0_X : s4_X := (0, 0, 0, 0)
theorem zl_0 : zl z0_X 0 0 := by
  refine ⟨⟨⟨Nat.zero_le _, Nat.zero_le _, Nat.zero_le _, Nat.zero_le _, Nat.zero_le _⟩, Nat.zero_le _, fun j hj => absurd hj (Nat.not_lt_zero _), Nat.le_refl _, fun j hj => absurd hj (Nat.not_lt_zero _)⟩, ⟨rfl, fun j hj => absurd hj (Nat.not_lt_zero _)⟩, ⟨fun j hj => absurd hj (Nat.not_lt_zero _), fun j hj => absurd hj (Nat.not_lt_zero _)⟩, fun j hj => absurd hj (Nat.not_lt_zero _), fun j hj => absurd hj (Nat.not_lt_zero _)⟩
theorem rd_dead {B : Nat → Nat} {n : Nat} {s : s4_X} {z : z6_X} (h : ¬ s.1 = 0) : ∀ r, rdL B n r s z = (s, z)
  | 0 => rfl
  | r + 1 => by rw [rdL, if_neg (fun c => h c.1)]
def rdX (B : Nat → Nat) (n : Nat) : s4_X × z6_X := rdL B n 402 s0_X z0_X
def rcF (s : s4_X) : Nat := if s.1 = 0 then s.2.2.1 else s.1
def plF (B : Nat → Nat) (n : Nat) (s : s4_X) : Int32 := if s.1 = 0 then (if s.2.2.1 = 0 then -1 else nI (psF B n s.2.2.2)) else nI (psF B n s.2.1)
/-- what all of it keeps -/
theorem rd_ok {B : Nat → Nat} {n : Nat} : ∀ r s z, (s.1 = 0 → zl z s.2.1 s.2.2.1) → (rdL B n r s z).1.1 = 0 → zl (rdL B n r s z).2 (rdL B n r s z).1.2.1 (rdL B n r s z).1.2.2.1
  | 0, s, z, h, a => h a
  | r + 1, s, z, h, a => by
    rw [rdL] at a ⊢
    by_cases c : s.1 = 0 ∧ ¬ knF B n s.2.1 = 0
    · rw [if_pos c] at a ⊢
      exact rd_ok r _ _ (fun y => zl_step c.1 (h c.1) y) a
    · rw [if_neg c] at a ⊢
      exact h a
/-- frame of the read in the class -/
def xrd (I J : st_I) : Prop := ∀ q, q < 9 ∨ q = 18 ∨ 24 < q → J q = I q
theorem x_read_9 {d : Nat} {B : Nat → Nat} {n : Nat} {L0 : st_L} {I0 : st_I} {Q : st_Q} : ∀ (r i : Nat) (s : s4_X) (z : z6_X) (I : st_I) (L : st_L), i + r = 402 → cx B n I s → (s.1 = 0 → i ≤ s.2.1 ∧ cz B n I L z ∧ zl z s.2.1 s.2.2.1) → xte I0 I → (∀ q, q ≠ 21 → L q = L0 q) → (∀ J M, cx B n J (rdL B n r s z).1 → xte I0 J → (∀ q, q ≠ 21 → M q = L0 q) → ((rdL B n r s z).1.1 = 0 → cz B n J M (rdL B n r s z).2) → T shp (d + 7) mX11_read 39 [.ref 0, .null, .null] [] J M Q) → T shp (d + 7) mX11_read 9 [.ref 0, .int (nI i), .null] [] I L Q
  | 0, i, s, z, I, L, hr, H, h, hx, hL, hF => by
    refine sgX11_read_9 ?_
    rw [if_pos (by rw [show i = 402 by omega]; decide)]
    exact hF I L H hx hL (fun a => (h a).2.1)
  | r + 1, i, s, z, I, L, hr, H, h, hx, hL, hF => by
    obtain ⟨l1, l2, l3, l4, l5, l6⟩ := H.lt
    refine sgX11_read_9 ?_
    rw [rdL] at hF
    by_cases big : 400 < i
    · have dead : ¬ s.1 = 0 := fun a => by have := (h a).1; omega
      rw [if_neg (fun c => dead c.1)] at hF
      rw [if_pos (by exact nI_lt (a := 400) big (by omega))]
      exact hF I L H hx hL (fun a => absurd a dead)
    rw [if_neg (by exact nI_nlt (a := 400) (by omega) (by decide))]
    refine sgX5_hasMore_0 ?_
    by_cases hs : s.1 = 0
    · obtain ⟨h1, h2, h3⟩ := h hs
      rw [if_pos (show I 17 7 = 0 by rw [H.2.2.2.1, hs]; exact nI_0), l3, nI_clamp (by omega), l4]
      refine ⟨l2, ?_⟩
      by_cases k : knF B n s.2.1 = 0
      · rw [if_neg (fun c => c.2 k)] at hF
        rw [if_pos (by rw [k]; rfl), if_pos rfl]
        exact hF I L H hx hL (fun _ => h2)
      · rw [if_pos ⟨hs, k⟩] at hF
        rw [if_neg (by exact nI_ne0 (Nat.pos_of_ne_zero k) (by omega)), if_neg (by decide)]
        refine x_tell H hs h2 h3.1 (fun J M a b c e => ?_)
        rw [nI_1]
        refine x_read_9 r (i + 1) _ _ J M (by omega) a (fun y => ⟨by have := te_mo y; omega, e y, zl_step hs h3 y⟩) (hx.tr b) (fun q hq => (c q hq).trans (hL q hq)) hF
    · rw [if_neg (fun c => hs c.1)] at hF
      rw [if_neg (by rw [H.2.2.2.1]; exact nI_ne0 (Nat.pos_of_ne_zero hs) (by have := H.2.2.2.2.1; omega)), if_pos rfl]
      exact hF I L H hx hL (fun a => absurd a hs)
theorem x_end {d : Nat} {B : Nat → Nat} {n : Nat} {I : st_I} {L : st_L} {s : s4_X} {F : Int32 → st_I → st_L → Prop} (H : cx B n I s) (h : ∀ J, (∀ q, q ≠ 17 → J q = I q) → (∀ j, j ≠ 0 → j ≠ 1 → j ≠ 7 → J 17 j = I 17 j) → J 17 0 = 0 → J 17 1 = plF B n s → F (nI (rcF s)) J L) : EI d mX5_end [.ref 17] I L F := by
  obtain ⟨l1, l2, l3, l4, l5, l6⟩ := H.lt
  obtain ⟨h1, h2, h3, h4, h5, h6, h7, h8⟩ := H
  refine sgX5_end_0 ?_
  have fin : ∀ (x : Int32) (J : st_I) (r : Int32), r = nI (rcF s) → x = plF B n s → (∀ q, q ≠ 17 → J q = I q) → (∀ j, j ≠ 0 → j ≠ 1 → j ≠ 7 → J 17 j = I 17 j) → F r (u_I (u_I J 17 1 x) 17 0 0) L := by
    intro x J r hr hx f1 f2
    rw [hr]
    refine h _ (fun q a => by rw [u_I_ne _ _ a, u_I_ne _ _ a]; exact f1 q a) (fun j a b c => ?_) (by simp [u_I]) (by rw [u17 (by decide)]; simp only [u_I, if_true]; exact hx)
    rw [u17 a, u17 b]; exact f2 j a b c
  by_cases hs : s.1 = 0
  · have z7 : I 17 7 = 0 := by rw [h4, hs]; exact nI_0
    rw [if_pos z7]
    refine sgX5_end_21 ?_
    rw [if_pos z7, h6]
    by_cases lf : s.2.2.1 = 0
    · rw [if_pos (by rw [lf]; exact nI_0), z7]
      exact fin (-1) I 0 (by unfold rcF; rw [if_pos hs, lf]; rfl) (by unfold plF; rw [if_pos hs, if_pos lf]) (fun _ _ => rfl) (fun _ _ _ _ => rfl)
    · rw [if_neg (by exact nI_ne0 (Nat.pos_of_ne_zero lf) (by omega)), h8 lf]
      have e : u_I (u_I (u_I (u_I I 17 1 (-1)) 17 7 (nI s.2.2.1)) 17 1 (nI (psF B n s.2.2.2))) 17 0 0 = u_I (u_I (u_I (u_I I 17 1 (-1)) 17 7 (nI s.2.2.1)) 17 1 (nI (psF B n s.2.2.2))) 17 0 0 := rfl
      exact fin (nI (psF B n s.2.2.2)) (u_I (u_I I 17 1 (-1)) 17 7 (nI s.2.2.1)) _ (by unfold rcF; rw [if_pos hs]) (by unfold plF; rw [if_pos hs, if_neg lf]) (fun q a => by rw [u_I_ne _ _ a, u_I_ne _ _ a]) (fun j a b c => by rw [u17 c, u17 b])
  · have n7 : ¬ I 17 7 = 0 := by rw [h4]; exact nI_ne0 (Nat.pos_of_ne_zero hs) (by omega)
    rw [if_neg n7, l3, nI_clamp (by omega), l5]
    refine ⟨l2, sgX5_end_21 ?_⟩
    rw [if_neg n7]
    exact fin (nI (psF B n s.2.1)) I _ (by rw [h4]; unfold rcF; rw [if_neg hs]) (by unfold plF; rw [if_neg hs]) (fun _ _ => rfl) (fun _ _ _ _ => rfl)
theorem x_begin {d n : Nat} {I : st_I} {L : st_L} {F : st_I → st_L → Prop} (H : lx I n) (h : ∀ J, cx (bB I) n J s0_X → cz (bB I) n J L z0_X → (∀ q, q < 9 ∨ q = 18 ∨ 24 < q → J q = I q) → F J L) : EV (d + 8) mX5_begin [.ref 17] I L F := by
  refine sgX5_begin_0 (sgX8_clear_9_0 ?_)
  have g9 : ∀ q, q ≠ 9 → q ≠ 17 → (u_I (u_I (u_I (u_I (u_I (u_I (u_I (u_I (u_I (u_I I 9 0 0) 9 1 0) 9 2 0) 9 3 0) 9 4 0) 17 6 0) 17 7 0) 17 8 0) 17 13 0) 17 18 0) q = I q := fun q a b => by
    rw [u_I_ne _ _ b, u_I_ne _ _ b, u_I_ne _ _ b, u_I_ne _ _ b, u_I_ne _ _ b, u_I_ne _ _ a, u_I_ne _ _ a, u_I_ne _ _ a, u_I_ne _ _ a, u_I_ne _ _ a]
  have g17 : ∀ j, (u_I (u_I (u_I (u_I (u_I (u_I (u_I (u_I (u_I (u_I I 9 0 0) 9 1 0) 9 2 0) 9 3 0) 9 4 0) 17 6 0) 17 7 0) 17 8 0) 17 13 0) 17 18 0) 17 j = if j = 18 then 0 else if j = 13 then 0 else if j = 8 then 0 else if j = 7 then 0 else if j = 6 then 0 else I 17 j := fun j => by
    simp only [u_I, if_true]; simp
  have g90 : ∀ j, j < 5 → (u_I (u_I (u_I (u_I (u_I (u_I (u_I (u_I (u_I (u_I I 9 0 0) 9 1 0) 9 2 0) 9 3 0) 9 4 0) 17 6 0) 17 7 0) 17 8 0) 17 13 0) 17 18 0) 9 j = 0 := fun j hj => by
    rw [u_I_ne _ _ (by decide), u_I_ne _ _ (by decide), u_I_ne _ _ (by decide), u_I_ne _ _ (by decide), u_I_ne _ _ (by decide)]
    have h5 : j = 0 ∨ j = 1 ∨ j = 2 ∨ j = 3 ∨ j = 4 := by omega
    rcases h5 with rfl | rfl | rfl | rfl | rfl <;> simp [u_I]
  generalize (u_I (u_I (u_I (u_I (u_I (u_I (u_I (u_I (u_I (u_I I 9 0 0) 9 1 0) 9 2 0) 9 3 0) 9 4 0) 17 6 0) 17 7 0) 17 8 0) 17 13 0) 17 18 0) = I1 at *
  obtain ⟨h1, h2, h3⟩ := H
  have e18 : I1 18 = I 18 := g9 18 (by decide) (by decide)
  have eB : bB I1 = bB I := by funext j; unfold bB; rw [e18]
  have l1 : lx I1 n := ⟨h1, by rw [g17, if_neg (by decide), if_neg (by decide), if_neg (by decide), if_neg (by decide), if_neg (by decide)]; exact h2, fun j => by rw [e18]; exact h3 j⟩
  refine pX_scan l1 (fun J hJ => ?_)
  rw [eB] at hJ
  obtain ⟨x1, x2⟩ := hJ
  have j17 : J 17 = I1 17 := x1 17 (by decide) (by decide)
  have j18 : J 18 = I 18 := (x1 18 (by decide) (by decide)).trans e18
  refine h J ⟨⟨h1, by rw [j17]; exact l1.2.1, fun j => by rw [j18]; exact h3 j, by funext j; unfold bB; rw [j18], fun i hi => ?_⟩, (sp_ok (B := bB I) (n := n) 401 0 rfl).2.2.1 (by decide), ?_, ?_, by decide, ?_, by decide, fun c => absurd rfl c⟩ ⟨⟨?_, by decide, fun j hj => absurd hj (Nat.not_lt_zero _)⟩, fun j hj => ?_, ?_, fun j hj => absurd hj (Nat.not_lt_zero _), fun j hj => absurd hj (Nat.not_lt_zero _), fun j hj => absurd hj (Nat.not_lt_zero _), fun j hj => absurd hj (Nat.not_lt_zero _), fun j hj => absurd hj (Nat.not_lt_zero _), fun j hj => absurd hj (Nat.not_lt_zero _)⟩ (fun q a => ?_)
  · have := x2 i hi
    rw [eB] at this; exact this
  · rw [j17, g17]; rfl
  · rw [j17, g17]; rfl
  · rw [j17, g17]; rfl
  · rw [j17, g17]; rfl
  · rw [x1 9 (by decide) (by decide), g90 j hj]; rfl
  · rw [j17, g17]; rfl
  · rw [x1 q (by omega) (by omega), g9 q (by omega) (by omega)]
theorem x_read {d n : Nat} {I : st_I} {L : st_L} {Q : st_Q} (H : lx I n) (h : ∀ J M, xrd I J → J 17 0 = 0 → J 17 1 = plF (bB I) n (rdX (bB I) n).1 → ((rdX (bB I) n).1.1 = 0 → cz (bB I) n J M (rdX (bB I) n).2) → (∀ q, q ≠ 21 → M q = L q) → (rdX (bB I) n).1.2.1 ≤ 400 → rcF (rdX (bB I) n).1 ≤ 5 → if rcF (rdX (bB I) n).1 = 0 then T shp (d + 9) mX11_read 51 [.ref 0, .int 0, .null] [] J M Q else Q (some (.int (nI (rcF (rdX (bB I) n).1)))) shp J M) : Ev shp (d + 9) mX11_read [.ref 0] I L Q := by
  refine sgX11_read_0 (x_begin H (fun J0 hc hz hx => ?_))
  refine x_read_9 (d := d + 2) (L0 := L) (I0 := J0) 402 0 s0_X z0_X J0 L (by omega) hc (fun _ => ⟨Nat.le_refl _, hz, zl_0⟩) xte.rf (fun _ _ => rfl) (fun J M a b c e => ?_)
  refine sgX11_read_39 (x_end a (fun K f1 f2 f3 f4 => ?_))
  have l5 : rcF (rdX (bB I) n).1 ≤ 5 := by
    have a5 := a.2.2.2.2
    unfold rcF
    split
    · exact a5.2.2.1
    · have := a5.1
      show (rdL (bB I) n 402 s0_X z0_X).1.1 ≤ 5
      omega
  have t4 : (rdX (bB I) n).1.2.1 ≤ 400 := by
    have := a.lt.1
    show (rdL (bB I) n 402 s0_X z0_X).1.2.1 ≤ 400
    omega
  have hq := h K M (fun q hq => by rw [f1 q (by omega), b.1 q (by omega), hx q hq]) f3 f4 (fun y => ?_) c t4 l5
  · have e0 : rdL (bB I) n 402 s0_X z0_X = rdX (bB I) n := rfl
    rw [e0]
    by_cases r0 : rcF (rdX (bB I) n).1 = 0
    · rw [if_pos r0] at hq
      rw [r0, if_pos (by rfl)]
      exact hq
    · rw [if_neg r0] at hq
      rw [if_neg (by exact nI_ne0 (Nat.pos_of_ne_zero r0) (by omega))]
      exact hq
  · obtain ⟨g1, g2, g3, g4, g5, g6, g7, g8, g9⟩ := e y
    refine ⟨g1.q (f2 13 (by decide) (by decide) (by decide)) (f1 22 (by decide)) (f1 23 (by decide)), fun j hj => by rw [f1 9 (by decide)]; exact g2 j hj, by rw [f2 18 (by decide) (by decide) (by decide)]; exact g3, ?_, ?_, ?_, ?_, ?_, cz_sits g9 (f1 15 (by decide)) (f1 16 (by decide))⟩
    · rw [f1 10 (by decide)]; exact g4
    · rw [f1 11 (by decide)]; exact g5
    · rw [f1 12 (by decide)]; exact g6
    · rw [f1 13 (by decide)]; exact g7
    · rw [f1 14 (by decide)]; exact g8
