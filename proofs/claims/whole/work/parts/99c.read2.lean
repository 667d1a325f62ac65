/-! read: in the reference -/
/-- frame of the read in the reference -/
def mrd (sd : Nat) (I J : st_I) : Prop := (∀ q, q < 58 ∨ q = 59 ∨ 91 < q → J q = I q) ∧ (∀ j, j = 52 → J 58 j = I 58 j) ∧ ∀ q j, 69 ≤ q → q ≤ 90 → (j < wi q * sd ∨ wi q * sd + wi q ≤ j) → J q j = I q j
theorem mrd.tr {sd : Nat} {I J K : st_I} (h : mrd sd I J) (g : mrd sd J K) : mrd sd I K := ⟨fun q a => (g.1 q a).trans (h.1 q a), fun j a => (g.2.1 j a).trans (h.2.1 j a), fun q j a b c => (g.2.2 q j a b c).trans (h.2.2 q j a b c)⟩
theorem mte.mrd {sd : Nat} {I J : st_I} (h : mte sd I J) : mrd sd I J := ⟨fun q a => h.1 q (by omega), fun j a => h.2.1 j (by omega) (by omega) (by omega) (by omega) (by omega) (by omega), h.2.2⟩
theorem mrd_58 {sd k : Nat} {I : st_I} {x : Int32} (h : k ≠ 52) : mrd sd I (u_I I 58 k x) := ⟨fun q a => by rw [u_I_ne _ _ (by omega)], fun j a => by rw [u_Ik (by omega)], fun q j a b _ => by rw [u_I_ne _ _ (by omega)]⟩
theorem mrd_sd {sd q : Nat} {I : st_I} {x : Int32} (h : q = 69 ∨ q = 73 ∨ q = 77 ∨ q = 79 ∨ q = 82) : mrd sd I (u_I I q sd x) := by
  refine ⟨fun p a => by rw [u_I_ne _ _ (by omega)], fun j a => by rw [u_I_ne _ _ (by omega)], fun p j a b c => ?_⟩
  by_cases e : p = q
  · subst e
    have w1 : wi p = 1 := by rcases h with rfl | rfl | rfl | rfl | rfl <;> rfl
    rw [w1] at c
    exact u_Ik (by omega)
  · rw [u_I_ne _ _ e]
/-- the read's end -/
theorem m_read_142 {d sd lv : Nat} {B : Nat → Nat} {n : Nat} {M0 : st_L} {J0 : st_I} {F : Int32 → st_I → st_L → Prop} (hsd : sd ≤ 1) (h18 : J0 58 18 = nI lv) : ∀ (r : Nat) (s : s4_X) (z : z6_X) (J : st_I) (M : st_L), rr B n J M s → (s.1 = 0 → 402 ≤ r + s.2.1 ∧ lok s ∧ rz B n sd J M z s.2.2.1 ∧ zl z s.2.1 s.2.2.1) → mte sd J0 J → J 58 19 = nI sd → (∀ q, q ≠ 66 → M q = M0 q) → (∀ K M', mrd sd J0 K → (K 58 2 = J0 58 2) → (K 58 17 = plF B n (rdL B n r s z).1) → (K 58 18 = if rcF (rdL B n r s z).1 = 0 then nI sd else nI lv) → ((rdL B n r s z).1.1 = 0 → rz B n sd K M' (rdL B n r s z).2 (rdL B n r s z).1.2.2.1) → (∀ q, q ≠ 66 → M' q = M0 q) → F (nI (rcF (rdL B n r s z).1)) K M') → TI (d + 7) mX12_read 142 [.ref 58, .null] [] J M F := by
  -- where it ends
  have stop : ∀ (s : s4_X) (z : z6_X) (J : st_I) (M : st_L), rr B n J M s → (s.1 = 0 → rz B n sd J M z s.2.2.1) → mte sd J0 J → J 58 19 = nI sd → (∀ q, q ≠ 66 → M q = M0 q) → (∀ K M', mrd sd J0 K → (K 58 2 = J0 58 2) → (K 58 17 = plF B n s) → (K 58 18 = if rcF s = 0 then nI sd else nI lv) → (s.1 = 0 → rz B n sd K M' z s.2.2.1) → (∀ q, q ≠ 66 → M' q = M0 q) → F (nI (rcF s)) K M') → TI (d + 7) mX12_read 194 [.ref 58, .null] [.int (if (J 58 13) ≤ 0 then (if (J 58 15) ≤ 0 then ((-1) : Int32) else (J 58 16)) else (J 58 14)), .ref 58] J M F := by
    intro s z J M H h hx h19 hL hF
    obtain ⟨g1, g2, g3, g4, g5, g6, g7⟩ := id H
    refine sgX12_read_194 ?_
    have rk : ∀ (K : st_I) (e17 : K = J), rz B n sd K M z s.2.2.1 → rz B n sd K M z s.2.2.1 := fun _ _ h => h
    have rzu : ∀ (K : st_I), (∀ q, q ≠ 58 → K q = J q) → (∀ j, j ≠ 17 → j ≠ 18 → K 58 j = J 58 j) → rz B n sd J M z s.2.2.1 → rz B n sd K M z s.2.2.1 := by
      intro K e1 e2 h
      obtain ⟨r1, r2, r3, r4, r5, r6, r7⟩ := h
      refine ⟨?_, by rw [e2 19 (by decide) (by decide)]; exact r2, r3.cg (fun q _ _ => e1 q (by omega)), r4.cg (fun q _ _ => e1 q (by omega)), r5.cg (fun q _ _ => e1 q (by omega)), r6.cg (fun q _ => e1 q (by omega)) (e2 44 (by decide) (by decide)) (e2 12 (by decide) (by decide)), r7.cg (fun q _ _ => e1 q (by omega)) (fun x => x)⟩
      unfold rN
      rw [e2 20 (by decide) (by decide), e1 67 (by decide), e1 68 (by decide)]; exact r1
    have j18 : J 58 18 = nI lv := by rw [hx.2.1 18 (by decide) (by decide) (by decide) (by decide) (by decide) (by omega)]; exact h18
    have j2 : J 58 2 = J0 58 2 := hx.2.1 2 (by decide) (by decide) (by decide) (by decide) (by decide) (by omega)
    by_cases hs : s.1 = 0
    · have z13 : J 58 13 = 0 := by rw [g4, hs]; exact nI_0
      obtain ⟨e5, l5, e6⟩ := g7 hs
      have p13 : J 58 13 ≤ 0 := by rw [z13]; decide
      rw [if_pos p13, if_pos p13, e5]
      by_cases lf : s.2.2.1 = 0
      · have p15 : nI s.2.2.1 ≤ 0 := by rw [lf]; decide
        rw [if_pos p15, if_pos p15, h19]
        have rc : rcF s = 0 := by unfold rcF; rw [if_pos hs]; exact lf
        have q := hF (u_I (u_I J 58 17 (-1)) 58 18 (nI sd)) M ((hx.mrd.tr (mrd_58 (by decide))).tr (mrd_58 (by decide))) (by simp [u_I]; exact j2) (by simp [u_I]; unfold plF; rw [if_pos hs, if_pos lf]) (by rw [if_pos rc]; simp [u_I]) (fun _ => rzu _ (fun q a => by rw [u_I_ne _ _ a, u_I_ne _ _ a]) (fun j a b => by rw [u_Ik b, u_Ik a]) (h hs)) hL
        rw [rc] at q
        exact q
      · have rc : rcF s = s.2.2.1 := by unfold rcF; rw [if_pos hs]
        have p15 : ¬ nI s.2.2.1 ≤ 0 := nI_nle (Nat.pos_of_ne_zero lf) (by omega)
        rw [if_neg p15, if_neg p15, (e6 lf).1]
        have q := hF (u_I J 58 17 (nI (psF B n s.2.2.2))) M (hx.mrd.tr (mrd_58 (by decide))) (by simp [u_I]; exact j2) (by simp [u_I]; unfold plF; rw [if_pos hs, if_neg lf]) (by rw [if_neg (by rw [rc]; exact lf)]; simp [u_I]; exact j18) (fun _ => rzu _ (fun q a => by rw [u_I_ne _ _ a]) (fun j a b => by rw [u_Ik a]) (h hs)) hL
        rw [rc] at q
        exact q
    · have rc : rcF s = s.1 := by unfold rcF; rw [if_neg hs]
      have n13 : ¬ J 58 13 ≤ 0 := by rw [g4]; exact nI_nle (Nat.pos_of_ne_zero hs) (by omega)
      rw [if_neg n13, if_neg n13, g6 hs, g4]
      have q := hF (u_I J 58 17 (nI (psF B n s.2.1))) M (hx.mrd.tr (mrd_58 (by decide))) (by simp [u_I]; exact j2) (by simp [u_I]; unfold plF; rw [if_neg hs]) (by rw [if_neg (by rw [rc]; exact hs)]; simp [u_I]; exact j18) (fun c => absurd c hs) hL
      rw [rc] at q
      exact q
  intro r
  induction r with
  | zero =>
    intro s z J M H h hx h19 hL hF
    have hs : ¬ s.1 = 0 := fun a => by have := (h a).1; have := H.lt.1; omega
    refine sgX12_read_142 ?_
    rw [if_neg (by rw [H.2.2.2.1]; exact nI_ne0 (Nat.pos_of_ne_zero hs) (by have := H.2.2.2.2.1; omega))]
    exact stop s z J M H (fun a => absurd a hs) hx h19 hL hF
  | succ r ih =>
    intro s z J M H h hx h19 hL hF
    refine sgX12_read_142 ?_
    rw [rdL] at hF
    by_cases hs : s.1 = 0
    · obtain ⟨h1, h2, h3, h4⟩ := h hs
      rw [if_pos (show J 58 13 = 0 by rw [H.2.2.2.1, hs]; exact nI_0)]
      refine m_is (k := 0) H (by decide) (by decide) (by decide) ?_
      by_cases k : knF B n s.2.1 = 0
      · rw [if_neg (fun c => c.2 k)] at hF
        rw [decide_eq_true (show s.1 = 0 ∧ knF B n s.2.1 = 0 from ⟨hs, k⟩), if_neg (by decide)]
        exact stop s z J M H (fun _ => h3) hx h19 hL hF
      · rw [if_pos ⟨hs, k⟩] at hF
        rw [decide_eq_false (fun c => k c.2), if_pos (by decide)]
        refine m_tell hsd H h2 hs h3 h4.1 h4.2.1.1 (fun J' M' a b c e => ?_)
        exact ih _ _ J' M' a (fun y => ⟨by have := te_mo y; omega, te_lk.1 h2, e y, zl_step hs h4 y⟩) (hx.tr b) (by rw [b.2.1 19 (by decide) (by decide) (by decide) (by decide) (by decide) (by omega)]; exact h19) (fun q hq => (c q hq).trans (hL q hq)) hF
    · rw [if_neg (fun c => hs c.1)] at hF
      rw [if_neg (by rw [H.2.2.2.1]; exact nI_ne0 (Nat.pos_of_ne_zero hs) (by have := H.2.2.2.2.1; omega))]
      exact stop s z J M H (fun a => absurd a hs) hx h19 hL hF
theorem m_read {d lv n : Nat} {W : Nat → Int64} {J : st_I} {M : st_L} {F : Int32 → st_I → st_L → Prop} (hlv : lv ≤ 1) (hn : n ≤ 2000) (h2 : J 58 2 = nI n) (h59 : ∀ j, j < n → J 59 j = J 18 j) (hb : iv_byt J) (hW : keyW W) (hM : M 65 = W) (h18 : J 58 18 = nI lv) (h : ∀ K M', mrd (1 - lv) J K → K 58 2 = nI 0 → K 58 17 = plF (bB J) n (rdX (bB J) n).1 → (K 58 18 = if rcF (rdX (bB J) n).1 = 0 then nI (1 - lv) else nI lv) → ((rdX (bB J) n).1.1 = 0 → rz (bB J) n (1 - lv) K M' (rdX (bB J) n).2 (rdX (bB J) n).1.2.2.1) → (∀ q, q ≠ 64 → q ≠ 66 → M' q = M q) → F (nI (rcF (rdX (bB J) n).1)) K M') : EI (d + 7) mX12_read [.ref 58] J M F := by
  refine sgX12_read_0 ?_
  -- the copy
  have key : ∀ (r i : Nat) (K : st_I), i + r = n → (∀ q, q ≠ 58 → q ≠ 60 → K q = J q) → (∀ j, j ≠ 4 → K 58 j = J 58 j) → K 58 4 = nI n → (∀ j, j < i → K 60 j = J 18 j) → TI (d + 7) mX12_read 10 [.ref 58, .int (nI i)] [] K M F := by
    intro r
    induction r with
    | zero =>
      intro i K hi e1 e2 e4 e60
      refine sgX12_read_10 ?_
      rw [e4, if_pos (nI_le (by omega) (by omega))]
      have k18 : K 18 = J 18 := e1 18 (by decide) (by decide)
      have eB : bB (u_I K 58 2 0) = bB J := by funext j; unfold bB; rw [u_I_ne _ _ (by decide), k18]
      have hrx : rx (u_I K 58 2 0) n := ⟨hn, by rw [u_Ik (by decide)]; exact e4, fun j hj => by rw [u_I_ne _ _ (by decide), u_I_ne _ _ (by decide), k18]; exact e60 j (by omega), fun j => by rw [u_I_ne _ _ (by decide), k18]; exact hb j⟩
      refine pM_cut (d := d + 3) hrx hW hM (fun A M1 hA => ?_)
      unfold rk at hA
      rw [eB] at hA
      obtain ⟨a1, a2, a3, a4, a5⟩ := hA
      have a18 : A 58 18 = nI lv := by rw [a2 18 (by decide), u_Ik (by decide), e2 18 (by decide)]; exact h18
      have esd : (1 : Int32) - nI lv = nI (1 - lv) := pk_sub (a := 1) (b := lv) hlv
      rw [a18, esd, nI_clamp (show 1 - lv < 2 ^ 31 by omega)]
      have vs : vp_in (nI (1 - lv)) 2 := vp_in_nI (by omega) (by decide)
      refine ⟨vs, vs, vs, vs, vs, ?_⟩
      generalize hsd : 1 - lv = sd at *
      have hsd1 : sd ≤ 1 := by omega
      have e420 : (420 : Int32) * nI sd = nI (420 * sd) := pk_mul 420 sd
      rw [e420]
      -- all that is set
      have t69 : ∀ q, q ≠ 58 → q ≠ 69 → q ≠ 73 → q ≠ 77 → q ≠ 79 → q ≠ 82 → (u_I (u_I (u_I (u_I (u_I (u_I (u_I (u_I (u_I (u_I (u_I (u_I A 58 11 0) 58 12 0) 58 13 0) 58 15 0) 58 19 (nI sd)) 58 20 0) 69 sd 0) 73 sd 0) 77 sd 0) 79 sd 0) 82 sd 0) 58 44 (nI (420 * sd))) q = A q := fun q b1 b2 b3 b4 b5 b6 => by
        rw [u_I_ne _ _ b1, u_I_ne _ _ b6, u_I_ne _ _ b5, u_I_ne _ _ b4, u_I_ne _ _ b3, u_I_ne _ _ b2, u_I_ne _ _ b1, u_I_ne _ _ b1, u_I_ne _ _ b1, u_I_ne _ _ b1, u_I_ne _ _ b1, u_I_ne _ _ b1]
      have t58 : ∀ j, (u_I (u_I (u_I (u_I (u_I (u_I (u_I (u_I (u_I (u_I (u_I (u_I A 58 11 0) 58 12 0) 58 13 0) 58 15 0) 58 19 (nI sd)) 58 20 0) 69 sd 0) 73 sd 0) 77 sd 0) 79 sd 0) 82 sd 0) 58 44 (nI (420 * sd))) 58 j = if j = 44 then nI (420 * sd) else if j = 20 then 0 else if j = 19 then nI sd else if j = 15 then 0 else if j = 13 then 0 else if j = 12 then 0 else if j = 11 then 0 else A 58 j := fun j => by
        by_cases b : j = 44
        · subst b; simp [u_I]
        rw [u_Ik b, if_neg b, u_I_ne _ _ (by decide), u_I_ne _ _ (by decide), u_I_ne _ _ (by decide), u_I_ne _ _ (by decide), u_I_ne _ _ (by decide)]
        simp only [u_I, if_true]
      have m1 : mrd sd A (u_I (u_I (u_I (u_I (u_I (u_I (u_I (u_I (u_I (u_I (u_I (u_I A 58 11 0) 58 12 0) 58 13 0) 58 15 0) 58 19 (nI sd)) 58 20 0) 69 sd 0) 73 sd 0) 77 sd 0) 79 sd 0) 82 sd 0) 58 44 (nI (420 * sd))) := (((((((((((mrd_58 (by decide)).tr (mrd_58 (by decide))).tr (mrd_58 (by decide))).tr (mrd_58 (by decide))).tr (mrd_58 (by decide))).tr (mrd_58 (by decide))).tr (mrd_sd (by omega))).tr (mrd_sd (by omega))).tr (mrd_sd (by omega))).tr (mrd_sd (by omega))).tr (mrd_sd (by omega))).tr (mrd_58 (by decide))
      have u69 : (u_I (u_I (u_I (u_I (u_I (u_I (u_I (u_I (u_I (u_I (u_I (u_I A 58 11 0) 58 12 0) 58 13 0) 58 15 0) 58 19 (nI sd)) 58 20 0) 69 sd 0) 73 sd 0) 77 sd 0) 79 sd 0) 82 sd 0) 58 44 (nI (420 * sd))) 69 sd = nI 0 := by
        rw [u_I_ne _ _ (by decide), u_I_ne _ _ (by decide), u_I_ne _ _ (by decide), u_I_ne _ _ (by decide), u_I_ne _ _ (by decide)]; simp only [u_I, if_true]; rfl
      have u73 : (u_I (u_I (u_I (u_I (u_I (u_I (u_I (u_I (u_I (u_I (u_I (u_I A 58 11 0) 58 12 0) 58 13 0) 58 15 0) 58 19 (nI sd)) 58 20 0) 69 sd 0) 73 sd 0) 77 sd 0) 79 sd 0) 82 sd 0) 58 44 (nI (420 * sd))) 73 sd = nI 0 := by
        rw [u_I_ne _ _ (by decide), u_I_ne _ _ (by decide), u_I_ne _ _ (by decide), u_I_ne _ _ (by decide)]; simp only [u_I, if_true]; rfl
      have u77 : (u_I (u_I (u_I (u_I (u_I (u_I (u_I (u_I (u_I (u_I (u_I (u_I A 58 11 0) 58 12 0) 58 13 0) 58 15 0) 58 19 (nI sd)) 58 20 0) 69 sd 0) 73 sd 0) 77 sd 0) 79 sd 0) 82 sd 0) 58 44 (nI (420 * sd))) 77 sd = nI 0 := by
        rw [u_I_ne _ _ (by decide), u_I_ne _ _ (by decide), u_I_ne _ _ (by decide)]; simp only [u_I, if_true]; rfl
      have u79 : (u_I (u_I (u_I (u_I (u_I (u_I (u_I (u_I (u_I (u_I (u_I (u_I A 58 11 0) 58 12 0) 58 13 0) 58 15 0) 58 19 (nI sd)) 58 20 0) 69 sd 0) 73 sd 0) 77 sd 0) 79 sd 0) 82 sd 0) 58 44 (nI (420 * sd))) 79 sd = nI 0 := by
        rw [u_I_ne _ _ (by decide), u_I_ne _ _ (by decide)]; simp only [u_I, if_true]; rfl
      have u82 : (u_I (u_I (u_I (u_I (u_I (u_I (u_I (u_I (u_I (u_I (u_I (u_I A 58 11 0) 58 12 0) 58 13 0) 58 15 0) 58 19 (nI sd)) 58 20 0) 69 sd 0) 73 sd 0) 77 sd 0) 79 sd 0) 82 sd 0) 58 44 (nI (420 * sd))) 82 sd = nI 0 := by
        rw [u_I_ne _ _ (by decide)]; simp only [u_I, if_true]; rfl
      generalize (u_I (u_I (u_I (u_I (u_I (u_I (u_I (u_I (u_I (u_I (u_I (u_I A 58 11 0) 58 12 0) 58 13 0) 58 15 0) 58 19 (nI sd)) 58 20 0) 69 sd 0) 73 sd 0) 77 sd 0) 79 sd 0) 82 sd 0) 58 44 (nI (420 * sd))) = A1 at *
      have no : ∀ {P : Nat → Prop} (j : Nat), j < 0 → P j := fun j hj => absurd hj (Nat.not_lt_zero _)
      refine m_read_142 (d := d) (sd := sd) (lv := lv) (B := bB J) (n := n) (M0 := M1) (J0 := A1) hsd1 (by rw [t58]; exact a18) 402 s0_X z0_X A1 M1 ?_ (fun _ => ⟨Nat.le_refl _, fun _ c => absurd rfl c, ?_, zl_0⟩) mte.rf (by rw [t58]; rfl) (fun _ _ => rfl) (fun K2 M2 b1 b2 b3 b4 b5 b6 => ?_)
      · refine ⟨⟨hn, fun j => (bt_c (hb j)).1, fun i hi => ?_⟩, (sp_ok (B := bB J) (n := n) 401 0 rfl).2.2.1 (by decide), by rw [t58]; rfl, by rw [t58]; rfl, by decide, fun c => absurd rfl c, fun _ => ⟨by rw [t58]; rfl, by decide, fun c => absurd rfl c⟩⟩
        rw [t69 61 (by decide) (by decide) (by decide) (by decide) (by decide) (by decide), t69 62 (by decide) (by decide) (by decide) (by decide) (by decide) (by decide), t69 63 (by decide) (by decide) (by decide) (by decide) (by decide) (by decide)]
        exact a5 i (Nat.lt_of_lt_of_le hi (sp_le_se _ _))
      · exact ⟨⟨by rw [t58]; rfl, by decide, fun _ => ⟨rfl, fun j hj => absurd hj (Nat.not_lt_zero _), fun i j hi => absurd hi (Nat.not_lt_zero _)⟩⟩, by rw [t58]; rfl, ⟨u69, fun j hj => absurd hj (Nat.not_lt_zero _)⟩, ⟨u73, fun j hj => absurd hj (Nat.not_lt_zero _)⟩, ⟨u77, fun j hj => absurd hj (Nat.not_lt_zero _)⟩, ⟨u79, by rw [t58]; rfl, by rw [t58]; rfl, fun j hj => absurd hj (Nat.not_lt_zero _), fun j hj => absurd hj (Nat.not_lt_zero _)⟩, ⟨u82, fun j hj => absurd hj (Nat.not_lt_zero _)⟩⟩
      · refine h K2 M2 ?_ ?_ b3 b4 b5 (fun q x y => (b6 q y).trans (a4 q x))
        · have mA : mrd sd J A := by
            refine ⟨fun q c => ?_, fun j c => ?_, fun q j c1 c2 _ => ?_⟩
            · rw [a1 q (by omega) (by omega) (by omega) (by omega), u_I_ne _ _ (by omega), e1 q (by omega) (by omega)]
            · rw [a2 j (by omega), u_Ik (by omega), e2 j (by omega)]
            · rw [a1 q (by omega) (by omega) (by omega) (by omega), u_I_ne _ _ (by omega), e1 q (by omega) (by omega)]
          exact (mA.tr m1).tr b1
        · rw [b2, t58]
          rw [if_neg (by decide), if_neg (by decide), if_neg (by decide), if_neg (by decide), if_neg (by decide), if_neg (by decide), if_neg (by decide), a2 2 (by decide)]
          simp only [u_I, if_true]; rfl
    | succ r ih =>
      intro i K hi e1 e2 e4 e60
      refine sgX12_read_10 ?_
      rw [e4, if_neg (nI_ge (by omega) (by omega)), nI_clamp (by omega), nI_1, e1 59 (by decide) (by decide), h59 i (by omega), show (J 18 i).toInt8.toInt32 = J 18 i from hb i]
      refine ⟨vp_in_nI (by omega) (by decide), vp_in_nI (by omega) (by decide), ih (i + 1) _ (by omega) (fun q a b => by rw [u_I_ne _ _ b]; exact e1 q a b) (fun j a => by rw [u_I_ne _ _ (by decide)]; exact e2 j a) (by rw [u_I_ne _ _ (by decide)]; exact e4) (fun j hj => ?_)⟩
      by_cases c : j = i
      · subst c; simp only [u_I, if_true]
      · rw [u_Ik c]; exact e60 j (by omega)
  exact key n 0 _ (by omega) (fun q a _ => by rw [u_I_ne _ _ a]) (fun j a => by rw [u_Ik a]) (by simp only [u_I, if_true]; exact h2) (fun j hj => absurd hj (Nat.not_lt_zero _))
