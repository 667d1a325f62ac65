/-! read: one more FIDDLE of a sit, in the class -/
def orU (B : Nat → Nat) (n m : Nat) (s : s4_X) : s4_X := if 6 ≤ m ∧ s.1 = 0 ∧ knF B n s.2.1 = 2 then (2, s.2) else s
def dupB (R : Nat → Int32) (r m : Nat) (f : Int32) : Bool := decide (f ≠ -1) && (foF (fun i => decide (R (r + 4 + i) = f)) m 0).isSome
/-- the state behind it, in a row R at r of m so far -/
def orA (B : Nat → Nat) (n : Nat) (N : nm_X) (R : Nat → Int32) (r m : Nat) (s : s4_X) : s4_X := laA (decide ((tnA B n N 140 (orU B n m s)).1 = 0 ∧ m < 6) && dupB R r m (tnV B n N 140 (orU B n m s))) 3 s.2.1 (tnA B n N 140 (orU B n m s))
theorem la_nz {k t : Nat} {s : s4_X} (hk : k ≠ 0) : (laA true k t s).2.2.1 ≠ 0 := by
  unfold laA
  rw [if_pos rfl]
  split
  · exact hk
  · assumption
theorem x_ordered {d r m : Nat} {B : Nat → Nat} {n : Nat} {I : st_I} {L : st_L} {s : s4_X} {N : nm_X} {F : st_I → st_L → Prop} (H : cx B n I s) (HN : cN B n I L N) (hso : ∀ j, j < N.1 → N.2.2.1 j < 2 ^ 31) (hr : r + 10 ≤ 480) (hm : m ≤ 6) (h3 : I 16 (r + 3) = nI m)
    (h : ∀ J, cx B n J (orA B n N (I 16) r m s) → (∀ q, q ≠ 16 → q ≠ 17 → J q = I q) → (∀ j, j < 6 ∨ 9 < j → J 17 j = I 17 j) → (∀ j, j ≠ r + 3 → j ≠ r + 4 + m → J 16 j = I 16 j) → ((orA B n N (I 16) r m s).1 = 0 → m < 6 ∧ J 16 (r + 3) = nI (m + 1) ∧ J 16 (r + 4 + m) = tnV B n N 140 s) → F J L) : EV (d + 3) mX5_takeOrdered [.ref 17, .int (nI r)] I L F := by
  obtain ⟨l1, l2, l3, l4, l5, l6⟩ := H.lt
  have v3 : vp_in (nI (r + 3)) 480 := vp_in_nI (by omega) (by decide)
  have e3 : nI r + 3 = nI (r + 3) := nI_add r 3
  have e4 : nI r + 4 = nI (r + 4) := nI_add r 4
  refine sgX5_takeOrdered_0 ?_
  rw [e3, nI_clamp (by omega), h3, l3, nI_clamp (by omega), l4]
  refine ⟨v3, ?_⟩
  -- from the NAME on
  have go : ∀ (J : st_I), cx B n J (orU B n m s) → x69 I J → TV (d + 3) mX5_takeOrdered 43 [.ref 17, .int (nI r), .int (nI m), .null, .null, .null] [] J L F := by
    intro J hJ hx
    obtain ⟨k1, k2, k3, k4, k5, k6⟩ := hJ.lt
    have et : (orU B n m s).2.1 = s.2.1 := by unfold orU; split <;> rfl
    refine sgX5_takeOrdered_43 ?_
    rw [k3, nI_clamp (by omega), k5, et]
    refine ⟨vp_in_nI (by omega) (by decide), x_takeToldName (kind := 140) hJ (HN.x69 hx) (by decide) hso (fun K hK x2 => ?_)⟩
    have hxK := hx.tr x2
    rw [hK.2.2.2.1]
    by_cases z : (tnA B n N 140 (orU B n m s)).1 = 0
    · rw [if_pos (by rw [z]; exact nI_0)]
      by_cases m6 : m < 6
      · rw [if_pos (show nI m < 6 from nI_lt (b := 6) m6 (by decide))]
        have eo : orU B n m s = s := by unfold orU; rw [if_neg (fun c => by omega)]
        unfold orA at h
        rw [eo] at h hK z ⊢
        rw [decide_eq_true (show (tnA B n N 140 s).1 = 0 ∧ m < 6 from ⟨z, m6⟩), Bool.true_and] at h
        have fin : ∀ (K2 : st_I) (b : Bool), cx B n K2 (laA b 3 s.2.1 (tnA B n N 140 s)) → b = dupB (I 16) r m (tnV B n N 140 s) → x69 I K2 → F (u_I (u_I K2 16 (r + 4 + m) (tnV B n N 140 s)) 16 (r + 3) (nI (m + 1))) L := by
          intro K2 b hK2 hb hx2
          subst hb
          refine h _ (cx_tab (cx_tab hK2 (by decide) (by decide) (by decide) (by decide)) (by decide) (by decide) (by decide) (by decide)) (fun q a c => ?_) (fun j hj => ?_) (fun j a c => ?_) (fun _ => ⟨m6, by simp [u_I], ?_⟩)
          · rw [u_I_ne _ _ a, u_I_ne _ _ a, hx2.1 q c]
          · rw [u_I_ne _ _ (by decide), u_I_ne _ _ (by decide), hx2.2 j hj]
          · simp only [u_I, if_true, if_neg a, if_neg c]; rw [hx2.1 16 (by decide)]
          · simp only [u_I, if_true]; rw [if_neg (by omega)]
        have idx : ∀ i, nI r + 4 + nI i = nI (r + 4 + i) := fun i => by rw [e4, nI_add]
        have key2 : ∀ (q i : Nat) (K2 : st_I), i + q = m → cx B n K2 (laA true 3 s.2.1 (tnA B n N 140 s)) → x69 I K2 → dupB (I 16) r m (tnV B n N 140 s) = true → TV (d + 3) mX5_takeOrdered 79 [.ref 17, .int (nI r), .int (nI m), .int (nI (psF B n s.2.1)), .int (tnV B n N 140 s), .int (nI i)] [] K2 L F := by
          intro q
          induction q with
          | zero =>
            intro i K2 hi hK2 hx2 hd
            refine sgX5_takeOrdered_79 ?_
            rw [if_pos (nI_le (by omega) (by omega)), idx m, e3, nI_clamp (by omega), nI_clamp (by omega), nI_1]
            exact ⟨vp_in_nI (by omega) (by decide), v3, fin K2 true hK2 hd.symm hx2⟩
          | succ q ih =>
            intro i K2 hi hK2 hx2 hd
            refine sgX5_takeOrdered_79 ?_
            rw [if_neg (nI_ge (by omega) (by omega)), idx i, nI_clamp (by omega), nI_1]
            have nx := ih (i + 1) K2 (by omega) hK2 hx2 hd
            split
            · exact nx
            · refine ⟨vp_in_nI (by omega) (by decide), ?_⟩
              split
              · refine x_failLater hK2 (by decide) (by decide) (fun K3 hK3 x3 => ?_)
                rw [laA_no (la_nz (by decide))] at hK3
                exact ih (i + 1) K3 (by omega) hK3 (hx2.tr x3) hd
              · exact nx
        have key1 : ∀ (q i : Nat), i + q = m → (tnV B n N 140 s ≠ -1 → (foF (fun i => decide (I 16 (r + 4 + i) = tnV B n N 140 s)) q i).isSome = (foF (fun i => decide (I 16 (r + 4 + i) = tnV B n N 140 s)) m 0).isSome) → TV (d + 3) mX5_takeOrdered 79 [.ref 17, .int (nI r), .int (nI m), .int (nI (psF B n s.2.1)), .int (tnV B n N 140 s), .int (nI i)] [] K L F := by
          intro q
          induction q with
          | zero =>
            intro i hi he
            refine sgX5_takeOrdered_79 ?_
            rw [if_pos (nI_le (by omega) (by omega)), idx m, e3, nI_clamp (by omega), nI_clamp (by omega), nI_1]
            refine ⟨vp_in_nI (by omega) (by decide), v3, fin K false hK ?_ hxK⟩
            unfold dupB
            by_cases y : tnV B n N 140 s = -1
            · rw [decide_eq_false (fun c => c y)]; rfl
            · rw [← he y]; simp [foF]
          | succ q ih =>
            intro i hi he
            refine sgX5_takeOrdered_79 ?_
            rw [if_neg (nI_ge (by omega) (by omega)), idx i, nI_clamp (by omega), nI_1, hxK.1 16 (by decide)]
            by_cases y : tnV B n N 140 s = -1
            · rw [if_pos y]; exact ih (i + 1) (by omega) (fun c => absurd y c)
            · rw [if_neg y]
              refine ⟨vp_in_nI (by omega) (by decide), ?_⟩
              have he' := he y
              rw [foF] at he'
              by_cases x : I 16 (r + 4 + i) = tnV B n N 140 s
              · rw [if_pos x]
                rw [if_pos (decide_eq_true x)] at he'
                refine x_failLater hK (by decide) (by decide) (fun K3 hK3 x3 => key2 q (i + 1) K3 (by omega) hK3 (hxK.tr x3) ?_)
                unfold dupB
                rw [decide_eq_true y, ← he']; rfl
              · rw [if_neg x]
                rw [if_neg (by rw [decide_eq_false x]; decide)] at he'
                exact ih (i + 1) (by omega) (fun _ => he')
        exact key1 m 0 (by omega) (fun _ => rfl)
      · exfalso
        have := (st_al (show (paA B n 2 (orU B n m s)).1 = 0 by have q := z; unfold tnA at q; rw [la_1.1] at q; exact q))
        have k2' := of_decide_eq_true this.2.1
        have f0 := this.1
        unfold orU at k2' f0
        by_cases c : 6 ≤ m ∧ s.1 = 0 ∧ knF B n s.2.1 = 2
        · rw [if_pos c] at f0; exact absurd (show (2 : Nat) = 0 from f0) (by decide)
        · rw [if_neg c] at k2' f0
          exact c ⟨by omega, f0, k2'⟩
    · have nz := hK.2.2.2.2.1
      rw [if_neg (nI_ne0 (Nat.pos_of_ne_zero z) (by omega))]
      have ea : orA B n N (I 16) r m s = tnA B n N 140 (orU B n m s) := by
        unfold orA
        rw [decide_eq_false (fun c => z c.1), Bool.false_and]; rfl
      rw [ea] at h
      exact h K hK (fun q _ b => hxK.1 q b) (fun j hj => hxK.2 j hj) (fun j _ _ => by rw [hxK.1 16 (by decide)]) (fun q => absurd q z)
  by_cases m6 : m < 6
  · rw [if_pos (show nI m < 6 from nI_lt (b := 6) m6 (by decide))]
    exact go I (by unfold orU; rw [if_neg (fun c => by omega)]; exact H) x69.rf
  · rw [if_neg (show ¬ nI m < 6 from nI_nlt (b := 6) (by omega) (by omega)), H.2.2.2.1]
    by_cases z : s.1 = 0
    · rw [if_pos (by rw [z]; exact nI_0)]
      refine ⟨l2, ?_⟩
      by_cases y : knF B n s.2.1 = 2
      · rw [if_pos (by rw [y]; rfl)]
        refine go _ ?_ x69_7
        unfold orU
        rw [if_pos ⟨by omega, z, y⟩]
        exact cx_dead (f := 2) H (by decide)
      · rw [if_neg (fun q => y ((nI_eq (by omega) (by decide)).mp (q.trans (lit 2))))]
        exact go I (by unfold orU; rw [if_neg (fun c => y c.2.2)]; exact H) x69.rf
    · rw [if_neg (nI_ne0 (Nat.pos_of_ne_zero z) (by have := H.2.2.2.2.1; omega))]
      exact go I (by unfold orU; rw [if_neg (fun c => z c.2.1)]; exact H) x69.rf
