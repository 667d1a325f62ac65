/-! read: an E in the class, behind a UNIT; as a whole -/
theorem x_goOn {d a t : Nat} {B : Nat → Nat} {n : Nat} {s : s4_X} {e : e5_X} {I : st_I} {L : st_L} {F : Int32 → st_I → st_L → Prop} (H : cx B n I s) (hs : s.1 = 0) (HE : cE I e) (G : gE a s.2.1 e t 1) (h17 : I 17 17 = 0) (h : ∀ J x, cx B n J (gA B n s e).1 → xe I J → ((gA B n s e).1.1 = 0 → cE J (gA B n s e).2.1 ∧ x = b01 (decide ((gA B n s e).2.2 ≠ 0)) ∧ ((gA B n s e).2.2 ≠ 0 → J 17 17 = b01 (decide ((gA B n s e).2.2 = 2)))) → F x J L) : EI (d + 3) mX5_goOn [.ref 17] I L F := by
  obtain ⟨l1, l2, l3, l4, l5, l6⟩ := H.lt
  obtain ⟨g1, g2, g3, g4, g5, g6, g7⟩ := id G
  obtain ⟨t1, ht1, G1⟩ := gE_pp1 G
  have G2 : gE a s.2.1 (p2E e) 0 1 := gE_pp2 G1 ht1
  have hw := G.w20
  have hw1 := G1.w20
  have hw2 := G2.w20
  refine sgX5_goOn_0 ?_
  rw [l3, nI_clamp (by omega), l4]
  refine ⟨l2, ?_⟩
  refine cE_settle (a := 42) (b := 42) HE (by decide) (by decide) g3 (by omega) (by omega) (ok_42 g1) (fun I1 E1 x1 u1 => ?_)
  have H1 := H.xw x1
  rw [h17] at u1
  unfold gA at h
  by_cases k : knF B n s.2.1 = 42
  · rw [if_pos k] at h
    rw [k, if_pos (by rfl)]
    exact x_join H1 hs E1 (by omega) k (by decide) (fun J hJ hx q => ⟨b01_or _, h J _ hJ (x1.xe.tr hx) (fun z => ⟨(q z).1, by rw [decide_eq_true (show (stA true s).1 = 0 from z)]; rfl, fun _ => (q z).2⟩)⟩)
  rw [if_neg k] at h
  rw [if_neg (fun q => k (by exact (nI_eq (b := 42) (by omega) (by decide)).mp q))]
  obtain ⟨b1, b2, b3, b4, b5, b6, b7⟩ := id G1
  refine cE_settle (a := 43) (b := 45) E1 (by decide) (by decide) b3 (by omega) (by omega) (ok_43 b1) (fun I3 E3 x3 u3 => ?_)
  rw [u1] at u3
  have H3 := H1.xw x3
  have x13 := x1.xe.tr x3.xe
  by_cases v : knF B n s.2.1 = 43 ∨ knF B n s.2.1 = 45
  · rw [if_pos v] at h
    have go : EI (d + 2) mX5_join [.ref 17, .int (nI (knF B n s.2.1))] I3 L (fun r I4 L4 => (r = 0 ∨ r = 1) ∧ F r I4 L4) :=
      x_join H3 hs E3 (show (p2E e).2.1 < 24 by omega) rfl (by omega) (fun J hJ hx q => ⟨b01_or _, h J _ hJ (x13.tr hx) (fun z => ⟨(q z).1, by rw [decide_eq_true (show (stA true s).1 = 0 from z)]; rfl, fun _ => (q z).2⟩)⟩)
    rcases v with v | v
    · rw [if_pos (by rw [v]; rfl)]; exact go
    · rw [if_neg (by rw [v]; decide), if_pos (by rw [v]; rfl)]; exact go
  rw [if_neg v] at h
  rw [if_neg (fun q => v (Or.inl (by exact (nI_eq (b := 43) (by omega) (by decide)).mp q))), if_neg (fun q => v (Or.inr (by exact (nI_eq (b := 45) (by omega) (by decide)).mp q)))]
  rw [E3.2.1, show (ppE 43 45 (ppE 42 42 e)).2.2.1 = (p2E e).2.2.1 from rfl]
  by_cases o : (p2E e).2.2.1 = 0
  · rw [if_pos o] at h
    rw [o, if_pos (by decide)]
    exact h I3 0 H3 x13 (fun _ => ⟨E3, rfl, fun q => absurd rfl q⟩)
  rw [if_neg o] at h
  rw [if_neg (by exact nI_nle (show 0 < (p2E e).2.2.1 by omega) (by have := G2.2.2.2.1; omega))]
  refine x_close (e := p2E e) H3 hs E3 G2 o u3 (fun b J hJ hx q => ?_) (fun b J hJ hx q => ?_)
  · rw [if_pos b] at h
    have f := fun x => h J x hJ (x13.tr hx)
    by_cases z : (paA B n (if knF B n s.2.1 = 4 then 4 else 60) s).1 = 0
    · rw [decide_eq_true z, if_neg (by decide)]
      exact f 1 (fun _ => ⟨(q z).1, rfl, fun _ => (q z).2⟩)
    · rw [decide_eq_false z, if_pos (by decide)]
      exact f 0 (fun y => absurd y z)
  · rw [if_neg b] at h
    have f := fun x => h J x hJ (x13.tr hx)
    by_cases z : (paA B n (if (p2E e).1 ((p2E e).2.1 - 1) = 40 then 41 else 93) s).1 = 0
    · rw [decide_eq_true z, if_neg (by decide)]
      exact f 1 (fun _ => ⟨(q z).1, rfl, fun _ => (q z).2⟩)
    · rw [decide_eq_false z, if_pos (by decide)]
      exact f 0 (fun y => absurd y z)
theorem x_exp_19 {d a : Nat} {B : Nat → Nat} {n : Nat} {L : st_L} {F : st_I → st_L → Prop} {I0 : st_I} : ∀ (r : Nat) (due : Bool) (s : s4_X) (e : e5_X) (t k : Nat) (I : st_I), 401 < r + k → k ≤ 401 → cx B n I s → xe I0 I → (s.1 = 0 → k ≤ s.2.1 ∧ cE I e ∧ gE a s.2.1 e t (if due = true then 0 else 1) ∧ I 17 17 = b01 due) → (∀ J, cx B n J (exL B n r due s e).1 → xe I0 J → ((exL B n r due s e).1.1 = 0 → cE J (exL B n r due s e).2) → F J L) → TV (d + 4) mX5_takeExpression 19 [.ref 17, .int 1, .int (nI k)] [] I L F
  | 0, due, s, e, t, k, I, hr, hk, H, hx, h, hF => by omega
  | r + 1, due, s, e, t, k, I, hr, hk, H, hx, h, hF => by
    obtain ⟨l1, l2, l3, l4, l5, l6⟩ := H.lt
    refine sgX5_takeExpression_19 ?_
    by_cases hs : s.1 = 0
    · obtain ⟨h1, h2, h3, h4⟩ := h hs
      rw [if_neg (show ¬ (400 : Int32) < nI k from nI_nlt (a := 400) (by omega) (by decide)), if_neg (by decide), show I 17 7 = 0 by rw [H.2.2.2.1, hs]; exact nI_0, if_pos rfl, h4]
      rw [exL, if_pos hs] at hF
      have dead : ∀ p : s4_X × e5_X × Nat, ¬ p.1.1 = 0 → exL B n r (decide (p.2.2 = 2)) p.1 p.2.1 = (p.1, p.2.1) := fun p y => by
        cases r with
        | zero => rfl
        | succ r => rw [exL, if_neg y]
      cases due with
      | true =>
        rw [if_neg (by decide)]
        have es : stE B n true s e = uA B n s e := by unfold stE; rw [if_pos rfl]
        rw [es] at hF
        rw [if_pos rfl] at h3
        refine x_unit H hs h2 h3 h4 (fun J hJ hxJ q => ?_)
        rw [nI_1]
        have u2 : (uA B n s e).2.2 ≠ 0 := by
          unfold uA
          split
          · exact (by decide : (2 : Nat) ≠ 0)
          · split
            · exact (by decide : (1 : Nat) ≠ 0)
            · exact (by decide : (1 : Nat) ≠ 0)
        rw [if_neg u2] at hF
        by_cases z : (uA B n s e).1.1 = 0
        · obtain ⟨⟨t', q1⟩, q2, q3, q4⟩ := uA_ok hs h3 z
          exact x_exp_19 r _ _ _ t' (k + 1) J (by omega) (by omega) hJ (hx.tr hxJ) (fun _ => ⟨by omega, (q z).1, by simpa using q1, (q z).2⟩) hF
        · rw [dead _ z] at hF
          refine sgX5_takeExpression_19 ?_
          have fin := hF J hJ (hx.tr hxJ) (fun y => absurd y z)
          split
          · exact fin
          · rw [if_neg (by decide), if_neg (by rw [hJ.2.2.2.1]; exact nI_ne0 (Nat.pos_of_ne_zero z) (by have := hJ.2.2.2.2.1; omega))]
            exact fin
      | false =>
        rw [if_pos (by decide)]
        have es : stE B n false s e = gA B n s e := by unfold stE; rw [if_neg (by decide)]
        rw [es] at hF
        rw [if_neg (by decide)] at h3
        refine x_goOn H hs h2 h3 h4 (fun J x hJ hxJ q => ?_)
        rw [nI_1]
        by_cases z : (gA B n s e).1.1 = 0
        · obtain ⟨⟨t', q1⟩, q2, q3, q4⟩ := gA_ok h3 z
          obtain ⟨p1, p2, p3⟩ := q z
          by_cases c : (gA B n s e).2.2 = 0
          · rw [if_pos c] at hF
            have fin := hF J hJ (hx.tr hxJ) (fun _ => p1)
            rw [p2, decide_eq_false (fun y => y c)]
            refine sgX5_takeExpression_19 ?_
            split
            · exact fin
            · rw [if_pos (by decide)]; exact fin
          · rw [if_neg c] at hF
            rw [p2, decide_eq_true c]
            have := q2 c
            exact x_exp_19 r _ _ _ t' (k + 1) J (by omega) (by omega) hJ (hx.tr hxJ) (fun _ => ⟨by omega, p1, by simpa using q1, p3 c⟩) hF
        · have fin : F J L := by
            by_cases c : (gA B n s e).2.2 = 0
            · rw [if_pos c] at hF
              exact hF J hJ (hx.tr hxJ) (fun y => absurd y z)
            · rw [if_neg c, dead _ z] at hF
              exact hF J hJ (hx.tr hxJ) (fun y => absurd y z)
          refine sgX5_takeExpression_19 ?_
          split
          · exact fin
          · split
            · exact fin
            · rw [if_neg (by rw [hJ.2.2.2.1]; exact nI_ne0 (Nat.pos_of_ne_zero z) (by have := hJ.2.2.2.2.1; omega))]
              exact fin
    · rw [exL, if_neg hs] at hF
      have fin := hF I H hx (fun y => absurd y hs)
      split
      · exact fin
      · rw [if_neg (by decide), if_neg (by rw [H.2.2.2.1]; exact nI_ne0 (Nat.pos_of_ne_zero hs) (by have := H.2.2.2.2.1; omega))]
        exact fin
