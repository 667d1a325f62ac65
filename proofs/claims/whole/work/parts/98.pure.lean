/-! read: TOKENS only go on; what a sit tells -/
theorem st_mo {b : Bool} {s : s4_X} : s.2.1 ≤ (stA b s).2.1 := by
  unfold stA
  repeat' split
  all_goals first | exact Nat.le_refl _ | exact Nat.le_succ _
theorem in_mo {B : Nat → Nat} {n m : Nat} {s : s4_X} : s.2.1 ≤ (inA B n m s).2.1 := by unfold inA; rw [la_1.2]; exact st_mo
theorem nw_mo {B : Nat → Nat} {n : Nat} {N : nm_X} {s : s4_X} : s.2.1 ≤ (nwA B n N s).2.1 := by unfold nwA; rw [la_1.2]; exact st_mo
theorem tn_mo {B : Nat → Nat} {n k : Nat} {N : nm_X} {s : s4_X} : s.2.1 ≤ (tnA B n N k s).2.1 := by unfold tnA; rw [la_1.2]; exact st_mo
theorem pi_mo {B : Nat → Nat} {n k : Nat} {s : s4_X} : s.2.1 ≤ (piA B n k s).2.1 := by
  unfold piA; split
  · exact st_mo
  · exact Nat.le_refl _
theorem pf_mo {b : Bool} {s : s4_X} : s.2.1 ≤ (pfA b s).2.1 := by
  unfold pfA; split
  · exact Nat.le_refl _
  · exact st_mo
theorem pf_mo1 {b : Bool} {s : s4_X} (h : (pfA b s).1 = 0) : s.2.1 < (pfA b s).2.1 := by
  unfold pfA at h ⊢
  split at h
  · exact absurd (show (2 : Nat) = 0 from h) (by decide)
  · next c => rw [if_neg c, (st_al h).2.2.2]; exact Nat.lt_succ_self _
theorem fi3_mo {B : Nat → Nat} {n : Nat} {s : s4_X} : s.2.1 ≤ (fi3 B n s).2.1 := by
  unfold fi3; split
  · exact pi_mo
  · exact Nat.le_trans pi_mo st_mo
theorem bo_mo {B : Nat → Nat} {n : Nat} {s : s4_X} : s.2.1 ≤ (boU B n s).2.1 := by unfold boU; exact Nat.le_trans pi_mo in_mo
theorem stE_mo {B : Nat → Nat} {n : Nat} {due : Bool} {s : s4_X} {e : e5_X} : s.2.1 ≤ (stE B n due s e).1.2.1 := by
  unfold stE
  split
  · unfold uA
    split
    · exact pf_mo
    · split
      · exact st_mo
      · exact in_mo
  · unfold gA
    split
    · exact st_mo
    · split
      · exact st_mo
      · split
        · exact Nat.le_refl _
        · split
          · exact st_mo
          · exact st_mo
theorem or_mo {B : Nat → Nat} {n r m : Nat} {N : nm_X} {R : Nat → Int32} {s : s4_X} : s.2.1 ≤ (orA B n N R r m s).2.1 := by
  have e : (orU B n m s).2.1 = s.2.1 := by unfold orU; split <;> rfl
  unfold orA
  rw [la_1.2, ← e]; exact tn_mo
theorem od_mo {B : Nat → Nat} {n : Nat} {N : nm_X} : ∀ k m (R : Nat → Int32) (s : s4_X), s.2.1 ≤ (odL B n N k s m R).1.2.1
  | 0, _, _, _ => Nat.le_refl _
  | k + 1, m, R, s => by
    rw [odL]
    split
    · split
      · exact Nat.le_trans or_mo (Nat.le_trans st_mo (od_mo k _ _ _))
      · exact Nat.le_trans or_mo pi_mo
    · exact or_mo
theorem si_mo {B : Nat → Nat} {n ns : Nat} {N : nm_X} {s : s4_X} : s.2.1 ≤ (siS B n N ns s).2.1 := by
  unfold siS
  split
  · refine Nat.le_trans ?_ st_mo
    refine Nat.le_trans ?_ (od_mo 7 0 _ _)
    refine Nat.le_trans ?_ st_mo
    refine Nat.le_trans ?_ pi_mo
    refine Nat.le_trans ?_ tn_mo
    refine Nat.le_trans ?_ st_mo
    exact Nat.le_trans pf_mo tn_mo
  · exact pf_mo
theorem sl_mo {B : Nat → Nat} {n : Nat} {N : nm_X} : ∀ k s ns, s.2.1 ≤ (slL B n N k s ns).1.2.1
  | 0, _, _ => Nat.le_refl _
  | k + 1, s, ns => by
    rw [slL]
    split
    · split
      · exact Nat.le_trans si_mo (sl_mo k _ _)
      · exact si_mo
    · exact Nat.le_refl _
theorem sl_12 {B : Nat → Nat} {n : Nat} {N : nm_X} : ∀ k s ns, ns ≤ 12 → (slL B n N k s ns).2 ≤ 12
  | 0, _, _, h => h
  | k + 1, s, ns, h => by
    rw [slL]
    split
    · split
      · next w => exact sl_12 k _ _ (by have := (si_al w).1; omega)
      · exact h
    · exact h
theorem sl_st {B : Nat → Nat} {n : Nat} {N : nm_X} {s0 : s4_X} : ∀ k s ns, s = stS B n N s0 ns → (slL B n N k s ns).1.1 = 0 → (slL B n N k s ns).1 = stS B n N s0 (slL B n N k s ns).2
  | 0, _, _, h, _ => h
  | k + 1, s, ns, h, a => by
    rw [slL] at a ⊢
    by_cases c : s.1 = 0 ∧ knF B n s.2.1 = 148
    · rw [if_pos c] at a ⊢
      by_cases w : (siS B n N ns s).1 = 0
      · rw [if_pos w] at a ⊢
        exact sl_st k _ _ (by rw [stS, ← h]) a
      · rw [if_neg w] at a; exact absurd a w
    · rw [if_neg c]; exact h
/-- the numbers that NAMES stand for -/
def nr_X (N : nm_X) (c0 c1 c2 : Nat) : Prop := ∀ j, j < N.1 → (N.2.2.1 j = 140 → N.2.2.2 j < c0) ∧ (N.2.2.1 j = 143 → N.2.2.2 j < c1) ∧ (N.2.2.1 j = 145 → N.2.2.2 j < c2)
theorem tn_val {B : Nat → Nat} {n k : Nat} {N : nm_X} {s : s4_X} (z : (tnA B n N k s).1 = 0) (q : (tnA B n N k s).2.2.1 = 0) : ∃ j, j < N.1 ∧ N.2.2.1 j = k ∧ tnV B n N k s = nI (N.2.2.2 j) := by
  obtain ⟨-, al⟩ := tn_al z
  have ms := (tn_lf q).2
  rw [al, Bool.true_and] at ms
  unfold msA at ms
  unfold tnV
  rw [if_pos al]
  cases hf : fnN B n N s.2.1 with
  | none => simp only [hf] at ms; exact absurd ms (by decide)
  | some a =>
    simp only [hf] at ms
    have e : N.2.2.1 a = k := by simpa using ms
    have := (foF_lt _ _ _ hf).2.1
    exact ⟨a, by omega, e, by simp [e]⟩
theorem od_val {B : Nat → Nat} {n c0 c1 c2 : Nat} {N : nm_X} (hN : nr_X N c0 c1 c2) : ∀ k m (R : Nat → Int32) (s : s4_X), (odL B n N k s m R).1.1 = 0 → (∀ j, j < 4 + m → (odL B n N k s m R).2.2 j = R j) ∧ ((odL B n N k s m R).1.2.2.1 = 0 → ∀ i, m ≤ i → i < (odL B n N k s m R).2.1 → ∃ ff, ff < c0 ∧ (odL B n N k s m R).2.2 (4 + i) = nI ff)
  | 0, m, R, s, _ => ⟨fun _ _ => rfl, fun _ i h1 h2 => by rw [odL] at h2; have h3 : i < m := h2; omega⟩
  | k + 1, m, R, s, h => by
    rw [odL] at h ⊢
    by_cases z : (orA B n N R 0 m s).1 = 0
    · rw [if_pos z] at h ⊢
      obtain ⟨a1, a2, a3, a4, a5⟩ := or_al z
      have new : (orA B n N R 0 m s).2.2.1 = 0 → ∃ ff, ff < c0 ∧ tnV B n N 140 s = nI ff := by
        intro q
        rw [a5] at q
        obtain ⟨j, b1, b2, b3⟩ := tn_val a4 (la_lf (by decide) q).1
        exact ⟨_, (hN j b1).1 b2, b3⟩
      by_cases c : foB B n 44 (orA B n N R 0 m s) = true
      · rw [if_pos c] at h ⊢
        obtain ⟨i1, i2⟩ := od_val hN k (m + 1) (upd R (4 + m) (tnV B n N 140 s)) _ h
        refine ⟨fun j hj => ?_, fun q i h1 h2 => ?_⟩
        · rw [i1 j (by omega)]; unfold upd; rw [if_neg (by omega)]
        · by_cases e : i = m
          · subst e
            rw [i1 (4 + i) (by omega)]
            unfold upd
            rw [if_pos rfl]
            refine new ?_
            have := (od_lk k (i + 1) _ _).2 h q
            rw [show (paA B n 44 (orA B n N R 0 i s)).2.2 = (orA B n N R 0 i s).2.2 from st_lf] at this
            exact this
          · exact i2 q i (by omega) h2
      · rw [if_neg c] at h ⊢
        refine ⟨fun j hj => ?_, fun q i h1 h2 => ?_⟩
        · show upd R (4 + m) (tnV B n N 140 s) j = R j
          unfold upd; rw [if_neg (by omega)]
        · have h3 : i < m + 1 := h2
          have e : i = m := by omega
          subst e
          show ∃ ff, ff < c0 ∧ upd R (4 + i) (tnV B n N 140 s) (4 + i) = nI ff
          unfold upd
          rw [if_pos rfl]
          refine new ?_
          have q2 : (piA B n 44 (orA B n N R 0 i s)).2.2.1 = 0 := q
          rw [show (piA B n 44 (orA B n N R 0 i s)).2.2 = (orA B n N R 0 i s).2.2 from pi_lf] at q2
          exact q2
    · rw [if_neg z] at h; exact absurd h z
theorem bo_b01 (b : Bool) : bo (b01 b) := by cases b <;> simp [bo, b01]
theorem si_val {B : Nat → Nat} {n ns c0 c1 c2 : Nat} {N : nm_X} {s : s4_X} (hN : nr_X N c0 c1 c2) (z : (siS B n N ns s).1 = 0) : (1 ≤ (siX B n N ns s).2.1 ∧ (siX B n N ns s).2.1 ≤ 6 ∧ bo ((siX B n N ns s).2.2 2)) ∧ ((siS B n N ns s).2.2.1 = 0 → (∃ pp, pp < c1 ∧ (siX B n N ns s).2.2 0 = nI pp) ∧ (∃ bb, bb < c2 ∧ (siX B n N ns s).2.2 1 = nI bb) ∧ ∀ i, i < (siX B n N ns s).2.1 → ∃ ff, ff < c0 ∧ (siX B n N ns s).2.2 (4 + i) = nI ff) := by
  obtain ⟨a1, a2, a3, a4⟩ := si_al z
  have m16 := odL_m (B := B) (n := n) (N := N) 6 (si6 B n N ns s) 0 (siR B n N ns s) (by omega) a3
  obtain ⟨v1, v2⟩ := od_val hN 7 0 _ _ a3
  refine ⟨⟨by have := m16.1; exact this, m16.2, ?_⟩, fun q => ?_⟩
  · have e : (siX B n N ns s).2.2 2 = siR B n N ns s 2 := v1 2 (by omega)
    rw [e]
    unfold siR
    rw [if_pos rfl]
    exact bo_b01 _
  · rw [a4, show (paA B n 59 (siX B n N ns s).1).2.2 = (siX B n N ns s).1.2.2 from st_lf] at q
    have q6 := (od_lk 7 0 _ _).2 a3 q
    have q4 : (si4 B n N ns s).2.2.1 = 0 := by
      have : (si6 B n N ns s).2.2 = (si4 B n N ns s).2.2 := by unfold si6; exact (st_lf).trans pi_lf
      rw [this] at q6; exact q6
    have q3 : (si3 B n N ns s).2.2.1 = 0 := (tn_lf q4).1
    have q2 : (tnA B n N 143 (si1 ns s)).2.2.1 = 0 := by
      have : (si3 B n N ns s).2.2 = (tnA B n N 143 (si1 ns s)).2.2 := st_lf
      rw [this] at q3; exact q3
    have z6 : (si6 B n N ns s).1 = 0 := by
      by_cases c : (si6 B n N ns s).1 = 0
      · exact c
      · have a3' : (odL B n N 7 (si6 B n N ns s) 0 (siR B n N ns s)).1.1 = 0 := a3
        rw [od_dead c] at a3'; exact a3'
    have z4 : (si4 B n N ns s).1 = 0 := pi_al (st_al z6).1
    have z3 : (si3 B n N ns s).1 = 0 := (tn_al z4).1
    have z2 : (tnA B n N 143 (si1 ns s)).1 = 0 := (st_al z3).1
    have e0 : (siX B n N ns s).2.2 0 = siR B n N ns s 0 := v1 0 (by omega)
    have e1 : (siX B n N ns s).2.2 1 = siR B n N ns s 1 := v1 1 (by omega)
    refine ⟨?_, ?_, fun i hi => v2 q i (Nat.zero_le _) hi⟩
    · obtain ⟨j, b1, b2, b3⟩ := tn_val z2 q2
      exact ⟨_, (hN j b1).2.1 b2, by rw [e0]; unfold siR; rw [if_neg (by decide), if_neg (by decide)]; exact b3⟩
    · obtain ⟨j, b1, b2, b3⟩ := tn_val z4 q4
      exact ⟨_, (hN j b1).2.2 b2, by rw [e1]; unfold siR; rw [if_neg (by decide), if_pos rfl]; exact b3⟩
