/-! read: a BOW's tell, in the reference -/
def mb (sd g : Nat) (I J : st_I) : Prop := (∀ q, q < 58 ∨ (58 < q ∧ q < 67) ∨ (68 < q ∧ q < 77) ∨ 78 < q → J q = I q) ∧ (∀ j, j ≠ 11 → j ≠ 20 → j < 13 ∨ 16 < j → J 58 j = I 58 j) ∧ (∀ j, j ≠ sd → J 77 j = I 77 j) ∧ ∀ j, j < g ∨ g + 3 ≤ j → J 78 j = I 78 j
theorem mb.rf {sd g : Nat} {I : st_I} : mb sd g I I := ⟨fun _ _ => rfl, fun _ _ _ _ => rfl, fun _ _ => rfl, fun _ _ => rfl⟩
theorem mb.tr {sd g : Nat} {I J K : st_I} (h : mb sd g I J) (k : mb sd g J K) : mb sd g I K := ⟨fun q a => (k.1 q a).trans (h.1 q a), fun j a b c => (k.2.1 j a b c).trans (h.2.1 j a b c), fun j a => (k.2.2.1 j a).trans (h.2.2.1 j a), fun j a => (k.2.2.2 j a).trans (h.2.2.2 j a)⟩
theorem r58.mb {sd g : Nat} {I J : st_I} (h : r58 I J) : mb sd g I J := ⟨fun q a => h.1 q (by omega), fun j a _ c => h.2 j a c, fun j _ => by rw [h.1 77 (by decide)], fun j _ => by rw [h.1 78 (by decide)]⟩
theorem mb_78 {sd g i : Nat} {I : st_I} {x : Int32} (h : i < 3) : mb sd g I (u_I I 78 (g + i) x) := ⟨fun q a => by rw [u_I_ne _ _ (by omega)], fun j _ _ _ => by rw [u_I_ne _ _ (by decide)], fun j _ => by rw [u_I_ne _ _ (by decide)], fun j a => by simp only [u_I, if_true]; rw [if_neg (by omega)]⟩
theorem mb_77 {sd g : Nat} {I : st_I} {x : Int32} : mb sd g I (u_I I 77 sd x) := ⟨fun q a => by rw [u_I_ne _ _ (by omega)], fun j _ _ _ => by rw [u_I_ne _ _ (by decide)], fun j a => by simp only [u_I, if_true, if_neg a], fun j _ => by rw [u_I_ne _ _ (by decide)]⟩
theorem x66.mb {sd g : Nat} {I J : st_I} (h : x66 I J) : mb sd g I J := ⟨fun q a => h.1 q (by omega) (by omega) (by omega), fun j a b c => h.2 j a b c, fun j _ => by rw [h.1 77 (by decide) (by decide) (by decide)], fun j _ => by rw [h.1 78 (by decide) (by decide) (by decide)]⟩
theorem bo_al {B : Nat → Nat} {n : Nat} {u : s4_X} (h : (boU B n u).1 = 0) : u.1 = 0 := pi_al (in_al h).1
theorem bo_dead {B : Nat → Nat} {n : Nat} {u : s4_X} (h : ¬ u.1 = 0) : boU B n u = u := by unfold boU; rw [pi_dead h]; exact in_dead h
theorem bo_lf {B : Nat → Nat} {n : Nat} {u : s4_X} (h : (boU B n u).2.2.1 = 0) : u.2.2.1 = 0 := by
  have := in_lf h
  rwa [show (piA B n 45 u).2.2 = u.2.2 from pi_lf] at this
/-- one of the three numbers -/
theorem m_bow_1 {d g i tok : Nat} {B : Nat → Nat} {n : Nat} {J : st_I} {M : st_L} {u : s4_X} {F : st_I → st_L → Prop} (hg : g + 3 ≤ 24) (hi : i < 3) (H : rr B n J M u) (hl : lok u) (h : ∀ (K : st_I) (x : Int32), rr B n K M (boU B n u) → r58 J K → ((boU B n u).1 = 0 → x = boV B n u) → TV (d + 4) mX12_tellBow 31 [.ref 58, .int (nI g), .int (nI tok), .int (nI (i + 1)), .null, .null] [] (u_I K 78 (g + i) x) M F) : TV (d + 4) mX12_tellBow 31 [.ref 58, .int (nI g), .int (nI tok), .int (nI i), .null, .null] [] J M F := by
  have last : ∀ (K : st_I) (b : Bool), rr B n K M (piA B n 45 u) → r58 J K → ((piA B n 45 u).1 = 0 → b = foB B n 45 u) → TV (d + 4) mX12_tellBow 68 [.ref 58, .int (nI g), .int (nI tok), .int (nI i), .int (b01 b), .null] [] K M F := by
    intro K b hK hx hb
    refine sgX12_tellBow_68 (m_tolds (most := 9) hK (lok_pi hl) (by decide) (fun K2 y hK2 x2 e2 => ?_))
    rw [nI_add, nI_clamp (by omega), nI_1]
    refine ⟨vp_in_nI (by omega) (by decide), h K2 _ hK2 (hx.tr x2) (fun z => ?_)⟩
    have a := (in_al z).1
    rw [hb a, e2 z]; rfl
  refine sgX12_tellBow_31 ?_
  rw [if_neg (show ¬ (3 : Int32) ≤ nI i from nI_ge (b := 3) hi (by decide)), H.2.2.2.1]
  by_cases z : u.1 = 0
  · rw [if_pos (by rw [z]; exact nI_0)]
    refine m_is (k := 45) H (by decide) (by decide) (by decide) ?_
    by_cases y : knF B n u.2.1 = 45
    · rw [decide_eq_true (show u.1 = 0 ∧ knF B n u.2.1 = 45 from ⟨z, y⟩), if_neg (by decide)]
      refine sgX12_tellBow_57 ?_
      rw [if_neg (by decide)]
      have ep : piA B n 45 u = stA true u := by unfold piA paA; rw [if_pos y, decide_eq_true y]
      refine m_goesOn H z (by omega) (fun K hK hx => last K true (by rw [ep]; exact hK) hx (fun a => ?_))
      exact (decide_eq_true ⟨z, y, by unfold piA at a; rw [if_pos y] at a; exact a⟩ : foB B n 45 u = true).symm
    · rw [decide_eq_false (fun q => y q.2), if_pos (by decide)]
      refine sgX12_tellBow_57 ?_
      rw [if_pos (by decide)]
      have ep : piA B n 45 u = u := by unfold piA; rw [if_neg y]
      exact last J false (by rw [ep]; exact H) r58.rf (fun _ => (decide_eq_false (fun q => y q.2.1) : foB B n 45 u = false).symm)
  · rw [if_neg (nI_ne0 (Nat.pos_of_ne_zero z) (by have := H.2.2.2.2.1; omega))]
    refine sgX12_tellBow_57 ?_
    rw [if_pos (by decide)]
    have ep : piA B n 45 u = u := pi_dead z
    exact last J false (by rw [ep]; exact H) r58.rf (fun a => absurd (pi_al a) z)
