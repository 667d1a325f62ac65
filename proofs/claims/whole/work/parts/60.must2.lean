/-! read: the reference's further steps -/
theorem m_must {d k : Nat} {B : Nat → Nat} {n : Nat} {J : st_I} {M : st_L} {s : s4_X} {F : st_I → st_L → Prop} {c : Int32} (H : rr B n J M s) (hc : c = nI (kmF k)) (hk0 : 2 ≤ k) (hk : k < 256) (vk : vkB k = true) (h : ∀ K, rr B n K M (paA B n k s) → r58 J K → F K M) : EV (d + 2) mX12_must [.ref 58, .int c] J M F := by
  refine sgX12_must_0 (m_is H hc hk vk ?_)
  unfold paA stA at h
  by_cases z : s.1 = 0
  · rw [if_pos z] at h
    by_cases y : knF B n s.2.1 = k
    · rw [decide_eq_true (show s.1 = 0 ∧ knF B n s.2.1 = k from ⟨z, y⟩), if_neg (by decide)]
      refine m_goesOn H z (by omega) (fun K hK hx => h K ?_ hx)
      unfold stA at hK
      rw [if_pos z, if_pos rfl] at hK
      rw [if_pos (decide_eq_true y)]; exact hK
    · rw [decide_eq_false (fun q => y q.2), if_pos (by decide)]
      refine m_fail (k := 1) H (by decide) (by decide) (fun K hK hx => h K ?_ hx)
      unfold fiA at hK
      rw [if_pos z] at hK
      rw [if_neg (by rw [decide_eq_false y]; decide)]; exact hK
  · rw [decide_eq_false (fun q => z q.1), if_pos (by decide)]
    refine m_fail (k := 1) H (by decide) (by decide) (fun K hK hx => h K ?_ hx)
    unfold fiA at hK
    rw [if_neg z] at hK
    rw [if_neg z]; exact hK
/-- a FAULT of 3 to 5 at a TOKEN not ahead of the last such -/
theorem m_wrong {d k tok : Nat} {B : Nat → Nat} {n : Nat} {J : st_I} {M : st_L} {s : s4_X} {F : st_I → st_L → Prop} (H : rr B n J M s) (z : s.1 = 0) (hk : 1 ≤ k) (hk2 : k ≤ 5) (ht : tok < spF B n 401 0) (ho : s.2.2.1 = 0 ∨ s.2.2.2 < tok ∨ (s.2.2.2 = tok ∧ s.2.2.1 ≤ k)) (h : ∀ K, rr B n K M (laA true k tok s) → r58 J K → F K M) : EV d mX12_wrong [.ref 58, .int (nI k), .int (nI tok)] J M F := by
  obtain ⟨g1, g2, g3, g4, g5, g6, g7⟩ := id H
  obtain ⟨e5, l5, e6⟩ := g7 z
  have s401 := (sp_ok (B := B) (n := n) 401 0 rfl).2.1
  have p62 := (g1.2.2 tok ht).2.1
  have hpn : ∀ i, psF B n i ≤ n := psF_le B n
  have hn := g1.1
  refine sgX12_wrong_0 ?_
  rw [show J 58 13 = 0 by rw [g4, z]; exact nI_0, if_neg (by decide), nI_clamp (by omega), p62]
  refine ⟨vp_in_nI (by omega) (by decide), ?_⟩
  unfold laA at h
  rw [if_pos rfl] at h
  by_cases y : s.2.2.1 = 0
  · rw [if_pos y] at h
    rw [if_pos (by rw [e5, y]; exact nI_0)]
    have hx : r58 J (u_I (u_I J 58 15 (nI k)) 58 16 (nI (psF B n tok))) := ⟨fun q hq => by rw [u_I_ne _ _ hq, u_I_ne _ _ hq], fun j a b => by simp only [u_I, if_true]; rw [if_neg (by omega), if_neg (by omega)]⟩
    refine h _ ⟨H.base hx, g2, by simp [u_I]; exact g3, by simp [u_I]; exact g4, g5, fun q => absurd z q, fun _ => ⟨by simp [u_I], hk2, fun _ => ⟨by simp [u_I], ht⟩⟩⟩ hx
  · rw [if_neg y] at h
    obtain ⟨e7, l7⟩ := e6 y
    rw [if_neg (by rw [e5]; exact nI_ne0 (by omega) (by omega)), e7]
    have fin := h J H r58.rf
    rcases ho with q | q | ⟨q, q2⟩
    · exact absurd q y
    · rw [if_pos (nI_lt (ps_mono tok q ht) (by have := hpn tok; omega))]; exact fin
    · rw [q, if_neg (nI_nlt (Nat.le_refl _) (by have := hpn tok; omega)), if_pos rfl, e5, if_neg (nI_nlt q2 (by omega))]; exact fin
/-- a later FAULT lies behind -/
def lok (s : s4_X) : Prop := s.1 = 0 → s.2.2.1 ≠ 0 → s.2.2.2 < s.2.1
theorem m_told {d most : Nat} {B : Nat → Nat} {n : Nat} {J : st_I} {M : st_L} {s : s4_X} {F : Int32 → st_I → st_L → Prop} (H : rr B n J M s) (hl : lok s) (hm : most < 10000) (h : ∀ K, rr B n K M (inA B n most s) → r58 J K → ((inA B n most s).1 = 0 → F (nI (ivA B n s)) K M) ∧ ∀ x, ¬ (inA B n most s).1 = 0 → F x K M) : EI (d + 2) mX12_told [.ref 58, .int (nI most)] J M F := by
  obtain ⟨l1, l2, l3, l4, l5, l6, l7⟩ := H.lt
  refine sgX12_told_0 ?_
  by_cases z : s.1 = 0
  · rw [if_neg (show ¬ 0 < J 58 13 by rw [H.2.2.2.1, z]; decide)]
    refine m_is (k := 3) H (by decide) (by decide) (by decide) ?_
    by_cases y : knF B n s.2.1 = 3
    · rw [decide_eq_true (show s.1 = 0 ∧ knF B n s.2.1 = 3 from ⟨z, y⟩), if_neg (by decide), l3, nI_clamp (by omega), (H.1.2.2 _ H.2.1).2.2.1 y]
      refine ⟨l2, ?_⟩
      have v := vl_lt y
      have ep : paA B n 3 s = stA true s := by unfold paA; rw [decide_eq_true y]
      by_cases w : vlF B n s.2.1 ≤ most
      · rw [if_pos (nI_le w (by omega))]
        refine m_goesOn H z (by omega) (fun K hK hx => ?_)
        have ei : inA B n most s = stA true s := by
          unfold inA
          rw [decide_eq_false (fun c => by omega), ep]; rfl
        rw [ei] at h
        obtain ⟨f1, f2⟩ := h K hK hx
        by_cases u : (stA true s).1 = 0
        · have ev : ivA B n s = vlF B n s.2.1 := by unfold ivA; rw [ep, if_pos ⟨z, u⟩]
          rw [ev] at f1; exact f1 u
        · exact f2 _ u
      · rw [if_neg (nI_ge (by omega) (by omega))]
        refine m_wrong (k := 5) H z (by decide) (by decide) H.2.1 ?_ (fun K hK hx => ?_)
        · by_cases u : s.2.2.1 = 0
          · exact Or.inl u
          · exact Or.inr (Or.inl (hl z u))
        · have el : (laA true 5 s.2.1 s).1 = 0 ∧ (laA true 5 s.2.1 s).2.1 = s.2.1 := by
            unfold laA; rw [if_pos rfl]; split
            · exact ⟨z, rfl⟩
            · exact ⟨z, rfl⟩
          refine m_goesOn hK el.1 (by rw [el.2]; omega) (fun K2 hK2 hx2 => ?_)
          by_cases u : (stA true s).1 = 0
          · have ei : inA B n most s = stA true (laA true 5 s.2.1 s) := by
              unfold inA
              rw [ep, decide_eq_true (show s.1 = 0 ∧ (stA true s).1 = 0 ∧ most < vlF B n s.2.1 from ⟨z, u, by omega⟩)]
              unfold stA at u ⊢
              rw [if_pos z, if_pos rfl] at u
              rw [if_pos el.1, if_pos rfl, el.2, if_pos z]
              by_cases t : 400 ≤ s.2.1
              · rw [if_pos t] at u; exact absurd (show (2 : Nat) = 0 from u) (by decide)
              · rw [if_neg t, if_neg t]
                unfold laA
                rw [if_pos rfl, if_pos rfl]
                by_cases q : s.2.2.1 = 0
                · simp [q]
                · simp [q]
            rw [ei] at h
            have f := h K2 hK2 (hx.tr hx2)
            have ev : ivA B n s = vlF B n s.2.1 := by unfold ivA; rw [ep, if_pos ⟨z, u⟩]
            rw [ev] at f
            by_cases t : (stA true (laA true 5 s.2.1 s)).1 = 0
            · exact f.1 t
            · exact f.2 _ t
          · have t : 400 ≤ s.2.1 := by
              by_cases t : 400 ≤ s.2.1
              · exact t
              · exfalso; apply u; unfold stA; rw [if_pos z, if_pos rfl, if_neg t]
            have ei : inA B n most s = (2, s.2) := by
              unfold inA
              rw [ep, decide_eq_false (fun c => u c.2.1)]
              unfold laA stA
              rw [if_pos z, if_pos rfl, if_pos t]; rfl
            have e2 : stA true (laA true 5 s.2.1 s) = (2, (laA true 5 s.2.1 s).2) := by
              unfold stA
              rw [if_pos el.1, if_pos rfl, el.2, if_pos t]
            rw [e2] at hK2
            rw [ei] at h
            refine (h K2 ?_ (hx.tr hx2)).2 _ (show ¬ (2 : Nat) = 0 by decide)
            obtain ⟨b1, b2, b3, b4, b5, b6, b7⟩ := hK2
            exact ⟨b1, H.2.1, by rw [b3]; exact congrArg nI el.2, b4, b5, fun q => by rw [b6 q]; exact congrArg (fun a => nI (psF B n a)) el.2, fun q => absurd (show (2 : Nat) = 0 from q) (by decide)⟩
    · rw [decide_eq_false (fun q => y q.2), if_pos (by decide)]
      refine m_fail (k := 1) H (by decide) (by decide) (fun K hK hx => ?_)
      have ei : inA B n most s = fiA 1 s := by
        have ep : paA B n 3 s = (1, s.2) := by unfold paA stA; rw [if_pos z, if_neg (by rw [decide_eq_false y]; decide)]
        unfold inA fiA laA
        rw [ep, if_pos z, decide_eq_false (fun c => absurd (show (1 : Nat) = 0 from c.2.1) (by decide))]; rfl
      rw [ei] at h
      refine (h K hK hx).2 _ ?_
      unfold fiA; rw [if_pos z]; exact (show ¬ (1 : Nat) = 0 by decide)
  · rw [if_pos (show 0 < J 58 13 by rw [H.2.2.2.1]; exact nI_lt (a := 0) (by omega) (by have := H.2.2.2.2.1; omega))]
    refine m_fail (k := 1) H (by decide) (by decide) (fun K hK hx => ?_)
    have ei : inA B n most s = fiA 1 s := by
      have ep : paA B n 3 s = s := by unfold paA stA; rw [if_neg z]
      unfold inA fiA laA
      rw [ep, if_neg z, decide_eq_false (fun c => z c.1)]; rfl
    rw [ei] at h
    refine (h K hK hx).2 _ ?_
    unfold fiA; rw [if_neg z]; exact z
