/-! read: the reference's steps -/
def vkB (x : Nat) : Bool := decide (x ≤ 4) || (sgB x || (decide (128 ≤ x) && decide (x < 150)))
def kiL : List Nat := [0, 2, 3, 1, 59, 58, 40, 41, 43, 45, 42, 4, 60, 61, 44, 123, 125, 91, 93, 0, 140, 135, 141, 142, 143, 144, 145, 146, 147, 148, 149, 136, 128, 129, 130, 131, 132, 133, 134, 137, 138, 139]
theorem ki_ok : ∀ x, x < 256 → vkB x = true → kmF x < 42 ∧ kiL.getD (kmF x) 0 = x := by decide +kernel
theorem km_eq {x k : Nat} (hx : x < 256) (hk : k < 256) (vx : vkB x = true) (vk : vkB k = true) : kmF x = kmF k ↔ x = k :=
  ⟨fun h => by rw [← (ki_ok x hx vx).2, h, (ki_ok k hk vk).2], fun h => by rw [h]⟩
theorem wd_vk (B : Nat → Nat) (i e : Nat) : ∀ r w, w + r = 22 → wdF B i e r w = 2 ∨ (128 ≤ wdF B i e r w ∧ wdF B i e r w < 150)
  | 0, _, _ => Or.inl rfl
  | r + 1, w, h => by
    rw [wdF]; split
    · exact Or.inr ⟨by omega, by omega⟩
    · exact wd_vk B i e r (w + 1) (by omega)
theorem kn_vk (B : Nat → Nat) (n t : Nat) : vkB (knF B n t) = true := by
  have q := wd_vk B (psF B n t) (teF B n (psF B n t)) 22 0 rfl
  unfold knF kdF vkB
  repeat' split
  all_goals first
    | rfl
    | (rcases q with q | q
       · rw [q]; rfl
       · rw [decide_eq_true q.1, decide_eq_true q.2]; simp)
    | (rw [show sgB (B (psF B n t)) = true by assumption]; simp)
theorem ps_lt {B : Nat → Nat} {n t : Nat} (h : ¬ knF B n t = 0) : psF B n t < psF B n (t + 1) := by
  have h1 : psF B n t < n := by
    by_cases z : n ≤ psF B n t
    · exact absurd (by unfold knF kdF; rw [if_pos z]) h
    · omega
  have h2 := teF_le (B := B) (n := n) (i := psF B n t) (by omega)
  have h3 := skF_le (B := B) (n := n) (i := teF B n (psF B n t)) h2.2.1
  have := h2.2.2 h1
  rw [psF]; omega
theorem sp_in {B : Nat → Nat} {n : Nat} : ∀ r i t, i + r = 401 → i ≤ t → t + 1 < spF B n r i → ¬ (knF B n t = 0 ∨ knF B n t = 1)
  | 0, i, t, _, h1, h2 => by rw [spF] at h2; omega
  | r + 1, i, t, h, h1, h2 => by
    rw [spF] at h2
    by_cases z : knF B n i = 0 ∨ knF B n i = 1
    · rw [if_pos z] at h2; omega
    · rw [if_neg z] at h2
      by_cases e : t = i
      · subst e; exact z
      · exact sp_in r (i + 1) t (by omega) (by omega) h2
theorem ps_mono {B : Nat → Nat} {n i : Nat} : ∀ j, i < j → j < spF B n 401 0 → psF B n i < psF B n j
  | 0, h, _ => by omega
  | j + 1, h, hj => by
    have q := ps_lt (B := B) (n := n) (t := j) (fun z => sp_in 401 0 j rfl (Nat.zero_le _) hj (Or.inl z))
    by_cases e : i = j
    · subst e; exact q
    · exact Nat.lt_trans (ps_mono j (by omega) (by omega)) q
/-- the reference stands at s -/
def rr (B : Nat → Nat) (n : Nat) (J : st_I) (M : st_L) (s : s4_X) : Prop := (n ≤ 2000 ∧ (∀ j, B j < 256) ∧ ∀ i, i < spF B n 401 0 → J 61 i = nI (kmF (knF B n i)) ∧ J 62 i = nI (psF B n i) ∧ (knF B n i = 3 → J 63 i = nI (vlF B n i)) ∧ (knF B n i = 2 → M 64 i = lN (nkF 27 B (psF B n i) (teF B n (psF B n i) - psF B n i)))) ∧ s.2.1 < spF B n 401 0 ∧ J 58 11 = nI s.2.1 ∧ J 58 13 = nI s.1 ∧ s.1 ≤ 2 ∧ (s.1 ≠ 0 → J 58 14 = nI (psF B n s.2.1)) ∧ (s.1 = 0 → J 58 15 = nI s.2.2.1 ∧ s.2.2.1 ≤ 5 ∧ (s.2.2.1 ≠ 0 → J 58 16 = nI (psF B n s.2.2.2) ∧ s.2.2.2 < spF B n 401 0))
def r58 (I J : st_I) : Prop := (∀ q, q ≠ 58 → J q = I q) ∧ ∀ j, j ≠ 11 → j < 13 ∨ 16 < j → J 58 j = I 58 j
theorem r58.rf {I : st_I} : r58 I I := ⟨fun _ _ => rfl, fun _ _ _ => rfl⟩
theorem r58.tr {I J K : st_I} (h : r58 I J) (g : r58 J K) : r58 I K := ⟨fun q a => (g.1 q a).trans (h.1 q a), fun j a b => (g.2 j a b).trans (h.2 j a b)⟩
theorem rr.base {B : Nat → Nat} {n : Nat} {J K : st_I} {M : st_L} {s : s4_X} (H : rr B n J M s) (h : r58 J K) : n ≤ 2000 ∧ (∀ j, B j < 256) ∧ ∀ i, i < spF B n 401 0 → K 61 i = nI (kmF (knF B n i)) ∧ K 62 i = nI (psF B n i) ∧ (knF B n i = 3 → K 63 i = nI (vlF B n i)) ∧ (knF B n i = 2 → M 64 i = lN (nkF 27 B (psF B n i) (teF B n (psF B n i) - psF B n i))) := by
  rw [h.1 61 (by decide), h.1 62 (by decide), h.1 63 (by decide)]; exact H.1
theorem rr.lt {B : Nat → Nat} {n : Nat} {J : st_I} {M : st_L} {s : s4_X} (H : rr B n J M s) : s.2.1 < 401 ∧ vp_in (nI s.2.1) 403 ∧ J 58 11 = nI s.2.1 ∧ J 61 s.2.1 = nI (kmF (knF B n s.2.1)) ∧ J 62 s.2.1 = nI (psF B n s.2.1) ∧ knF B n s.2.1 < 256 ∧ kmF (knF B n s.2.1) < 42 := by
  have := (sp_ok (B := B) (n := n) 401 0 rfl).2.1
  have h := H.2.1
  have k := kdF_lt H.1.2.1 n (psF B n s.2.1) (teF B n (psF B n s.2.1))
  exact ⟨by omega, vp_in_nI (by omega) (by decide), H.2.2.1, (H.1.2.2 _ h).1, (H.1.2.2 _ h).2.1, k, (ki_ok _ k (kn_vk B n s.2.1)).1⟩
theorem m_is {d k : Nat} {B : Nat → Nat} {n : Nat} {J : st_I} {M : st_L} {s : s4_X} {F : Int32 → st_I → st_L → Prop} {c : Int32} (H : rr B n J M s) (hc : c = nI (kmF k)) (hk : k < 256) (vk : vkB k = true) (h : F (b01 (decide (s.1 = 0 ∧ knF B n s.2.1 = k))) J M) : EI d mX12_is [.ref 58, .int c] J M F := by
  obtain ⟨l1, l2, l3, l4, l5, l6, l7⟩ := H.lt
  refine sgX12_is_0 ?_
  by_cases z : s.1 = 0
  · rw [show J 58 13 = 0 by rw [H.2.2.2.1, z]; exact nI_0, if_pos rfl, l3, nI_clamp (by omega), l4, hc]
    refine ⟨l2, ?_⟩
    have kl := (ki_ok k hk vk).1
    by_cases y : knF B n s.2.1 = k
    · rw [if_pos (by rw [y])]
      rw [decide_eq_true (show s.1 = 0 ∧ knF B n s.2.1 = k from ⟨z, y⟩)] at h; exact h
    · rw [if_neg (fun q => y ((km_eq l6 hk (kn_vk B n _) vk).mp ((nI_eq (by omega) (by omega)).mp q)))]
      rw [decide_eq_false (fun q => y q.2)] at h; exact h
  · rw [if_neg (by rw [H.2.2.2.1]; exact nI_ne0 (by omega) (by have := H.2.2.2.2.1; omega))]
    rw [decide_eq_false (fun q => z q.1)] at h; exact h
def fiA (k : Nat) (s : s4_X) : s4_X := if s.1 = 0 then (k, s.2) else s
theorem m_fail {d k : Nat} {B : Nat → Nat} {n : Nat} {J : st_I} {M : st_L} {s : s4_X} {F : st_I → st_L → Prop} (H : rr B n J M s) (hk : 1 ≤ k) (hk2 : k ≤ 2) (h : ∀ K, rr B n K M (fiA k s) → r58 J K → F K M) : EV d mX12_fail [.ref 58, .int (nI k)] J M F := by
  obtain ⟨l1, l2, l3, l4, l5, l6, l7⟩ := H.lt
  refine sgX12_fail_0 ?_
  unfold fiA at h
  by_cases z : s.1 = 0
  · rw [if_pos z] at h
    rw [show J 58 13 = 0 by rw [H.2.2.2.1, z]; exact nI_0, if_pos (by decide), l3, nI_clamp (by omega), l5]
    have hx : r58 J (u_I (u_I J 58 13 (nI k)) 58 14 (nI (psF B n s.2.1))) := ⟨fun q hq => by rw [u_I_ne _ _ hq, u_I_ne _ _ hq], fun j a b => by simp only [u_I, if_true]; rw [if_neg (by omega), if_neg (by omega)]⟩
    refine ⟨l2, h _ ⟨H.base hx, H.2.1, by simp [u_I]; exact l3, by simp [u_I], hk2, fun _ => by simp [u_I], fun q => ?_⟩ hx⟩
    have : k = 0 := q
    omega
  · rw [if_neg z] at h
    rw [if_neg (by rw [H.2.2.2.1]; exact nI_nle (by omega) (by have := H.2.2.2.2.1; omega))]
    exact h J H r58.rf
theorem m_goesOn {d : Nat} {B : Nat → Nat} {n : Nat} {J : st_I} {M : st_L} {s : s4_X} {F : st_I → st_L → Prop} (H : rr B n J M s) (z : s.1 = 0) (hk : 2 ≤ knF B n s.2.1) (h : ∀ K, rr B n K M (stA true s) → r58 J K → F K M) : EV (d + 1) mX12_goesOn [.ref 58] J M F := by
  obtain ⟨l1, l2, l3, l4, l5, l6, l7⟩ := H.lt
  refine sgX12_goesOn_0 ?_
  unfold stA at h
  rw [if_pos z, if_pos rfl] at h
  rw [l3]
  by_cases y : 400 ≤ s.2.1
  · rw [if_pos y] at h
    rw [if_pos (by rw [show s.2.1 = 400 by omega]; rfl)]
    refine m_fail (k := 2) H (by decide) (by decide) (fun K hK hx => ?_)
    unfold fiA at hK
    rw [if_pos z] at hK
    exact h K hK hx
  · rw [if_neg y] at h
    rw [if_neg (fun q => y (by have := (nI_eq (b := 400) (by omega) (by decide)).mp q; omega)), nI_1]
    have hx : r58 J (u_I J 58 11 (nI (s.2.1 + 1))) := ⟨fun q hq => by rw [u_I_ne _ _ hq], fun j a b => by simp only [u_I, if_true]; rw [if_neg a]⟩
    obtain ⟨g1, g2, g3, g4, g5, g6, g7⟩ := H
    refine h _ ⟨rr.base ⟨g1, g2, g3, g4, g5, g6, g7⟩ hx, (sp_ok (B := B) (n := n) 401 0 rfl).2.2.2 _ (Nat.zero_le _) g2 (by omega) (by omega), by simp [u_I], ?_, Nat.zero_le _, fun q => absurd rfl q, fun _ => ?_⟩ hx
    · have e : (u_I J 58 11 (nI (s.2.1 + 1))) 58 13 = J 58 13 := by simp [u_I]
      rw [e, g4, z]
    · have e5 : (u_I J 58 11 (nI (s.2.1 + 1))) 58 15 = J 58 15 := by simp [u_I]
      have e6 : (u_I J 58 11 (nI (s.2.1 + 1))) 58 16 = J 58 16 := by simp [u_I]
      rw [e5, e6]; exact g7 z
