/-! read: an E in the reference, as a whole -/
theorem km_un0 : ∀ k, k < 256 → vkB k = false ∨ k = 3 ∨ (128 ≤ k ∧ k < 140) ∨ (¬ kmF k = 2 ∧ ¬ kmF k = 21 ∧ ¬ kmF k = 31 ∧ (kmF k < 32 ∨ 41 < kmF k)) := by decide +kernel
theorem km_un {k : Nat} (h : k < 256) (v : vkB k = true) (h3 : k ≠ 3) (hv : ¬ (128 ≤ k ∧ k < 140)) : ¬ kmF k = 2 ∧ ¬ kmF k = 21 ∧ ¬ kmF k = 31 ∧ (kmF k < 32 ∨ 41 < kmF k) := by
  rcases km_un0 k h with q | q | q | q
  · rw [v] at q; exact absurd q (by decide)
  · exact absurd q h3
  · exact absurd q hv
  · exact q
theorem m_unit {d sd : Nat} {B : Nat → Nat} {n : Nat} {s : s4_X} {e : e5_X} {J : st_I} {M : st_L} {F : st_I → st_L → Prop} (hsd : sd ≤ 1) (H : rr B n J M s) (hs : s.1 = 0) (HE : rE sd J e) (hc : e.2.2.2.2 < 420) (nb : ¬ (knF B n s.2.1 = 40 ∨ knF B n s.2.1 = 91)) (h : ∀ K, rr B n K M (uA B n s e).1 → me sd J K → ((uA B n s e).1.1 = 0 → rE sd K (uA B n s e).2.1) → F K M) : EV (d + 2) mX12_unit [.ref 58] J M F := by
  obtain ⟨l1, l2, l3, l4, l5, l6, l7⟩ := H.lt
  have v := kn_vk B n s.2.1
  refine sgX12_unit_0 ?_
  rw [l3, nI_clamp (by omega), l4]
  refine ⟨l2, ?_⟩
  unfold uA at h
  rw [if_neg nb] at h
  -- behind what is written
  have fin : ∀ (x k v : Int32) (u : s4_X), 2 ≤ knF B n s.2.1 → iv_code x k v → (∀ K, rr B n K M (stA true s) → me sd J K → rE sd K (wrE x e) → F K M) → EV (d + 1) mX12_emit [.ref 58, .int k, .int v] J M (fun I1 L1 => TV (d + 2) mX12_unit 120 [.ref 58, .null] [] I1 L1 F) := by
    intro x k v u hk hi hF
    refine m_emit hsd H hs HE hc hi (fun K hK hE hx => ?_)
    refine sgX12_unit_120 ?_
    rw [show K 58 13 = 0 by rw [hK.2.2.2.1, hs]; exact nI_0, if_pos rfl]
    exact m_goesOn hK hs hk (fun K2 hK2 hx2 => hF K2 hK2 (hx.tr hx2.me) (hE.r58 hx2))
  by_cases k3 : knF B n s.2.1 = 3
  · rw [if_neg (by omega)] at h
    rw [k3, if_pos (by decide), (H.1.2.2 _ H.2.1).2.2.1 k3]
    refine ⟨l2, ?_⟩
    have vl := vl_lt k3
    have ep : paA B n 3 s = stA true s := by unfold paA; rw [decide_eq_true k3]
    have ei : inA B n 9999 s = stA true s := by
      unfold inA
      rw [decide_eq_false (fun c => by omega), ep]; rfl
    rw [ei] at h
    refine fin (nI (vlF B n s.2.1)) 0 (nI (vlF B n s.2.1)) s (by omega) (Or.inl ⟨rfl, rfl, _, by omega, rfl⟩) (fun K hK hx hE => h K hK hx (fun z => ?_))
    have ev : ivA B n s = vlF B n s.2.1 := by unfold ivA; rw [ep, if_pos ⟨hs, z⟩]
    rw [ev]; exact hE
  by_cases vv : 128 ≤ knF B n s.2.1 ∧ knF B n s.2.1 < 140
  · rw [if_pos vv] at h
    have one : ∀ i, i < 12 → knF B n s.2.1 = 128 + i → ∀ w : Int32, w = nI i → EV (d + 1) mX12_emit [.ref 58, .int 1, .int w] J M (fun I1 L1 => TV (d + 2) mX12_unit 120 [.ref 58, .null] [] I1 L1 F) := by
      intro i hi ei w hw
      subst hw
      refine fin (-(nI (knF B n s.2.1))) 1 (nI i) s (by omega) (Or.inr (Or.inl ⟨rfl, i, hi, rfl, by rw [ei]⟩)) (fun K hK hx hE => h K hK hx (fun _ => hE))
    obtain ⟨i, hi, ei⟩ : ∃ i, i < 12 ∧ knF B n s.2.1 = 128 + i := ⟨knF B n s.2.1 - 128, by omega, by omega⟩
    have o := one i hi ei
    rw [ei]
    have hi2 : i = 0 ∨ i = 1 ∨ i = 2 ∨ i = 3 ∨ i = 4 ∨ i = 5 ∨ i = 6 ∨ i = 7 ∨ i = 8 ∨ i = 9 ∨ i = 10 ∨ i = 11 := by omega
    rcases hi2 with rfl | rfl | rfl | rfl | rfl | rfl | rfl | rfl | rfl | rfl | rfl | rfl
    iterate 7
      · rw [if_neg (by decide), if_neg (by decide), if_neg (by decide)]
        exact o _ (by decide)
    · rw [if_neg (by decide), if_pos (by decide)]
      refine sgX12_unit_56 ?_
      rw [if_pos (by decide)]; exact o _ (by decide)
    · rw [if_neg (by decide), if_pos (by decide)]
      refine sgX12_unit_56 ?_
      rw [if_neg (by decide), if_pos (by decide)]; exact o _ (by decide)
    iterate 3
      · rw [if_neg (by decide), if_neg (by decide), if_pos (by decide)]
        refine sgX12_unit_56 ?_
        rw [if_neg (by decide), if_neg (by decide), if_neg (by decide), if_neg (by decide)]; exact o _ (by decide)
  · rw [if_neg vv] at h
    obtain ⟨u1, u2, u3, u4⟩ := km_un l6 v k3 vv
    have u5 : kmF (knF B n s.2.1) < 32 := by omega
    rw [if_neg (fun q => u1 (by exact (nI_eq (b := 2) (by omega) (by decide)).mp q)), if_pos (by exact nI_lt (b := 32) u5 (by decide))]
    refine sgX12_unit_56 ?_
    rw [if_neg (fun q => u2 (by exact (nI_eq (b := 21) (by omega) (by decide)).mp q)), if_neg (fun q => u3 (by exact (nI_eq (b := 31) (by omega) (by decide)).mp q)), if_pos (by exact nI_lt (b := 39) (by omega) (by decide))]
    refine m_fail (k := 1) H (by decide) (by decide) (fun K hK hx => ?_)
    have ef : fiA 1 s = (1, s.2) := by unfold fiA; rw [if_pos hs]
    rw [ef] at hK
    have ei : inA B n 9999 s = (1, s.2) := by
      have ep : paA B n 3 s = (1, s.2) := by unfold paA stA; rw [if_pos hs, if_neg (by rw [decide_eq_false k3]; decide)]
      unfold inA laA
      rw [ep, decide_eq_false (fun c => absurd (show (1 : Nat) = 0 from c.2.1) (by decide))]; rfl
    rw [ei] at h
    refine sgX12_unit_120 ?_
    rw [if_neg (show ¬ K 58 13 = 0 by rw [hK.2.2.2.1]; exact nI_ne0 (show 0 < 1 by decide) (show 1 < 2 ^ 31 by decide))]
    exact h K hK hx.me (fun q => absurd (show (1 : Nat) = 0 from q) (by decide))
/-- one step behind a UNIT: r = 1 with st = 2, 0 with st = 0 or a FAULT, else on -/
theorem m_goes_1 {d sd a t : Nat} {B : Nat → Nat} {n : Nat} {s : s4_X} {e : e5_X} {J : st_I} {M : st_L} {F : Int32 → st_I → st_L → Prop} (hsd : sd ≤ 1) (H : rr B n J M s) (hs : s.1 = 0) (hm : s.2.1 ≤ 400) (HE : rE sd J e) (G : gE a s.2.1 e t 1)
    (h : ∀ K, rr B n K M (gA B n s e).1 → me sd J K → ((gA B n s e).1.1 = 0 → rE sd K (gA B n s e).2.1) → ((gA B n s e).2.2 = 2 → F 1 K M) ∧ ((gA B n s e).2.2 = 0 → F 0 K M) ∧ (¬ (gA B n s e).1.1 = 0 → F 0 K M) ∧ ((gA B n s e).2.2 = 1 → TI (d + 3) mX12_goes 0 [.ref 58] [] K M F)) : TI (d + 3) mX12_goes 0 [.ref 58] [] J M F := by
  have hw := G.w20
  obtain ⟨t1, ht1, G1⟩ := gE_pp1 G
  have G2 : gE a s.2.1 (p2E e) 0 1 := gE_pp2 G1 ht1
  have hw1 := G1.w20
  have hw2 := G2.w20
  have v := kn_vk B n s.2.1
  obtain ⟨l1, l2, l3, l4, l5, l6, l7⟩ := H.lt
  have z0 : ∀ {K : st_I}, rr B n K M s → K 58 13 = 0 := fun hK => by rw [hK.2.2.2.1, hs]; exact nI_0
  refine sgX12_goes_0 ?_
  rw [z0 H, if_pos rfl]
  refine m_is (k := 42) H (by decide) (by decide) (by decide) ?_
  unfold gA at h
  by_cases k : knF B n s.2.1 = 42
  · rw [if_pos k] at h
    rw [decide_eq_true (show s.1 = 0 ∧ knF B n s.2.1 = 42 from ⟨hs, k⟩), if_neg (by decide)]
    refine m_comesOut_1 hsd H hs hm HE G (fun K hK hE hx => ?_)
    refine m_waitFor (k := 42) (e' := hoE 42 (ppE 42 42 e)) hK hs (by omega) hE (by omega) (by decide) (rS_push hE.1 (by decide)) rfl (fun K2 hK2 hE2 hx2 => ?_)
    exact (h K2 hK2 (hx.tr hx2) (fun _ => hE2)).1 rfl
  rw [if_neg k] at h
  rw [decide_eq_false (fun c => k c.2), if_pos (by decide)]
  refine m_comesOut_0 hsd H hs hm HE G (fun K hK hE hx => ?_)
  obtain ⟨-, v2, k3, k4, -⟩ := hK.lt
  have wait2 : ∀ (e' : e5_X), 2 ≤ knF B n s.2.1 → rS (u_I (u_I K 91 (ofW (p2E e).1 (p2E e).2.1) (nI (kmF (knF B n s.2.1)))) 58 48 (nI (ofW (p2E e).1 (p2E e).2.1 + 1))) e'.1 e'.2.1 → e'.2.2 = (p2E e).2.2 → (∀ K2, rr B n K2 M (stA true s) → rE sd K2 e' → me sd J K2 → F 1 K2 M) → vp_in (K 58 11) 403 ∧ EV (d + 2) mX12_waitFor [.ref 58, .int (K 61 ((K 58 11).toNatClampNeg))] K M (fun I1 L1 => F 1 I1 L1) := by
    intro e' hk hS ho hF
    rw [k3, nI_clamp (by omega), k4]
    exact ⟨v2, m_waitFor (k := knF B n s.2.1) (e' := e') hK hs hk hE (by omega) rfl hS ho (fun K2 hK2 hE2 hx2 => hF K2 hK2 hE2 (hx.tr hx2))⟩
  refine m_is (k := 43) hK (by decide) (by decide) (by decide) ?_
  by_cases y : knF B n s.2.1 = 43 ∨ knF B n s.2.1 = 45
  · rw [if_pos y] at h
    have go : TI (d + 3) mX12_goes 52 [.ref 58] [] K M F :=
      sgX12_goes_52 (wait2 (hoE (knF B n s.2.1) (p2E e)) (by omega) (rS_push hE.1 (by omega)) rfl (fun K2 hK2 hE2 hx2 => (h K2 hK2 hx2 (fun _ => hE2)).1 rfl))
    by_cases y1 : knF B n s.2.1 = 43
    · rw [decide_eq_true (show s.1 = 0 ∧ _ from ⟨hs, y1⟩), if_neg (by decide)]; exact go
    · rw [decide_eq_false (fun c => y1 c.2), if_pos (by decide)]
      refine m_is (k := 45) hK (by decide) (by decide) (by decide) ?_
      rw [decide_eq_true (show s.1 = 0 ∧ knF B n s.2.1 = 45 from ⟨hs, by omega⟩), if_neg (by decide)]; exact go
  rw [if_neg y] at h
  rw [decide_eq_false (fun c => y (Or.inl c.2)), if_pos (by decide)]
  refine m_is (k := 45) hK (by decide) (by decide) (by decide) ?_
  rw [decide_eq_false (fun c => y (Or.inr c.2)), if_pos (by decide)]
  have ol := ofW_le (p2E e).1 (p2E e).2.1
  -- what waits on top
  have won : ∀ (k : Nat) (c : Int32) (Q : Int32 → st_I → st_L → Prop), c = nI (kmF k) → k < 256 → vkB k = true → Q (b01 (decide (0 < (p2E e).2.1 ∧ (p2E e).1 ((p2E e).2.1 - 1) = k))) K M → EI (d + 2) mX12_waitsOn [.ref 58, .int c] K M Q := fun k c Q hc h1 h2 h3 => m_waitsOn (sd := sd) hE.1 G2.1 (by omega) hc h1 h2 h3
  have is_ : ∀ (k : Nat) (c : Int32) (Q : Int32 → st_I → st_L → Prop), c = nI (kmF k) → k < 256 → vkB k = true → Q (b01 (decide (knF B n s.2.1 = k))) K M → EI (d + 2) mX12_is [.ref 58, .int c] K M Q := fun k c Q hc h1 h2 h3 => m_is hK hc h1 h2 (by
    rw [show decide (s.1 = 0 ∧ knF B n s.2.1 = k) = decide (knF B n s.2.1 = k) from decide_eq_decide.mpr ⟨fun c => c.2, fun c => ⟨hs, c⟩⟩]; exact h3)
  -- the E's end, or a FAULT
  have end_ : ∀ (b : Bool), b = decide (0 < (p2E e).2.1) → (b = true → (gA B n s e).1 = (1, s.2)) → (b = false → (gA B n s e) = (s, p2E e, 0)) → TI (d + 3) mX12_goes 200 [.ref 58] [] K M F := by
    intro b hb h1 h2
    have hg : gA B n s e = (if (p2E e).2.2.1 = 0 then (s, p2E e, 0) else if (p2E e).1 ((p2E e).2.1 - 1) = 91 then (paA B n (if knF B n s.2.1 = 4 then 4 else 60) s, cmE (knF B n s.2.1) (p2E e), 2) else (paA B n (if (p2E e).1 ((p2E e).2.1 - 1) = 40 then 41 else 93) s, clE (p2E e), 1)) := by unfold gA; rw [if_neg k, if_neg y]
    rw [← hg] at h
    refine sgX12_goes_200 ?_
    rw [hE.1.1]
    by_cases z : 0 < (p2E e).2.1
    · rw [decide_eq_true z] at hb
      rw [if_neg (by exact nI_nle (by omega) (by omega))]
      refine m_fail (k := 1) hK (by decide) (by decide) (fun K2 hK2 hx2 => ?_)
      have ef : fiA 1 s = (1, s.2) := by unfold fiA; rw [if_pos hs]
      rw [ef, ← h1 hb] at hK2
      have nz : ¬ (gA B n s e).1.1 = 0 := by rw [h1 hb]; exact (show ¬ (1 : Nat) = 0 by decide)
      exact (h K2 hK2 (hx.tr hx2.me) (fun q => absurd q nz)).2.2.1 nz
    · rw [decide_eq_false z] at hb
      have w0 : (p2E e).2.1 = 0 := by omega
      rw [w0, show ofW (p2E e).1 0 = 0 from rfl, if_pos (by decide)]
      have eg := h2 hb
      rw [eg] at h
      exact (h K hK hx (fun _ => hE)).2.1 rfl
  by_cases o : (p2E e).2.2.1 = 0
  · -- nothing waits
    have w0 : (p2E e).2.1 = 0 := by have := okW_le _ _ _ G2.1; omega
    have nw : ∀ k, ¬ (0 < (p2E e).2.1 ∧ (p2E e).1 ((p2E e).2.1 - 1) = k) := fun k c => by omega
    have eg : gA B n s e = (s, p2E e, 0) := by unfold gA; rw [if_neg k, if_neg y, if_pos o]
    have fin : TI (d + 3) mX12_goes 200 [.ref 58] [] K M F := end_ false (by rw [decide_eq_false (by omega)]) (fun c => absurd c (by decide)) (fun _ => eg)
    have p140 : TI (d + 3) mX12_goes 140 [.ref 58] [] K M F := by
      refine sgX12_goes_140 (is_ 93 18 _ (by decide) (by decide) (by decide) ?_)
      split
      · exact fin
      · refine won 60 12 _ (by decide) (by decide) (by decide) ?_
        rw [decide_eq_false (nw 60), if_pos (by decide)]
        refine won 4 11 _ (by decide) (by decide) (by decide) ?_
        rw [decide_eq_false (nw 4), if_pos (by decide)]; exact fin
    have p109 : TI (d + 3) mX12_goes 109 [.ref 58] [] K M F := by
      refine sgX12_goes_109 (is_ 41 7 _ (by decide) (by decide) (by decide) ?_)
      split
      · exact p140
      · refine won 40 6 _ (by decide) (by decide) (by decide) ?_
        rw [decide_eq_false (nw 40), if_pos (by decide)]; exact p140
    have p85 : TI (d + 3) mX12_goes 85 [.ref 58] [] K M F := by
      refine sgX12_goes_85 (won 91 17 _ (by decide) (by decide) (by decide) ?_)
      rw [decide_eq_false (nw 91), if_pos (by decide)]; exact p109
    refine is_ 60 12 _ (by decide) (by decide) (by decide) ?_
    split
    · refine is_ 4 11 _ (by decide) (by decide) (by decide) ?_
      split
      · exact p109
      · exact p85
    · exact p85
  rw [if_neg o] at h
  have hw0 : 0 < (p2E e).2.1 := by
    rcases okW_top G2.1 with ⟨-, c, -⟩ | ⟨c, -⟩ | ⟨c, -⟩ | ⟨c, -⟩
    · exact absurd c o
    all_goals exact c
  have tops : (p2E e).1 ((p2E e).2.1 - 1) = 40 ∨ (p2E e).1 ((p2E e).2.1 - 1) = 91 ∨ (p2E e).1 ((p2E e).2.1 - 1) = 60 ∨ (p2E e).1 ((p2E e).2.1 - 1) = 4 := by
    rcases okW_top G2.1 with ⟨-, c, -⟩ | ⟨-, c, -⟩ | ⟨-, -, c, -⟩ | ⟨-, -, c, -⟩
    · exact absurd c o
    · exact c
    · omega
    · omega
  have dw : ∀ k, decide (0 < (p2E e).2.1 ∧ (p2E e).1 ((p2E e).2.1 - 1) = k) = decide ((p2E e).1 ((p2E e).2.1 - 1) = k) := fun k => decide_eq_decide.mpr ⟨fun c => c.2, fun c => ⟨hw0, c⟩⟩
  simp only [dw] at won
  have eg : gA B n s e = (if (p2E e).1 ((p2E e).2.1 - 1) = 91 then (paA B n (if knF B n s.2.1 = 4 then 4 else 60) s, cmE (knF B n s.2.1) (p2E e), 2) else (paA B n (if (p2E e).1 ((p2E e).2.1 - 1) = 40 then 41 else 93) s, clE (p2E e), 1)) := by unfold gA; rw [if_neg k, if_neg y, if_neg o]
  have pno : ∀ k', ¬ knF B n s.2.1 = k' → paA B n k' s = (1, s.2) := fun k' q => by unfold paA stA; rw [if_pos hs, if_neg (by rw [decide_eq_false q]; decide)]
  have pyes : ∀ k', knF B n s.2.1 = k' → paA B n k' s = stA true s := fun k' q => by unfold paA; rw [decide_eq_true q]
  have fail_ : (gA B n s e).1 = (1, s.2) → TI (d + 3) mX12_goes 200 [.ref 58] [] K M F := fun q => end_ true (by rw [decide_eq_true hw0]) (fun _ => q) (fun c => absurd c (by decide))
  by_cases b : (p2E e).1 ((p2E e).2.1 - 1) = 91
  · rw [if_pos b] at h eg
    have nt : ∀ k', k' ≠ 91 → ¬ (p2E e).1 ((p2E e).2.1 - 1) = k' := fun k' q c => q (c.symm.trans b)
    have yes : knF B n s.2.1 = 60 ∨ knF B n s.2.1 = 4 → TI (d + 3) mX12_goes 85 [.ref 58] [] K M F := by
      intro q
      refine sgX12_goes_85 (won 91 17 _ (by decide) (by decide) (by decide) ?_)
      rw [decide_eq_true b, if_neg (by decide)]
      have ep : paA B n (if knF B n s.2.1 = 4 then 4 else 60) s = stA true s := pyes _ (by split <;> omega)
      rw [ep] at h
      exact wait2 (cmE (knF B n s.2.1) (p2E e)) (by omega) (rS_cmp hE.1 hw0 b q) rfl (fun K2 hK2 hE2 hx2 => (h K2 hK2 hx2 (fun _ => hE2)).1 rfl)
    by_cases q : knF B n s.2.1 = 60 ∨ knF B n s.2.1 = 4
    · refine is_ 60 12 _ (by decide) (by decide) (by decide) ?_
      split
      · refine is_ 4 11 _ (by decide) (by decide) (by decide) ?_
        by_cases q4 : knF B n s.2.1 = 4
        · rw [decide_eq_true q4, if_neg (by decide)]; exact yes q
        · exfalso
          next hh => rw [decide_eq_true (show knF B n s.2.1 = 60 by omega)] at hh; exact absurd hh (by decide)
      · exact yes q
    · have fl : TI (d + 3) mX12_goes 200 [.ref 58] [] K M F := fail_ (by rw [eg]; exact pno _ (by split <;> omega))
      refine is_ 60 12 _ (by decide) (by decide) (by decide) ?_
      rw [decide_eq_false (fun c => q (Or.inl c)), if_pos (by decide)]
      refine is_ 4 11 _ (by decide) (by decide) (by decide) ?_
      rw [decide_eq_false (fun c => q (Or.inr c)), if_pos (by decide)]
      have p140 : TI (d + 3) mX12_goes 140 [.ref 58] [] K M F := by
        refine sgX12_goes_140 (is_ 93 18 _ (by decide) (by decide) (by decide) ?_)
        split
        · exact fl
        · refine won 60 12 _ (by decide) (by decide) (by decide) ?_
          rw [decide_eq_false (nt 60 (by decide)), if_pos (by decide)]
          refine won 4 11 _ (by decide) (by decide) (by decide) ?_
          rw [decide_eq_false (nt 4 (by decide)), if_pos (by decide)]; exact fl
      refine sgX12_goes_109 (is_ 41 7 _ (by decide) (by decide) (by decide) ?_)
      split
      · exact p140
      · refine won 40 6 _ (by decide) (by decide) (by decide) ?_
        rw [decide_eq_false (nt 40 (by decide)), if_pos (by decide)]; exact p140
  rw [if_neg b] at h eg
  obtain ⟨e12, e44⟩ := hE.2
  have pr : nI (p2E e).2.2.1 - 1 = nI ((p2E e).2.2.1 - 1) := pk_sub (b := 1) (by omega)
  -- the bracket is gone over
  have p214 : ∀ (K3 : st_I) (C' : Nat → Int32) (c' : Nat), rr B n K3 M s → rE sd K3 ((p2E e).1, (p2E e).2.1 - 1, (p2E e).2.2.1, C', c') → me sd J K3 → clE (p2E e) = ((p2E e).1, (p2E e).2.1 - 1, (p2E e).2.2.1 - 1, C', c') → paA B n (if (p2E e).1 ((p2E e).2.1 - 1) = 40 then 41 else 93) s = stA true s → 2 ≤ knF B n s.2.1 → TI (d + 3) mX12_goes 214 [.ref 58] [] K3 M F := by
    intro K3 C' c' hK3 hE3 hx3 ec ep hk
    refine sgX12_goes_214 ?_
    rw [hE3.2.1]
    refine m_goesOn (rr_58 hK3 (by omega)) hs hk (fun K4 hK4 hx4 => ?_)
    rw [show nI ((p2E e).1, (p2E e).2.1 - 1, (p2E e).2.2.1, C', c').2.2.1 - 1 = nI ((p2E e).2.2.1 - 1) from pr] at hx4
    rw [ep, ec] at h
    refine (h K4 hK4 ((hx3.tr (me_k (by omega))).tr hx4.me) (fun _ => ?_)).2.2.2 rfl
    refine rE.r58 ⟨hE3.1.cg (by simp [u_I]) (by rw [u_I_ne _ _ (by decide)]), by simp [u_I], by simp [u_I]; exact hE3.2.2.1, ?_⟩ hx4
    rw [u_I_ne _ _ (by decide), u_I_ne _ _ (by decide)]; exact hE3.2.2.2
  have p109 : TI (d + 3) mX12_goes 109 [.ref 58] [] K M F := by
    by_cases t40 : (p2E e).1 ((p2E e).2.1 - 1) = 40
    · have nt : ∀ k', k' ≠ 40 → ¬ (p2E e).1 ((p2E e).2.1 - 1) = k' := fun k' q c => q (c.symm.trans t40)
      by_cases q : knF B n s.2.1 = 41
      · refine sgX12_goes_109 (is_ 41 7 _ (by decide) (by decide) (by decide) ?_)
        rw [decide_eq_true q, if_neg (by decide)]
        refine won 40 6 _ (by decide) (by decide) (by decide) ?_
        rw [decide_eq_true t40, if_neg (by decide), hE.1.1]
        obtain ⟨w, ew⟩ : ∃ w, (p2E e).2.1 = w + 1 := ⟨(p2E e).2.1 - 1, by omega⟩
        have eo : ofW (p2E e).1 (p2E e).2.1 - 1 = ofW (p2E e).1 ((p2E e).2.1 - 1) := by
          rw [ew, Nat.add_sub_cancel, ofW, if_neg (by rw [ew, Nat.add_sub_cancel] at t40; omega), Nat.add_sub_cancel]
        rw [show nI (ofW (p2E e).1 (p2E e).2.1) - 1 = nI (ofW (p2E e).1 (p2E e).2.1 - 1) from pk_sub (b := 1) (by omega)]
        refine p214 _ (p2E e).2.2.2.1 (p2E e).2.2.2.2 (rr_58 hK (by omega)) ⟨rS_pop hE.1 hw0 eo, by simp [u_I]; exact e12, by simp [u_I]; exact e44.1, ?_⟩ (hx.tr (me_k (by omega))) ?_ ?_ (by omega)
        · rw [u_I_ne _ _ (by decide), u_I_ne _ _ (by decide)]; exact e44.2
        · unfold clE; rw [if_pos t40]
        · rw [if_pos t40]; exact pyes _ q
      · have fl : TI (d + 3) mX12_goes 200 [.ref 58] [] K M F := fail_ (by rw [eg]; exact pno _ (by rw [if_pos t40]; exact q))
        refine sgX12_goes_109 (is_ 41 7 _ (by decide) (by decide) (by decide) ?_)
        rw [decide_eq_false q, if_pos (by decide)]
        refine sgX12_goes_140 (is_ 93 18 _ (by decide) (by decide) (by decide) ?_)
        split
        · exact fl
        · refine won 60 12 _ (by decide) (by decide) (by decide) ?_
          rw [decide_eq_false (nt 60 (by decide)), if_pos (by decide)]
          refine won 4 11 _ (by decide) (by decide) (by decide) ?_
          rw [decide_eq_false (nt 4 (by decide)), if_pos (by decide)]; exact fl
    · have t64 : (p2E e).1 ((p2E e).2.1 - 1) = 60 ∨ (p2E e).1 ((p2E e).2.1 - 1) = 4 := by omega
      have p140 : TI (d + 3) mX12_goes 140 [.ref 58] [] K M F := by
        by_cases q : knF B n s.2.1 = 93
        · refine sgX12_goes_140 (is_ 93 18 _ (by decide) (by decide) (by decide) ?_)
          rw [decide_eq_true q, if_neg (by decide)]
          have p167 : TI (d + 3) mX12_goes 167 [.ref 58] [] K M F := by
            refine sgX12_goes_167 (won 60 12 _ (by decide) (by decide) (by decide) ?_)
            have ic : iv_code (-(nI ((p2E e).1 ((p2E e).2.1 - 1)))) (if b01 (decide ((p2E e).1 ((p2E e).2.1 - 1) = 60)) = 0 then (6 : Int32) else 5) 0 := by
              unfold iv_code
              rcases t64 with c | c <;> rw [c]
              · exact Or.inr (Or.inr (Or.inr (Or.inr (Or.inr (Or.inl (by decide))))))
              · exact Or.inr (Or.inr (Or.inr (Or.inr (Or.inr (Or.inr (by decide))))))
            have hc := G2.2.2.2.2.1
            refine m_emit hsd hK hs hE (by omega) ic (fun K5 hK5 hE5 hx5 => ?_)
            obtain ⟨w, ew⟩ : ∃ w, (p2E e).2.1 = w + 1 := ⟨(p2E e).2.1 - 1, by omega⟩
            have eo : ofW (p2E e).1 (p2E e).2.1 = ofW (p2E e).1 ((p2E e).2.1 - 1) + 2 := by
              rw [ew, Nat.add_sub_cancel, ofW, if_pos (by rw [ew, Nat.add_sub_cancel] at t64; exact t64)]
            have ol5 : K5 58 48 = nI (ofW (p2E e).1 (p2E e).2.1) := hE5.1.1
            rw [ol5, show nI (ofW (p2E e).1 (p2E e).2.1) - 2 = nI (ofW (p2E e).1 (p2E e).2.1 - 2) from pk_sub (b := 2) (by omega)]
            refine p214 _ (upd (p2E e).2.2.2.1 (p2E e).2.2.2.2 (-(nI ((p2E e).1 ((p2E e).2.1 - 1))))) ((p2E e).2.2.2.2 + 1) (rr_58 hK5 (by omega)) ⟨rS_pop hE5.1 hw0 (by show _ = ofW (p2E e).1 ((p2E e).2.1 - 1); omega), by simp [u_I]; exact hE5.2.1, by simp [u_I]; exact hE5.2.2.1, ?_⟩ ((hx.tr hx5).tr (me_k (by omega))) ?_ ?_ (by omega)
            · rw [u_I_ne _ _ (by decide), u_I_ne _ _ (by decide)]; exact hE5.2.2.2
            · unfold clE; rw [if_neg t40]
            · rw [if_neg t40]; exact pyes _ q
          refine won 60 12 _ (by decide) (by decide) (by decide) ?_
          split
          · next hh =>
            have n60 : ¬ (p2E e).1 ((p2E e).2.1 - 1) = 60 := fun c => by rw [decide_eq_true c] at hh; exact absurd hh (by decide)
            refine won 4 11 _ (by decide) (by decide) (by decide) ?_
            rw [decide_eq_true (show (p2E e).1 ((p2E e).2.1 - 1) = 4 by omega), if_neg (by decide)]; exact p167
          · exact p167
        · have fl : TI (d + 3) mX12_goes 200 [.ref 58] [] K M F := fail_ (by rw [eg]; exact pno _ (by rw [if_neg t40]; exact q))
          refine sgX12_goes_140 (is_ 93 18 _ (by decide) (by decide) (by decide) ?_)
          rw [decide_eq_false q, if_pos (by decide)]; exact fl
      refine sgX12_goes_109 (is_ 41 7 _ (by decide) (by decide) (by decide) ?_)
      split
      · exact p140
      · refine won 40 6 _ (by decide) (by decide) (by decide) ?_
        rw [decide_eq_false t40, if_pos (by decide)]; exact p140
  have p85 : TI (d + 3) mX12_goes 85 [.ref 58] [] K M F := by
    refine sgX12_goes_85 (won 91 17 _ (by decide) (by decide) (by decide) ?_)
    rw [decide_eq_false b, if_pos (by decide)]; exact p109
  refine is_ 60 12 _ (by decide) (by decide) (by decide) ?_
  split
  · refine is_ 4 11 _ (by decide) (by decide) (by decide) ?_
    split
    · exact p109
    · exact p85
  · exact p85
