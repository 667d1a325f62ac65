/-! read: NAMES, in the reference -/
def srF (k : Nat) : Nat := if k = 140 then 0 else if k = 143 then 1 else if k = 145 then 2 else if k = 146 then 3 else 4
def soK (k : Nat) : Prop := k = 140 ∨ k = 143 ∨ k = 145 ∨ k = 146 ∨ k = 147
theorem sr_eq {a b : Nat} (ha : soK a) (hb : soK b) : srF a = srF b ↔ a = b := by
  rcases ha with rfl | rfl | rfl | rfl | rfl <;> rcases hb with rfl | rfl | rfl | rfl | rfl <;> decide
theorem sr_lt (k : Nat) : srF k < 5 := by
  unfold srF
  repeat' split
  all_goals decide
/-- the reference's NAMES -/
def rN (B : Nat → Nat) (n : Nat) (J : st_I) (M : st_L) (N : nm_X) (c lf : Nat) : Prop := J 58 20 = nI c ∧ c ≤ 39 ∧ (lf = 0 → c = N.1 ∧ (∀ j, j < N.1 → knF B n (N.2.1 j) = 2 ∧ soK (N.2.2.1 j) ∧ N.2.2.2 j < 10 ∧ M 66 j = lN (nkT 27 B n (N.2.1 j)) ∧ J 67 j = nI (srF (N.2.2.1 j)) ∧ J 68 j = nI (N.2.2.2 j)) ∧ ∀ i j, i < N.1 → j < N.1 → eqT B n (N.2.1 i) (N.2.1 j) = true → i = j)
theorem rN.r58 {B : Nat → Nat} {n : Nat} {J K : st_I} {M : st_L} {N : nm_X} {c lf : Nat} (H : rN B n J M N c lf) (h : r58 J K) : rN B n K M N c lf := by
  unfold rN
  rw [h.2 20 (by decide) (by omega), h.1 67 (by decide), h.1 68 (by decide)]; exact H
theorem laA_no {c : Bool} {k t : Nat} {s : s4_X} (h : s.2.2.1 ≠ 0) : laA c k t s = s := by
  unfold laA; rw [if_neg h]; split <;> rfl
theorem laA_f (k t : Nat) (s : s4_X) : laA false k t s = s := rfl
/-- where nothing more comes of equal NAMES -/
theorem m_named_L {d t c : Nat} {B : Nat → Nat} {n : Nat} {M : st_L} {u : s4_X} {F : Int32 → st_I → st_L → Prop} (hu : u.1 = 0) (hlf : u.2.2.1 ≠ 0) (ho : u.2.2.2 < t ∨ (u.2.2.2 = t ∧ u.2.2.1 ≤ 3)) (ht : t < spF B n 401 0) (hc : c ≤ 39) : ∀ (r j : Nat) (J : st_I), j + r = c → rr B n J M u → J 58 20 = nI c → (∀ K, rr B n K M u → r58 J K → F (nI t) K M) → TI (d + 3) mX12_named 12 [.ref 58, .int (nI t), .int (nI j)] [] J M F := by
  intro r
  induction r with
  | zero =>
    intro j J hj H h20 h
    refine sgX12_named_12 ?_
    rw [h20, if_pos (nI_le (by omega) (by omega))]
    exact h J H r58.rf
  | succ r ih =>
    intro j J hj H h20 h
    have s401 := (sp_ok (B := B) (n := n) 401 0 rfl).2.1
    refine sgX12_named_12 ?_
    rw [h20, if_neg (nI_ge (by omega) (by omega)), show J 58 13 = 0 by rw [H.2.2.2.1, hu]; exact nI_0, if_pos rfl, nI_1]
    refine ⟨vp_in_nI (by omega) (by decide), vp_in_nI (by omega) (by decide), ?_⟩
    have nx := ih (j + 1) J (by omega) H h20 h
    by_cases z : lg_cmp (M 66 (nI j).toNatClampNeg) (M 64 (nI t).toNatClampNeg) = 0
    · rw [if_pos z]
      refine m_wrong (k := 3) H hu (by decide) (by decide) ht (Or.inr ho) (fun K hK hx => ?_)
      rw [laA_no hlf] at hK
      exact ih (j + 1) K (by omega) hK (by rw [hx.2 20 (by decide) (by omega)]; exact h20) (fun K2 hK2 hx2 => h K2 hK2 (hx.tr hx2))
    · rw [if_neg z]; exact nx
theorem fo_none {p : Nat → Bool} : ∀ r j, foF p r j = none → ∀ i, j ≤ i → i < j + r → ¬ p i = true
  | 0, j, _, i, h1, h2 => by omega
  | r + 1, j, h, i, h1, h2 => by
    rw [foF] at h
    by_cases z : p j = true
    · rw [if_pos z] at h; exact absurd h (by simp)
    · rw [if_neg z] at h
      by_cases e : i = j
      · subst e; exact z
      · exact fo_none r (j + 1) h i (by omega) (by omega)
theorem m_named {d c : Nat} {B : Nat → Nat} {n : Nat} {J : st_I} {M : st_L} {s : s4_X} {N : nm_X} {F : Int32 → st_I → st_L → Prop} (H : rr B n J M s) (hl : lok s) (HN : rN B n J M N c s.2.2.1) (h : ∀ K, rr B n K M (nwA B n N s) → r58 J K → F (nI s.2.1) K M) : EI (d + 3) mX12_named [.ref 58] J M F := by
  obtain ⟨l1, l2, l3, l4, l5, l6, l7⟩ := H.lt
  obtain ⟨n1, n2, n3⟩ := HN
  refine sgX12_named_0 (m_must (k := 2) H (by decide) (by decide) (by decide) (by decide) (fun K hK hx => ?_))
  rw [l3]
  have k20 : K 58 20 = nI c := by rw [hx.2 20 (by decide) (by omega)]; exact n1
  unfold nwA at h
  by_cases w : alv B n s = true
  · obtain ⟨w1, w2, w3, w4⟩ := alv_2 w
    rw [w, Bool.true_and] at h
    rw [w4] at hK h
    by_cases z : s.2.2.1 = 0
    · obtain ⟨m1, m2, m3⟩ := n3 z
      subst m1
      have key : ∀ (r j : Nat) (K : st_I), j + r = N.1 → rr B n K M (0, s.2.1 + 1, s.2.2) → r58 J K → foF (fun j => eqT B n (N.2.1 j) s.2.1) r j = fnN B n N s.2.1 → TI (d + 3) mX12_named 12 [.ref 58, .int (nI s.2.1), .int (nI j)] [] K M F := by
        intro r
        induction r with
        | zero =>
          intro j K hj hK hx he
          refine sgX12_named_12 ?_
          rw [hx.2 20 (by decide) (by omega), n1, if_pos (nI_le (by omega) (by omega))]
          rw [foF] at he
          rw [← he] at h
          exact h K hK hx
        | succ r ih =>
          intro j K hj hK hx he
          obtain ⟨q1, q2, q3, q4, q5, q6⟩ := m2 j (by omega)
          refine sgX12_named_12 ?_
          rw [hx.2 20 (by decide) (by omega), n1, if_neg (nI_ge (by omega) (by omega)), show K 58 13 = 0 by rw [hK.2.2.2.1]; exact nI_0, if_pos rfl, nI_1, nI_clamp (by omega), nI_clamp (by omega), q4, (H.1.2.2 _ H.2.1).2.2.2 w2]
          refine ⟨vp_in_nI (by omega) (by decide), vp_in_nI (by omega) (by decide), ?_⟩
          have e : lg_cmp (lN (nkT 27 B n (N.2.1 j))) (lN (nkF 27 B (psF B n s.2.1) (teF B n (psF B n s.2.1) - psF B n s.2.1))) = 0 ↔ eqT B n (N.2.1 j) s.2.1 = true := by
            rw [lg_cmp_eq]
            have q := pk_lEQ (nk_lt (b := 27) q1 (by decide) (by decide)) (nk_lt (b := 27) w2 (by decide) (by decide))
            exact q.trans ⟨fun z => decide_eq_true z, fun z => of_decide_eq_true z⟩
          rw [foF] at he
          by_cases y : eqT B n (N.2.1 j) s.2.1 = true
          · rw [if_pos (e.mpr y)]
            rw [if_pos y] at he
            rw [← he] at h
            refine m_wrong (k := 3) hK rfl (by decide) (by decide) H.2.1 (Or.inl z) (fun K2 hK2 hx2 => ?_)
            have hl3 : (laA true 3 s.2.1 (0, s.2.1 + 1, s.2.2)) = (0, s.2.1 + 1, 3, s.2.1) := by
              unfold laA; rw [if_pos rfl, if_pos z]
            rw [hl3] at hK2
            refine m_named_L (u := (0, s.2.1 + 1, 3, s.2.1)) rfl (show (3 : Nat) ≠ 0 by decide) (Or.inr ⟨rfl, Nat.le_refl _⟩) H.2.1 n2 r (j + 1) K2 (by omega) hK2 (by rw [hx2.2 20 (by decide) (by omega), hx.2 20 (by decide) (by omega)]; exact n1) (fun K3 hK3 hx3 => ?_)
            refine h K3 ?_ ((hx.tr hx2).tr hx3)
            rw [show (some j : Option Nat).isSome = true from rfl, hl3]; exact hK3
          · rw [if_neg (fun q => y (e.mp q))]
            rw [if_neg y] at he
            exact ih (j + 1) K (by omega) hK hx he
      exact key N.1 0 K (by omega) hK hx rfl
    · have e : ∀ b, laA b 3 s.2.1 (0, s.2.1 + 1, s.2.2) = (0, s.2.1 + 1, s.2.2) := fun b => laA_no z
      rw [e] at h
      exact m_named_L (u := (0, s.2.1 + 1, s.2.2)) rfl z (Or.inl (hl w1 z)) H.2.1 n2 c 0 K (by omega) hK k20 (fun K2 hK2 hx2 => h K2 hK2 (hx.tr hx2))
  · have wf : alv B n s = false := by simpa using w
    rw [wf, Bool.false_and, laA_f] at h
    have nz : ¬ K 58 13 = 0 := by
      intro q
      have f0 : (paA B n 2 s).1 = 0 := by
        have e := hK.2.2.2.1
        rw [q] at e
        have := hK.2.2.2.2.1
        exact ((nI_eq (a := 0) (by decide) (by omega)).mp (nI_0.trans e)).symm
      by_cases z : s.1 = 0
      · exact w (decide_eq_true ⟨z, f0⟩)
      · have : paA B n 2 s = s := by unfold paA stA; rw [if_neg z]
        rw [this] at f0; exact z f0
    refine sgX12_named_12 ?_
    by_cases y : K 58 20 ≤ 0
    · rw [if_pos y]; exact h K hK hx
    · rw [if_neg y, if_neg nz]; exact h K hK hx
