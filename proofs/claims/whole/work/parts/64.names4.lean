/-! read: NAMES told ahead, in the reference -/
/-- what else is changed where a NAME comes to be known -/
def x66 (I J : st_I) : Prop := (∀ q, q ≠ 58 → q ≠ 67 → q ≠ 68 → J q = I q) ∧ ∀ j, j ≠ 11 → j ≠ 20 → j < 13 ∨ 16 < j → J 58 j = I 58 j
theorem m_knows {d c tok so wh : Nat} {B : Nat → Nat} {n : Nat} {J : st_I} {M : st_L} {s : s4_X} {N N' : nm_X} {F : st_I → st_L → Prop} (H : rr B n J M s) (HN : rN B n J M N c s.2.2.1) (hc : c < 39) (ht : tok < spF B n 401 0) (hw : wh < 10) (hso : soK so)
    (hN : s.2.2.1 = 0 → N' = pushN N tok so wh ∧ knF B n tok = 2 ∧ fnN B n N tok = none) (h : ∀ K M', rr B n K M' s → rN B n K M' N' (c + 1) s.2.2.1 → x66 J K → (∀ q, q ≠ 66 → M' q = M q) → F K M') : EV d mX12_knows [.ref 58, .int (nI tok), .int (nI (srF so)), .int (nI wh)] J M F := by
  obtain ⟨n1, n2, n3⟩ := HN
  have s401 := (sp_ok (B := B) (n := n) 401 0 rfl).2.1
  refine sgX12_knows_0 ?_
  rw [n1, nI_clamp (by omega), nI_clamp (by omega), nI_1]
  have v : vp_in (nI c) 40 := vp_in_nI (by omega) (by decide)
  refine ⟨vp_in_nI (by omega) (by decide), v, v, v, ?_⟩
  have g1 : ∀ q, q ≠ 58 → q ≠ 67 → q ≠ 68 → (u_I (u_I (u_I J 67 c (nI (srF so))) 68 c (nI wh)) 58 20 (nI (c + 1))) q = J q := fun q a b e => by rw [u_I_ne _ _ a, u_I_ne _ _ e, u_I_ne _ _ b]
  have g2 : ∀ j, j ≠ 20 → (u_I (u_I (u_I J 67 c (nI (srF so))) 68 c (nI wh)) 58 20 (nI (c + 1))) 58 j = J 58 j := fun j hj => by simp [u_I, hj]
  have gM : ∀ q, q ≠ 66 → (u_L M 66 c (M 64 tok)) q = M q := fun q hq => by rw [u_L_ne _ _ hq]
  refine h _ _ ?_ ?_ ⟨g1, fun j a b _ => g2 j b⟩ gM
  · obtain ⟨h1, h2, h3, h4, h5, h6, h7⟩ := H
    refine ⟨?_, h2, by rw [g2 11 (by decide)]; exact h3, by rw [g2 13 (by decide)]; exact h4, h5, by rw [g2 14 (by decide)]; exact h6, by rw [g2 15 (by decide), g2 16 (by decide)]; exact h7⟩
    rw [g1 61 (by decide) (by decide) (by decide), g1 62 (by decide) (by decide) (by decide), g1 63 (by decide) (by decide) (by decide), gM 64 (by decide)]
    exact h1
  · refine ⟨by simp [u_I], by omega, fun z => ?_⟩
    obtain ⟨m1, m2, m3⟩ := n3 z
    obtain ⟨e1, e2, e3⟩ := hN z
    subst e1
    have k64 := (H.1.2.2 tok ht).2.2.2 e2
    have nq := fo_none _ _ e3
    refine ⟨by rw [m1]; rfl, fun j hj => ?_, fun i j hi hj he => ?_⟩
    · have hj' : j < N.1 + 1 := hj
      by_cases e : j = N.1
      · subst e
        refine ⟨by simp [pushN]; exact e2, by simp [pushN]; exact hso, by simp [pushN]; exact hw, ?_, ?_, ?_⟩
        · simp only [pushN, u_L, if_true, ← m1]; exact k64
        · simp [pushN, u_I, ← m1]
        · simp [pushN, u_I, ← m1]
      · obtain ⟨q1, q2, q3, q4, q5, q6⟩ := m2 j (by omega)
        have ec : ¬ j = c := by omega
        refine ⟨by simp only [pushN, if_neg e]; exact q1, by simp only [pushN, if_neg e]; exact q2, by simp only [pushN, if_neg e]; exact q3, by simp only [pushN, u_L, if_true, if_neg e, if_neg ec]; exact q4, by simp [pushN, u_I, e, ec]; exact q5, by simp [pushN, u_I, e, ec]; exact q6⟩
    · have hi' : i < N.1 + 1 := hi
      have hj' : j < N.1 + 1 := hj
      by_cases a : i = N.1 <;> by_cases b : j = N.1
      · omega
      · simp only [pushN, if_pos a, if_neg b] at he
        have he2 : eqT B n (N.2.1 j) tok = true := by
          have := of_decide_eq_true he
          exact decide_eq_true this.symm
        exact absurd he2 (nq j (Nat.zero_le _) (by omega))
      · simp only [pushN, if_neg a, if_pos b] at he
        exact absurd he (nq i (Nat.zero_le _) (by omega))
      · simp only [pushN, if_neg a, if_neg b] at he
        exact m3 i j (by omega) (by omega) he
/-- nothing more is found, or whatever: the later FAULT stays -/
theorem m_known_L {d t c : Nat} {B : Nat → Nat} {n : Nat} {M : st_L} {u : s4_X} {so : Int32} {F : Int32 → st_I → st_L → Prop} (hu : u.1 = 0) (hlf : u.2.2.1 ≠ 0) (ho : u.2.2.2 < t) (ht : t < spF B n 401 0) (hc : c ≤ 39) {J : st_I} (H : rr B n J M u) (h20 : J 58 20 = nI c) (h : ∀ K x, rr B n K M u → r58 J K → F x K M) : ∀ (r j : Nat) (x : Int32), j + r = c → TI (d + 3) mX12_known 24 [.ref 58, .int so, .int (nI t), .int x, .int (nI j)] [] J M F := by
  intro r
  induction r with
  | zero =>
    intro j x hj
    refine sgX12_known_24 ?_
    rw [h20, if_pos (nI_le (by omega) (by omega))]
    by_cases z : x = -1
    · rw [if_pos z]
      refine m_wrong (k := 4) H hu (by decide) (by decide) ht (Or.inr (Or.inl ho)) (fun K hK hx => ?_)
      rw [laA_no hlf] at hK
      exact h K _ hK hx
    · rw [if_neg z]; exact h J _ H r58.rf
  | succ r ih =>
    intro j x hj
    have s401 := (sp_ok (B := B) (n := n) 401 0 rfl).2.1
    have v : vp_in (nI j) 40 := vp_in_nI (by omega) (by decide)
    refine sgX12_known_24 ?_
    rw [h20, if_neg (nI_ge (by omega) (by omega)), nI_1]
    split
    · refine ⟨v, vp_in_nI (by omega) (by decide), ?_⟩
      split
      · refine ⟨v, ?_⟩
        split
        · exact ⟨v, ih (j + 1) _ (by omega)⟩
        · exact ih (j + 1) _ (by omega)
      · exact ih (j + 1) _ (by omega)
    · exact ih (j + 1) _ (by omega)
theorem m_known {d c kind : Nat} {B : Nat → Nat} {n : Nat} {J : st_I} {M : st_L} {s : s4_X} {N : nm_X} {F : Int32 → st_I → st_L → Prop} (H : rr B n J M s) (hl : lok s) (HN : rN B n J M N c s.2.2.1) (hk : soK kind) (h : ∀ K x, rr B n K M (tnA B n N kind s) → r58 J K → ((tnA B n N kind s).1 = 0 → s.2.2.1 = 0 → x = tnV B n N kind s) → F x K M) : EI (d + 3) mX12_known [.ref 58, .int (nI (srF kind))] J M F := by
  obtain ⟨l1, l2, l3, l4, l5, l6, l7⟩ := H.lt
  obtain ⟨n1, n2, n3⟩ := HN
  refine sgX12_known_0 (m_must (k := 2) H (by decide) (by decide) (by decide) (by decide) (fun K hK hx => ?_))
  rw [l3]
  have k20 : K 58 20 = nI c := by rw [hx.2 20 (by decide) (by omega)]; exact n1
  unfold tnA tnV at h
  by_cases w : alv B n s = true
  · obtain ⟨w1, w2, w3, w4⟩ := alv_2 w
    rw [w, Bool.true_and, if_pos rfl] at h
    rw [w4] at hK h
    rw [show K 58 13 = 0 by rw [hK.2.2.2.1]; exact nI_0, if_pos (by decide)]
    by_cases z : s.2.2.1 = 0
    · obtain ⟨m1, m2, m3⟩ := n3 z
      subst m1
      have k64 := (H.1.2.2 _ H.2.1).2.2.2 w2
      -- what is found, once it is found, stays
      have fin : ∀ (r j : Nat) (x : Int32), j + r = N.1 → x ≠ -1 → F x K M → TI (d + 3) mX12_known 24 [.ref 58, .int (nI (srF kind)), .int (nI s.2.1), .int x, .int (nI j)] [] K M F := by
        intro r
        induction r with
        | zero =>
          intro j x hj hx' hF
          refine sgX12_known_24 ?_
          rw [k20, if_pos (nI_le (by omega) (by omega)), if_neg hx']; exact hF
        | succ r ih =>
          intro j x hj hx' hF
          refine sgX12_known_24 ?_
          rw [k20, if_neg (nI_ge (by omega) (by omega)), if_neg hx', nI_1]
          exact ih (j + 1) x (by omega) hx' hF
      have key : ∀ (r j : Nat), j + r = N.1 → (∀ i, i < j → ¬ (eqT B n (N.2.1 i) s.2.1 = true ∧ N.2.2.1 i = kind)) → TI (d + 3) mX12_known 24 [.ref 58, .int (nI (srF kind)), .int (nI s.2.1), .int (-1), .int (nI j)] [] K M F := by
        intro r
        induction r with
        | zero =>
          intro j hj hno
          refine sgX12_known_24 ?_
          rw [k20, if_pos (nI_le (by omega) (by omega)), if_pos rfl]
          have hms : msA B n N s.2.1 kind = true ∧ (match fnN B n N s.2.1 with | none => (-1 : Int32) | some j => if N.2.2.1 j = kind then nI (N.2.2.2 j) else -1) = -1 := by
            unfold msA
            cases hf : fnN B n N s.2.1 with
            | none => exact ⟨rfl, rfl⟩
            | some a =>
              obtain ⟨-, a2, a3⟩ := foF_lt _ _ _ hf
              have ne : ¬ N.2.2.1 a = kind := fun q => hno a (by omega) ⟨a3, q⟩
              exact ⟨by simp [ne], by simp [ne]⟩
          refine m_wrong (k := 4) hK rfl (by decide) (by decide) H.2.1 (Or.inl z) (fun K2 hK2 hx2 => h K2 _ ?_ (hx.tr hx2) (fun _ _ => hms.2.symm))
          rw [hms.1]; exact hK2
        | succ r ih =>
          intro j hj hno
          obtain ⟨q1, q2, q3, q4, q5, q6⟩ := m2 j (by omega)
          have v : vp_in (nI j) 40 := vp_in_nI (by omega) (by decide)
          refine sgX12_known_24 ?_
          rw [k20, if_neg (nI_ge (by omega) (by omega)), if_pos rfl, nI_1, nI_clamp (by omega), nI_clamp (by omega), q4, k64, hx.1 67 (by decide), hx.1 68 (by decide), q5, q6]
          refine ⟨v, vp_in_nI (by omega) (by decide), ?_⟩
          have e : lg_cmp (lN (nkT 27 B n (N.2.1 j))) (lN (nkF 27 B (psF B n s.2.1) (teF B n (psF B n s.2.1) - psF B n s.2.1))) = 0 ↔ eqT B n (N.2.1 j) s.2.1 = true := by
            rw [lg_cmp_eq]
            have q := pk_lEQ (nk_lt (b := 27) q1 (by decide) (by decide)) (nk_lt (b := 27) w2 (by decide) (by decide))
            exact q.trans ⟨fun z => decide_eq_true z, fun z => of_decide_eq_true z⟩
          have skip : ¬ (eqT B n (N.2.1 j) s.2.1 = true ∧ N.2.2.1 j = kind) → TI (d + 3) mX12_known 24 [.ref 58, .int (nI (srF kind)), .int (nI s.2.1), .int (-1), .int (nI (j + 1))] [] K M F := fun q => ih (j + 1) (by omega) (fun i hi => by
            by_cases e' : i = j
            · subst e'; exact q
            · exact hno i (by omega))
          by_cases y : eqT B n (N.2.1 j) s.2.1 = true
          · rw [if_pos (e.mpr y)]
            refine ⟨v, ?_⟩
            by_cases x : N.2.2.1 j = kind
            · rw [if_pos (by rw [x])]
              refine ⟨v, fin r (j + 1) _ (by omega) (fun q => absurd (q ▸ nI_pos' (show N.2.2.2 j < 2 ^ 31 by omega)) (by decide)) ?_⟩
              have hf : fnN B n N s.2.1 = some j := by
                cases hf : fnN B n N s.2.1 with
                | none => exact absurd y (fo_none _ _ hf j (Nat.zero_le _) (by omega))
                | some a =>
                  obtain ⟨-, a2, a3⟩ := foF_lt _ _ _ hf
                  have : a = j := m3 a j (by omega) (by omega) (decide_eq_true ((of_decide_eq_true a3).trans (of_decide_eq_true y).symm))
                  rw [this]
              refine h K _ ?_ hx (fun _ _ => by simp only [hf, if_pos x])
              have hms : msA B n N s.2.1 kind = false := by unfold msA; simp only [hf, decide_eq_true x]; rfl
              rw [hms]; exact hK
            · rw [if_neg (fun q => x ((sr_eq q2 hk).mp ((nI_eq (by have := sr_lt (N.2.2.1 j); omega) (by have := sr_lt kind; omega)).mp q)))]
              exact skip (fun q => x q.2)
          · rw [if_neg (fun q => y (e.mp q))]
            exact skip (fun q => y q.1)
      exact key N.1 0 (by omega) (fun i hi => by omega)
    · have e : ∀ b, laA b 4 s.2.1 (0, s.2.1 + 1, s.2.2) = (0, s.2.1 + 1, s.2.2) := fun b => laA_no z
      rw [e] at h
      exact m_known_L (u := (0, s.2.1 + 1, s.2.2)) rfl z (hl w1 z) H.2.1 n2 hK k20 (fun K2 x hK2 hx2 => h K2 x hK2 (hx.tr hx2) (fun _ q => absurd q z)) c 0 (-1) (by omega)
  · have wf : alv B n s = false := by simpa using w
    rw [wf, Bool.false_and, laA_f] at h
    have f0 : ¬ (paA B n 2 s).1 = 0 := by
      intro f0
      by_cases z : s.1 = 0
      · exact w (decide_eq_true ⟨z, f0⟩)
      · have : paA B n 2 s = s := by unfold paA stA; rw [if_neg z]
        rw [this] at f0; exact z f0
    have h2 := hK.2.2.2.2.1
    rw [if_neg (show ¬ K 58 13 ≤ 0 by rw [hK.2.2.2.1]; exact nI_nle (by omega) (by omega))]
    exact h K _ hK hx (fun q => absurd q f0)
