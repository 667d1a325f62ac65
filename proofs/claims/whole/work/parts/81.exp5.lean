/-! read: an E in the reference: the steps -/
/-- what comes out -/
theorem m_pop {d sd x1 : Nat} {y1 : Int32} {B : Nat → Nat} {n : Nat} {s : s4_X} {e : e5_X} {J : st_I} {M : st_L} {F : st_I → st_L → Prop} (hsd : sd ≤ 1) (H : rr B n J M s) (hs : s.1 = 0) (HE : rE sd J e) (hc : e.2.2.2.2 < 420) (hw : e.2.1 ≤ 24) (h0 : 0 < e.2.1) (ht : e.1 (e.2.1 - 1) = 42 ∨ e.1 (e.2.1 - 1) = 43 ∨ e.1 (e.2.1 - 1) = 45) (h : ∀ K, rr B n K M s → rE sd K (e.1, e.2.1 - 1, e.2.2.1, upd e.2.2.2.1 e.2.2.2.2 (-(nI (e.1 (e.2.1 - 1)))), e.2.2.2.2 + 1) → me sd J K → TV (d + 1) mX12_comesOut 0 [.ref 58, .int y1, .null] [] K M F) : TV (d + 1) mX12_comesOut 31 [.ref 58, .int y1, .null] [] J M F := by
  obtain ⟨w, ew⟩ : ∃ w, e.2.1 = w + 1 := ⟨e.2.1 - 1, by omega⟩
  have ol := ofW_le e.1 e.2.1
  have q := (HE.1.2 (e.2.1 - 1) (by omega)).1
  rw [show e.2.1 - 1 + 1 = e.2.1 by omega] at q
  have eo : ofW e.1 e.2.1 - 1 = ofW e.1 (e.2.1 - 1) := by
    rw [ew, Nat.add_sub_cancel, ofW, if_neg (by rw [ew, Nat.add_sub_cancel] at ht; omega), Nat.add_sub_cancel]
  refine sgX12_comesOut_31 ?_
  rw [HE.1.1, show nI (ofW e.1 e.2.1) - 1 = nI (ofW e.1 e.2.1 - 1) from pk_sub (b := 1) (by omega), nI_clamp (by omega), q]
  refine ⟨vp_in_nI (by omega) (by decide), ?_⟩
  have HP : rE sd (u_I J 58 48 (nI (ofW e.1 e.2.1 - 1))) (e.1, e.2.1 - 1, e.2.2) := ⟨rS_pop HE.1 h0 eo, by simp [u_I]; exact HE.2.1, by simp [u_I]; exact HE.2.2.1, by rw [u_I_ne _ _ (by decide), u_I_ne _ _ (by decide)]; exact HE.2.2.2⟩
  have ic : iv_code (-(nI (e.1 (e.2.1 - 1)))) (if nI (kmF (e.1 (e.2.1 - 1))) = 8 then (2 : Int32) else (if nI (kmF (e.1 (e.2.1 - 1))) = 9 then (3 : Int32) else 4)) 0 := by
    unfold iv_code
    rcases ht with c | c | c <;> rw [c]
    · exact Or.inr (Or.inr (Or.inr (Or.inr (Or.inl (by decide)))))
    · exact Or.inr (Or.inr (Or.inl (by decide)))
    · exact Or.inr (Or.inr (Or.inr (Or.inl (by decide))))
  exact m_emit hsd (rr_58 H (by omega)) hs HP hc ic (fun K hK hE hx => h K hK hE ((me_k (by omega)).tr hx))
theorem ppE_no {a b : Nat} {e : e5_X} (h : ¬ (0 < e.2.1 ∧ (e.1 (e.2.1 - 1) = a ∨ e.1 (e.2.1 - 1) = b))) : ppE a b e = e := by unfold ppE; rw [if_neg h]
theorem m_comesOut_1 {d sd a t : Nat} {B : Nat → Nat} {n : Nat} {s : s4_X} {e : e5_X} {J : st_I} {M : st_L} {F : st_I → st_L → Prop} (hsd : sd ≤ 1) (H : rr B n J M s) (hs : s.1 = 0) (hm : s.2.1 ≤ 400) (HE : rE sd J e) (G : gE a s.2.1 e t 1) (h : ∀ K, rr B n K M s → rE sd K (ppE 42 42 e) → me sd J K → F K M) : EV (d + 1) mX12_comesOut [.ref 58, .int 1] J M F := by
  have hw := G.w20
  have hc := G.2.2.2.2.1
  refine sgX12_comesOut_e (sgX12_comesOut_0 ?_)
  refine m_waitsOn (k := 42) (c := 10) (sd := sd) HE.1 G.1 (by omega) (by decide) (by decide) (by decide) ?_
  by_cases z : 0 < e.2.1 ∧ e.1 (e.2.1 - 1) = 42
  · rw [decide_eq_true z, if_neg (by decide)]
    refine m_pop (x1 := 0) hsd H hs HE (by omega) (by omega) z.1 (Or.inl z.2) (fun K hK hE hx => ?_)
    have ep : ppE 42 42 e = (e.1, e.2.1 - 1, e.2.2.1, upd e.2.2.2.1 e.2.2.2.2 (-(nI (e.1 (e.2.1 - 1)))), e.2.2.2.2 + 1) := by unfold ppE; rw [if_pos ⟨z.1, Or.inl z.2⟩]
    rw [← ep] at hE
    obtain ⟨t1, ht1, G1⟩ := gE_pp1 G
    have hw1 := G1.w20
    refine sgX12_comesOut_0 ?_
    refine m_waitsOn (k := 42) (c := 10) (sd := sd) hE.1 G1.1 (by omega) (by decide) (by decide) (by decide) ?_
    have nz : ¬ (0 < (ppE 42 42 e).2.1 ∧ (ppE 42 42 e).1 ((ppE 42 42 e).2.1 - 1) = 42) := by
      intro c
      rcases okW_top G1.1 with ⟨q, -⟩ | ⟨-, q, -⟩ | ⟨-, q, -⟩ | ⟨-, -, q, -⟩ <;> omega
    rw [decide_eq_false nz, if_pos (by decide), if_neg (by decide)]
    exact h K hK hE hx
  · rw [decide_eq_false z, if_pos (by decide), if_neg (by decide)]
    have ep : ppE 42 42 e = e := ppE_no (fun c => z ⟨c.1, by omega⟩)
    rw [ep] at h
    exact h J H HE me.rf
theorem m_comesOut_0 {d sd a t : Nat} {B : Nat → Nat} {n : Nat} {s : s4_X} {e : e5_X} {J : st_I} {M : st_L} {F : st_I → st_L → Prop} (hsd : sd ≤ 1) (H : rr B n J M s) (hs : s.1 = 0) (hm : s.2.1 ≤ 400) (HE : rE sd J e) (G : gE a s.2.1 e t 1) (h : ∀ K, rr B n K M s → rE sd K (p2E e) → me sd J K → F K M) : EV (d + 1) mX12_comesOut [.ref 58, .int 0] J M F := by
  have hw := G.w20
  have hc := G.2.2.2.2.1
  obtain ⟨t1, ht1, G1⟩ := gE_pp1 G
  have G2 : gE a s.2.1 (p2E e) 0 1 := gE_pp2 G1 ht1
  have hw1 := G1.w20
  have hw2 := G2.w20
  have hc1 := G1.2.2.2.2.1
  have n2 : ∀ k, k = 42 ∨ k = 43 ∨ k = 45 → ¬ (0 < (p2E e).2.1 ∧ (p2E e).1 ((p2E e).2.1 - 1) = k) := by
    intro k hk c
    rcases okW_top G2.1 with ⟨q, -⟩ | ⟨-, q, -⟩ | ⟨-, -, q, -⟩ | ⟨-, -, q, -⟩ <;> omega
  have n1 : ¬ (0 < (ppE 42 42 e).2.1 ∧ (ppE 42 42 e).1 ((ppE 42 42 e).2.1 - 1) = 42) := by
    intro c
    rcases okW_top G1.1 with ⟨q, -⟩ | ⟨-, q, -⟩ | ⟨-, q, -⟩ | ⟨-, -, q, -⟩ <;> omega
  -- nothing more comes out
  have last : ∀ K, rr B n K M s → rE sd K (p2E e) → me sd J K → TV (d + 1) mX12_comesOut 0 [.ref 58, .int 0, .null] [] K M F := by
    intro K hK hE hx
    refine sgX12_comesOut_0 ?_
    refine m_waitsOn (k := 42) (c := 10) (sd := sd) hE.1 G2.1 (by omega) (by decide) (by decide) (by decide) ?_
    rw [decide_eq_false (n2 42 (Or.inl rfl)), if_pos (by decide), if_pos (by decide)]
    refine m_waitsOn (k := 43) (c := 8) (sd := sd) hE.1 G2.1 (by omega) (by decide) (by decide) (by decide) ?_
    rw [decide_eq_false (n2 43 (by omega)), if_pos (by decide)]
    refine m_waitsOn (k := 45) (c := 9) (sd := sd) hE.1 G2.1 (by omega) (by decide) (by decide) (by decide) ?_
    rw [decide_eq_false (n2 45 (by omega)), if_pos (by decide)]
    exact h K hK hE hx
  -- a + or a -
  have two : ∀ K, rr B n K M s → rE sd K (ppE 42 42 e) → me sd J K → TV (d + 1) mX12_comesOut 0 [.ref 58, .int 0, .null] [] K M F := by
    intro K hK hE hx
    refine sgX12_comesOut_0 ?_
    refine m_waitsOn (k := 42) (c := 10) (sd := sd) hE.1 G1.1 (by omega) (by decide) (by decide) (by decide) ?_
    rw [decide_eq_false n1, if_pos (by decide), if_pos (by decide)]
    refine m_waitsOn (k := 43) (c := 8) (sd := sd) hE.1 G1.1 (by omega) (by decide) (by decide) (by decide) ?_
    have pop : 0 < (ppE 42 42 e).2.1 → ((ppE 42 42 e).1 ((ppE 42 42 e).2.1 - 1) = 43 ∨ (ppE 42 42 e).1 ((ppE 42 42 e).2.1 - 1) = 45) → TV (d + 1) mX12_comesOut 31 [.ref 58, .int 0, .null] [] K M F := by
      intro z y
      refine m_pop (x1 := 0) hsd hK hs hE (by omega) (by omega) z (Or.inr y) (fun K2 hK2 hE2 hx2 => ?_)
      have ep : p2E e = ((ppE 42 42 e).1, (ppE 42 42 e).2.1 - 1, (ppE 42 42 e).2.2.1, upd (ppE 42 42 e).2.2.2.1 (ppE 42 42 e).2.2.2.2 (-(nI ((ppE 42 42 e).1 ((ppE 42 42 e).2.1 - 1)))), (ppE 42 42 e).2.2.2.2 + 1) := by
        unfold p2E
        rw [ppE, if_pos ⟨z, y⟩]
      rw [← ep] at hE2
      exact last K2 hK2 hE2 (hx.tr hx2)
    by_cases z : 0 < (ppE 42 42 e).2.1 ∧ (ppE 42 42 e).1 ((ppE 42 42 e).2.1 - 1) = 43
    · rw [decide_eq_true z, if_neg (by decide)]
      exact pop z.1 (Or.inl z.2)
    · rw [decide_eq_false z, if_pos (by decide)]
      refine m_waitsOn (k := 45) (c := 9) (sd := sd) hE.1 G1.1 (by omega) (by decide) (by decide) (by decide) ?_
      by_cases y : 0 < (ppE 42 42 e).2.1 ∧ (ppE 42 42 e).1 ((ppE 42 42 e).2.1 - 1) = 45
      · rw [decide_eq_true y, if_neg (by decide)]
        exact pop y.1 (Or.inr y.2)
      · rw [decide_eq_false y, if_pos (by decide)]
        have ep : p2E e = ppE 42 42 e := ppE_no (fun c => by
          rcases c.2 with q | q
          · exact z ⟨c.1, q⟩
          · exact y ⟨c.1, q⟩)
        rw [ep] at h
        exact h K hK hE hx
  refine sgX12_comesOut_e ?_
  by_cases z : 0 < e.2.1 ∧ e.1 (e.2.1 - 1) = 42
  · refine sgX12_comesOut_0 ?_
    refine m_waitsOn (k := 42) (c := 10) (sd := sd) HE.1 G.1 (by omega) (by decide) (by decide) (by decide) ?_
    rw [decide_eq_true z, if_neg (by decide)]
    refine m_pop (x1 := 0) hsd H hs HE (by omega) (by omega) z.1 (Or.inl z.2) (fun K hK hE hx => ?_)
    have ep : ppE 42 42 e = (e.1, e.2.1 - 1, e.2.2.1, upd e.2.2.2.1 e.2.2.2.2 (-(nI (e.1 (e.2.1 - 1)))), e.2.2.2.2 + 1) := by unfold ppE; rw [if_pos ⟨z.1, Or.inl z.2⟩]
    rw [← ep] at hE
    exact two K hK hE hx
  · have ep : ppE 42 42 e = e := ppE_no (fun c => z ⟨c.1, by omega⟩)
    rw [ep] at two
    exact two J H HE me.rf
/-- one more waits: what it says of the stack is given -/
theorem m_waitFor {d sd : Nat} {B : Nat → Nat} {n : Nat} {s : s4_X} {e e' : e5_X} {k : Nat} {J : st_I} {M : st_L} {F : st_I → st_L → Prop} {x : Int32} (H : rr B n J M s) (hs : s.1 = 0) (hk : 2 ≤ knF B n s.2.1) (HE : rE sd J e) (hw : e.2.1 ≤ 24) (hx : x = nI (kmF k)) (hS : rS (u_I (u_I J 91 (ofW e.1 e.2.1) (nI (kmF k))) 58 48 (nI (ofW e.1 e.2.1 + 1))) e'.1 e'.2.1) (ho : e'.2.2 = e.2.2) (h : ∀ K, rr B n K M (stA true s) → rE sd K e' → me sd J K → F K M) : EV (d + 2) mX12_waitFor [.ref 58, .int x] J M F := by
  have ol := ofW_le e.1 e.2.1
  refine sgX12_waitFor_0 ?_
  rw [HE.1.1, nI_clamp (by omega), nI_1, hx]
  have e48 : (u_I J 91 (ofW e.1 e.2.1) (nI (kmF k))) 58 48 = nI (ofW e.1 e.2.1) := by rw [u_I_ne _ _ (by decide)]; exact HE.1.1
  refine ⟨vp_in_nI (by omega) (by decide), ?_⟩
  refine m_goesOn (rr_58 (rr_tab H (by decide)) (by omega)) hs hk (fun K hK hxK => h K hK (rE.r58 ⟨hS, ?_, ?_, ?_⟩ hxK) ((me_91.tr (me_k (by omega))).tr hxK.me))
  · rw [ho]; simp [u_I]; exact HE.2.1
  · rw [ho]; simp [u_I]; exact HE.2.2.1
  · rw [ho, u_I_ne _ _ (by decide), u_I_ne _ _ (by decide), u_I_ne _ _ (by decide), u_I_ne _ _ (by decide)]; exact HE.2.2.2
