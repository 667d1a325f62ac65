/-! read: an E in the reference, from its loop -/
theorem m_exp_18 {d sd a : Nat} {B : Nat → Nat} {n : Nat} {M : st_L} {F : st_I → st_L → Prop} {J0 : st_I} (hsd : sd ≤ 1) : ∀ (r : Nat) (due : Bool) (s : s4_X) (e : e5_X) (t k : Nat) (J : st_I), 401 < r + k → rr B n J M s → me sd J0 J → (s.1 = 0 → s.2.1 ≤ 400 ∧ k ≤ s.2.1 ∧ rE sd J e ∧ gE a s.2.1 e t (if due = true then 0 else 1)) → (∀ K, rr B n K M (exL B n r due s e).1 → me sd J0 K → ((exL B n r due s e).1.1 = 0 → rE sd K (exL B n r due s e).2) → F K M) → if due = true then TV (d + 4) mX12_expression 18 [.ref 58, .int 1] [] J M F else TI (d + 3) mX12_goes 0 [.ref 58] [] J M (fun r4 I4 L4 => if r4 = 0 then TV (d + 4) mX12_expression 18 [.ref 58, .int 0] [] I4 L4 F else TV (d + 4) mX12_expression 18 [.ref 58, .int 1] [] I4 L4 F)
  | 0, due, s, e, t, k, J, hr, H, hx, h, hF => by
    have l1 := H.lt.1
    by_cases hs : s.1 = 0
    · have := h hs; omega
    · have nz : ¬ J 58 13 = 0 := by rw [H.2.2.2.1]; exact nI_ne0 (Nat.pos_of_ne_zero hs) (by have := H.2.2.2.2.1; omega)
      have fin : F J M := hF J H hx (fun q => absurd q hs)
      split
      · refine sgX12_expression_18 ?_
        rw [if_neg (by decide), if_neg nz]; exact fin
      · refine sgX12_goes_0 ?_
        rw [if_neg nz, if_pos rfl]
        refine sgX12_expression_18 ?_
        rw [if_pos (by decide)]; exact fin
  | r + 1, due, s, e, t, k, J, hr, H, hx, h, hF => by
    obtain ⟨l1, l2, l3, l4, l5, l6, l7⟩ := H.lt
    by_cases hs : s.1 = 0
    · obtain ⟨h1, h2, h3, h4⟩ := h hs
      rw [exL, if_pos hs] at hF
      have z0 : J 58 13 = 0 := by rw [H.2.2.2.1, hs]; exact nI_0
      have dead : ∀ p : s4_X × e5_X × Nat, ¬ p.1.1 = 0 → exL B n r (decide (p.2.2 = 2)) p.1 p.2.1 = (p.1, p.2.1) := fun p y => by
        cases r with
        | zero => rfl
        | succ r => rw [exL, if_neg y]
      cases due with
      | true =>
        have es : stE B n true s e = uA B n s e := by unfold stE; rw [if_pos rfl]
        rw [es] at hF
        rw [if_pos rfl] at h4 ⊢
        have hc := h4.2.2.2.2.1
        have u2 : (uA B n s e).2.2 ≠ 0 := by
          unfold uA
          split
          · exact (Nat.succ_ne_zero _)
          · split
            · exact (Nat.succ_ne_zero _)
            · exact (Nat.succ_ne_zero _)
        rw [if_neg u2] at hF
        -- a FAULT: the loop ends
        have stop : ∀ K x, rr B n K M (uA B n s e).1 → me sd J0 K → ¬ (uA B n s e).1.1 = 0 → TV (d + 4) mX12_expression 18 [.ref 58, .int x] [] K M F := by
          intro K x hK hxK z
          rw [dead _ z] at hF
          have fin := hF K hK hxK (fun q => absurd q z)
          refine sgX12_expression_18 ?_
          split
          · exact fin
          · rw [if_neg (by rw [hK.2.2.2.1]; exact nI_ne0 (Nat.pos_of_ne_zero z) (by have := hK.2.2.2.2.1; omega))]; exact fin
        refine sgX12_expression_18 ?_
        rw [if_neg (by decide), z0, if_pos rfl]
        refine m_is (k := 40) H (by decide) (by decide) (by decide) ?_
        by_cases kb : knF B n s.2.1 = 40 ∨ knF B n s.2.1 = 91
        · -- a bracket
          have p47 : TV (d + 4) mX12_expression 47 [.ref 58, .int 1] [] J M F := by
            refine sgX12_expression_47 ?_
            rw [h3.2.1]
            have eu : uA B n s e = (pfA (decide (6 ≤ e.2.2.1)) s, opE (knF B n s.2.1) e, 2) := by unfold uA; rw [if_pos kb]
            have o6 := h4.2.2.2.1
            by_cases o : 6 ≤ e.2.2.1
            · rw [if_pos (by rw [show e.2.2.1 = 6 by omega]; rfl)]
              refine m_fail (k := 2) H (by decide) (by decide) (fun K hK hxK => ?_)
              have ef : fiA 2 s = (uA B n s e).1 := by rw [eu]; unfold fiA; rw [if_pos hs]; exact (pf_full (decide_eq_true o) hs).symm
              rw [ef] at hK
              have nz : ¬ (uA B n s e).1.1 = 0 := by rw [← ef]; unfold fiA; rw [if_pos hs]; exact (show ¬ (2 : Nat) = 0 by decide)
              have fin := stop K 1 hK (hx.tr hxK.me) nz
              refine sgX12_expression_61 ?_
              have h2' := hK.2.2.2.2.1
              rw [if_neg (by rw [hK.2.2.2.1]; exact nI_nle (Nat.pos_of_ne_zero nz) (by omega))]
              rw [dead _ nz] at hF
              exact hF K hK (hx.tr hxK.me) (fun q => absurd q nz)
            · rw [if_neg (fun q => o (by have := (nI_eq (b := 6) (by omega) (by decide)).mp q; omega))]
              refine sgX12_expression_61 ?_
              rw [z0, if_pos (by decide), l3, nI_clamp (by omega), l4, h3.2.1, nI_1]
              refine ⟨l2, ?_⟩
              have HE2 : rE sd (u_I J 58 12 (nI (e.2.2.1 + 1))) (e.1, e.2.1, e.2.2.1 + 1, e.2.2.2) := ⟨h3.1.cg (by simp [u_I]) (by rw [u_I_ne _ _ (by decide)]), by simp [u_I], by simp [u_I]; exact h3.2.2.1, by rw [u_I_ne _ _ (by decide), u_I_ne _ _ (by decide)]; exact h3.2.2.2⟩
              have hw := h4.w20
              refine m_waitFor (k := knF B n s.2.1) (e' := opE (knF B n s.2.1) e) (rr_58 H (by omega)) hs (by omega) HE2 (by show e.2.1 ≤ 24; omega) rfl (rS_push HE2.1 (by omega)) rfl (fun K hK hE hxK => ?_)
              have xK := hx.tr ((me_k (by omega)).tr hxK)
              have ep : (uA B n s e).1 = stA true s := by rw [eu]; exact pf_no (decide_eq_false o)
              rw [← ep] at hK
              by_cases z : (uA B n s e).1.1 = 0
              · obtain ⟨⟨t', q1⟩, q2, q3, q4⟩ := uA_ok hs h4 z
                have tk : (uA B n s e).1.2.1 ≤ 400 := by have := (st_al (show (stA true s).1 = 0 by rw [← ep]; exact z)).2.2.1; omega
                have e2 : (uA B n s e).2.2 = 2 := by rw [eu]
                rw [e2] at q1 hF
                have := m_exp_18 (d := d) (a := a) hsd r true (uA B n s e).1 (uA B n s e).2.1 t' (k + 1) K (by omega) hK xK (fun _ => ⟨tk, by omega, by rw [eu]; exact hE, by simpa using q1⟩) hF
                rwa [if_pos rfl] at this
              · exact stop K 1 hK xK z
          by_cases k40 : knF B n s.2.1 = 40
          · rw [decide_eq_true (show s.1 = 0 ∧ _ from ⟨hs, k40⟩), if_neg (by decide)]; exact p47
          · rw [decide_eq_false (fun q => k40 q.2), if_pos (by decide)]
            refine m_is (k := 91) H (by decide) (by decide) (by decide) ?_
            rw [decide_eq_true (show s.1 = 0 ∧ knF B n s.2.1 = 91 from ⟨hs, by omega⟩), if_neg (by decide)]; exact p47
        · rw [decide_eq_false (fun q => kb (Or.inl q.2)), if_pos (by decide)]
          refine m_is (k := 91) H (by decide) (by decide) (by decide) ?_
          rw [decide_eq_false (fun q => kb (Or.inr q.2)), if_pos (by decide)]
          refine m_unit hsd H hs h3 (by omega) kb (fun K hK hxK hE => ?_)
          by_cases z : (uA B n s e).1.1 = 0
          · obtain ⟨⟨t', q1⟩, q2, q3, q4⟩ := uA_ok hs h4 z
            have e2 : (uA B n s e).2.2 = 1 := by
              unfold uA; rw [if_neg kb]; split <;> rfl
            have tk : (uA B n s e).1.2.1 ≤ 400 := by have := hK.lt.1; omega
            rw [e2] at q1 hF
            rw [show K 58 13 = 0 by rw [hK.2.2.2.1, z]; exact nI_0, if_pos rfl]
            have := m_exp_18 (d := d) (a := a) hsd r false (uA B n s e).1 (uA B n s e).2.1 t' (k + 1) K (by omega) hK (hx.tr hxK) (fun _ => ⟨tk, by omega, hE z, by simpa using q1⟩) hF
            rw [if_neg (by decide)] at this
            exact sgX12_goes_e this
          · rw [if_neg (by rw [hK.2.2.2.1]; exact nI_ne0 (Nat.pos_of_ne_zero z) (by have := hK.2.2.2.2.1; omega))]
            exact stop K 0 hK (hx.tr hxK) z
      | false =>
        have es : stE B n false s e = gA B n s e := by unfold stE; rw [if_neg (by decide)]
        rw [es] at hF
        rw [if_neg (by decide)] at h4 ⊢
        refine m_goes_1 (a := a) (t := t) hsd H hs h1 h3 h4 (fun K hK hxK hE => ⟨fun c => ?_, fun c => ?_, fun z => ?_, fun c => ?_⟩)
        · rw [if_neg (by decide)]
          rw [c, if_neg (by decide)] at hF
          have := m_exp_18 (B := B) (n := n) (M := M) (F := F) (J0 := J0) (d := d) (a := a) hsd r true (gA B n s e).1 (gA B n s e).2.1
          by_cases z : (gA B n s e).1.1 = 0
          · obtain ⟨⟨t', q1⟩, q2, q3, q4⟩ := gA_ok h4 z
            have e1 := q2 (by rw [c]; decide)
            rw [c] at q1
            have q := this t' (k + 1) K (by omega) hK (hx.tr hxK) (fun _ => ⟨by have := hK.lt.1; omega, by omega, hE z, by simpa using q1⟩) hF
            rwa [if_pos rfl] at q
          · have q := this 0 (k + 1) K (by omega) hK (hx.tr hxK) (fun y => absurd y z) hF
            rwa [if_pos rfl] at q
        · rw [if_pos rfl]
          rw [if_pos c] at hF
          refine sgX12_expression_18 ?_
          rw [if_pos (by decide)]
          exact hF K hK (hx.tr hxK) hE
        · rw [if_pos rfl]
          refine sgX12_expression_18 ?_
          rw [if_pos (by decide)]
          by_cases c : (gA B n s e).2.2 = 0
          · rw [if_pos c] at hF
            exact hF K hK (hx.tr hxK) hE
          · rw [if_neg c, dead _ z] at hF
            exact hF K hK (hx.tr hxK) (fun q => absurd q z)
        · rw [c, if_neg (by decide)] at hF
          have := m_exp_18 (B := B) (n := n) (M := M) (F := F) (J0 := J0) (d := d) (a := a) hsd r false (gA B n s e).1 (gA B n s e).2.1
          by_cases z : (gA B n s e).1.1 = 0
          · obtain ⟨⟨t', q1⟩, q2, q3, q4⟩ := gA_ok h4 z
            have e1 := q2 (by rw [c]; decide)
            rw [c] at q1
            have q := this t' (k + 1) K (by omega) hK (hx.tr hxK) (fun _ => ⟨by have := hK.lt.1; omega, by omega, hE z, by simpa using q1⟩) hF
            rwa [if_neg (by decide)] at q
          · have q := this 0 (k + 1) K (by omega) hK (hx.tr hxK) (fun y => absurd y z) hF
            rwa [if_neg (by decide)] at q
    · have nz : ¬ J 58 13 = 0 := by rw [H.2.2.2.1]; exact nI_ne0 (Nat.pos_of_ne_zero hs) (by have := H.2.2.2.2.1; omega)
      rw [exL, if_neg hs] at hF
      have fin : F J M := hF J H hx (fun q => absurd q hs)
      split
      · refine sgX12_expression_18 ?_
        rw [if_neg (by decide), if_neg nz]; exact fin
      · refine sgX12_goes_0 ?_
        rw [if_neg nz, if_pos rfl]
        refine sgX12_expression_18 ?_
        rw [if_pos (by decide)]; exact fin
