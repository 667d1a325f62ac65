/-! read: the reference's cut, its loops -/
theorem rnF_all {p : Nat → Bool} : ∀ r i j, j < rnF p r i → p (i + j) = true
  | 0, _, _, h => by rw [rnF] at h; omega
  | r + 1, i, j, h => by
    by_cases z : p i = true
    · rw [rnF_s z] at h
      cases j with
      | zero => rw [Nat.add_zero]; exact z
      | succ j => have := rnF_all (p := p) r (i + 1) j (by omega); rwa [show i + (j + 1) = i + 1 + j by omega]
    · rw [rnF_n z] at h; omega
theorem rnF_first {p : Nat → Bool} {r i : Nat} (hr : 0 < r) (h : p i = true) : 0 < rnF p r i := by
  cases r with
  | zero => omega
  | succ r => rw [rnF_s h]; omega
theorem te_let {B : Nat → Nat} {n i : Nat} (hi : i < n) (h : lcB (B i) = true) : teF B n i = i + llF B n i ∧ 0 < llF B n i := by
  have : 0 < llF B n i := rnF_first (p := fun j => lcB (B j)) (by omega) h
  unfold teF
  rw [if_pos this]; exact ⟨rfl, this⟩
theorem te_dig {B : Nat → Nat} {n i : Nat} (hi : i < n) (h0 : ¬ lcB (B i) = true) (h : dgB (B i) = true) : teF B n i = i + dlF B n i ∧ 0 < dlF B n i := by
  have h1 : llF B n i = 0 := rnF_n (p := fun j => lcB (B j)) h0
  have : 0 < dlF B n i := rnF_first (p := fun j => dgB (B j)) (by omega) h
  unfold teF
  rw [h1, if_neg (Nat.lt_irrefl 0), if_pos this]; exact ⟨rfl, this⟩
theorem te_sig {B : Nat → Nat} {n i : Nat} (hi : i < n) (h0 : ¬ lcB (B i) = true) (h : ¬ dgB (B i) = true) : teF B n i = if B i = 61 ∧ i + 1 < n ∧ B (i + 1) = 61 then i + 2 else i + 1 := by
  have h1 : llF B n i = 0 := rnF_n (p := fun j => lcB (B j)) h0
  have h2 : dlF B n i = 0 := rnF_n (p := fun j => dgB (B j)) h
  unfold teF
  rw [h1, h2, if_neg (Nat.lt_irrefl 0), if_neg (Nat.lt_irrefl 0), if_neg (by omega)]
/-- the words among the reference's keys -/
theorem m_keys {d n k f l : Nat} {W : Nat → Int64} {I : st_I} {L : st_L} {F : st_I → st_L → Prop} {B : Nat → Nat} (hW : keyW W) (hL : L 65 = W) (h1 : 1 ≤ l) (h7 : l ≤ 7) (hl : ∀ j, j < l → lcB (B (f + j)) = true) (hB : ∀ j, B j < 256) (hF : TV (d + 1) mX12_cut 179 [.ref 58, .int (nI f), .null, .int (nI l), .long (lN (nkF 27 B f l)), .null, .int (nI (kmF (wdF B f (f + l) 22 0))), .null] [] I L F) : TV (d + 1) mX12_cut 146 [.ref 58, .int (nI f), .null, .int (nI l), .long (lN (nkF 27 B f l)), .null, .int 1, .int 0] [] I L F := by
  have ls : f + l - f = l := by omega
  have mk : ∀ w, w < 22 → (mwF B f (f + l) w = true ↔ nkF 27 B f l = wkF w) := fun w hw => by
    have := mw_key (B := B) (i := f) (e := f + l) hw (by omega) (by omega) (by rw [ls]; exact hl)
    rwa [ls] at this
  have nlt : nkF 27 B f l < 2 ^ 63 := by
    have q := kf_lt (b := 27) (g := fun j => B (f + j) - 96) l (fun j hj => (lc_d (hl j hj)).2.1)
    have q2 : 27 ^ l ≤ 27 ^ 7 := Nat.pow_le_pow_right (by decide) h7
    exact Nat.lt_of_lt_of_le q (Nat.le_trans q2 (by decide))
  have wlt : ∀ w, w < 22 → wkF w < 2 ^ 63 := fun w hw => Nat.lt_of_lt_of_le (wk_lt w hw) (by decide)
  have mm : ∀ k, k < 22 → (lg_cmp (L 65 k) (lN (nkF 27 B f l)) = 0 ↔ mwF B f (f + l) (wiF k) = true) := fun k hk => by
    have q := wi_ok k hk
    rw [lg_cmp_eq, hL, hW k hk, pk_lEQ (wlt _ q.1) nlt, mk _ q.1]
    exact ⟨fun z => z.symm, fun z => z.symm⟩
  have hit : ∀ k, k < 22 → mwF B f (f + l) (wiF k) = true → wdF B f (f + l) 22 0 = 128 + wiF k := fun k hk z => by
    have q := wi_ok k hk
    refine wd_some z (fun v hv y => ?_) 22 0 rfl (Nat.zero_le _) q.1
    exact wk_inj v hv _ q.1 (((mk v hv).mp y).symm.trans ((mk _ q.1).mp z))
  have key : ∀ r k (x : Int32), k + r = 22 → (x = nI (kmF (wdF B f (f + l) 22 0)) ∨ ∃ c, k ≤ c ∧ c < 22 ∧ mwF B f (f + l) (wiF c) = true) → TV (d + 1) mX12_cut 146 [.ref 58, .int (nI f), .null, .int (nI l), .long (lN (nkF 27 B f l)), .null, .int x, .int (nI k)] [] I L F := by
    intro r
    induction r with
    | zero =>
      intro k x hk hx
      refine sgX12_cut_146 ?_
      rw [if_pos (show (22 : Int32) ≤ nI k from nI_le (a := 22) (by omega) (by omega))]
      rcases hx with hx | ⟨c, c1, c2, -⟩
      · rw [hx]; exact hF
      · omega
    | succ r ih =>
      intro k x hk hx
      refine sgX12_cut_146 ?_
      rw [if_neg (show ¬ (22 : Int32) ≤ nI k from nI_ge (b := 22) (by omega) (by decide)), nI_clamp (by omega), nI_1]
      refine ⟨vp_in_nI (by omega) (by decide), ?_⟩
      by_cases z : mwF B f (f + l) (wiF k) = true
      · rw [if_pos ((mm k (by omega)).mpr z)]
        refine ih (k + 1) _ (by omega) (Or.inl ?_)
        rw [hit k (by omega) z, (wi_ok k (by omega)).2]
        exact nI_add 20 k
      · rw [if_neg (fun q => z ((mm k (by omega)).mp q))]
        refine ih (k + 1) _ (by omega) ?_
        rcases hx with hx | ⟨c, c1, c2, c3⟩
        · exact Or.inl hx
        · refine Or.inr ⟨c, ?_, c2, c3⟩
          have : c ≠ k := fun q => z (q ▸ c3)
          omega
  refine key 22 0 1 rfl ?_
  by_cases z : ∃ c, c < 22 ∧ mwF B f (f + l) (wiF c) = true
  · obtain ⟨c, c1, c2⟩ := z
    exact Or.inr ⟨c, Nat.zero_le _, c1, c2⟩
  · refine Or.inl ?_
    rw [wd_none (fun v hv y => z ⟨kmF (128 + v) - 20, ?_, ?_⟩) 22 0 rfl]
    · rfl
    · have := wi_inv v hv; omega
    · rw [(wi_inv v hv).2.2]; exact y
/-- a run of letters -/
theorem m_letters {d n f : Nat} {W : Nat → Int64} {I : st_I} {L : st_L} {F : st_I → st_L → Prop} (H : rx I n) (hW : keyW W) (hL : L 65 = W) (hf : f < n) (hc : lcB (bB I f) = true) (hF : ∀ v : Int64, (kdF (bB I) n f (teF (bB I) n f) = 2 → v = lN (nkF 27 (bB I) f (teF (bB I) n f - f))) → TV (d + 1) mX12_cut 179 [.ref 58, .int (nI f), .null, .int (nI (llF (bB I) n f)), .long v, .null, .int (nI (kmF (kdF (bB I) n f (teF (bB I) n f)))), .null] [] I L F) : TV (d + 1) mX12_cut 85 [.ref 58, .int (nI f), .null, .int 0, .long 0, .null, .null, .null] [] I L F := by
  obtain ⟨h1, h2, h3, h4⟩ := id H
  have hB : ∀ j, bB I j < 256 := fun j => (bt_c (h4 j)).1
  obtain ⟨te, hpos⟩ := te_let hf hc
  have hle : llF (bB I) n f ≤ n - f := rnF_le _ _ _
  have hall : ∀ j, j < llF (bB I) n f → lcB (bB I (f + j)) = true := fun j hj => rnF_all (p := fun j => lcB (bB I j)) _ _ _ hj
  have tl : teF (bB I) n f - f = llF (bB I) n f := by omega
  have kd : kdF (bB I) n f (teF (bB I) n f) = if llF (bB I) n f ≤ 8 then wdF (bB I) f (teF (bB I) n f) 22 0 else 1 := by
    unfold kdF
    rw [if_neg (by omega), if_pos hc, tl]
  have fin : ∀ m, m = llF (bB I) n f → (if (7 : Int32) < nI m then TV (d + 1) mX12_cut 179 [.ref 58, .int (nI f), .null, .int (nI m), .long (lN (nkF 27 (bB I) f (min m 8))), .null, .int (if nI m ≤ 8 then (1 : Int32) else 3), .null] [] I L F else TV (d + 1) mX12_cut 146 [.ref 58, .int (nI f), .null, .int (nI m), .long (lN (nkF 27 (bB I) f (min m 8))), .null, .int (if nI m ≤ 8 then (1 : Int32) else 3), .int 0] [] I L F) := by
    intro m hm
    have hv : kdF (bB I) n f (teF (bB I) n f) = 2 → lN (nkF 27 (bB I) f (min m 8)) = lN (nkF 27 (bB I) f (teF (bB I) n f - f)) := fun z => by
      have : llF (bB I) n f ≤ 8 := by
        rw [kd] at z
        by_cases y : llF (bB I) n f ≤ 8
        · exact y
        · rw [if_neg y] at z; omega
      rw [tl, hm, Nat.min_eq_left this]
    by_cases z : m ≤ 7
    · rw [if_neg (show ¬ (7 : Int32) < nI m from nI_nlt (a := 7) z (by decide)), if_pos (show nI m ≤ 8 from nI_le (b := 8) (by omega) (by decide)), Nat.min_eq_left (show m ≤ 8 by omega)]
      rw [Nat.min_eq_left (show m ≤ 8 by omega)] at hv
      refine m_keys (n := n) (k := 0) hW hL (by omega) z (fun j hj => hall j (by omega)) hB ?_
      have q := hF _ hv
      rw [kd, if_pos (by omega), te, ← hm] at q
      exact q
    · rw [if_pos (show (7 : Int32) < nI m from nI_lt (a := 7) (by omega) (by omega))]
      have q := hF _ hv
      rw [← hm] at q
      refine cast (congrArg (fun x => TV (d + 1) mX12_cut 179 [.ref 58, .int (nI f), .null, .int (nI m), .long (lN (nkF 27 (bB I) f (min m 8))), .null, .int x, .null] [] I L F) ?_) q
      rw [kd, ← hm]
      by_cases y : m ≤ 8
      · rw [if_pos y, if_pos (show nI m ≤ 8 from nI_le (b := 8) y (by decide))]
        obtain rfl : m = 8 := by omega
        rw [wd_none (fun v hv y => ?_) 22 0 rfl]
        · rfl
        · have q1 := mwF_iff.mp y 7 (by decide)
          obtain ⟨w1, w2, w3⟩ := wl_ok v hv
          have q2 := w3 7 (by decide)
          rw [if_neg (by omega)] at q2
          unfold aF at q1
          rw [if_pos (by omega), q2] at q1
          have := hall 7 (by omega)
          rw [← q1] at this
          exact absurd this (by decide)
      · rw [if_neg y, if_neg (show ¬ nI m ≤ 8 from nI_ge (a := 8) (by omega) (by omega))]
        rfl
  have key : ∀ r m, f + m + r = n → m + rnF (fun j => lcB (bB I j)) r (f + m) = llF (bB I) n f → TV (d + 1) mX12_cut 85 [.ref 58, .int (nI f), .null, .int (nI m), .long (lN (nkF 27 (bB I) f (min m 8))), .null, .null, .null] [] I L F := by
    intro r
    induction r with
    | zero =>
      intro m hm he
      refine sgX12_cut_85 ?_
      rw [nI_add]
      refine m_byteAt H (by omega) ?_
      rw [if_neg (by omega)]
      refine m_isLetter (by decide) ?_
      rw [b01_0 (show ¬ lcB 0 = true by decide), if_pos rfl]
      exact fin m he
    | succ r ih =>
      intro m hm he
      refine sgX12_cut_85 ?_
      rw [nI_add]
      refine m_byteAt H (by omega) ?_
      rw [if_pos (by omega)]
      refine m_isLetter (hB _) ?_
      by_cases z : lcB (bB I (f + m)) = true
      · rw [rnF_s (p := fun j => lcB (bB I j)) z] at he
        have nx := ih (m + 1) (by omega) (by rw [show f + (m + 1) = f + m + 1 by omega]; omega)
        rw [b01_1 z, if_neg (by decide), nI_1]
        by_cases y : m < 8
        · rw [if_neg (show ¬ (8 : Int32) ≤ nI m from nI_ge (b := 8) y (by decide))]
          refine m_byteAt H (by omega) ?_
          rw [if_pos (by omega), Nat.min_eq_left (show m ≤ 8 by omega)]
          refine m_appends (lc_d z).2.2 ?_
          rw [Nat.min_eq_left (show m + 1 ≤ 8 by omega)] at nx
          exact nx
        · rw [if_pos (show (8 : Int32) ≤ nI m from nI_le (a := 8) (by omega) (by omega))]
          rw [Nat.min_eq_right (show 8 ≤ m + 1 by omega)] at nx
          rw [Nat.min_eq_right (show 8 ≤ m by omega)]
          exact nx
      · rw [rnF_n (p := fun j => lcB (bB I j)) z] at he
        rw [b01_0 z, if_pos rfl]
        exact fin m he
  exact key (n - f) 0 (by omega) (by rw [Nat.zero_add, Nat.add_zero]; rfl)
theorem kf_val {B : Nat → Nat} {f : Nat} : ∀ r, (∀ j, j < r → dgB (B (f + j)) = true) → kf 10 (fun j => B (f + j) - 48) r < 10 ^ r := fun r h => kf_lt r (fun j hj => by have := of_decide_eq_true (h j hj); omega)
/-- a run of digits -/
theorem m_digits {d n f k : Nat} {I : st_I} {L : st_L} {F : st_I → st_L → Prop} (H : rx I n) (hf : f < n) (h0 : ¬ lcB (bB I f) = true) (hc : dgB (bB I f) = true) (hF : ∀ x : Int32, (kdF (bB I) n f (teF (bB I) n f) = 3 → x = nI (kf 10 (fun j => bB I (f + j) - 48) (teF (bB I) n f - f))) → kdF (bB I) n f (teF (bB I) n f) ≠ 2 → EV d mX12_token [.ref 58, .int (nI (kmF (kdF (bB I) n f (teF (bB I) n f)))), .int (nI f), .int x, .long 0] I L (fun I3 L3 => TV (d + 1) mX12_cut 7 [.ref 58, .int (nI (teF (bB I) n f)), .null, .null, .null, .null, .null, .null] [] I3 L3 F)) : TV (d + 1) mX12_cut 208 [.ref 58, .int (nI f), .null, .int 0, .int 0, .null, .null, .null] [] I L F := by
  obtain ⟨h1, h2, h3, h4⟩ := id H
  have hB : ∀ j, bB I j < 256 := fun j => (bt_c (h4 j)).1
  obtain ⟨te, hpos⟩ := te_dig hf h0 hc
  have hle : dlF (bB I) n f ≤ n - f := rnF_le _ _ _
  have hall : ∀ j, j < dlF (bB I) n f → dgB (bB I (f + j)) = true := fun j hj => rnF_all (p := fun j => dgB (bB I j)) _ _ _ hj
  have tl : teF (bB I) n f - f = dlF (bB I) n f := by omega
  have kd : kdF (bB I) n f (teF (bB I) n f) = if dlF (bB I) n f ≤ 4 then 3 else 1 := by
    unfold kdF
    rw [if_neg (by omega), if_neg h0, if_pos hc, tl]
  have fin : ∀ m, m = dlF (bB I) n f → EV d mX12_token [.ref 58, .int (if nI m ≤ 4 then (2 : Int32) else 3), .int (nI f), .int (nI (kf 10 (fun j => bB I (f + j) - 48) (min m 4))), .long 0] I L (fun I3 L3 => TV (d + 1) mX12_cut 7 [.ref 58, .int (nI f + nI m), .null, .null, .null, .null, .null, .null] [] I3 L3 F) := by
    intro m hm
    have q := hF (nI (kf 10 (fun j => bB I (f + j) - 48) (min m 4))) (fun z => by
      have : dlF (bB I) n f ≤ 4 := by
        rw [kd] at z
        by_cases y : dlF (bB I) n f ≤ 4
        · exact y
        · rw [if_neg y] at z; omega
      rw [tl, hm, Nat.min_eq_left this]) (by rw [kd]; split <;> decide)
    rw [te, ← hm] at q
    rw [nI_add]
    rw [te] at kd
    rw [← hm] at kd
    rw [kd] at q
    by_cases y : m ≤ 4
    · rw [if_pos y] at q
      rw [if_pos (show nI m ≤ 4 from nI_le (b := 4) y (by decide))]; exact q
    · rw [if_neg y] at q
      rw [if_neg (show ¬ nI m ≤ 4 from nI_ge (a := 4) (by omega) (by omega))]; exact q
  have key : ∀ r m, f + m + r = n → m + rnF (fun j => dgB (bB I j)) r (f + m) = dlF (bB I) n f → TV (d + 1) mX12_cut 208 [.ref 58, .int (nI f), .null, .int (nI m), .int (nI (kf 10 (fun j => bB I (f + j) - 48) (min m 4))), .null, .null, .null] [] I L F := by
    intro r
    induction r with
    | zero =>
      intro m hm he
      refine sgX12_cut_208 ?_
      rw [nI_add]
      refine m_byteAt H (by omega) ?_
      rw [if_neg (by omega)]
      refine m_isDigit (by decide) ?_
      rw [b01_0 (show ¬ dgB 0 = true by decide), if_pos rfl, ← nI_add]
      exact fin m he
    | succ r ih =>
      intro m hm he
      refine sgX12_cut_208 ?_
      rw [nI_add]
      refine m_byteAt H (by omega) ?_
      rw [if_pos (by omega)]
      refine m_isDigit (hB _) ?_
      by_cases z : dgB (bB I (f + m)) = true
      · rw [rnF_s (p := fun j => dgB (bB I j)) z] at he
        have nx := ih (m + 1) (by omega) (by rw [show f + (m + 1) = f + m + 1 by omega]; omega)
        rw [b01_1 z, if_neg (by decide), nI_1]
        by_cases y : m < 4
        · rw [if_neg (show ¬ (4 : Int32) ≤ nI m from nI_ge (b := 4) y (by decide))]
          refine m_byteAt H (by omega) ?_
          have dz := of_decide_eq_true z
          rw [if_pos (by omega), Nat.min_eq_left (show m ≤ 4 by omega), show (10 : Int32) = nI 10 from rfl, pk_mul, nI_add, show nI (10 * kf 10 (fun j => bB I (f + j) - 48) m + bB I (f + m)) - 48 = nI (10 * kf 10 (fun j => bB I (f + j) - 48) m + bB I (f + m) - 48) from pk_sub (b := 48) (by omega), show 10 * kf 10 (fun j => bB I (f + j) - 48) m + bB I (f + m) - 48 = 10 * kf 10 (fun j => bB I (f + j) - 48) m + (bB I (f + m) - 48) by omega]
          rw [Nat.min_eq_left (show m + 1 ≤ 4 by omega)] at nx
          exact nx
        · rw [if_pos (show (4 : Int32) ≤ nI m from nI_le (a := 4) (by omega) (by omega))]
          rw [Nat.min_eq_right (show 4 ≤ m + 1 by omega)] at nx
          rw [Nat.min_eq_right (show 4 ≤ m by omega)]
          exact nx
      · rw [rnF_n (p := fun j => dgB (bB I j)) z] at he
        rw [b01_0 z, if_pos rfl, ← nI_add]
        exact fin m he
  exact key (n - f) 0 (by omega) (by rw [Nat.zero_add, Nat.add_zero]; rfl)
/-- as far as the reference goes -/
def seF (B : Nat → Nat) (n : Nat) : Nat → Nat → Nat
  | 0, i => i
  | r + 1, i => if knF B n i = 0 then i + 1 else seF B n r (i + 1)
theorem se_ge {B : Nat → Nat} {n : Nat} : ∀ r a, a ≤ seF B n r a
  | 0, _ => Nat.le_refl _
  | r + 1, a => by
    have := se_ge (B := B) (n := n) r (a + 1)
    rw [seF]; split <;> omega
theorem sp_le_se {B : Nat → Nat} {n : Nat} : ∀ r i, spF B n r i ≤ seF B n r i
  | 0, _ => Nat.le_refl _
  | r + 1, i => by
    have h := se_ge (B := B) (n := n) r (i + 1)
    have h2 := sp_le_se (B := B) (n := n) r (i + 1)
    rw [spF, seF]
    by_cases z : knF B n i = 0
    · rw [if_pos (Or.inl z), if_pos z]; exact Nat.le_refl _
    · rw [if_neg z]
      split
      · exact h
      · exact h2
theorem wd_nz (B : Nat → Nat) (i e : Nat) : ∀ r w, wdF B i e r w ≠ 0
  | 0, _ => by rw [wdF]; decide
  | r + 1, w => by
    rw [wdF]; split
    · omega
    · exact wd_nz B i e r (w + 1)
theorem wd_n3 (B : Nat → Nat) (i e : Nat) : ∀ r w, wdF B i e r w ≠ 3
  | 0, _ => by rw [wdF]; decide
  | r + 1, w => by
    rw [wdF]; split
    · omega
    · exact wd_n3 B i e r (w + 1)
