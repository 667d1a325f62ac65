/-! read: the TOKENS. Bytes -/
def ub (x : Int32) : Nat := (x &&& 255).toNatClampNeg
theorem by_all : ∀ k, k < 256 → ((nI k).toInt8.toInt32 &&& 255) = nI k ∧ (k < 128 → (nI k).toInt8.toInt32 = nI k) ∧ (128 ≤ k → (nI k).toInt8.toInt32 < 0) ∧ ((nI k).toUInt32 % 65536).toInt32 = nI k := by decide +kernel
theorem bt_k {x : Int32} (h : bt x) : ∃ k, k < 256 ∧ x = (nI k).toInt8.toInt32 := by
  refine ⟨x.toInt8.toBitVec.toNat, x.toInt8.toBitVec.isLt, ?_⟩
  have : (nI x.toInt8.toBitVec.toNat).toInt8 = x.toInt8 := by
    apply Int8.toBitVec_inj.mp
    simp [nI]
  rw [this]; exact h.symm
theorem bt_c {x : Int32} (h : bt x) : ub x < 256 ∧ (x &&& 255) = nI (ub x) ∧ ((ub x < 128 ∧ x = nI (ub x)) ∨ (128 ≤ ub x ∧ x < 0)) ∧ ((nI (ub x)).toUInt32 % 65536).toInt32 = nI (ub x) := by
  obtain ⟨k, hk, e⟩ := bt_k h
  obtain ⟨h1, h2, h3, h4⟩ := by_all k hk
  have hu : ub x = k := by unfold ub; rw [e, h1, nI_clamp (by omega)]
  rw [hu]
  refine ⟨hk, by rw [e, h1], ?_, h4⟩
  by_cases z : k < 128
  · exact Or.inl ⟨z, by rw [e, h2 z]⟩
  · exact Or.inr ⟨by omega, by rw [e]; exact h3 (by omega)⟩
def lcB (c : Nat) : Bool := decide (97 ≤ c ∧ c ≤ 122)
def dgB (c : Nat) : Bool := decide (48 ≤ c ∧ c ≤ 57)
def blB (c : Nat) : Bool := decide (c = 9 ∨ c = 10 ∨ c = 13 ∨ c = 32)
/-- how many from i on, of at most r -/
def rnF (p : Nat → Bool) : Nat → Nat → Nat
  | 0, _ => 0
  | r + 1, i => if p i then rnF p r (i + 1) + 1 else 0
theorem rnF_le (p : Nat → Bool) : ∀ r i, rnF p r i ≤ r
  | 0, _ => Nat.le_refl _
  | r + 1, i => by
    rw [rnF]; split
    · have := rnF_le p r (i + 1); omega
    · omega
/-- the text: its bytes -/
def bB (I : st_I) (j : Nat) : Nat := ub (I 18 j)
def skF (B : Nat → Nat) (n i : Nat) : Nat := i + rnF (fun j => blB (B j)) (n - i) i
def llF (B : Nat → Nat) (n i : Nat) : Nat := rnF (fun j => lcB (B j)) (n - i) i
def dlF (B : Nat → Nat) (n i : Nat) : Nat := rnF (fun j => dgB (B j)) (n - i) i
/-- where what begins at i ends -/
def teF (B : Nat → Nat) (n i : Nat) : Nat := if 0 < llF B n i then i + llF B n i else if 0 < dlF B n i then i + dlF B n i else if n ≤ i then i else if B i = 61 ∧ i + 1 < n ∧ B (i + 1) = 61 then i + 2 else i + 1
/-- the class's tape -/
def lx (I : st_I) (n : Nat) : Prop := n ≤ 2000 ∧ I 17 0 = nI n ∧ iv_byt I
theorem by_between {x : Int32} (h : bt x) {a b : Nat} (ha : a < 128) (hb : b < 128) {X : Prop} {F : Int32 → Prop} (h' : F (b01 (decide (a ≤ ub x ∧ ub x ≤ b)))) (hX : X) : if x < nI a then F 0 else X ∧ (if nI b < x then F 0 else F 1) := by
  obtain ⟨h1, -, h3, -⟩ := bt_c h
  rcases h3 with ⟨h3, e⟩ | ⟨h3, e⟩
  · by_cases z : a ≤ ub x
    · rw [if_neg (by rw [e]; exact nI_nlt z (by omega))]
      refine ⟨hX, ?_⟩
      by_cases y : ub x ≤ b
      · rw [if_neg (by rw [e]; exact nI_nlt y (by omega))]
        rw [decide_eq_true (show a ≤ ub x ∧ ub x ≤ b from ⟨z, y⟩)] at h'; exact h'
      · rw [if_pos (by rw [e]; exact nI_lt (by omega) (by omega))]
        rw [decide_eq_false (fun w => y w.2)] at h'; exact h'
    · rw [if_pos (by rw [e]; exact nI_lt (by omega) (by omega))]
      rw [decide_eq_false (fun w => z w.1)] at h'; exact h'
  · have : x < nI a := Int32.lt_of_lt_of_le e (nI_pos' (by omega))
    rw [if_pos this]
    rw [decide_eq_false (fun w => by omega)] at h'; exact h'
theorem x_isLetter {d n i : Nat} {I : st_I} {L : st_L} {F : Int32 → st_I → st_L → Prop} (H : lx I n) (hi : i < 4000) (h : F (b01 (decide (i < n) && lcB (bB I i))) I L) : EI d mX5_isLetter [.ref 17, .int (nI i)] I L F := by
  obtain ⟨h1, h2, h3⟩ := H
  refine sgX5_isLetter_0 ?_
  rw [h2]
  by_cases z : i < n
  · rw [if_neg (nI_ge z (by omega)), nI_clamp (by omega)]
    rw [decide_eq_true z, Bool.true_and] at h
    exact ⟨vp_in_nI (by omega) (by decide), by_between (a := 97) (b := 122) (F := fun r => F r I L) (h3 i) (by decide) (by decide) h (vp_in_nI (by omega) (by decide))⟩
  · rw [if_pos (nI_le (by omega) (by omega))]
    rw [decide_eq_false z, Bool.false_and] at h; exact h
theorem x_isDigit {d n i : Nat} {I : st_I} {L : st_L} {F : Int32 → st_I → st_L → Prop} (H : lx I n) (hi : i < 4000) (h : F (b01 (decide (i < n) && dgB (bB I i))) I L) : EI d mX5_isDigit [.ref 17, .int (nI i)] I L F := by
  obtain ⟨h1, h2, h3⟩ := H
  refine sgX5_isDigit_0 ?_
  rw [h2]
  by_cases z : i < n
  · rw [if_neg (nI_ge z (by omega)), nI_clamp (by omega)]
    rw [decide_eq_true z, Bool.true_and] at h
    exact ⟨vp_in_nI (by omega) (by decide), by_between (a := 48) (b := 57) (F := fun r => F r I L) (h3 i) (by decide) (by decide) h (vp_in_nI (by omega) (by decide))⟩
  · rw [if_pos (nI_le (by omega) (by omega))]
    rw [decide_eq_false z, Bool.false_and] at h; exact h
theorem by_eq {x : Int32} (h : bt x) {a : Nat} (ha : a < 128) : x = nI a ↔ ub x = a := by
  obtain ⟨h1, -, h3, -⟩ := bt_c h
  rcases h3 with ⟨h3, e⟩ | ⟨h3, e⟩
  · constructor
    · intro z; exact (nI_eq (by omega) (by omega)).mp (e.symm.trans z)
    · intro z; rw [e, z]
  · constructor
    · intro z; rw [z] at e; exact absurd e (nI_pos (by omega))
    · intro z; omega
theorem x_isBlank {d : Nat} {I : st_I} {L : st_L} {F : Int32 → st_I → st_L → Prop} {x : Int32} (hx : bt x) (h : F (b01 (blB (ub x))) I L) : EI d mX5_isBlank [.int x] I L F := by
  refine sgX5_isBlank_0 ?_
  have e : ∀ a, a < 128 → (x = nI a ↔ ub x = a) := fun a ha => by_eq hx ha
  refine cast (congrArg (fun r => F r I L) ?_) h
  unfold blB b01
  by_cases z9 : ub x = 9
  · rw [if_pos (show x = 9 from (e 9 (by decide)).mpr z9)]; simp [z9]
  rw [if_neg (show ¬ x = 9 from fun w => z9 ((e 9 (by decide)).mp w))]
  by_cases z10 : ub x = 10
  · rw [if_pos (show x = 10 from (e 10 (by decide)).mpr z10)]; simp [z10]
  rw [if_neg (show ¬ x = 10 from fun w => z10 ((e 10 (by decide)).mp w))]
  by_cases z13 : ub x = 13
  · rw [if_pos (show x = 13 from (e 13 (by decide)).mpr z13)]; simp [z13]
  rw [if_neg (show ¬ x = 13 from fun w => z13 ((e 13 (by decide)).mp w))]
  by_cases z32 : ub x = 32
  · rw [if_pos (show x = 32 from (e 32 (by decide)).mpr z32)]; simp [z32]
  rw [if_neg (show ¬ x = 32 from fun w => z32 ((e 32 (by decide)).mp w))]
  simp [z9, z10, z13, z32]
theorem rnF_s {p : Nat → Bool} {r i : Nat} (h : p i = true) : rnF p (r + 1) i = rnF p r (i + 1) + 1 := by rw [rnF, if_pos h]
theorem rnF_n {p : Nat → Bool} {r i : Nat} (h : ¬ p i = true) : rnF p r i = 0 := by
  cases r with
  | zero => rfl
  | succ r => rw [rnF, if_neg h]
theorem b01_1 {b : Bool} (h : b = true) : b01 b = 1 := by rw [h]; rfl
theorem b01_0 {b : Bool} (h : ¬ b = true) : b01 b = 0 := by
  have : b = false := by simpa using h
  rw [this]; rfl
theorem x_endOf {d n i : Nat} {I : st_I} {L : st_L} {F : Int32 → st_I → st_L → Prop} (H : lx I n) (hi : i ≤ n) (h : F (nI (teF (bB I) n i)) I L) : EI (d + 1) mX5_endOf [.ref 17, .int (nI i)] I L F := by
  obtain ⟨h1, h2, h3⟩ := id H
  have L3 : ∀ e, e = i + dlF (bB I) n i → llF (bB I) n i = 0 → TI (d + 1) mX5_endOf 53 [.ref 17, .int (nI i), .int (nI e), .null] [] I L F := by
    intro e he hl
    have hle : dlF (bB I) n i ≤ n - i := rnF_le _ _ _
    refine sgX5_endOf_53 ?_
    unfold teF at h
    rw [hl, if_neg (Nat.lt_irrefl 0)] at h
    by_cases z : 0 < dlF (bB I) n i
    · rw [if_pos z, ← he] at h
      rw [if_pos (nI_lt (by omega) (by omega))]; exact h
    · rw [if_neg z] at h
      have e0 : e = i := by omega
      subst e0
      rw [if_neg (nI_nlt (Nat.le_refl _) (by omega)), h2]
      by_cases y : n ≤ e
      · rw [if_pos y] at h
        rw [if_neg (nI_nlt y (by omega))]; exact h
      · rw [if_neg y] at h
        have hy : e < n := by omega
        rw [if_pos (nI_lt hy (by omega)), nI_clamp (by omega), nI_1]
        refine ⟨vp_in_nI (by omega) (by decide), ?_⟩
        have e1 : I 18 e = 61 ↔ bB I e = 61 := by_eq (h3 e) (a := 61) (by decide)
        by_cases w : bB I e = 61
        · rw [if_pos (e1.mpr w)]
          by_cases v : e + 1 < n
          · rw [if_neg (nI_ge v (by omega)), nI_clamp (by omega)]
            refine ⟨vp_in_nI (by omega) (by decide), ?_⟩
            have e2 : I 18 (e + 1) = 61 ↔ bB I (e + 1) = 61 := by_eq (h3 (e + 1)) (a := 61) (by decide)
            by_cases u : bB I (e + 1) = 61
            · rw [if_pos (e2.mpr u), if_neg (by decide), show nI e + 2 = nI (e + 2) from nI_add e 2]
              rw [if_pos ⟨w, v, u⟩] at h; exact h
            · rw [if_neg (fun q => u (e2.mp q)), if_pos rfl]
              rw [if_neg (fun q => u q.2.2)] at h; exact h
          · rw [if_pos (nI_le (by omega) (by omega)), if_pos rfl]
            rw [if_neg (fun q => v q.2.1)] at h; exact h
        · rw [if_neg (fun q => w (e1.mp q)), if_pos rfl]
          rw [if_neg (fun q => w q.1)] at h; exact h
  have L2 : ∀ r j, j + r = n → llF (bB I) n i = 0 → j + rnF (fun j => dgB (bB I j)) r j = i + dlF (bB I) n i → TI (d + 1) mX5_endOf 31 [.ref 17, .int (nI i), .int (nI j), .null] [] I L F := by
    intro r
    induction r with
    | zero =>
      intro j hj hl he
      refine sgX5_endOf_31 ?_
      rw [h2, if_pos (nI_le (by omega) (by omega))]
      exact L3 j he hl
    | succ r ih =>
      intro j hj hl he
      refine sgX5_endOf_31 ?_
      rw [h2, if_neg (nI_ge (by omega) (by omega))]
      refine x_isDigit H (by omega) ?_
      rw [decide_eq_true (show j < n by omega), Bool.true_and]
      by_cases z : dgB (bB I j) = true
      · rw [b01_1 z, if_neg (by decide), nI_1]
        rw [rnF_s (p := fun j => dgB (bB I j)) z] at he
        exact ih (j + 1) (by omega) hl (by omega)
      · rw [b01_0 z, if_pos rfl]
        rw [rnF_n (p := fun j => dgB (bB I j)) z] at he
        exact L3 j he hl
  have fin : ∀ j, j = i + llF (bB I) n i → (if nI j ≤ nI i then TI (d + 1) mX5_endOf 31 [.ref 17, .int (nI i), .int (nI j), .null] [] I L F else F (nI j) I L) := by
    intro j hj
    have hle : llF (bB I) n i ≤ n - i := rnF_le _ _ _
    by_cases z : 0 < llF (bB I) n i
    · rw [if_neg (nI_ge (by omega) (by omega))]
      unfold teF at h
      rw [if_pos z, ← hj] at h; exact h
    · have e0 : j = i := by omega
      subst e0
      rw [if_pos (nI_le (Nat.le_refl _) (by omega))]
      exact L2 (n - j) j (by omega) (by omega) rfl
  have L1 : ∀ r j, j + r = n → j + rnF (fun j => lcB (bB I j)) r j = i + llF (bB I) n i → TI (d + 1) mX5_endOf 2 [.ref 17, .int (nI i), .int (nI j), .null] [] I L F := by
    intro r
    induction r with
    | zero =>
      intro j hj he
      refine sgX5_endOf_2 ?_
      rw [h2, if_pos (nI_le (by omega) (by omega))]
      exact fin j he
    | succ r ih =>
      intro j hj he
      refine sgX5_endOf_2 ?_
      rw [h2, if_neg (nI_ge (by omega) (by omega))]
      refine x_isLetter H (by omega) ?_
      rw [decide_eq_true (show j < n by omega), Bool.true_and]
      by_cases z : lcB (bB I j) = true
      · rw [b01_1 z, if_neg (by decide), nI_1]
        rw [rnF_s (p := fun j => lcB (bB I j)) z] at he
        exact ih (j + 1) (by omega) (by omega)
      · rw [b01_0 z, if_pos rfl]
        rw [rnF_n (p := fun j => lcB (bB I j)) z] at he
        exact fin j he
  exact sgX5_endOf_0 (L1 (n - i) i (by omega) rfl)
