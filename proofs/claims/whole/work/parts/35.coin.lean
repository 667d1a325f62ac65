/-! ways to take k of n -/
def bin : Nat → Nat → Nat
  | _, 0 => 1
  | 0, _ + 1 => 0
  | n + 1, k + 1 => bin n k + bin n (k + 1)
theorem bin_0 (n : Nat) : bin n 0 = 1 := by cases n <;> rfl
theorem bin_z : ∀ {n k : Nat}, n < k → bin n k = 0
  | 0, k + 1, _ => rfl
  | n + 1, k + 1, h => by rw [bin, bin_z (show n < k by omega), bin_z (show n < k + 1 by omega)]
theorem bin_B : ∀ (n k : Nat), bin n (k + 1) * (k + 1) = bin n k * (n - k)
  | 0, 0 => rfl
  | 0, k + 1 => by simp [bin]
  | n + 1, 0 => by
    have := bin_B n 0
    rw [bin_0] at this
    rw [show bin (n + 1) (0 + 1) = bin n 0 + bin n (0 + 1) from rfl, bin_0 n, bin_0 (n + 1)]
    omega
  | n + 1, k + 1 => by
    have h1 := bin_B n k
    have h2 := bin_B n (k + 1)
    rw [show bin (n + 1) (k + 1 + 1) = bin n (k + 1) + bin n (k + 1 + 1) from rfl, show bin (n + 1) (k + 1) = bin n k + bin n (k + 1) from rfl, Nat.add_mul, Nat.add_mul, h2, Nat.add_sub_add_right, ← h1]
    by_cases h : k + 1 ≤ n
    · rw [← Nat.mul_add, ← Nat.mul_add]
      congr 1; omega
    · rw [show n - k = 0 by omega, Nat.mul_zero] at h1
      have : bin n (k + 1) = 0 := by
        rcases Nat.mul_eq_zero.mp h1 with z | z
        · exact z
        · omega
      rw [this]; simp
theorem bin_A (n k : Nat) : bin (n + 1) (k + 1) * (k + 1) = bin n k * (n + 1) := by
  rw [show bin (n + 1) (k + 1) = bin n k + bin n (k + 1) from rfl, Nat.add_mul, bin_B, ← Nat.mul_add]
  by_cases h : k ≤ n
  · congr 1; omega
  · rw [bin_z (by omega)]; simp
theorem bin_mono (n k : Nat) : bin n k ≤ bin (n + 1) k := by
  cases k with
  | zero => rw [bin_0, bin_0]; exact Nat.le_refl _
  | succ k => rw [show bin (n + 1) (k + 1) = bin n k + bin n (k + 1) from rfl]; omega
theorem bin_60 {n : Nat} (h : n ≤ 60) (k : Nat) : bin n k ≤ bin 60 k := by
  have : ∀ j, bin n k ≤ bin (n + j) k := by
    intro j
    induction j with
    | zero => exact Nat.le_refl _
    | succ j ih => exact Nat.le_trans ih (bin_mono _ _)
  have := this (60 - n)
  rwa [show n + (60 - n) = 60 by omega] at this
def cf60 : Nat → Nat
  | 0 => 1
  | k + 1 => cf60 k * (60 - k) / (k + 1)
theorem cf60_eq : ∀ k, bin 60 k = cf60 k
  | 0 => bin_0 60
  | k + 1 => by
    rw [cf60, ← cf60_eq k, ← bin_B]
    exact (Nat.mul_div_cancel _ (by omega)).symm
theorem cf60_le : ∀ k, k < 61 → cf60 k ≤ 118264581564861424 := by decide +kernel
theorem bin_le {n : Nat} (h : n ≤ 60) (k : Nat) : bin n k ≤ 118264581564861424 := by
  refine Nat.le_trans (bin_60 h k) ?_
  by_cases hk : k < 61
  · rw [cf60_eq]; exact cf60_le k hk
  · rw [bin_z (by omega)]; exact Nat.zero_le _
theorem bin_mul {n : Nat} (h : n ≤ 60) (k : Nat) {c : Nat} (hc : c ≤ 60) : bin n k * c < 2 ^ 63 := by
  have := Nat.mul_le_mul (bin_le h k) hc
  exact Nat.lt_of_le_of_lt this (Nat.le_of_ble_eq_true rfl)
def chv (n : Nat) (k : Int32) : Int64 := if k < 0 then 0 else if k ≤ nI n then lN (bin n k.toNatClampNeg) else 0
theorem chv_nI {n k : Nat} (hn : n ≤ 60) (hk : k < 2 ^ 31) : chv n (nI k) = lN (bin n k) := by
  unfold chv
  rw [if_neg (nI_pos hk), nI_clamp hk]
  by_cases h : k ≤ n
  · rw [if_pos (nI_le h (by omega))]
  · rw [if_neg (nI_ge (by omega) hk), bin_z (by omega)]; rfl
theorem lN_nz {n : Nat} (h0 : 0 < n) (h : n < 2 ^ 31) : ¬ lN n = 0 := fun z => by
  have : n = 0 := (lN_eq h (show 0 < 2 ^ 31 by decide)).mp z
  omega
theorem pX_choose {d n : Nat} {k : Int32} {I : st_I} {L : st_L} {F : Int64 → st_I → st_L → Prop} (hn : n ≤ 60) (h : F (chv n k) I L) : EL d mX10_choose [.int (nI n), .int k] I L F := by
  refine sgX10_choose_0 ?_
  unfold chv at h
  by_cases h0 : k < 0
  · rw [if_pos h0] at h ⊢; exact h
  rw [if_neg h0] at h ⊢
  obtain ⟨j, hj, rfl⟩ := nI_of h0
  by_cases h1 : nI j ≤ nI n
  · rw [if_pos h1] at h ⊢
    have hjn : j ≤ n := (nI_leI hj (by omega)).mp h1
    rw [nI_clamp hj] at h
    have key : ∀ (r i : Nat), i + r = j → TL d mX10_choose 16 [.int (nI n), .int (nI j), .long (lN (bin n i)), .null, .int (nI i)] [] I L F := by
      intro r
      induction r with
      | zero =>
        intro i hi
        obtain rfl : i = j := by omega
        refine sgX10_choose_16 ?_
        rw [if_pos (nI_le (Nat.le_refl _) (by omega))]; exact h
      | succ r ih =>
        intro i hi
        refine sgX10_choose_16 ?_
        rw [if_neg (nI_ge (by omega) (by omega)), nI_1, pk_sub (by omega), nI_l (by omega), nI_l (by omega), lN_mul, pk_lDiv (bin_mul hn i (by omega)) (by omega) (by omega), ← bin_B, Nat.mul_div_cancel _ (by omega)]
        exact ⟨lN_nz (by omega) (by omega), ih (i + 1) (by omega)⟩
    have := key j 0 (by omega)
    rw [bin_0] at this
    exact this
  · rw [if_neg h1] at h ⊢; exact h
theorem pM_picks {d n : Nat} {k : Int32} {I : st_I} {L : st_L} {F : Int64 → st_I → st_L → Prop} (hn : n ≤ 60) (h : F (chv n k) I L) : EL d mX12_picks [.int (nI n), .int k] I L F := by
  refine sgX12_picks_0 ?_
  unfold chv at h
  by_cases h0 : k < 0
  · rw [if_pos h0] at h ⊢; exact h
  rw [if_neg h0] at h ⊢
  obtain ⟨j, hj, rfl⟩ := nI_of h0
  by_cases h1 : nI j ≤ nI n
  · rw [if_pos h1] at h ⊢
    have hjn : j ≤ n := (nI_leI hj (by omega)).mp h1
    rw [nI_clamp hj] at h
    have key : ∀ (r i : Nat), i + r = j → TL d mX12_picks 16 [.int (nI n), .int (nI j), .long (lN (bin (n - j + i) i)), .null, .int (nI (i + 1))] [] I L F := by
      intro r
      induction r with
      | zero =>
        intro i hi
        obtain rfl : i = j := by omega
        refine sgX12_picks_16 ?_
        rw [if_pos (nI_lt (by omega) (by omega)), show n - i + i = n by omega]; exact h
      | succ r ih =>
        intro i hi
        refine sgX12_picks_16 ?_
        rw [if_neg (nI_nlt (by omega) (by omega)), nI_1, pk_sub (by omega), nI_add, nI_l (by omega), nI_l (by omega), lN_mul, pk_lDiv (bin_mul (by omega) i (by omega)) (by omega) (by omega), ← Nat.add_assoc, ← bin_A, Nat.mul_div_cancel _ (by omega)]
        exact ⟨lN_nz (by omega) (by omega), ih (i + 1) (by omega)⟩
    have := key j 0 (by omega)
    rw [bin_0] at this
    exact this
  · rw [if_neg h1] at h ⊢; exact h
theorem pM_power {d a n : Nat} {I : st_I} {L : st_L} {F : Int64 → st_I → st_L → Prop} (hn : n < 2 ^ 30) (h : F (lN (a ^ n)) I L) : EL d mX12_power [.long (lN a), .int (nI n)] I L F := by
  have key : ∀ (r i : Nat), i + r = n → TL d mX12_power 5 [.long (lN a), .null, .int (nI n), .long (lN (a ^ i)), .null, .int (nI i)] [] I L F := by
    intro r
    induction r with
    | zero =>
      intro i hi
      obtain rfl : i = n := by omega
      refine sgX12_power_5 ?_
      rw [if_pos (nI_le (Nat.le_refl _) (by omega))]; exact h
    | succ r ih =>
      intro i hi
      refine sgX12_power_5 ?_
      rw [if_neg (nI_ge (by omega) (by omega)), nI_1, lN_mul, ← Nat.pow_succ]
      exact ih (i + 1) (by omega)
  exact sgX12_power_0 (key n 0 (by omega))
/-- rows of n tries with k right: a ways each to be right, c to be wrong -/
def tl (n a c k : Nat) : Nat := bin n k * a ^ k * c ^ (n - k)
theorem pM_tail {d n r a b : Nat} {I : st_I} {L : st_L} {F : Int64 → st_I → st_L → Prop} (hn : n ≤ 60) (hr : r ≤ n + 1) (hab : a ≤ b) (hb : b < 2 ^ 30) (h : F (sl (fun i => lN (tl n a (b - a) (r + i))) (n + 1 - r)) I L) : EL (d + 1) mX12_tail [.int (nI n), .int (nI r), .int (nI a), .int (nI b)] I L F := by
  have key : ∀ (m i : Nat), i + m = n + 1 - r → TL (d + 1) mX12_tail 6 [.int (nI n), .null, .int (nI a), .int (nI b), .long (sl (fun i => lN (tl n a (b - a) (r + i))) i), .null, .int (nI (r + i))] [] I L F := by
    intro m
    induction m with
    | zero =>
      intro i hi
      obtain rfl : i = n + 1 - r := by omega
      refine sgX12_tail_6 ?_
      rw [if_pos (nI_lt (by omega) (by omega))]; exact h
    | succ m ih =>
      intro i hi
      refine sgX12_tail_6 ?_
      rw [if_neg (nI_nlt (by omega) (by omega)), nI_l (by omega), pk_sub hab, nI_l (by omega), pk_sub (by omega), nI_1]
      refine pM_picks hn (pM_power (by omega) (pM_power (by omega) ?_))
      rw [chv_nI hn (by omega), lN_mul, lN_mul]
      have := ih (i + 1) (by omega)
      rw [sl] at this
      exact this
  exact sgX12_tail_0 (key (n + 1 - r) 0 (by omega))
theorem pX_heads {d n r : Nat} {I : st_I} {L : st_L} {F : Int64 → st_I → st_L → Prop} (hn : n ≤ 60) (hr : r ≤ n + 1) (h : F (sl (fun i => lN (tl n 1 1 (r + i))) (n + 1 - r)) I L) : EL (d + 1) mX10_orMoreHeads [.int (nI n), .int (nI r)] I L F := by
  have key : ∀ (m i : Nat), i + m = n + 1 - r → TL (d + 1) mX10_orMoreHeads 5 [.int (nI n), .null, .long (sl (fun i => lN (tl n 1 1 (r + i))) i), .null, .int (nI (r + i))] [] I L F := by
    intro m
    induction m with
    | zero =>
      intro i hi
      obtain rfl : i = n + 1 - r := by omega
      refine sgX10_orMoreHeads_5 ?_
      rw [if_pos (nI_lt (by omega) (by omega))]; exact h
    | succ m ih =>
      intro i hi
      refine sgX10_orMoreHeads_5 ?_
      rw [if_neg (nI_nlt (by omega) (by omega)), nI_1]
      refine pX_choose hn ?_
      rw [chv_nI hn (by omega)]
      have := ih (i + 1) (by omega)
      rw [sl, tl, Nat.one_pow, Nat.one_pow, Nat.mul_one, Nat.mul_one] at this
      exact this
  exact sgX10_orMoreHeads_0 (key (n + 1 - r) 0 (by omega))
theorem shl_pow : ∀ m, m < 61 → (1 : Int64) <<< (((nI m) : Int32).toInt64 &&& 63) = lN (2 ^ m) := by decide +kernel
theorem gk_sub {R : Nat → Int32} {P Q : Int32} {O : Nat → Int32} {n c k : Nat} (h : gk R P Q O n c k = true) : gk R P Q O n 0 k = true := by
  unfold gk at *
  obtain ⟨h1, -⟩ := Bool.and_eq_true_iff.mp h
  rw [h1]; rfl
theorem cn_sub {p q : Nat → Bool} (h : ∀ k, p k = true → q k = true) : ∀ n, cn p n ≤ cn q n
  | 0 => Nat.le_refl _
  | n + 1 => by
    have := cn_sub h n
    rw [cn, cn]
    by_cases e : p n = true
    · rw [if_pos e, if_pos (h n e)]; omega
    · rw [if_neg e]; omega
theorem gk_le {R : Nat → Int32} {P Q : Int32} {O : Nat → Int32} {n c m : Nat} : cn (gk R P Q O n c) m ≤ cn (gk R P Q O n 0) m := cn_sub (fun _ h => gk_sub h) m
/-- THE COIN -/
def coV (g : Nat → Nat → Bool) (n : Nat) (s : Int32) : Int64 := if cn (g 0) n ≤ 60 then (if s = 0 then lN (2 ^ cn (g 0) n) else sl (fun i => lN (tl (cn (g 0) n) 1 1 (cn (g 1) n + i))) (cn (g 0) n + 1 - cn (g 1) n)) else -2
theorem pM_coinOf {d lv nf np nb nl npl nF n : Nat} {s : Int32} {J : st_I} {L : st_L} {F : Int64 → st_I → st_L → Prop} (HJ : iv_told J lv nf np nb nl npl) (HF : iv_facts J nF) (hn : n ≤ nF) (h : F (coV (gk (J 29) (nI np) (nI nf) (J 2) n) n s) J L) : EL (d + 4) mX12_coinOf [.ref 58, .int (nI n), .int s] J L F := by
  have h80 := HF.1
  have hm := cn_le (gk (J 29) (nI np) (nI nf) (J 2) n 0) n
  have hr : cn (gk (J 29) (nI np) (nI nf) (J 2) n 1) n ≤ cn (gk (J 29) (nI np) (nI nf) (J 2) n 0) n := gk_le
  unfold coV at h
  refine sgX12_coinOf_0 (pM_guessed (c := 0) HJ HF hn (by decide) ?_)
  by_cases z : cn (gk (J 29) (nI np) (nI nf) (J 2) n 0) n ≤ 60
  · rw [if_pos z] at h
    rw [if_pos (show nI _ ≤ 60 from nI_le (b := 60) z (by decide))]
    by_cases y : s = 0
    · rw [if_pos y] at h ⊢
      exact pM_power (a := 2) (by omega) h
    · rw [if_neg y] at h ⊢
      refine pM_guessed (c := 1) HJ HF hn (by decide) ?_
      exact pM_tail (a := 1) (b := 2) z (by omega) (by decide) (by decide) h
  · rw [if_neg z] at h
    rw [if_neg (show ¬ nI _ ≤ 60 from nI_ge (a := 60) (by omega) (by omega))]; exact h
theorem op_coin {lv nf np nb nl npl nF : Nat} {I : st_I} {L : st_L} {P : st_I → st_L → Prop} (H : iv_told I lv nf np nb nl npl) (HF : iv_facts I nF) (hk : iv_kn I nf np nF) (hP : ∀ J, kq I J → iv_kn J nf np nF → J 57 = I 57 → P J L) (c s : Int32) :
    EL 60 mX11_coin [.ref 0, .int c, .int s] I L (fun r I1 L1 => EL 60 mX12_coin [.ref 58, .int c, .int s] I1 L1 (fun r' I2 L2 => r' = r ∧ P I2 L2)) := by
  have no : P I L := hP I kq.rf hk rfl
  have h80 := HF.1
  refine sgX11_coin_0 ?_
  rcases ot_ix c (nF + 1) (by omega) with ho | ⟨n, hn, rfl⟩
  · refine x_knows_o HF ho ?_
    rw [if_pos rfl]
    refine sgX12_coin_0 (m_isKnown_o HF ho ?_)
    rw [if_pos rfl]; exact ⟨rfl, no⟩
  refine x_knows_i H HF hk (by omega) (fun J hJ => ?_)
  have HJ := hJ.kq'.told H
  have HFJ := hJ.kq'.facts HF
  have pk := hP J hJ.kq' (hJ.kn (by omega)) (hJ.1 57 (by decide))
  have e0 := hJ.2.2.2.2.2.2.2.2 0 (by decide)
  have e1 := hJ.2.2.2.2.2.2.2.2 1 (by decide)
  have hm := cn_le (gk (J 29) (nI np) (nI nf) (J 2) n 0) n
  have hr : cn (gk (J 29) (nI np) (nI nf) (J 2) n 1) n ≤ cn (gk (J 29) (nI np) (nI nf) (J 2) n 0) n := gk_le
  rw [if_neg (by decide), e0, e1]
  have to : ∀ {F : Int64 → st_I → st_L → Prop}, F (coV (gk (J 29) (nI np) (nI nf) (J 2) n) n s) J L → EL 60 mX12_coin [.ref 58, .int (nI n), .int s] J L F := fun {F} h => by
    refine sgX12_coin_0 (m_isKnown_i HFJ (by omega) ?_)
    rw [if_neg (by decide)]
    exact pM_coinOf (d := 55) HJ HFJ (by omega) h
  by_cases z : cn (gk (J 29) (nI np) (nI nf) (J 2) n 0) n ≤ 60
  · rw [if_pos (show nI _ ≤ 60 from nI_le (b := 60) z (by decide))]
    by_cases y : s = 0
    · rw [if_pos y, shl_pow _ (by omega)]
      refine to ?_
      unfold coV; rw [if_pos z, if_pos y]; exact ⟨rfl, pk⟩
    · rw [if_neg y]
      refine pX_heads z (by omega) (to ?_)
      unfold coV; rw [if_pos z, if_neg y]; exact ⟨rfl, pk⟩
  · rw [if_neg (show ¬ nI _ ≤ 60 from nI_ge (a := 60) (by omega) (by omega))]
    refine to ?_
    unfold coV; rw [if_neg z]; exact ⟨rfl, pk⟩
theorem pX_taken {d m u t a : Nat} {I : st_I} {L : st_L} {F : Int64 → st_I → st_L → Prop} (hm : m ≤ 60) (ht : t ≤ m) (ha : a ≤ t + 1) (h : F (sl (fun i => chv t (nI (a + i)) * chv (m - t) (nI u - nI (a + i))) (t + 1 - a)) I L) : EL (d + 1) mX10_orMoreTaken [.int (nI m), .int (nI u), .int (nI t), .int (nI a)] I L F := by
  have key : ∀ (r i : Nat), i + r = t + 1 - a → TL (d + 1) mX10_orMoreTaken 6 [.int (nI m), .int (nI u), .int (nI t), .null, .long (sl (fun i => chv t (nI (a + i)) * chv (m - t) (nI u - nI (a + i))) i), .null, .int (nI (a + i))] [] I L F := by
    intro r
    induction r with
    | zero =>
      intro i hi
      obtain rfl : i = t + 1 - a := by omega
      refine sgX10_orMoreTaken_6 ?_
      rw [if_pos (nI_lt (by omega) (by omega))]; exact h
    | succ r ih =>
      intro i hi
      refine sgX10_orMoreTaken_6 ?_
      rw [if_neg (nI_nlt (by omega) (by omega)), pk_sub ht, nI_1]
      refine pX_choose (by omega) (pX_choose (by omega) ?_)
      have := ih (i + 1) (by omega)
      rw [sl] at this
      exact this
  exact sgX10_orMoreTaken_0 (key (t + 1 - a) 0 (by omega))
theorem pM_taken {d m u t a : Nat} {I : st_I} {L : st_L} {F : Int64 → st_I → st_L → Prop} (hm : m ≤ 60) (ht : t ≤ m) (ha : a ≤ t + 1) (h : F (sl (fun i => chv t (nI (a + i)) * chv (m - t) (nI u - nI (a + i))) (t + 1 - a)) I L) : TL (d + 1) mX12_table 67 [.null, .null, .null, .int (nI m), .int (nI u), .int (nI t), .long 0, .null, .int (nI a)] [] I L F := by
  have key : ∀ (r i : Nat), i + r = t + 1 - a → TL (d + 1) mX12_table 67 [.null, .null, .null, .int (nI m), .int (nI u), .int (nI t), .long (sl (fun i => chv t (nI (a + i)) * chv (m - t) (nI u - nI (a + i))) i), .null, .int (nI (a + i))] [] I L F := by
    intro r
    induction r with
    | zero =>
      intro i hi
      obtain rfl : i = t + 1 - a := by omega
      refine sgX12_table_67 ?_
      rw [if_pos (nI_lt (by omega) (by omega))]; exact h
    | succ r ih =>
      intro i hi
      refine sgX12_table_67 ?_
      rw [if_neg (nI_nlt (by omega) (by omega)), pk_sub ht, nI_1]
      refine pM_picks (by omega) (pM_picks (by omega) ?_)
      have := ih (i + 1) (by omega)
      rw [sl] at this
      exact this
  exact key (t + 1 - a) 0 (by omega)
theorem gk_43 {R : Nat → Int32} {P Q : Int32} {O : Nat → Int32} {n m : Nat} : cn (gk R P Q O n 4) m ≤ cn (gk R P Q O n 3) m := cn_sub (fun k h => by
  unfold gk at *
  obtain ⟨h1, h2⟩ := Bool.and_eq_true_iff.mp h
  rw [h1, Bool.true_and]
  simp only [show (4 : Nat) = 0 ↔ False by decide, show (4 : Nat) = 1 ↔ False by decide, show (4 : Nat) = 2 ↔ False by decide, show (4 : Nat) = 3 ↔ False by decide, show (3 : Nat) = 0 ↔ False by decide, show (3 : Nat) = 1 ↔ False by decide, show (3 : Nat) = 2 ↔ False by decide, if_false, if_true] at h2 ⊢
  exact (Bool.and_eq_true_iff.mp h2).2) m
theorem op_table {lv nf np nb nl npl nF : Nat} {I : st_I} {L : st_L} {P : st_I → st_L → Prop} (H : iv_told I lv nf np nb nl npl) (HF : iv_facts I nF) (hk : iv_kn I nf np nF) (hP : ∀ J, kq I J → iv_kn J nf np nF → J 57 = I 57 → P J L) (c s : Int32) :
    EL 60 mX11_table [.ref 0, .int c, .int s] I L (fun r I1 L1 => EL 60 mX12_table [.ref 58, .int c, .int s] I1 L1 (fun r' I2 L2 => r' = r ∧ P I2 L2)) := by
  have no : P I L := hP I kq.rf hk rfl
  have h80 := HF.1
  refine sgX11_table_0 ?_
  rcases ot_ix c (nF + 1) (by omega) with ho | ⟨n, hn, rfl⟩
  · refine x_knows_o HF ho ?_
    rw [if_pos rfl]
    refine sgX12_table_0 (m_isKnown_o HF ho ?_)
    rw [if_pos rfl]; exact ⟨rfl, no⟩
  refine x_knows_i H HF hk (by omega) (fun J hJ => ?_)
  have HJ := hJ.kq'.told H
  have HFJ := hJ.kq'.facts HF
  have pk := hP J hJ.kq' (hJ.kn (by omega)) (hJ.1 57 (by decide))
  have e0 := hJ.2.2.2.2.2.2.2.2 0 (by decide)
  have e2 := hJ.2.2.2.2.2.2.2.2 2 (by decide)
  have e3 := hJ.2.2.2.2.2.2.2.2 3 (by decide)
  have e4 := hJ.2.2.2.2.2.2.2.2 4 (by decide)
  have hm := cn_le (gk (J 29) (nI np) (nI nf) (J 2) n 0) n
  have l3 : cn (gk (J 29) (nI np) (nI nf) (J 2) n 3) n ≤ cn (gk (J 29) (nI np) (nI nf) (J 2) n 0) n := gk_le
  have l4 : cn (gk (J 29) (nI np) (nI nf) (J 2) n 4) n ≤ cn (gk (J 29) (nI np) (nI nf) (J 2) n 3) n := gk_43
  rw [if_neg (by decide), e0, e2, e3, e4]
  have to : ∀ {F : Int64 → st_I → st_L → Prop}, (if nI (cn (gk (J 29) (nI np) (nI nf) (J 2) n 0) n) ≤ 60 then (if s = 0 then EL 59 mX12_picks [.int (nI (cn (gk (J 29) (nI np) (nI nf) (J 2) n 0) n)), .int (nI (cn (gk (J 29) (nI np) (nI nf) (J 2) n 2) n))] J L (fun r5 I5 L5 => F r5 I5 L5) else TL 60 mX12_table 67 [.null, .null, .null, .int (nI (cn (gk (J 29) (nI np) (nI nf) (J 2) n 0) n)), .int (nI (cn (gk (J 29) (nI np) (nI nf) (J 2) n 2) n)), .int (nI (cn (gk (J 29) (nI np) (nI nf) (J 2) n 3) n)), .long 0, .null, .int (nI (cn (gk (J 29) (nI np) (nI nf) (J 2) n 4) n))] [] J L F) else F (-2) J L) → EL 60 mX12_table [.ref 58, .int (nI n), .int s] J L F := fun {F} h => by
    refine sgX12_table_0 (m_isKnown_i HFJ (by omega) ?_)
    rw [if_neg (by decide)]
    refine pM_guessed (c := 0) HJ HFJ (by omega) (by decide) ?_
    by_cases z : nI (cn (gk (J 29) (nI np) (nI nf) (J 2) n 0) n) ≤ 60
    · rw [if_pos z] at h ⊢
      refine pM_guessed (c := 2) HJ HFJ (by omega) (by decide) (pM_guessed (c := 3) HJ HFJ (by omega) (by decide) ?_)
      by_cases y : s = 0
      · rw [if_pos y] at h ⊢; exact h
      · rw [if_neg y] at h ⊢; exact pM_guessed (c := 4) HJ HFJ (by omega) (by decide) h
    · rw [if_neg z] at h ⊢; exact h
  by_cases z : cn (gk (J 29) (nI np) (nI nf) (J 2) n 0) n ≤ 60
  · have z' : nI (cn (gk (J 29) (nI np) (nI nf) (J 2) n 0) n) ≤ 60 := nI_le (b := 60) z (by decide)
    rw [if_pos z']
    by_cases y : s = 0
    · rw [if_pos y]
      refine pX_choose z (to ?_)
      rw [if_pos z', if_pos y]
      exact pM_picks z ⟨rfl, pk⟩
    · rw [if_neg y]
      refine pX_taken z l3 (by omega) (to ?_)
      rw [if_pos z', if_neg y]
      exact pM_taken (d := 59) z l3 (by omega) ⟨rfl, pk⟩
  · have z' : ¬ nI (cn (gk (J 29) (nI np) (nI nf) (J 2) n 0) n) ≤ 60 := nI_ge (a := 60) (by omega) (by omega)
    rw [if_neg z']
    refine to ?_
    rw [if_neg z']; exact ⟨rfl, pk⟩
/-! BEST -/
def sdv (x y : Int32) : Int32 := if y ≤ x then (if x ≤ y then 0 else 1) else -1
theorem sdv_eq (x y : Int32) : (if x = y then (0 : Int32) else if x ≤ y then -1 else 1) = sdv x y := by
  unfold sdv
  by_cases e : x = y
  · subst e; rw [if_pos rfl, if_pos (Int32.le_refl _), if_pos (Int32.le_refl _)]
  · rw [if_neg e]
    by_cases h : x ≤ y
    · rw [if_pos h, if_neg (fun z => e (Int32.le_antisymm h z))]
    · rw [if_neg h, if_pos (Int32.le_of_lt (Int32.not_le.mp h)), if_neg h]
theorem pX_parted {d a b : Nat} {sa ma sb mb : Int32} {J : st_I} {L : st_L} {F : Int32 → st_I → st_L → Prop} (ha : a < 16) (hb : b < 16) (e1 : J 35 a = sa) (e2 : J 36 a = ma) (e3 : J 35 b = sb) (e4 : J 36 b = mb) (p1 : ¬ ma ≤ 0) (p2 : ¬ mb ≤ 0) (h : F (sdv (sa * mb) (sb * ma)) J L) : EI (d + 1) mX2_parted [.ref 30, .int (nI a), .int (nI b)] J L F := by
  refine sgX2_parted_0 (x_hasMean_i ha (by rw [e2]; exact p1) ?_)
  rw [if_neg (by decide)]
  refine x_hasMean_i hb (by rw [e4]; exact p2) ?_
  rw [if_neg (by decide), nI_clamp (by omega), nI_clamp (by omega), e1, e2, e3, e4]
  have vf : vp_in (nI a) 16 := vp_in_nI (by omega) (by decide)
  have vo : vp_in (nI b) 16 := vp_in_nI (by omega) (by decide)
  refine ⟨vf, vo, vo, vf, ?_⟩
  rw [← sdv_eq] at h
  by_cases e : sa * mb = sb * ma
  · rw [if_pos e] at h ⊢; exact h
  · rw [if_neg e] at h ⊢; exact h
theorem pM_sideOf {d : Nat} {x y : Int32} {I : st_I} {L : st_L} {F : Int32 → st_I → st_L → Prop} (h : F (sdv x y) I L) : EI d mX12_sideOf [.int x, .int y] I L F := sgX12_sideOf_0 h
/-- the best of the first f -/
def btF (S : Nat → Int32) (M : Nat → Nat) (way : Int32) : Nat → Option Nat
  | 0 => none
  | f + 1 => if M f = 0 then btF S M way f else match btF S M way f with
    | none => some f
    | some b => if sdv (S f * nI (M b)) (S b * nI (M f)) = way then some f else some b
theorem btF_lt {S : Nat → Int32} {M : Nat → Nat} {way : Int32} : ∀ {f b : Nat}, btF S M way f = some b → b < f
  | 0, b, h => by cases h
  | f + 1, b, h => by
    rw [btF] at h
    split at h
    · have := btF_lt h; omega
    · cases e : btF S M way f with
      | none => rw [e] at h; have := Option.some.inj h; omega
      | some c =>
        rw [e] at h
        have := btF_lt e
        dsimp only at h
        split at h
        · have := Option.some.inj h; omega
        · have := Option.some.inj h; omega
theorem btF_pos {S : Nat → Int32} {M : Nat → Nat} {way : Int32} : ∀ {f b : Nat}, btF S M way f = some b → ¬ M b = 0
  | 0, b, h => by cases h
  | f + 1, b, h => by
    rw [btF] at h
    split at h
    · exact btF_pos h
    · rename_i hz
      cases e : btF S M way f with
      | none => rw [e] at h; have := Option.some.inj h; subst this; exact hz
      | some c =>
        rw [e] at h
        have := btF_pos e
        dsimp only at h
        split at h
        · have := Option.some.inj h; subst this; exact hz
        · have e2 := Option.some.inj h; subst e2; exact this
theorem nxv_ne {b : Nat} (hb : b < 2 ^ 31) : ¬ nxv (some b) = -2 := fun z => absurd (show (0 : Int32) ≤ -2 from z ▸ nI_pos' hb) (by decide)
theorem op_best {lv nf np nb nl npl nF : Nat} {I : st_I} {L : st_L} {P : st_I → st_L → Prop} (H : iv_told I lv nf np nb nl npl) (HF : iv_facts I nF) (hk : iv_kn I nf np nF) (hP : ∀ J, kq I J → iv_kn J nf np nF → J 57 = I 57 → P J L) (c s : Int32) :
    EI 60 mX11_best [.ref 0, .int c, .int s] I L (fun r I1 L1 => EI 60 mX12_best [.ref 58, .int c, .int s] I1 L1 (fun r' I2 L2 => r' = r ∧ P I2 L2)) := by
  have no : P I L := hP I kq.rf hk rfl
  have h80 := HF.1
  refine sgX11_best_0 ?_
  rcases ot_ix c (nF + 1) (by omega) with ho | ⟨n, hn, rfl⟩
  · refine x_knows_o HF ho ?_
    rw [if_pos rfl]
    refine sgX12_best_0 (m_isKnown_o HF ho ?_)
    rw [if_pos rfl]; exact ⟨rfl, no⟩
  refine x_knows_i H HF hk (by omega) (fun J hJ => ?_)
  have HJ := hJ.kq'.told H
  have HFJ := hJ.kq'.facts HF
  obtain ⟨hlv, b1, b2, b3, b4, b5, h18, c0, c1, c2, c3, c4, m0, m1, -⟩ := id HJ.1
  have hm := hJ.2.2.2.2.2.2.1
  rw [if_neg (by decide)]
  generalize hS : sS (kB (J 29) (nI np) (nI nf) n n) (J 3) 0 = S at hm
  generalize hM : sM (kB (J 29) (nI np) (nI nf) n n) (J 3) 0 = M at hm
  have mle : ∀ f, M f np ≤ 10 := fun f => by rw [← hM]; have := sM_le (kB (J 29) (nI np) (nI nf) n n) (J 3) 0 f np; omega
  have fin : ∀ r : Int32, r = nxv (btF (fun f => S f np) (fun f => M f np) (if s = 0 then (1 : Int32) else (-1)) nf) → EI 60 mX12_best [.ref 58, .int (nI n), .int s] J L (fun r' I2 L2 => r' = r ∧ P I2 L2) := by
    intro r hr
    refine sgX12_best_0 (m_isKnown_i HFJ (by omega) ?_)
    rw [if_neg (by decide)]
    refine pM_gathers HJ HFJ (by omega) (fun K hK h1 _ => ?_)
    have HK := (kq_g hK).told HJ
    have pk := hP K (hJ.kq'.tr (kq_g hK)) (iv_kn_same (fun q hq => hK q (by omega) (by omega)) (hJ.kn (by omega))) (by rw [hK 57 (by decide) (by decide), hJ.1 57 (by decide)])
    have e3 : K 3 = J 3 := hK 3 (by decide) (by decide)
    have v2 : vp_in (nI lv) 2 := vp_in_nI (by omega) (by decide)
    have h18K : K 58 18 = nI lv := HK.1.2.2.2.2.2.2.1
    have m0K : K 69 lv = nI nf := by rw [hK 69 (by decide) (by decide)]; exact m0
    have sumC : ∀ {f : Nat} {G : Int32 → st_I → st_L → Prop}, f < nf → G (S f np) K L → EI 59 mX12_sumOf [.ref 58, .int (nI f), .int 0] K L G := fun {f G} hf hG => pM_sumOf _ HK h1 (by omega) (by rw [e3, hS]; exact hG)
    have manC : ∀ {f : Nat} {G : Int32 → st_I → st_L → Prop}, f < nf → G (nI (M f np)) K L → EI 59 mX12_manyOf [.ref 58, .int (nI f), .int 0] K L G := fun {f G} hf hG => pM_manyOf _ HK h1 (by omega) (by rw [e3, hM]; exact hG)
    have key : ∀ (r' f : Nat), f + r' = nf → TI 60 mX12_best 21 [.ref 58, .null, .int s, .int (nxv (btF (fun f => S f np) (fun f => M f np) (if s = 0 then (1 : Int32) else (-1)) f)), .int (nI f), .null] [] K L (fun r' I2 L2 => r' = r ∧ P I2 L2) := by
      intro r'
      induction r' with
      | zero =>
        intro f hf
        obtain rfl : f = nf := by omega
        refine sgX12_best_21 ?_
        rw [h18K, nI_clamp (by omega), m0K, if_pos (nI_le (Nat.le_refl _) (by omega))]
        exact ⟨v2, hr.symm, pk⟩
      | succ r' ih =>
        intro f hf
        have st := ih (f + 1) (by omega)
        rw [btF] at st
        refine sgX12_best_21 ?_
        rw [h18K, nI_clamp (by omega), m0K, if_neg (nI_ge (by omega) (by omega)), nI_1]
        refine ⟨v2, manC (by omega) ?_⟩
        by_cases z : M f np = 0
        · rw [if_pos z] at st
          rw [z, if_pos (show nI 0 = 0 from rfl)]; exact st
        · have := mle f
          rw [if_neg z] at st
          rw [if_neg (nI_ne0 (by omega) (by omega))]
          cases e : btF (fun f => S f np) (fun f => M f np) (if s = 0 then (1 : Int32) else (-1)) f with
          | none =>
            rw [e] at st
            rw [if_neg (show ¬ (0 : Int32) ≤ nxv none by decide)]
            refine sgX12_best_87 ?_
            rw [if_pos (show nxv none < 0 by decide), nI_1]; exact st
          | some b =>
            have hb := btF_lt e
            rw [e] at st
            dsimp only at st
            rw [if_pos (show (0 : Int32) ≤ nxv (some b) from nI_pos' (by omega))]
            refine sumC (by omega) (manC (f := b) (by omega) (sumC (f := b) (by omega) (manC (by omega) (pM_sideOf (sgX12_best_87 ?_)))))
            rw [if_neg (show ¬ nxv (some b) < 0 from nI_pos (by omega)), nI_1]
            by_cases y : sdv (S f np * nI (M b np)) (S b np * nI (M f np)) = if s = 0 then (1 : Int32) else (-1)
            · rw [if_pos y] at st ⊢; exact st
            · rw [if_neg y] at st ⊢; exact st
    exact key nf 0 (by omega)
  have key : ∀ (r' f : Nat), f + r' = nf → TI 60 mX11_best 27 [.ref 0, .null, .null, .int (nxv (btF (fun f => S f np) (fun f => M f np) (if s = 0 then (1 : Int32) else (-1)) f)), .int (if s = 0 then (1 : Int32) else (-1)), .int (nI f)] [] J L (fun r I1 L1 => EI 60 mX12_best [.ref 58, .int (nI n), .int s] I1 L1 (fun r' I2 L2 => r' = r ∧ P I2 L2)) := by
    intro r'
    induction r' with
    | zero =>
      intro f hf
      obtain rfl : f = nf := by omega
      refine sgX11_best_27 ?_
      rw [c0, if_pos (nI_le (Nat.le_refl _) (by omega))]
      exact fin _ rfl
    | succ r' ih =>
      intro f hf
      have st := ih (f + 1) (by omega)
      rw [btF] at st
      refine sgX11_best_27 ?_
      have hmf := hm f (by omega)
      rw [c0, if_neg (nI_ge (by omega) (by omega)), nI_1]
      by_cases z : M f np = 0
      · rw [if_pos z] at st
        refine x_hasMean_o (by omega) (by rw [hmf.2.2.1, z]; decide) ?_
        rw [if_pos rfl]; exact st
      · have := mle f
        have pf : ¬ nI (M f np) ≤ 0 := nI_nle (by omega) (by omega)
        rw [if_neg z] at st
        refine x_hasMean_i (by omega) (by rw [hmf.2.2.1]; exact pf) ?_
        rw [if_neg (by decide)]
        cases e : btF (fun f => S f np) (fun f => M f np) (if s = 0 then (1 : Int32) else (-1)) f with
        | none =>
          rw [e] at st
          rw [if_pos (show nxv none = -2 from rfl)]; exact st
        | some b =>
          have hb := btF_lt e
          rw [e] at st
          dsimp only at st
          rw [if_neg (nxv_ne (by omega))]
          have hmb := hm b (by omega)
          have zb : ¬ M b np = 0 := btF_pos (M := fun f => M f np) e
          have lb := mle b
          refine pX_parted (by omega) (by omega) hmf.1 hmf.2.2.1 hmb.1 hmb.2.2.1 pf (nI_nle (by omega) (by omega)) ?_
          by_cases y : sdv (S f np * nI (M b np)) (S b np * nI (M f np)) = if s = 0 then (1 : Int32) else (-1)
          · rw [if_pos y] at st ⊢; exact st
          · rw [if_neg y] at st ⊢; exact st
  exact key nf 0 (by omega)
