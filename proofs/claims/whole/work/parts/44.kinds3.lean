/-! the sets of the reference -/
def nowB (o : Nat → Nat) : Nat → Nat
  | 0 => 0
  | k + 1 => if o k = 0 then nowB o k else nowB o k ||| 2 ^ k
theorem nowB_lt (o : Nat → Nat) : ∀ k, nowB o k < 2 ^ k
  | 0 => Nat.zero_lt_one
  | k + 1 => by
    have := nowB_lt o k
    have h2 : 2 ^ k < 2 ^ (k + 1) := Nat.pow_lt_pow_right (by decide) (by omega)
    rw [nowB]
    split
    · omega
    · exact Nat.or_lt_two_pow (by omega) h2
theorem nowB_tb (o : Nat → Nat) (j : Nat) : ∀ k, (nowB o k).testBit j = decide (j < k ∧ ¬ o j = 0)
  | 0 => by simp [nowB]
  | k + 1 => by
    have ih := nowB_tb o j k
    rw [nowB]
    by_cases z : o k = 0
    · rw [if_pos z, ih]
      refine decide_eq_decide.mpr ⟨fun w => ⟨by omega, w.2⟩, fun w => ⟨?_, w.2⟩⟩
      by_cases e : j = k
      · subst e; exact absurd z w.2
      · omega
    · rw [if_neg z, tb_or, ih]
      by_cases e : k = j
      · subst e; simp [z]
      · rw [decide_eq_false e, Bool.or_false]
        exact decide_eq_decide.mpr ⟨fun w => ⟨by omega, w.2⟩, fun w => ⟨by omega, w.2⟩⟩
theorem nowB_bit (o : Nat → Nat) {j k : Nat} (hj : j < k) (h1 : o j ≤ 1) : nowB o k / 2 ^ j % 2 = o j := by
  have h := nowB_tb o j k
  rw [Nat.testBit_eq_decide_div_mod_eq] at h
  have hi := decide_eq_decide.mp h
  have hm : nowB o k / 2 ^ j % 2 < 2 := Nat.mod_lt _ (by decide)
  by_cases z : o j = 0
  · have : ¬ nowB o k / 2 ^ j % 2 = 1 := fun w => (hi.mp w).2 z
    omega
  · have : nowB o k / 2 ^ j % 2 = 1 := hi.mpr ⟨hj, z⟩
    omega
theorem bt8 : ∀ x, x < 256 → ∀ i, i < 8 → nI x ||| ((1 : Int32) <<< (nI i &&& 31)) = nI (x ||| 2 ^ i) := by decide +kernel
theorem on_le {W : Nat → Nat} {w : Nat} : ∀ k, onF W w k ≤ sn W k
  | 0 => Nat.le_refl _
  | k + 1 => by
    have := on_le (W := W) (w := w) k
    unfold onF at *
    rw [sn, sn]; split <;> omega
theorem pM_kApart {d : Nat} {X : kd_X} {Lc x w : Nat} {J : st_I} {L : st_L} {F : Int32 → st_I → st_L → Prop} (hX : mD J X Lc x) (h : okD X) (hw : w < 2 ^ 31) (hF : F (apV X (wX X Lc x) (onF (wX X Lc x) w X.1)) J L) : EI d mX12_kindsApart [.ref 58, .int (nI w)] J L F := by
  have h8 := h.1
  have ho := okD_olds h
  have key : ∀ (r k : Nat), k + r = X.1 → TI d mX12_kindsApart 7 [.ref 58, .int (nI w), .int (nI (onF (wX X Lc x) w k)), .int (nI (sn (wX X Lc x) k - onF (wX X Lc x) w k)), .int (nI k)] [] J L F := by
    intro r
    induction r with
    | zero =>
      intro k hk
      obtain rfl : k = X.1 := by omega
      refine sgX12_kindsApart_7 ?_
      rw [hX.1, hX.2.1, if_pos (nI_le (Nat.le_refl _) (by omega)), pk_sub (by unfold olX; omega), pk_mul, pk_mul]; exact hF
    | succ r ih =>
      intro k hk
      have vk : vp_in (nI k) 8 := vp_in_nI (by omega) (by decide)
      have hle := on_le (W := wX X Lc x) (w := w) k
      have st := ih (k + 1) (by omega)
      rw [show onF (wX X Lc x) w (k + 1) = onF (wX X Lc x) w k + (if w / 2 ^ k % 2 = 1 then wX X Lc x k else 0) from rfl, sn] at st
      refine sgX12_kindsApart_7 ?_
      rw [hX.1, if_neg (nI_ge (by omega) (by omega)), bit_w hw (by omega), nI_clamp (by omega), hX.2.2.2.1 k (by omega), nI_add, nI_add, nI_1]
      rcases (show w / 2 ^ k % 2 = 0 ∨ w / 2 ^ k % 2 = 1 by omega) with z | z
      · rw [z, if_neg (show ¬ (0 : Nat) = 1 by decide), Nat.add_zero, show sn (wX X Lc x) k + wX X Lc x k - onF (wX X Lc x) w k = sn (wX X Lc x) k - onF (wX X Lc x) w k + wX X Lc x k by omega] at st
        rw [z, if_neg (by decide)]; exact ⟨vk, st⟩
      · rw [z, if_pos (show (1 : Nat) = 1 from rfl), show sn (wX X Lc x) k + wX X Lc x k - (onF (wX X Lc x) w k + wX X Lc x k) = sn (wX X Lc x) k - onF (wX X Lc x) w k by omega] at st
        rw [z, if_pos (by decide)]; exact ⟨vk, st⟩
  exact sgX12_kindsApart_0 (key X.1 0 (by omega))
theorem on_now {X : kd_X} (h : okD X) (W : Nat → Nat) : onF W (nowB X.2.2 X.1) X.1 = sn (fun i => X.2.2 i * W i) X.1 := by
  unfold onF
  refine sn_congr (fun i hi => ?_)
  have h1 := (h.2 i hi).2
  rw [nowB_bit X.2.2 hi h1]
  rcases (show X.2.2 i = 0 ∨ X.2.2 i = 1 by omega) with z | z
  · rw [z, if_neg (by decide), Nat.zero_mul]
  · rw [z, if_pos rfl, Nat.one_mul]
theorem pM_kNow {d : Nat} {X : kd_X} {Lc x : Nat} {J : st_I} {L : st_L} {F : Int32 → st_I → st_L → Prop} (hX : mD J X Lc x) (h : okD X) (hF : F (apV X (wX X Lc x) (smX X Lc x)) J L) : EI (d + 1) mX12_kindsNow [.ref 58] J L F := by
  have h8 := h.1
  have key : ∀ (r k : Nat), k + r = X.1 → TI (d + 1) mX12_kindsNow 4 [.ref 58, .int (nI (nowB X.2.2 k)), .int (nI k)] [] J L F := by
    intro r
    induction r with
    | zero =>
      intro k hk
      obtain rfl : k = X.1 := by omega
      have hlt := nowB_lt X.2.2 X.1
      have : 2 ^ X.1 ≤ 2 ^ 8 := Nat.pow_le_pow_right (by decide) h8
      refine sgX12_kindsNow_4 ?_
      rw [hX.1, if_pos (nI_le (Nat.le_refl _) (by omega))]
      refine pM_kApart hX h (by omega) ?_
      rw [on_now h]; exact hF
    | succ r ih =>
      intro k hk
      have hlt := nowB_lt X.2.2 k
      have : 2 ^ k ≤ 2 ^ 8 := Nat.pow_le_pow_right (by decide) (by omega)
      have st := ih (k + 1) (by omega)
      rw [nowB] at st
      refine sgX12_kindsNow_4 ?_
      rw [hX.1, if_neg (nI_ge (by omega) (by omega)), nI_clamp (by omega), hX.2.2.2.2 k (by omega), nI_1, bt8 _ (by omega) k (by omega)]
      refine ⟨vp_in_nI (by omega) (by decide), ?_⟩
      rcases (show X.2.2 k = 0 ∨ X.2.2 k = 1 by have := (h.2 k (by omega)).2; omega) with z | z
      · rw [z, if_pos rfl] at st
        rw [z, if_pos (show nI 0 = 0 from rfl)]; exact st
      · rw [z, if_neg (by decide)] at st
        rw [z, if_neg (by decide)]; exact st
  exact sgX12_kindsNow_0 (key X.1 0 (by omega))
theorem pk_top {w m k : Nat} (hw : w < 2 ^ m) (hk : m ≤ k) : pkF w k = pkF w m := by
  obtain ⟨c, rfl⟩ : ∃ c, k = m + c := ⟨k - m, by omega⟩
  unfold pkF
  rw [sn_split, sn_z (a := fun i => w / 2 ^ (m + i) % 2), Nat.add_zero]
  intro i _
  have : w < 2 ^ (m + i) := Nat.lt_of_lt_of_le hw (Nat.pow_le_pow_right (by decide) (by omega))
  rw [Nat.div_eq_of_lt this]
theorem pM_bits {d w : Nat} {J : st_I} {L : st_L} {F : Int32 → st_I → st_L → Prop} (hw : w < 2 ^ 31) (h : F (nI (pkF w 12)) J L) : EI d mX12_bits [.int (nI w)] J L F := by
  have key : ∀ (r k : Nat), k + r = 12 → TI d mX12_bits 4 [.int (nI w), .int (nI (pkF w k)), .int (nI k)] [] J L F := by
    intro r
    induction r with
    | zero =>
      intro k hk
      obtain rfl : k = 12 := by omega
      refine sgX12_bits_4 ?_
      rw [if_pos (by decide)]; exact h
    | succ r ih =>
      intro k hk
      refine sgX12_bits_4 ?_
      rw [if_neg (show ¬ (12 : Int32) ≤ nI k from nI_ge (b := 12) (by omega) (by decide)), bit_w hw (by omega), nI_add, nI_1]
      exact ih (k + 1) (by omega)
  exact sgX12_bits_0 (key 12 0 (by omega))
theorem ap_lt {X : kd_X} (h : okD X) {Lc x : Nat} (hL : Lc ≤ 2520) (hx : x ≤ 100) {a b : Nat} (ha : a ≤ sn (wX X Lc x) X.1) (hb : b ≤ sn (wX X Lc x) X.1) (h0 : X.1 = 0 → a = b) : apV X (wX X Lc x) a < apV X (wX X Lc x) b ↔ a < b := by
  have h8 := h.1
  have ho := okD_olds h
  have hT : sn (wX X Lc x) X.1 ≤ 4032000 := by
    have := sn_le (a := wX X Lc x) (c := 504000) (n := X.1) (fun i hi => wX_le h hL hx hi)
    exact Nat.le_trans this (Nat.le_trans (Nat.mul_le_mul_right _ h8) (Nat.le_of_ble_eq_true rfl))
  unfold apV olX
  generalize sn (wX X Lc x) X.1 = T at *
  generalize ho2 : sn X.2.2 X.1 = o at *
  generalize X.1 = m at *
  have e1 : ∀ z, (m - o) * z + o * z = m * z := fun z => by rw [← Nat.add_mul]; congr 1; omega
  have e2 : ∀ z, z ≤ T → o * (T - z) + o * z = o * T := fun z hz => by rw [← Nat.mul_add]; congr 1; omega
  have m1 : ∀ z, z ≤ T → m * z ≤ 32256000 := fun z hz => Nat.le_trans (Nat.mul_le_mul h8 (Nat.le_trans hz hT)) (Nat.le_of_ble_eq_true rfl)
  have m2 : o * T ≤ 32256000 := Nat.le_trans (Nat.mul_le_mul (show o ≤ 8 by omega) hT) (Nat.le_of_ble_eq_true rfl)
  have a1 := e1 a; have b1 := e1 b; have a2 := e2 a ha; have b2 := e2 b hb; have a3 := m1 a ha; have b3 := m1 b hb
  generalize o * (T - a) = p1 at *
  generalize o * (T - b) = p2 at *
  generalize (m - o) * a = q1 at *
  generalize (m - o) * b = q2 at *
  generalize o * a = r1 at *
  generalize o * b = r2 at *
  generalize o * T = t at *
  rw [vz_lt, pk_sub_toInt (by omega) (by omega), pk_sub_toInt (by omega) (by omega)]
  have key : m * a < m * b ↔ a < b := by
    by_cases z : m = 0
    · subst z
      rw [Nat.zero_mul, Nat.zero_mul, h0 rfl]
      exact ⟨fun w => absurd w (Nat.lt_irrefl _), fun w => absurd w (Nat.lt_irrefl _)⟩
    · exact Nat.mul_lt_mul_left (by omega)
  generalize m * a = u1 at *
  generalize m * b = u2 at *
  constructor
  · intro w; exact key.mp (by omega)
  · intro w; have := key.mpr w; omega
theorem pM_kCount {d : Nat} {X : kd_X} {Lc x : Nat} {s : Int32} {J : st_I} {L : st_L} {F : Int32 → st_I → st_L → Prop} (hX : mD J X Lc x) (h : okD X) (hL : Lc ≤ 2520) (hx : x ≤ 100) (hF : F (nI (kwF (wX X Lc x) (if s = 0 then 0 else smX X Lc x) X.1 0 (olX X) 0)) J L) : EI (d + 2) mX12_kindsCount [.ref 58, .int s] J L F := by
  have h8 := h.1
  have ho := okD_olds h
  have h2 : 2 ^ X.1 ≤ 2 ^ 8 := Nat.pow_le_pow_right (by decide) h8
  refine sgX12_kindsCount_0 (pM_kNow hX h ?_)
  generalize hQ : (if s = 0 then 0 else smX X Lc x) = Q at hF
  have key : ∀ (r w : Nat), w + r = 2 ^ X.1 → TI (d + 2) mX12_kindsCount 10 [.ref 58, .int s, .int (nI (sn (fun w => if pcF X.1 w = olX X ∧ Q ≤ 0 + coF (wX X Lc x) X.1 0 w then 1 else 0) w)), .int (apV X (wX X Lc x) (smX X Lc x)), .int (nI w)] [] J L F := by
    intro r
    induction r with
    | zero =>
      intro w hw
      obtain rfl : w = 2 ^ X.1 := by omega
      refine sgX12_kindsCount_10 ?_
      rw [hX.1, shl12 _ (by omega), if_pos (nI_le (Nat.le_refl _) (by omega)), kw_sum]; exact hF
    | succ r ih =>
      intro w hw
      have st := ih (w + 1) (by omega)
      rw [sn, Nat.zero_add, co_all, pc_all] at st
      refine sgX12_kindsCount_10 ?_
      rw [hX.1, shl12 _ (by omega), if_neg (nI_ge (by omega) (by omega))]
      refine pM_bits (by omega) ?_
      have hpk := sn_le (a := fun i => w / 2 ^ i % 2) (c := 1) (n := X.1) (fun i _ => by have := Nat.mod_lt (w / 2 ^ i) (show 0 < 2 by decide); omega)
      rw [pk_top (show w < 2 ^ X.1 by omega) (show X.1 ≤ 12 by omega), hX.2.1, nI_1, nI_1]
      have hpk2 : pkF w X.1 ≤ X.1 := by unfold pkF; omega
      by_cases z : pkF w X.1 = olX X
      · rw [if_pos (by rw [z])]
        by_cases y : s = 0
        · rw [if_pos y] at hQ
          rw [if_pos ⟨z, by omega⟩] at st
          rw [if_pos y]; exact st
        · rw [if_neg y] at hQ
          rw [if_neg y]
          refine pM_kApart hX h (by omega) ?_
          have hsm : smX X Lc x = onF (wX X Lc x) (nowB X.2.2 X.1) X.1 := (on_now h _).symm
          have hlt := ap_lt h hL hx (a := onF (wX X Lc x) w X.1) (b := smX X Lc x) (on_le _) (by rw [hsm]; exact on_le _) (fun e => by unfold onF smX; rw [e]; rfl)
          by_cases u : onF (wX X Lc x) w X.1 < smX X Lc x
          · rw [if_neg (fun q => by omega)] at st
            rw [if_pos (hlt.mpr u)]; exact st
          · rw [if_pos ⟨z, by omega⟩] at st
            rw [if_neg (fun q => u (hlt.mp q))]; exact st
      · rw [if_neg (fun q => z q.1)] at st
        rw [if_neg (sw_ne _ _ (by omega) (by unfold olX; omega) z)]; exact st
  exact key (2 ^ X.1) 0 (by omega)
/-- what both know of the KINDS -/
theorem kd_all {I : st_I} {nF nf np n : Nat} (HF : iv_facts I nF) (hn : n ≤ nF) (b1 : nf ≤ 8) (b2 : np ≤ 10) : ∃ S M : Nat → Nat, S = (fun f => sSN (kB (I 29) (nI np) (nI nf) n n) (I 3) 0 f np) ∧ M = (fun f => sM (kB (I 29) (nI np) (nI nf) n n) (I 3) 0 f np) ∧ (∀ f, M f ≤ 10) ∧ (∀ f, S f ≤ 100 * M f) ∧ (∀ f, sS (kB (I 29) (nI np) (nI nf) n n) (I 3) 0 f np = nI (S f)) ∧ okD (gD S M (I 2) (cL M nf) nf) ∧ cL M nf ≤ 2520 := by
  have hv : okB (kB (I 29) (nI np) (nI nf) n n) := kB_val HF hn b1 b2 n (Nat.le_refl _)
  have hM : ∀ f, sM (kB (I 29) (nI np) (nI nf) n n) (I 3) 0 f np ≤ 10 := fun f => by have := sM_le (kB (I 29) (nI np) (nI nf) n n) (I 3) 0 f np; omega
  have hS : ∀ f, sSN (kB (I 29) (nI np) (nI nf) n n) (I 3) 0 f np ≤ 100 * sM (kB (I 29) (nI np) (nI nf) n n) (I 3) 0 f np := fun f => (sSN_eq hv (I 3) 0 f np).2
  have hL := cL_le hM nf
  exact ⟨_, _, rfl, rfl, hM, hS, fun f => (sSN_eq hv (I 3) 0 f np).1, ⟨by have := gD_le (fun f => sSN (kB (I 29) (nI np) (nI nf) n n) (I 3) 0 f np) (fun f => sM (kB (I 29) (nI np) (nI nf) n n) (I 3) 0 f np) (I 2) (cL (fun f => sM (kB (I 29) (nI np) (nI nf) n n) (I 3) 0 f np) nf) nf; omega, gD_ok hS hL nf⟩, hL⟩
theorem kq_43 {J K : st_I} (hK : ∀ q, q ≠ 43 → q ≠ 44 → q ≠ 45 → q ≠ 46 → K q = J q) : kq J K := ⟨fun q a _ _ => hK q (by omega) (by omega) (by omega) (by omega), fun q a b _ _ => hK q (by omega) (by omega) (by omega) (by omega), fun k _ => by rw [hK 58 (by decide) (by decide) (by decide) (by decide)]⟩
theorem wX_0 (X : kd_X) (Lc : Nat) : wX X Lc 0 = X.2.1 := by funext i; unfold wX; rw [Nat.mul_zero, Nat.zero_mul, Nat.add_zero]
theorem op_kinds {lv nf np nb nl npl nF : Nat} {I : st_I} {L : st_L} {P : st_I → st_L → Prop} (H : iv_told I lv nf np nb nl npl) (HF : iv_facts I nF) (hk : iv_kn I nf np nF) (hP : ∀ J, kq I J → iv_kn J nf np nF → J 57 = I 57 → P J L) (c e : Int32) :
    EI 60 mX11_kinds [.ref 0, .int c, .int e] I L (fun r I1 L1 => EI 60 mX12_kinds [.ref 58, .int c, .int e] I1 L1 (fun r' I2 L2 => r' = r ∧ P I2 L2)) := by
  have no : P I L := hP I kq.rf hk rfl
  have h80 := HF.1
  refine sgX11_kinds_0 ?_
  rcases ot_ix e 4 (by decide) with ho | ⟨k, hk2, rfl⟩
  · have bad : EI 60 mX12_kinds [.ref 58, .int c, .int e] I L (fun r' I2 L2 => r' = -1000000000 ∧ P I2 L2) := by
      refine sgX12_kinds_0 ?_
      rcases ot_ix c (nF + 1) (by omega) with ho2 | ⟨n, hn, rfl⟩
      · refine m_isKnown_o HF ho2 ?_
        rw [if_pos rfl]; exact ⟨rfl, no⟩
      · refine m_isKnown_i HF (by omega) ?_
        rw [if_neg (by decide)]
        refine in_out (n := 4) (by decide) ho ?_
        rw [if_pos rfl]; exact ⟨rfl, no⟩
    by_cases z : e < 0
    · rw [if_pos z]; exact bad
    · obtain ⟨i, hi, rfl⟩ := nI_of z
      have : 4 ≤ i := (nI_leI (by omega) hi).mp (ho.resolve_left z)
      rw [if_neg z, if_pos (show (3 : Int32) < nI i from nI_lt (a := 3) (by omega) hi)]; exact bad
  rw [if_neg (nI_pos (by omega)), if_neg (show ¬ (3 : Int32) < nI k from nI_nlt (a := 3) (b := k) (by omega) (by decide))]
  rcases ot_ix c (nF + 1) (by omega) with ho | ⟨n, hn, rfl⟩
  · refine x_knows_o HF ho ?_
    rw [if_pos rfl]
    refine sgX12_kinds_0 (m_isKnown_o HF ho ?_)
    rw [if_pos rfl]; exact ⟨rfl, no⟩
  refine x_knows_i H HF hk (by omega) (fun J hJ => ?_)
  have HJ := hJ.kq'.told H
  have HFJ := hJ.kq'.facts HF
  obtain ⟨hlv, b1, b2, -⟩ := id HJ.1
  obtain ⟨S, M, eS, eM, hM, hS, hSS, hok, hL⟩ := kd_all (n := n) HFJ (by omega) b1 b2
  have h35 : ∀ f, f < nf → J 35 f = nI (S f) ∧ J 36 f = nI (M f) := fun f hf => by
    have := hJ.2.2.2.2.2.2.1 f hf
    exact ⟨by rw [this.1, hSS f], by rw [this.2.2.1, eM]⟩
  rw [if_neg (by decide)]
  refine pX_kinds HJ h35 hM hS (fun K hK hX => ?_)
  have kK' : kq J K := kq_43 (fun q a b c _ => hK q a b c)
  have HK := kK'.told HJ
  have HFK := kK'.facts HFJ
  have e29 : K 29 = J 29 := hK 29 (by decide) (by decide) (by decide)
  have e3 : K 3 = J 3 := hK 3 (by decide) (by decide) (by decide)
  have e2 : K 2 = J 2 := hK 2 (by decide) (by decide) (by decide)
  have knK : iv_kn K nf np nF := iv_kn_same (fun q hq => hK q (by omega) (by omega) (by omega)) (hJ.kn (by omega))
  have hol := okD_olds hok
  have go : ∀ {F : Int32 → st_I → st_L → Prop}, (∀ Z : st_I, P Z L → mD Z (gD S M (J 2) (cL M nf) nf) (cL M nf) 0 → (if nI k = 0 then F (Z 58 67) Z L else (if nI k = 1 then F ((Z 58 66) - (Z 58 67)) Z L else (if nI k = 2 then F (Z 58 68) Z L else EI 59 mX12_kindsNow [.ref 58] Z L (fun r4 I4 L4 => F r4 I4 L4))))) → EI 60 mX12_kinds [.ref 58, .int (nI n), .int (nI k)] K L F := by
    intro F h
    refine sgX12_kinds_0 (m_isKnown_i HFK (by omega) ?_)
    rw [if_neg (by decide)]
    refine in_in (n := 4) (by decide) hk2 ?_
    rw [if_neg (by decide)]
    refine pM_kindsBy (x := 0) HK HFK (by omega) (by decide) S M (by rw [e29, e3]; exact eS) (by rw [e29, e3]; exact eM) (fun Z hZ hXZ => h Z (hP Z ((hJ.kq'.tr kK').tr (hZ.kq' (by decide))) (iv_kn_same (fun q hq => hZ.1 q (by omega) (by omega)) knK) (by rw [hZ.1 57 (by decide) (by decide), hK 57 (by decide) (by decide) (by decide), hJ.1 57 (by decide)])) ?_)
    rw [e2] at hXZ; exact hXZ
  rw [hX.2.2.1, hX.2.2.2.1, hX.2.1]
  by_cases z : nI k = 0
  · rw [if_pos z]
    refine go (fun Z pk hXZ => ?_)
    rw [if_pos z]; exact ⟨hXZ.2.1, pk⟩
  rw [if_neg z]
  by_cases y : nI k = 1
  · rw [if_pos y]
    refine go (fun Z pk hXZ => ?_)
    rw [if_neg z, if_pos y, hXZ.1, hXZ.2.1]
    refine ⟨pk_sub ?_, pk⟩
    unfold olX; exact hol
  rw [if_neg y]
  by_cases w : nI k = 2
  · rw [if_pos w]
    refine go (fun Z pk hXZ => ?_)
    rw [if_neg z, if_neg y, if_pos w]; exact ⟨hXZ.2.2.1, pk⟩
  rw [if_neg w]
  refine pX_apart hX hok (go (fun Z pk hXZ => ?_))
  rw [if_neg z, if_neg y, if_neg w]
  refine pM_kNow hXZ hok ⟨?_, pk⟩
  unfold smX
  rw [wX_0]
theorem op_kindWays {lv nf np nb nl npl nF : Nat} {I : st_I} {L : st_L} {P : st_I → st_L → Prop} (H : iv_told I lv nf np nb nl npl) (HF : iv_facts I nF) (hk : iv_kn I nf np nF) (hP : ∀ J, kq I J → iv_kn J nf np nF → J 57 = I 57 → P J L) (c s : Int32) :
    EI 60 mX11_kindWays [.ref 0, .int c, .int s] I L (fun r I1 L1 => EI 60 mX12_kindWays [.ref 58, .int c, .int s] I1 L1 (fun r' I2 L2 => r' = r ∧ P I2 L2)) := by
  have no : P I L := hP I kq.rf hk rfl
  have h80 := HF.1
  refine sgX11_kindWays_0 ?_
  rcases ot_ix c (nF + 1) (by omega) with ho | ⟨n, hn, rfl⟩
  · refine x_knows_o HF ho ?_
    rw [if_pos rfl]
    refine sgX12_kindWays_0 (m_isKnown_o HF ho ?_)
    rw [if_pos rfl]; exact ⟨rfl, no⟩
  refine x_knows_i H HF hk (by omega) (fun J hJ => ?_)
  have HJ := hJ.kq'.told H
  have HFJ := hJ.kq'.facts HF
  obtain ⟨hlv, b1, b2, -⟩ := id HJ.1
  obtain ⟨S, M, eS, eM, hM, hS, hSS, hok, hL⟩ := kd_all (n := n) HFJ (by omega) b1 b2
  have h35 : ∀ f, f < nf → J 35 f = nI (S f) ∧ J 36 f = nI (M f) := fun f hf => by
    have := hJ.2.2.2.2.2.2.1 f hf
    exact ⟨by rw [this.1, hSS f], by rw [this.2.2.1, eM]⟩
  rw [if_neg (by decide)]
  refine pX_kinds HJ h35 hM hS (fun K hK hX => ?_)
  have go : ∀ (K2 : st_I) {F : Int32 → st_I → st_L → Prop}, (∀ q, q ≠ 43 → q ≠ 44 → q ≠ 45 → q ≠ 46 → K2 q = J q) → (∀ Z : st_I, P Z L → F (nI (kwF (wX (gD S M (J 2) (cL M nf) nf) (cL M nf) 0) (if s = 0 then 0 else smX (gD S M (J 2) (cL M nf) nf) (cL M nf) 0) (gD S M (J 2) (cL M nf) nf).1 0 (olX (gD S M (J 2) (cL M nf) nf)) 0)) Z L) → EI 60 mX12_kindWays [.ref 58, .int (nI n), .int s] K2 L F := by
    intro K2 F hK2 h
    have kK' : kq J K2 := kq_43 hK2
    have HK := kK'.told HJ
    have HFK := kK'.facts HFJ
    have e29 : K2 29 = J 29 := hK2 29 (by decide) (by decide) (by decide) (by decide)
    have e3 : K2 3 = J 3 := hK2 3 (by decide) (by decide) (by decide) (by decide)
    have e2 : K2 2 = J 2 := hK2 2 (by decide) (by decide) (by decide) (by decide)
    have knK : iv_kn K2 nf np nF := iv_kn_same (fun q hq => hK2 q (by omega) (by omega) (by omega) (by omega)) (hJ.kn (by omega))
    refine sgX12_kindWays_0 (m_isKnown_i HFK (by omega) ?_)
    rw [if_neg (by decide)]
    refine pM_kindsBy (x := 0) HK HFK (by omega) (by decide) S M (by rw [e29, e3]; exact eS) (by rw [e29, e3]; exact eM) (fun Z hZ hXZ => ?_)
    rw [e2] at hXZ
    exact pM_kCount hXZ hok hL (by decide) (h Z (hP Z ((hJ.kq'.tr kK').tr (hZ.kq' (by decide))) (iv_kn_same (fun q hq => hZ.1 q (by omega) (by omega)) knK) (by rw [hZ.1 57 (by decide) (by decide), hK2 57 (by decide) (by decide) (by decide) (by decide), hJ.1 57 (by decide)])))
  by_cases z : s = 0
  · rw [if_pos z]
    refine pX_kall hX hok (go K (fun q a b c _ => hK q a b c) (fun Z pk => ⟨?_, pk⟩))
    rw [if_pos z, kw_bin]
  · rw [if_neg z]
    refine pX_kwaysWith (x := 0) hX hok hL (by decide) (fun K2 hK2 => go K2 (fun q a b c e => by rw [hK2 q e, hK q a b c]) (fun Z pk => ⟨?_, pk⟩))
    rw [if_neg z]
theorem op_small {lv nf np nb nl npl nF : Nat} {I : st_I} {L : st_L} {P : st_I → st_L → Prop} (H : iv_told I lv nf np nb nl npl) (HF : iv_facts I nF) (hk : iv_kn I nf np nF) (hP : ∀ J, kq I J → iv_kn J nf np nF → J 57 = I 57 → P J L) (c : Int32) :
    EI 60 mX11_small [.ref 0, .int c] I L (fun r I1 L1 => EI 60 mX12_small [.ref 58, .int c] I1 L1 (fun r' I2 L2 => r' = r ∧ P I2 L2)) := by
  have no : P I L := hP I kq.rf hk rfl
  have h80 := HF.1
  refine sgX11_small_0 ?_
  rcases ot_ix c (nF + 1) (by omega) with ho | ⟨n, hn, rfl⟩
  · refine x_knows_o HF ho ?_
    rw [if_pos rfl]
    refine sgX12_small_0 (m_isKnown_o HF ho ?_)
    rw [if_pos rfl]; exact ⟨rfl, no⟩
  refine x_knows_i H HF hk (by omega) (fun J hJ => ?_)
  have HJ := hJ.kq'.told H
  have HFJ := hJ.kq'.facts HF
  obtain ⟨hlv, b1, b2, -⟩ := id HJ.1
  obtain ⟨S, M, eS, eM, hM, hS, hSS, hok, hL⟩ := kd_all (n := n) HFJ (by omega) b1 b2
  have h35 : ∀ f, f < nf → J 35 f = nI (S f) ∧ J 36 f = nI (M f) := fun f hf => by
    have := hJ.2.2.2.2.2.2.1 f hf
    exact ⟨by rw [this.1, hSS f], by rw [this.2.2.1, eM]⟩
  rw [if_neg (by decide)]
  refine pX_kinds HJ h35 hM hS (fun K hK hX => ?_)
  refine pX_smallest hX hok hL (fun K2 hK2' => ?_)
  have hK2 : ∀ q, q ≠ 43 → q ≠ 44 → q ≠ 45 → q ≠ 46 → K2 q = J q := fun q a b c e => by rw [hK2' q e, hK q a b c]
  have kK' : kq J K2 := kq_43 hK2
  have HK := kK'.told HJ
  have HFK := kK'.facts HFJ
  have e29 : K2 29 = J 29 := hK2 29 (by decide) (by decide) (by decide) (by decide)
  have e3 : K2 3 = J 3 := hK2 3 (by decide) (by decide) (by decide) (by decide)
  have e2 : K2 2 = J 2 := hK2 2 (by decide) (by decide) (by decide) (by decide)
  have knK : iv_kn K2 nf np nF := iv_kn_same (fun q hq => hK2 q (by omega) (by omega) (by omega) (by omega)) (hJ.kn (by omega))
  refine sgX12_small_0 (m_isKnown_i HFK (by omega) ?_)
  rw [if_neg (by decide)]
  generalize hX' : gD S M (J 2) (cL M nf) nf = X at hX hok
  have key : ∀ (r x : Nat) (Z : st_I), x + r = 101 → m58 53 K2 Z → lbF (kgood X (cL M nf)) 101 0 = lbF (kgood X (cL M nf)) r x → TI 60 mX12_small 12 [.ref 58, .int (nI n), .int (nI x)] [] Z L (fun r' I2 L2 => r' = nxv (lbF (kgood X (cL M nf)) 101 0) ∧ P I2 L2) := by
    intro r
    induction r with
    | zero =>
      intro x Z hx hZ hl
      refine sgX12_small_12 ?_
      rw [if_pos (show (100 : Int32) < nI x from nI_lt (a := 100) (by omega) (by omega))]
      refine ⟨by rw [hl]; rfl, hP Z ((hJ.kq'.tr kK').tr (hZ.kq' (by decide))) (iv_kn_same (fun q hq => hZ.1 q (by omega) (by omega)) knK) (by rw [hZ.1 57 (by decide) (by decide), hK2 57 (by decide) (by decide) (by decide) (by decide), hJ.1 57 (by decide)])⟩
    | succ r ih =>
      intro x Z hx hZ hl
      have HZ := (hZ.kq' (by decide)).told HK
      have HFZ := (hZ.kq' (by decide)).facts HFK
      have f29 : Z 29 = J 29 := by rw [hZ.1 29 (by decide) (by decide), e29]
      have f3 : Z 3 = J 3 := by rw [hZ.1 3 (by decide) (by decide), e3]
      have f2 : Z 2 = J 2 := by rw [hZ.1 2 (by decide) (by decide), e2]
      have hb := bin8 hok.1 (olX X)
      have hkw := kw_le (wX X (cL M nf) x) (smX X (cL M nf) x) X.1 0 (olX X) 0
      refine sgX12_small_12 ?_
      rw [if_neg (show ¬ (100 : Int32) < nI x from nI_nlt (a := 100) (by omega) (by decide))]
      refine pM_kindsBy (x := x) HZ HFZ (by omega) (by omega) S M (by rw [f29, f3]; exact eS) (by rw [f29, f3]; exact eM) (fun Y hY hXY => ?_)
      rw [f2, hX'] at hXY
      refine pM_kCount hXY hok hL (by omega) (pM_kCount hXY hok hL (by omega) ?_)
      rw [if_neg (show ¬ (1 : Int32) = 0 by decide), if_pos (show (0 : Int32) = 0 from rfl), kw_bin, show (20 : Int32) * nI _ = nI (20 * _) from pk_mul 20 _, nI_1]
      have hY2 := hZ.tr hY
      cases hg : kgood X (cL M nf) x
      · have hg2 := hg
        unfold kgood at hg
        have := of_decide_eq_false hg
        rw [if_pos (nI_lt (by omega) (by omega))]
        exact ih (x + 1) Y (by omega) hY2 (hl.trans (lb_no hg2))
      · have hg2 := hg
        unfold kgood at hg
        have := of_decide_eq_true hg
        rw [if_neg (nI_nlt (by omega) (by omega))]
        refine ⟨by rw [hl.trans (lb_yes hg2)]; rfl, hP Y ((hJ.kq'.tr kK').tr (hY2.kq' (by decide))) (iv_kn_same (fun q hq => hY2.1 q (by omega) (by omega)) knK) (by rw [hY2.1 57 (by decide) (by decide), hK2 57 (by decide) (by decide) (by decide) (by decide), hJ.1 57 (by decide)])⟩
  have := key 101 0 K2 (by omega) ⟨fun _ _ _ => rfl, fun _ _ => rfl⟩ rfl
  exact this
