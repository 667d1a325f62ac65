/-- V with x more on old ones -/
def wX (X : kd_X) (Lc x : Nat) (i : Nat) : Nat := X.2.1 i + X.2.2 i * x * Lc
def olX (X : kd_X) : Nat := sn X.2.2 X.1
def smX (X : kd_X) (Lc x : Nat) : Nat := sn (fun i => X.2.2 i * wX X Lc x i) X.1
theorem wX_le {X : kd_X} (h : okD X) {Lc x : Nat} (hL : Lc ≤ 2520) (hx : x ≤ 100) {i : Nat} (hi : i < X.1) : wX X Lc x i ≤ 504000 := by
  obtain ⟨h1, h2⟩ := h.2 i hi
  unfold wX
  have a1 : X.2.2 i * x ≤ 1 * 100 := Nat.mul_le_mul h2 hx
  have a2 : X.2.2 i * x * Lc ≤ 1 * 100 * 2520 := Nat.mul_le_mul a1 hL
  omega
theorem smX_le {X : kd_X} (h : okD X) {Lc x : Nat} (hL : Lc ≤ 2520) (hx : x ≤ 100) : smX X Lc x ≤ 4032000 := by
  have := sn_le (a := fun i => X.2.2 i * wX X Lc x i) (c := 504000) (n := X.1) (fun i hi => by
    have h1 := (h.2 i hi).2
    have h2 := wX_le h hL hx hi
    exact Nat.le_trans (Nat.mul_le_mul h1 h2) (Nat.le_of_ble_eq_true rfl))
  unfold smX
  have h8 := h.1
  have : X.1 * 504000 ≤ 4032000 := Nat.le_trans (Nat.mul_le_mul_right _ h8) (Nat.le_of_ble_eq_true rfl)
  omega
theorem pX_kall {d : Nat} {X : kd_X} {Lc : Nat} {J : st_I} {L : st_L} {F : Int32 → st_I → st_L → Prop} (hX : xD J X Lc) (h : okD X) (hF : F (nI (bin X.1 (olX X))) J L) : EI (d + 1) mX1_all [.ref 43] J L F := by
  have h8 := h.1
  have ho := okD_olds h
  refine sgX1_all_0 ?_
  rw [hX.1, hX.2.2.1]
  refine pX_choose (by omega) ?_
  rw [chv_nI (by omega) (by omega), lN_i]; exact hF
theorem pX_kwaysFrom {d : Nat} {X : kd_X} {Lc : Nat} {W : Nat → Nat} {Sm : Nat} {J : st_I} {L : st_L} (hX : xD J X Lc) (h8 : X.1 ≤ 8) (hW : ∀ i, i < X.1 → J 46 i = nI (W i) ∧ W i ≤ 504000) (hS : Sm ≤ 4032000) : ∀ (r at' left ch : Nat) {F : Int32 → st_I → st_L → Prop}, at' + r = X.1 → left ≤ 8 → ch ≤ at' * 504000 → F (nI (kwF W Sm r at' left ch)) J L → EI (d + r + 1) mX1_waysFrom [.ref 43, .int (nI at'), .int (nI left), .int (nI Sm - nI ch)] J L F := by
  have leaf : ∀ ch, ch ≤ 4032000 → (if 0 < nI Sm - nI ch then (0 : Int32) else 1) = nI (if Sm ≤ ch then 1 else 0) := by
    intro ch hch
    by_cases z : Sm ≤ ch
    · rw [if_pos z, if_neg (by rw [vz_lt, vz_0, pk_sub_toInt (by omega) (by omega)]; omega)]; rfl
    · rw [if_neg z, if_pos (by rw [vz_lt, vz_0, pk_sub_toInt (by omega) (by omega)]; omega)]; rfl
  intro r
  induction r with
  | zero =>
    intro at' left ch F hat hl hch hF
    have hc8 : at' * 504000 ≤ 4032000 := Nat.le_trans (Nat.mul_le_mul_right _ (show at' ≤ 8 by omega)) (Nat.le_of_ble_eq_true rfl)
    refine sgX1_waysFrom_0 ?_
    by_cases z : left = 0
    · subst z
      rw [kw_0] at hF
      rw [if_pos (show nI 0 = 0 from rfl), leaf ch (by omega)]; exact hF
    · rw [kw_big W Sm 0 at' left ch (by omega)] at hF
      rw [if_neg (nI_ne0 (by omega) (by omega)), hX.1, pk_sub (by omega), if_neg (nI_ge (by omega) (by omega))]; exact hF
  | succ r ih =>
    intro at' left ch F hat hl hch hF
    have hc8 : at' * 504000 ≤ 4032000 := Nat.le_trans (Nat.mul_le_mul_right _ (show at' ≤ 8 by omega)) (Nat.le_of_ble_eq_true rfl)
    refine sgX1_waysFrom_0 ?_
    by_cases z : left = 0
    · subst z
      rw [kw_0] at hF
      rw [if_pos (show nI 0 = 0 from rfl), leaf ch (by omega)]; exact hF
    · rw [if_neg (nI_ne0 (by omega) (by omega)), hX.1, pk_sub (by omega)]
      by_cases y : left ≤ X.1 - at'
      · obtain ⟨w1, w2⟩ := hW at' (by omega)
        rw [kwF, if_neg z] at hF
        rw [if_pos (nI_le y (by omega)), nI_clamp (by omega), w1, nI_1, show nI left - 1 = nI (left - 1) by rw [show (1 : Int32) = nI 1 from rfl, pk_sub (by omega)], Int32.sub_sub, nI_add]
        refine ⟨vp_in_nI (by omega) (by decide), ih (at' + 1) (left - 1) (ch + W at') (by omega) (by omega) (Nat.le_trans (Nat.add_le_add hch w2) (Nat.le_of_eq (Nat.succ_mul at' 504000).symm)) (ih (at' + 1) left ch (by omega) hl (Nat.le_trans hch (Nat.mul_le_mul_right _ (Nat.le_succ _))) ?_)⟩
        rw [nI_add]; exact hF
      · rw [kw_big W Sm (r + 1) at' left ch (by omega)] at hF
        rw [if_neg (nI_ge (by omega) (by omega))]; exact hF
theorem pX_kwaysWith {d : Nat} {X : kd_X} {Lc x : Nat} {J : st_I} {L : st_L} {F : Int32 → st_I → st_L → Prop} (hX : xD J X Lc) (h : okD X) (hL : Lc ≤ 2520) (hx : x ≤ 100) (hF : ∀ K : st_I, (∀ q, q ≠ 46 → K q = J q) → F (nI (kwF (wX X Lc x) (smX X Lc x) X.1 0 (olX X) 0)) K L) : EI (d + 10) mX1_waysWith [.ref 43, .int (nI x)] J L F := by
  have h8 := h.1
  have ho := okD_olds h
  have hsm := smX_le h hL hx
  have key : ∀ (r k : Nat) (K : st_I), k + r = X.1 → (∀ q, q ≠ 46 → K q = J q) → (∀ i, i < k → K 46 i = nI (wX X Lc x i)) → TI (d + 10) mX1_waysWith 4 [.ref 43, .int (nI x), .int (nI (sn (fun i => X.2.2 i * wX X Lc x i) k)), .int (nI k)] [] K L F := by
    intro r
    induction r with
    | zero =>
      intro k K hk hK hw
      obtain rfl : k = X.1 := by omega
      have hXK : xD K X Lc := by
        obtain ⟨a, b, c, e, f, g⟩ := hX
        exact ⟨by rw [hK 43 (by decide)]; exact a, by rw [hK 43 (by decide)]; exact b, by rw [hK 43 (by decide)]; exact c, by rw [hK 43 (by decide)]; exact e, fun i hi => by rw [hK 44 (by decide)]; exact f i hi, fun i hi => by rw [hK 45 (by decide)]; exact g i hi⟩
      refine sgX1_waysWith_4 ?_
      rw [hXK.1, if_pos (nI_le (Nat.le_refl _) (by omega)), hXK.2.2.1]
      have := pX_kwaysFrom (d := d + 8 - X.1) (L := L) (Sm := smX X Lc x) hXK h8 (fun i hi => ⟨hw i hi, wX_le h hL hx hi⟩) hsm X.1 0 (olX X) 0 (F := F) (by omega) (by unfold olX; omega) (by omega) (hF K hK)
      rw [show d + 8 - X.1 + X.1 + 1 = d + 9 by omega, show nI 0 = 0 from rfl, Int32.sub_zero] at this
      exact this
    | succ r ih =>
      intro k K hk hK hw
      have vk : vp_in (nI k) 8 := vp_in_nI (by omega) (by decide)
      refine sgX1_waysWith_4 ?_
      rw [hK 43 (by decide), hX.1, if_neg (nI_ge (by omega) (by omega)), nI_clamp (by omega), hK 44 (by decide), hX.2.2.2.2.1 k (by omega), hK 45 (by decide), hX.2.2.2.2.2 k (by omega), hX.2.1, pk_mul, pk_mul, nI_add, nI_1]
      have e46 : ∀ z : Int32, (u_I K 46 k z) 46 k = z := fun z => by simp [u_I]
      rw [e46, pk_mul, nI_add]
      refine ⟨vk, vk, vk, vk, vk, ih (k + 1) _ (by omega) (fun q hq => by rw [u_I_ne _ _ hq]; exact hK q hq) (fun i hi => ?_)⟩
      by_cases e : i = k
      · subst e; simp [u_I, wX]
      · simp only [u_I, if_true, if_neg e]; exact hw i (by omega)
  exact sgX1_waysWith_0 (key X.1 0 J (by omega) (fun _ _ => rfl) (fun i hi => absurd hi (Nat.not_lt_zero _)))
def kgood (X : kd_X) (Lc x : Nat) : Bool := decide (20 * kwF (wX X Lc x) (smX X Lc x) X.1 0 (olX X) 0 ≤ bin X.1 (olX X))
theorem kgood_pos {X : kd_X} (h : okD X) (Lc x : Nat) : 0 < kwF (wX X Lc x) (smX X Lc x) X.1 0 (olX X) 0 := by
  have ho : ∀ i, (fun i => if i < X.1 then X.2.2 i else 0) i ≤ 1 := fun i => by
    dsimp only
    split
    · exact (h.2 i (by assumption)).2
    · omega
  have := kw_one (wX X Lc x) (fun i => if i < X.1 then X.2.2 i else 0) (smX X Lc x) ho X.1 0 0 (by
    rw [Nat.zero_add]
    refine Nat.le_of_eq (sn_congr (fun i hi => ?_))
    rw [Nat.zero_add, if_pos hi])
  have e : sn (fun i => if 0 + i < X.1 then X.2.2 (0 + i) else 0) X.1 = olX X := sn_congr (fun i hi => by rw [Nat.zero_add, if_pos hi])
  rw [e] at this; exact this
theorem bin8 {n : Nat} (h : n ≤ 8) (k : Nat) : bin n k ≤ 70 := by
  have : ∀ j, bin n k ≤ bin (n + j) k := by
    intro j
    induction j with
    | zero => exact Nat.le_refl _
    | succ j ih => exact Nat.le_trans ih (bin_mono _ _)
  have h1 := this (8 - n)
  rw [show n + (8 - n) = 8 by omega] at h1
  have h2 : bin 8 k ≤ 70 := by
    by_cases hk : k < 9
    · have : ∀ k, k < 9 → bin 8 k ≤ 70 := by decide
      exact this k hk
    · rw [bin_z (by omega)]; exact Nat.zero_le _
  omega
theorem kw_le (W : Nat → Nat) (Sm : Nat) : ∀ (r at' left ch : Nat), kwF W Sm r at' left ch ≤ bin r left
  | 0, at', left, ch => by
    rw [kwF]
    split
    · rename_i h; rw [h.1]; decide
    · exact Nat.zero_le _
  | r + 1, at', left, ch => by
    rw [kwF]
    cases left with
    | zero =>
      rw [if_pos rfl]
      have := kw_le W Sm r (at' + 1) 0 ch
      rw [bin_0] at this ⊢
      omega
    | succ l =>
      rw [if_neg (by omega), Nat.add_sub_cancel]
      have h1 := kw_le W Sm r (at' + 1) l (ch + W at')
      have h2 := kw_le W Sm r (at' + 1) (l + 1) ch
      rw [show bin (r + 1) (l + 1) = bin r l + bin r (l + 1) from rfl]; omega
theorem x_rare {d a b : Nat} {I : st_I} {L : st_L} {F : Int32 → st_I → st_L → Prop} (ha : a < 2 ^ 63) (hb : b < 2 ^ 63) (h : F (b01 (decide (20 * a ≤ b))) I L) : EI d mX10_isRare [.long (lN a), .long (lN b)] I L F := by
  have hd : b / 20 ≤ b := Nat.div_le_self _ _
  refine sgX10_isRare_0 ?_
  rw [show (20 : Int64) = lN 20 from rfl, pk_lDiv hb (by decide) (by decide)]
  by_cases z : 20 * a ≤ b
  · rw [decide_eq_true z] at h
    rw [if_neg (fun w => absurd ((lg_cmp_gt _ _).mp w) (Int64.not_lt.mpr ((pk_lLE ha (by omega)).mpr (by omega))))]; exact h
  · rw [decide_eq_false z] at h
    rw [if_pos ((lg_cmp_gt _ _).mpr ((pk_lLT (by omega) ha).mpr (by omega)))]; exact h
theorem pX_smallest {d : Nat} {X : kd_X} {Lc : Nat} {J : st_I} {L : st_L} {F : Int32 → st_I → st_L → Prop} (hX : xD J X Lc) (h : okD X) (hL : Lc ≤ 2520) (hF : ∀ K : st_I, (∀ q, q ≠ 46 → K q = J q) → F (nxv (lbF (kgood X Lc) 101 0)) K L) : EI (d + 11) mX1_smallest [.ref 43] J L F := by
  have h8 := h.1
  have hb := bin8 h8 (olX X)
  refine sgX1_smallest_0 (pX_kall hX h ?_)
  have key : ∀ (r x : Nat) (K : st_I), x + r = 101 → (∀ q, q ≠ 46 → K q = J q) → lbF (kgood X Lc) 101 0 = lbF (kgood X Lc) r x → TI (d + 11) mX1_smallest 7 [.ref 43, .int (nI (bin X.1 (olX X))), .int (nI x)] [] K L F := by
    intro r
    induction r with
    | zero =>
      intro x K hx hK hl
      refine sgX1_smallest_7 ?_
      rw [if_pos (show (100 : Int32) < nI x from nI_lt (a := 100) (by omega) (by omega))]
      have := hF K hK
      rw [hl] at this; exact this
    | succ r ih =>
      intro x K hx hK hl
      refine sgX1_smallest_7 ?_
      rw [if_neg (show ¬ (100 : Int32) < nI x from nI_nlt (a := 100) (by omega) (by decide))]
      have hkw := kw_le (wX X Lc x) (smX X Lc x) X.1 0 (olX X) 0
      by_cases z : bin X.1 (olX X) < 20
      · rw [if_pos (show nI _ < 20 from nI_lt (b := 20) z (by decide))]
        have none' : ∀ (m y : Nat), lbF (kgood X Lc) m y = none := by
          intro m
          induction m with
          | zero => intro y; rfl
          | succ m ihm =>
            intro y
            have := kgood_pos h Lc y
            rw [lb_no (by unfold kgood; exact decide_eq_false (by omega)), ihm]
        have := hF K hK
        rw [none'] at this; exact this
      · rw [if_neg (show ¬ nI _ < 20 from nI_nlt (b := 20) (by omega) (by omega))]
        have hXK : xD K X Lc := by
          obtain ⟨a, b, c, e, f, g⟩ := hX
          exact ⟨by rw [hK 43 (by decide)]; exact a, by rw [hK 43 (by decide)]; exact b, by rw [hK 43 (by decide)]; exact c, by rw [hK 43 (by decide)]; exact e, fun i hi => by rw [hK 44 (by decide)]; exact f i hi, fun i hi => by rw [hK 45 (by decide)]; exact g i hi⟩
        refine pX_kwaysWith hXK h hL (by omega) (fun M hM => ?_)
        have hMJ : ∀ q, q ≠ 46 → M q = J q := fun q hq => by rw [hM q hq, hK q hq]
        rw [nI_l (by omega), nI_l (by omega)]
        refine x_rare (by omega) (by omega) ?_
        rw [nI_1]
        cases hg : kgood X Lc x
        · unfold kgood at hg
          rw [hg, if_pos (by decide)]
          exact ih (x + 1) M (by omega) hMJ (hl.trans (lb_no (by unfold kgood; exact hg)))
        · have hg2 := hg
          unfold kgood at hg
          rw [hg, if_neg (by decide)]
          have := hF M hMJ
          rw [hl.trans (lb_yes hg2)] at this; exact this
  exact key 101 0 J (by omega) (fun _ _ => rfl) rfl
/-- D -/
def apV (X : kd_X) (W : Nat → Nat) (on : Nat) : Int32 := nI ((X.1 - olX X) * on) - nI (olX X * (sn W X.1 - on))
theorem i32_q (a b c : Int32) : a - b + c = a + c - b := by rw [Int32.sub_eq_add_neg, Int32.sub_eq_add_neg, Int32.add_assoc, Int32.add_assoc, Int32.add_comm (-b)]
theorem pX_apart {d : Nat} {X : kd_X} {Lc : Nat} {J : st_I} {L : st_L} {F : Int32 → st_I → st_L → Prop} (hX : xD J X Lc) (h : okD X) (hF : F (apV X X.2.1 (sn (fun i => X.2.2 i * X.2.1 i) X.1)) J L) : EI d mX1_apart [.ref 43] J L F := by
  have h8 := h.1
  have ho := okD_olds h
  have key : ∀ (r k : Nat), k + r = X.1 → TI d mX1_apart 4 [.ref 43, .int (nI ((X.1 - olX X) * sn (fun i => X.2.2 i * X.2.1 i) k) - nI (olX X * (sn X.2.1 k - sn (fun i => X.2.2 i * X.2.1 i) k))), .int (nI k)] [] J L F := by
    intro r
    induction r with
    | zero =>
      intro k hk
      obtain rfl : k = X.1 := by omega
      refine sgX1_apart_4 ?_
      rw [hX.1, if_pos (nI_le (Nat.le_refl _) (by omega))]; exact hF
    | succ r ih =>
      intro k hk
      have vk : vp_in (nI k) 8 := vp_in_nI (by omega) (by decide)
      have st := ih (k + 1) (by omega)
      rw [sn, sn] at st
      have hsle : sn (fun i => X.2.2 i * X.2.1 i) k ≤ sn X.2.1 k := by
        have : ∀ j, j ≤ k → sn (fun i => X.2.2 i * X.2.1 i) j ≤ sn X.2.1 j := by
          intro j
          induction j with
          | zero => intro _; exact Nat.le_refl _
          | succ j ihj =>
            intro hj
            have h1 := ihj (by omega)
            have h2 := (h.2 j (by omega)).2
            have h3 : X.2.2 j * X.2.1 j ≤ 1 * X.2.1 j := Nat.mul_le_mul_right _ h2
            rw [sn, sn]; omega
        exact this k (Nat.le_refl _)
      refine sgX1_apart_4 ?_
      rw [hX.1, if_neg (nI_ge (by omega) (by omega)), nI_clamp (by omega), hX.2.2.2.2.2 k (by omega), hX.2.2.2.2.1 k (by omega), hX.2.2.2.1, hX.2.2.1, nI_1]
      refine ⟨vk, ?_⟩
      rcases (show X.2.2 k = 0 ∨ X.2.2 k = 1 by have := (h.2 k (by omega)).2; omega) with z | z
      · rw [z, Nat.zero_mul, Nat.add_zero] at st
        rw [z, if_neg (by decide), Int32.neg_mul, pk_mul, ← Int32.sub_eq_add_neg, Int32.sub_sub, nI_add]
        rw [show sn X.2.1 k + X.2.1 k - sn (fun i => X.2.2 i * X.2.1 i) k = (sn X.2.1 k - sn (fun i => X.2.2 i * X.2.1 i) k) + X.2.1 k by omega, Nat.mul_add] at st
        exact ⟨vk, st⟩
      · rw [z, Nat.one_mul] at st
        rw [z, if_pos (by decide), pk_mul, i32_q, nI_add]
        rw [show sn X.2.1 k + X.2.1 k - (sn (fun i => X.2.2 i * X.2.1 i) k + X.2.1 k) = sn X.2.1 k - sn (fun i => X.2.2 i * X.2.1 i) k by omega, Nat.mul_add] at st
        exact ⟨vk, st⟩
  refine sgX1_apart_0 ?_
  have := key X.1 0 (by omega)
  simp only [sn, Nat.mul_zero, Nat.sub_self] at this
  exact this
/-! the reference -/
def mD (J : st_I) (X : kd_X) (Lc x : Nat) : Prop := J 58 66 = nI X.1 ∧ J 58 67 = nI (olX X) ∧ J 58 68 = nI Lc ∧ (∀ i, i < X.1 → J 107 i = nI (wX X Lc x i)) ∧ ∀ i, i < X.1 → J 108 i = nI (X.2.2 i)
theorem pM_kindsBy {d lv nf np nb nl npl nF n x : Nat} {I : st_I} {L : st_L} {F : st_I → st_L → Prop} (H : iv_told I lv nf np nb nl npl) (HF : iv_facts I nF) (hn : n ≤ nF) (hx : x ≤ 100) (S M : Nat → Nat) (eS : S = fun f => sSN (kB (I 29) (nI np) (nI nf) n n) (I 3) 0 f np) (eM : M = fun f => sM (kB (I 29) (nI np) (nI nf) n n) (I 3) 0 f np) (h : ∀ J : st_I, m58 53 I J → mD J (gD S M (I 2) (cL M nf) nf) (cL M nf) x → F J L) : EV (d + 4) mX12_kindsBy [.ref 58, .int (nI n), .int (nI x)] I L F := by
  obtain ⟨hlv, b1, b2, b3, b4, b5, h18, c0, c1, c2, c3, c4, m0, m1, -⟩ := id H.1
  have v2 : vp_in (nI lv) 2 := vp_in_nI (by omega) (by decide)
  have hv : okB (kB (I 29) (nI np) (nI nf) n n) := kB_val HF hn b1 b2 n (Nat.le_refl _)
  have hM : ∀ f, M f ≤ 10 := fun f => by rw [eM]; have := sM_le (kB (I 29) (nI np) (nI nf) n n) (I 3) 0 f np; dsimp only; omega
  have hS : ∀ f, S f ≤ 100 * M f := fun f => by rw [eM, eS]; exact (sSN_eq hv (I 3) 0 f np).2
  have hL := cL_le hM nf
  refine sgX12_kindsBy_0 (pM_gathers H HF hn (fun K hK h1 _ => ?_))
  have T0 : ∀ J : st_I, m58 53 I J → iv_told J lv nf np nb nl npl := fun J hJ => (hJ.kq' (by decide)).told H
  have manC : ∀ (J : st_I) {f : Nat} {G : Int32 → st_I → st_L → Prop} {dd : Nat}, m58 53 I J → (∀ j, j < 80 → J 101 j = kB (I 29) (nI np) (nI nf) n n j) → f < nf → G (nI (M f)) J L → EI (dd + 1) mX12_manyOf [.ref 58, .int (nI f), .int 0] J L G := fun J {f G dd} hJ hB hf hG => pM_manyOf _ (T0 J hJ) hB (by omega) (by rw [hJ.1 3 (by decide) (by decide)]; rw [eM] at hG; exact hG)
  have sumC : ∀ (J : st_I) {f : Nat} {G : Int32 → st_I → st_L → Prop} {dd : Nat}, m58 53 I J → (∀ j, j < 80 → J 101 j = kB (I 29) (nI np) (nI nf) n n j) → f < nf → G (nI (S f)) J L → EI (dd + 1) mX12_sumOf [.ref 58, .int (nI f), .int 0] J L G := fun J {f G dd} hJ hB hf hG => pM_sumOf _ (T0 J hJ) hB (by omega) (by rw [hJ.1 3 (by decide) (by decide), (sSN_eq hv (I 3) 0 f np).1]; rw [eS] at hG; exact hG)
  have two : ∀ (r f : Nat) (J : st_I), f + r = nf → m58 53 I J → (∀ j, j < 80 → J 101 j = kB (I 29) (nI np) (nI nf) n n j) → mD J (gD S M (I 2) (cL M nf) f) (cL M nf) x → TV (d + 4) mX12_kindsBy 69 [.ref 58, .null, .int (nI x), .int (nI f), .null] [] J L F := by
    intro r
    induction r with
    | zero =>
      intro f J hf hJ hB hX
      obtain rfl : f = nf := by omega
      refine sgX12_kindsBy_69 ?_
      rw [hJ.2 18 (by decide), h18, nI_clamp (by omega), hJ.1 69 (by decide) (by decide), m0, if_pos (nI_le (Nat.le_refl _) (by omega))]
      exact ⟨v2, h J hJ hX⟩
    | succ r ih =>
      intro f J hf hJ hB hX
      have hle := gD_le S M (I 2) (cL M nf) f
      have hMf := hM f
      have st := ih (f + 1)
      have eol : olX (gD S M (I 2) (cL M nf) (f + 1)) = olX (gD S M (I 2) (cL M nf) f) + (if M f = 0 then 0 else if I 2 (5 * f) = 0 then 0 else 1) := gD_olds
      refine sgX12_kindsBy_69 ?_
      rw [hJ.2 18 (by decide), h18, nI_clamp (by omega), hJ.1 69 (by decide) (by decide), m0, if_neg (nI_ge (by omega) (by omega)), nI_1]
      refine ⟨v2, manC J hJ hB (by omega) ?_⟩
      by_cases z : M f = 0
      · rw [z, if_pos (show nI 0 = 0 from rfl)]
        refine st J (by omega) hJ hB ?_
        rw [gD, if_pos z]; exact hX
      · rw [if_neg (nI_ne0 (by omega) (by omega))]
        refine pM_isOldOne (T0 J hJ) (by omega) ?_
        have e2 : J 2 = I 2 := hJ.1 2 (by decide) (by decide)
        have hbo : bo (I 2 (5 * f)) := (H.2.1 f (by omega)).1
        rw [e2, nar_bo hbo, hX.1, nI_clamp (by omega)]
        have v8 : vp_in (nI (gD S M (I 2) (cL M nf) f).1) 8 := vp_in_nI (by omega) (by decide)
        refine ⟨v8, nI_ne0 (by omega) (by omega), ?_⟩
        have hJ1 : m58 53 I (u_I J 108 (gD S M (I 2) (cL M nf) f).1 (I 2 (5 * f))) := ⟨fun q q1 q2 => by rw [u_I_ne _ _ (by omega)]; exact hJ.1 q q1 q2, fun k hk => by rw [u_I_ne _ _ (by decide)]; exact hJ.2 k hk⟩
        refine sumC _ hJ1 (fun j hj => by rw [u_I_ne _ _ (by decide)]; exact hB j hj) (by omega) (pM_isOldOne (T0 _ hJ1) (by omega) ?_)
        rw [hJ1.1 2 (by decide) (by decide), hX.2.2.1]
        have ev : nI (cL M nf) / nI (M f) * (nI (S f) + (if I 2 (5 * f) = 0 then (0 : Int32) else nI x * nI (M f))) = nI (S f * (cL M nf / M f) + (if I 2 (5 * f) = 0 then 0 else 1) * x * cL M nf) := by
          have hdv : cL M nf / M f * M f = cL M nf := Nat.div_mul_cancel (cL_dvd z nf (by omega))
          rw [pk_div (by omega) (by omega) (by omega), pk_mul]
          by_cases y : I 2 (5 * f) = 0
          · rw [if_pos y, if_pos y, Int32.add_zero, pk_mul, Nat.zero_mul, Nat.zero_mul, Nat.add_zero, Nat.mul_comm]
          · rw [if_neg y, if_neg y, nI_add, pk_mul, Nat.one_mul, Nat.mul_add, Nat.mul_comm (cL M nf / M f) (S f)]
            congr 2
            rw [Nat.mul_comm x (M f), ← Nat.mul_assoc, hdv, Nat.mul_comm]
        rw [ev]
        have hJ2 : m58 53 I (u_I (u_I J 108 (gD S M (I 2) (cL M nf) f).1 (I 2 (5 * f))) 107 (gD S M (I 2) (cL M nf) f).1 (nI (S f * (cL M nf / M f) + (if I 2 (5 * f) = 0 then 0 else 1) * x * cL M nf))) := ⟨fun q q1 q2 => by rw [u_I_ne _ _ (by omega)]; exact hJ1.1 q q1 q2, fun k hk => by rw [u_I_ne _ _ (by decide)]; exact hJ1.2 k hk⟩
        have hB2 : ∀ j, j < 80 → (u_I (u_I J 108 (gD S M (I 2) (cL M nf) f).1 (I 2 (5 * f))) 107 (gD S M (I 2) (cL M nf) f).1 (nI (S f * (cL M nf / M f) + (if I 2 (5 * f) = 0 then 0 else 1) * x * cL M nf))) 101 j = kB (I 29) (nI np) (nI nf) n n j := fun j hj => by rw [u_I_ne _ _ (by decide), u_I_ne _ _ (by decide)]; exact hB j hj
        generalize hJ3 : u_I (u_I J 108 (gD S M (I 2) (cL M nf) f).1 (I 2 (5 * f))) 107 (gD S M (I 2) (cL M nf) f).1 (nI (S f * (cL M nf / M f) + (if I 2 (5 * f) = 0 then 0 else 1) * x * cL M nf)) = J3 at hJ2 hB2 ⊢
        refine ⟨v8, pM_isOldOne (T0 _ hJ2) (by omega) ?_⟩
        rw [hJ2.1 2 (by decide) (by decide)]
        have j66 : J3 58 66 = nI (gD S M (I 2) (cL M nf) f).1 := by rw [← hJ3, u_I_ne _ _ (by decide), u_I_ne _ _ (by decide)]; exact hX.1
        have j67 : J3 58 67 = nI (olX (gD S M (I 2) (cL M nf) f)) := by rw [← hJ3, u_I_ne _ _ (by decide), u_I_ne _ _ (by decide)]; exact hX.2.1
        have j68 : J3 58 68 = nI (cL M nf) := by rw [← hJ3, u_I_ne _ _ (by decide), u_I_ne _ _ (by decide)]; exact hX.2.2.1
        have j107 : ∀ i, i < (gD S M (I 2) (cL M nf) f).1 + 1 → J3 107 i = nI (wX (gD S M (I 2) (cL M nf) (f + 1)) (cL M nf) x i) := by
          intro i hi
          rw [gD, if_neg z, ← hJ3]
          unfold wX updN
          dsimp only
          by_cases e : i = (gD S M (I 2) (cL M nf) f).1
          · rw [if_pos e, if_pos e]; subst e; simp [u_I]
          · rw [if_neg e, if_neg e]
            simp only [u_I, if_true, if_neg e, show (107 : Nat) = 108 ↔ False by decide, if_false]
            exact hX.2.2.2.1 i (by omega)
        have j108 : ∀ i, i < (gD S M (I 2) (cL M nf) f).1 + 1 → J3 108 i = nI ((gD S M (I 2) (cL M nf) (f + 1)).2.2 i) := by
          intro i hi
          rw [gD, if_neg z, ← hJ3]
          unfold updN
          dsimp only
          by_cases e : i = (gD S M (I 2) (cL M nf) f).1
          · rw [if_pos e]; subst e
            simp only [u_I, if_true, show (108 : Nat) = 107 ↔ False by decide, if_false]
            rcases hbo with y | y
            · rw [y]; rfl
            · rw [y]; rfl
          · rw [if_neg e]
            simp only [u_I, if_true, if_neg e, show (108 : Nat) = 107 ↔ False by decide, if_false]
            exact hX.2.2.2.2 i (by omega)
        have ec : (gD S M (I 2) (cL M nf) (f + 1)).1 = (gD S M (I 2) (cL M nf) f).1 + 1 := by rw [gD, if_neg z]
        rw [if_neg z] at eol
        by_cases y : I 2 (5 * f) = 0
        · rw [if_pos y, Nat.add_zero] at eol
          rw [if_pos y, j66, nI_1]
          refine st _ (by omega) ⟨fun q q1 q2 => by rw [u_I_ne _ _ q1]; exact hJ2.1 q q1 q2, fun k hk => ?_⟩ (fun j hj => by rw [u_I_ne _ _ (by decide)]; exact hB2 j hj) ⟨?_, ?_, ?_, fun i hi => ?_, fun i hi => ?_⟩
          · simp only [u_I, if_true, if_neg (show ¬ k = 66 by omega)]; exact hJ2.2 k hk
          · rw [ec]; simp [u_I]
          · rw [eol]; simp only [u_I, if_true, show (67 : Nat) = 66 ↔ False by decide, if_false]; exact j67
          · simp only [u_I, if_true, show (68 : Nat) = 66 ↔ False by decide, if_false]; exact j68
          · rw [u_I_ne _ _ (by decide)]; exact j107 i (by rw [ec] at hi; exact hi)
          · rw [u_I_ne _ _ (by decide)]; exact j108 i (by rw [ec] at hi; exact hi)
        · rw [if_neg y] at eol
          rw [if_neg y, j66, j67, nI_1, nI_1]
          refine st _ (by omega) ⟨fun q q1 q2 => by rw [u_I_ne _ _ q1, u_I_ne _ _ q1]; exact hJ2.1 q q1 q2, fun k hk => ?_⟩ (fun j hj => by rw [u_I_ne _ _ (by decide), u_I_ne _ _ (by decide)]; exact hB2 j hj) ⟨?_, ?_, ?_, fun i hi => ?_, fun i hi => ?_⟩
          · simp only [u_I, if_true, if_neg (show ¬ k = 66 by omega), if_neg (show ¬ k = 67 by omega)]; exact hJ2.2 k hk
          · rw [ec]; simp [u_I]
          · rw [eol]; simp only [u_I, if_true, show (67 : Nat) = 66 ↔ False by decide, if_false]
          · simp only [u_I, if_true, show (68 : Nat) = 66 ↔ False by decide, show (68 : Nat) = 67 ↔ False by decide, if_false]; exact j68
          · rw [u_I_ne _ _ (by decide), u_I_ne _ _ (by decide)]; exact j107 i (by rw [ec] at hi; exact hi)
          · rw [u_I_ne _ _ (by decide), u_I_ne _ _ (by decide)]; exact j108 i (by rw [ec] at hi; exact hi)
  have one : ∀ (r f : Nat) (J : st_I), f + r = nf → m58 53 I J → (∀ j, j < 80 → J 101 j = kB (I 29) (nI np) (nI nf) n n j) → J 58 66 = 0 → J 58 67 = 0 → J 58 68 = nI (cL M f) → TV (d + 4) mX12_kindsBy 22 [.ref 58, .null, .int (nI x), .int (nI f), .null] [] J L F := by
    intro r
    induction r with
    | zero =>
      intro f J hf hJ hB x1 x2 x3
      obtain rfl : f = nf := by omega
      refine sgX12_kindsBy_22 ?_
      rw [hJ.2 18 (by decide), h18, nI_clamp (by omega), hJ.1 69 (by decide) (by decide), m0, if_pos (nI_le (Nat.le_refl _) (by omega))]
      exact ⟨v2, two f 0 J (by omega) hJ hB ⟨x1, x2, x3, fun i hi => absurd hi (Nat.not_lt_zero _), fun i hi => absurd hi (Nat.not_lt_zero _)⟩⟩
    | succ r ih =>
      intro f J hf hJ hB x1 x2 x3
      have hMf := hM f
      have st := ih (f + 1)
      rw [cL] at st
      refine sgX12_kindsBy_22 ?_
      rw [hJ.2 18 (by decide), h18, nI_clamp (by omega), hJ.1 69 (by decide) (by decide), m0, if_neg (nI_ge (by omega) (by omega)), nI_1]
      refine ⟨v2, manC J hJ hB (by omega) ?_⟩
      by_cases z : M f = 0
      · rw [if_pos z] at st
        rw [z, if_pos (show nI 0 ≤ 0 by decide)]
        exact st J (by omega) hJ hB x1 x2 x3
      · rw [if_neg z] at st
        rw [if_neg (nI_nle (by omega) (by omega))]
        refine manC J hJ hB (by omega) ?_
        rw [x3]
        refine m_common (cL_pos hM f) (cL_le hM f) (by omega) hMf ?_
        refine st _ (by omega) ⟨fun q q1 q2 => by rw [u_I_ne _ _ q1]; exact hJ.1 q q1 q2, fun k hk => ?_⟩ (fun j hj => by rw [u_I_ne _ _ (by decide)]; exact hB j hj) ?_ ?_ ?_
        · simp only [u_I, if_true, if_neg (show ¬ k = 68 by omega)]; exact hJ.2 k hk
        · simp only [u_I, if_true, show (66 : Nat) = 68 ↔ False by decide, if_false]; exact x1
        · simp only [u_I, if_true, show (67 : Nat) = 68 ↔ False by decide, if_false]; exact x2
        · simp [u_I]
  exact one nf 0 _ (by omega) ⟨fun q q1 q2 => by rw [u_I_ne _ _ q1, u_I_ne _ _ q1, u_I_ne _ _ q1, hK q (by omega) (by omega)], fun k hk => by simp only [u_I, if_true, if_neg (show ¬ k = 66 by omega), if_neg (show ¬ k = 67 by omega), if_neg (show ¬ k = 68 by omega)]; rw [hK 58 (by decide) (by decide)]⟩ (fun j hj => by rw [u_I_ne _ _ (by decide), u_I_ne _ _ (by decide), u_I_ne _ _ (by decide)]; exact h1 j hj) (by simp [u_I]) (by simp [u_I]) (by simp [u_I, cL]; rfl)
