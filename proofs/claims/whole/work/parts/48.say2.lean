theorem pM_sayOf {d lv nf np nb nl npl nF n : Nat} {I : st_I} {L : st_L} {F : Int32 → st_I → st_L → Prop} (H : iv_told I lv nf np nb nl npl) (HF : iv_facts I nF) (hn : n ≤ nF) (h : ∀ J : st_I, m58 53 I J → F (sayS (I 29) (I 3) (I 2) nf np n) J L) : EI (d + 10) mX12_sayOf [.ref 58, .int (nI n)] I L F := by
  have h80 := HF.1
  obtain ⟨hlv, b1, b2, -⟩ := id H.1
  have hv : okB (kB (I 29) (nI np) (nI nf) n n) := kB_val HF hn b1 b2 n (Nat.le_refl _)
  have hs : okB (kS (I 29) (nI np) (nI nf) n n) := kS_val HF hn b1 b2 n (Nat.le_refl _)
  have hE := kE_val HF hn b1 b2 n (Nat.le_refl _)
  have T0 : ∀ {J : st_I}, m58 53 I J → iv_told J lv nf np nb nl npl ∧ iv_facts J nF ∧ J 29 = I 29 ∧ J 3 = I 3 ∧ J 2 = I 2 := fun {J} hJ => ⟨(hJ.kq' (by decide)).told H, (hJ.kq' (by decide)).facts HF, hJ.1 29 (by decide) (by decide), hJ.1 3 (by decide) (by decide), hJ.1 2 (by decide) (by decide)⟩
  -- the winner
  have s6 : ∀ (J : st_I) (x : Int32), m58 53 I J → (∀ Z : st_I, m58 53 I Z → F (x ||| sy_w (kB (I 29) (nI np) (nI nf) n n) (I 3) (I 2) nf np) Z L) → TI (d + 10) mX12_sayOf 175 [.ref 58, .int (nI n), .int x, .null, .null, .null] [] J L F := by
    intro J x hJ hh
    obtain ⟨HJ, HFJ, e29, e3, e2⟩ := T0 hJ
    refine sgX12_sayOf_175 ?_
    refine pM_winnerOf (d := d + 5) HJ HFJ hn (fun Z hZ => ?_)
    have hZ2 : m58 53 I Z := hJ.tr (m58_g hZ)
    have hz := hh Z hZ2
    rw [e29, e3]
    unfold sy_w at hz
    have fwv : ∀ (ok : Nat → Bool) (r f : Nat), fw ok r f = -2 ∨ ∃ g, g < f + r ∧ fw ok r f = nI g := by
      intro ok r
      induction r with
      | zero => intro f; exact Or.inl rfl
      | succ r ih =>
        intro f
        rw [fw]
        split
        · exact Or.inr ⟨f, by omega, rfl⟩
        · rcases ih (f + 1) with z | ⟨g, g1, g2⟩
          · exact Or.inl z
          · exact Or.inr ⟨g, by omega, g2⟩
    rcases fwv (wok (kB (I 29) (nI np) (nI nf) n n) (I 3) nf np) nf 0 with z | ⟨g, g1, g2⟩
    · rw [z, if_pos rfl, Int32.or_zero] at hz
      rw [z, if_pos (by decide)]; exact hz
    · have hne : ¬ nI g = -2 := fun w => absurd (w ▸ nI_pos' (show g < 2 ^ 31 by omega)) (by decide)
      rw [g2, if_neg hne, nI_clamp (by omega)] at hz
      rw [g2, if_neg (nI_pos (by omega))]
      refine pM_isOldOne (T0 hZ2).1 (by omega) ?_
      rw [(T0 hZ2).2.2.2.2]; exact hz
  have hsgn : ∀ {X : t12_X}, v12 X → 20 * twF (fun i => (X.2 i).toInt) X.1 0 0 < 2 ^ 31 ∧ 2 ^ X.1 < 2 ^ 31 ∧ X.1 < 13 := by
    intro X hX
    have l := tw_le (fun i => (X.2 i).toInt) X.1 0 0
    have p : 2 ^ X.1 ≤ 2 ^ 12 := Nat.pow_le_pow_right (by decide) hX.1
    have := hX.1
    exact ⟨by omega, by omega, by omega⟩
  -- NEAR AND FAR
  have s5 : ∀ (J : st_I) (x : Int32), m58 53 I J → (∀ Z : st_I, m58 53 I Z → TI (d + 10) mX12_sayOf 175 [.ref 58, .int (nI n), .int (if sy_5 (kB (I 29) (nI np) (nI nf) n n) (I 3) nf np then x ||| 32 else x), .null, .null, .null] [] Z L F) → TI (d + 10) mX12_sayOf 148 [.ref 58, .int (nI n), .int x, .null, .null, .null] [] J L F := by
    intro J x hJ hh
    obtain ⟨HJ, HFJ, e29, e3, e2⟩ := T0 hJ
    have h6 := gN_le (fun f => sM (kB (I 29) (nI np) (nI nf) n n) (I 3) 0 f np) (fun f => sM (kB (I 29) (nI np) (nI nf) n n) (I 3) 1 f np) nf
    refine sgX12_sayOf_148 ?_
    refine pM_nearCount (d := d + 4) HJ HFJ hn (fun f => sS (kB (I 29) (nI np) (nI nf) n n) (I 3) 0 f np) (fun f => sS (kB (I 29) (nI np) (nI nf) n n) (I 3) 1 f np) (fun f => sM (kB (I 29) (nI np) (nI nf) n n) (I 3) 0 f np) (fun f => sM (kB (I 29) (nI np) (nI nf) n n) (I 3) 1 f np) (by rw [e29, e3]) (by rw [e29, e3]) (by rw [e29, e3]) (by rw [e29, e3]) (fun Z hZ z74 => ?_)
    rw [z74]
    refine m_fact (by omega) ?_
    have hz := hh Z (hJ.tr hZ)
    have l3 := wy_le (nfL_le (nrN (kB (I 29) (nI np) (nI nf) n n) (I 3) nf np) (nrR (kB (I 29) (nI np) (nI nf) n n) (I 3) nf np) (nrX (kB (I 29) (nI np) (nI nf) n n) (I 3) nf np).1 (scZ (nrN (kB (I 29) (nI np) (nI nf) n n) (I 3) nf np) (nrR (kB (I 29) (nI np) (nI nf) n n) (I 3) nf np) (fun i => i) (nrX (kB (I 29) (nI np) (nI nf) n n) (I 3) nf np).1)) (nrX (kB (I 29) (nI np) (nI nf) n n) (I 3) nf np).1
    have p3 := fac_le (nrX (kB (I 29) (nI np) (nI nf) n n) (I 3) nf np).1 (Nat.lt_of_le_of_lt h6 (by decide))
    unfold nrN nrR nrX at l3
    unfold nrX at p3
    unfold sy_5 pgood nrN nrR nrX at hz
    rw [show (20 : Int32) * nI _ = nI (20 * _) from pk_mul 20 _]
    by_cases z : 20 * wyG (nfL (svX (fun f => sS (kB (I 29) (nI np) (nI nf) n n) (I 3) 0 f np) (fun f => sM (kB (I 29) (nI np) (nI nf) n n) (I 3) 0 f np) (gN (fun f => sM (kB (I 29) (nI np) (nI nf) n n) (I 3) 0 f np) (fun f => sM (kB (I 29) (nI np) (nI nf) n n) (I 3) 1 f np) nf)) (svX (fun f => sS (kB (I 29) (nI np) (nI nf) n n) (I 3) 1 f np) (fun f => sM (kB (I 29) (nI np) (nI nf) n n) (I 3) 1 f np) (gN (fun f => sM (kB (I 29) (nI np) (nI nf) n n) (I 3) 0 f np) (fun f => sM (kB (I 29) (nI np) (nI nf) n n) (I 3) 1 f np) nf)) (gN (fun f => sM (kB (I 29) (nI np) (nI nf) n n) (I 3) 0 f np) (fun f => sM (kB (I 29) (nI np) (nI nf) n n) (I 3) 1 f np) nf).1 (scZ (svX (fun f => sS (kB (I 29) (nI np) (nI nf) n n) (I 3) 0 f np) (fun f => sM (kB (I 29) (nI np) (nI nf) n n) (I 3) 0 f np) (gN (fun f => sM (kB (I 29) (nI np) (nI nf) n n) (I 3) 0 f np) (fun f => sM (kB (I 29) (nI np) (nI nf) n n) (I 3) 1 f np) nf)) (svX (fun f => sS (kB (I 29) (nI np) (nI nf) n n) (I 3) 1 f np) (fun f => sM (kB (I 29) (nI np) (nI nf) n n) (I 3) 1 f np) (gN (fun f => sM (kB (I 29) (nI np) (nI nf) n n) (I 3) 0 f np) (fun f => sM (kB (I 29) (nI np) (nI nf) n n) (I 3) 1 f np) nf)) (fun i => i) (gN (fun f => sM (kB (I 29) (nI np) (nI nf) n n) (I 3) 0 f np) (fun f => sM (kB (I 29) (nI np) (nI nf) n n) (I 3) 1 f np) nf).1)) (gN (fun f => sM (kB (I 29) (nI np) (nI nf) n n) (I 3) 0 f np) (fun f => sM (kB (I 29) (nI np) (nI nf) n n) (I 3) 1 f np) nf).1 (gN (fun f => sM (kB (I 29) (nI np) (nI nf) n n) (I 3) 0 f np) (fun f => sM (kB (I 29) (nI np) (nI nf) n n) (I 3) 1 f np) nf).1 0 (fun _ => 0) 0 ≤ facN (gN (fun f => sM (kB (I 29) (nI np) (nI nf) n n) (I 3) 0 f np) (fun f => sM (kB (I 29) (nI np) (nI nf) n n) (I 3) 1 f np) nf).1
    · rw [decide_eq_true z, if_pos rfl] at hz
      rw [if_neg (nI_nlt z (by omega))]; exact hz
    · rw [decide_eq_false z, if_neg (by decide)] at hz
      rw [if_pos (nI_lt (by omega) (by omega))]; exact hz
  -- STEADY
  have s4 : ∀ (J : st_I) (x : Int32), m58 53 I J → (∀ Z : st_I, m58 53 I Z → TI (d + 10) mX12_sayOf 148 [.ref 58, .int (nI n), .int (if pgood (sfL (gS (kE (I 29) (nI np) (nI nf) n n) (kB (I 29) (nI np) (nI nf) n n) (I 3) (8 * np))) (gS (kE (I 29) (nI np) (nI nf) n n) (kB (I 29) (nI np) (nI nf) n n) (I 3) (8 * np)).1 then x ||| 16 else x), .null, .null, .null] [] Z L F) → TI (d + 10) mX12_sayOf 123 [.ref 58, .int (nI n), .int x, .null, .null, .null] [] J L F := by
    intro J x hJ hh
    obtain ⟨HJ, HFJ, e29, e3, e2⟩ := T0 hJ
    refine sgX12_sayOf_123 ?_
    refine pM_steadyCount (d := d + 5) HJ HFJ hn (gS (kE (I 29) (nI np) (nI nf) n n) (kB (I 29) (nI np) (nI nf) n n) (I 3) (8 * np)) (by rw [e29, e3]) (fun Z hZ hXZ => ?_)
    have hz := hh Z (hJ.tr hZ)
    have h7 := gS_le (kE (I 29) (nI np) (nI nf) n n) (kB (I 29) (nI np) (nI nf) n n) (I 3) (8 * np)
    generalize gS (kE (I 29) (nI np) (nI nf) n n) (kB (I 29) (nI np) (nI nf) n n) (I 3) (8 * np) = X at hXZ hz h7 ⊢
    rw [hXZ.1]
    refine m_fact (by omega) ?_
    have l2 := wy_le (sfL_le X) X.1
    have p2 := fac_le X.1 (by omega)
    unfold pgood at hz
    rw [show (20 : Int32) * nI _ = nI (20 * _) from pk_mul 20 _]
    by_cases z : 20 * wyG (sfL X) X.1 X.1 0 (fun _ => 0) 0 ≤ facN X.1
    · rw [decide_eq_true z, if_pos rfl] at hz
      rw [if_neg (nI_nlt z (by omega))]; exact hz
    · rw [decide_eq_false z, if_neg (by decide)] at hz
      rw [if_pos (nI_lt (by omega) (by omega))]; exact hz
  -- KNOWING
  have s3 : ∀ (J : st_I) (x : Int32), m58 53 I J → (∀ Z : st_I, m58 53 I Z → TI (d + 10) mX12_sayOf 123 [.ref 58, .int (nI n), .int (if tgood (gK (kS (I 29) (nI np) (nI nf) n n) (kB (I 29) (nI np) (nI nf) n n) (I 3) (I 2) (8 * np)).1 then x ||| 8 else x), .null, .null, .null] [] Z L F) → TI (d + 10) mX12_sayOf 97 [.ref 58, .int (nI n), .int x, .null, .null, .null] [] J L F := by
    intro J x hJ hh
    obtain ⟨HJ, HFJ, e29, e3, e2⟩ := T0 hJ
    have v1 : v12 (gK (kS (I 29) (nI np) (nI nf) n n) (kB (I 29) (nI np) (nI nf) n n) (I 3) (I 2) (8 * np)).1 := ⟨gK_le _ _ _ _ _, gK_ok hs hv _⟩
    refine sgX12_sayOf_97 ?_
    refine pM_knowingBy (d := d + 5) HJ HFJ hn (fun Z hZ hXZ => ?_)
    rw [e29, e3, e2] at hXZ
    have hz := hh Z (hJ.tr hZ)
    have hXZ1 := hXZ.1
    generalize (gK (kS (I 29) (nI np) (nI nf) n n) (kB (I 29) (nI np) (nI nf) n n) (I 3) (I 2) (8 * np)).1 = X at hXZ1 hz v1
    obtain ⟨q1, q2, q3⟩ := hsgn v1
    refine pM_signWays (d := d + 8) hXZ1 v1 ?_
    unfold tgood at hz
    rw [hXZ1.1, shl12 _ q3, show (20 : Int32) * nI _ = nI (20 * _) from pk_mul 20 _]
    by_cases z : 20 * twF (fun i => (X.2 i).toInt) X.1 0 0 ≤ 2 ^ X.1
    · rw [decide_eq_true z, if_pos rfl] at hz
      rw [if_neg (nI_nlt z q2)]; exact hz
    · rw [decide_eq_false z, if_neg (by decide)] at hz
      rw [if_pos (nI_lt (by omega) q1)]; exact hz
  -- BY PLAYERS
  have s2 : ∀ (J : st_I) (x : Int32), m58 53 I J → (∀ Z : st_I, m58 53 I Z → TI (d + 10) mX12_sayOf 97 [.ref 58, .int (nI n), .int (if tgood (gF (kB (I 29) (nI np) (nI nf) n n) (I 2) (I 3) nf np) then x ||| 4 else x), .null, .null, .null] [] Z L F) → TI (d + 10) mX12_sayOf 72 [.ref 58, .int (nI n), .int x, .null, .null, .null] [] J L F := by
    intro J x hJ hh
    obtain ⟨HJ, HFJ, e29, e3, e2⟩ := T0 hJ
    have v1 : v12 (gF (kB (I 29) (nI np) (nI nf) n n) (I 2) (I 3) nf np) := gF_12 hv b1 b2
    refine sgX12_sayOf_72 ?_
    refine pM_flipsBy (d := d + 5) HJ HFJ hn (fun Z hZ hXZ => ?_)
    rw [e29, e3, e2] at hXZ
    have hz := hh Z (hJ.tr hZ)
    generalize gF (kB (I 29) (nI np) (nI nf) n n) (I 2) (I 3) nf np = X at hXZ hz v1
    obtain ⟨q1, q2, q3⟩ := hsgn v1
    refine pM_signWays (d := d + 8) hXZ v1 ?_
    unfold tgood at hz
    rw [hXZ.1, shl12 _ q3, show (20 : Int32) * nI _ = nI (20 * _) from pk_mul 20 _]
    by_cases z : 20 * twF (fun i => (X.2 i).toInt) X.1 0 0 ≤ 2 ^ X.1
    · rw [decide_eq_true z, if_pos rfl] at hz
      rw [if_neg (nI_nlt z q2)]; exact hz
    · rw [decide_eq_false z, if_neg (by decide)] at hz
      rw [if_pos (nI_lt (by omega) q1)]; exact hz
  -- BY FIDDLES
  have s1 : ∀ (J : st_I) (x : Int32), m58 53 I J → (∀ Z : st_I, m58 53 I Z → TI (d + 10) mX12_sayOf 72 [.ref 58, .int (nI n), .int (if sy_1 (kB (I 29) (nI np) (nI nf) n n) (I 3) (I 2) nf np then x ||| 2 else x), .null, .null, .null] [] Z L F) → TI (d + 10) mX12_sayOf 46 [.ref 58, .int (nI n), .int x, .null, .null, .null] [] J L F := by
    intro J x hJ hh
    obtain ⟨HJ, HFJ, e29, e3, e2⟩ := T0 hJ
    obtain ⟨S, M, eS, eM, hM, hS, hSS, hok, hL⟩ := kd_all (n := n) HF hn b1 b2
    refine sgX12_sayOf_46 ?_
    refine pM_kindsBy (d := d + 5) (x := 0) HJ HFJ hn (by decide) S M (by rw [e29, e3]; exact eS) (by rw [e29, e3]; exact eM) (fun Z hZ hXZ => ?_)
    rw [e2] at hXZ
    have hz := hh Z (hJ.tr hZ)
    unfold sy_1 kdS kdM at hz
    rw [← eS, ← eM] at hz
    generalize gD S M (I 2) (cL M nf) nf = X at hXZ hz hok
    have hb := bin8 hok.1 (olX X)
    have hkw := kw_le (wX X (cL M nf) 0) (smX X (cL M nf) 0) X.1 0 (olX X) 0
    refine pM_kCount (d := d + 7) hXZ hok hL (by decide) (pM_kCount (d := d + 7) hXZ hok hL (by decide) ?_)
    rw [if_neg (show ¬ (1 : Int32) = 0 by decide), if_pos (show (0 : Int32) = 0 from rfl), kw_bin, show (20 : Int32) * nI _ = nI (20 * _) from pk_mul 20 _]
    unfold kgood at hz
    by_cases z : 20 * kwF (wX X (cL M nf) 0) (smX X (cL M nf) 0) X.1 0 (olX X) 0 ≤ bin X.1 (olX X)
    · rw [decide_eq_true z, if_pos rfl] at hz
      rw [if_neg (nI_nlt z (by omega))]; exact hz
    · rw [decide_eq_false z, if_neg (by decide)] at hz
      rw [if_pos (nI_lt (by omega) (by omega))]; exact hz
  have wv : ∃ k, k < 3 ∧ sy_w (kB (I 29) (nI np) (nI nf) n n) (I 3) (I 2) nf np = (if k = 0 then 0 else if k = 1 then 128 else 64) := by
    unfold sy_w
    split
    · exact ⟨0, by decide, rfl⟩
    · split
      · exact ⟨1, by decide, rfl⟩
      · exact ⟨2, by decide, rfl⟩
  have m0 : m58 53 I I := ⟨fun _ _ _ => rfl, fun _ _ => rfl⟩
  have all : ∀ b : Bool, b = sy_0 (I 29) (I 2) nf np n → TI (d + 10) mX12_sayOf 46 [.ref 58, .int (nI n), .int (if b then (0 : Int32) ||| 1 else 0), .null, .null, .null] [] I L F := fun b hb =>
    s1 I _ m0 (fun Z1 z1 => s2 Z1 _ z1 (fun Z2 z2 => s3 Z2 _ z2 (fun Z3 z3 => s4 Z3 _ z3 (fun Z4 z4 => s5 Z4 _ z4 (fun Z5 z5 => s6 Z5 _ z5 (fun Z6 z6 => by
      obtain ⟨k, hk, ew⟩ := wv
      have := h Z6 z6
      unfold sayS at this
      rw [← hb, ew, ← say_or b _ _ _ _ _ k hk] at this
      rw [ew]
      exact this))))))
  have hm := cn_le (gk (I 29) (nI np) (nI nf) (I 2) n 0) n
  have hr : cn (gk (I 29) (nI np) (nI nf) (I 2) n 1) n ≤ cn (gk (I 29) (nI np) (nI nf) (I 2) n 0) n := gk_le
  have e0 : sy_0 (I 29) (I 2) nf np n = (decide (cn (gk (I 29) (nI np) (nI nf) (I 2) n 0) n ≤ 60) && decide (20 * upN (cn (gk (I 29) (nI np) (nI nf) (I 2) n 0) n) 1 1 (cn (gk (I 29) (nI np) (nI nf) (I 2) n 1) n) ≤ 2 ^ cn (gk (I 29) (nI np) (nI nf) (I 2) n 0) n)) := rfl
  refine sgX12_sayOf_0 (pM_guessed (c := 0) (d := d + 6) H HF hn (by decide) ?_)
  by_cases z0 : cn (gk (I 29) (nI np) (nI nf) (I 2) n 0) n = 0
  · rw [z0, if_pos (show nI 0 ≤ 0 by decide)]
    have hr0 : cn (gk (I 29) (nI np) (nI nf) (I 2) n 1) n = 0 := by omega
    rw [z0, hr0] at e0
    exact all false (by rw [e0]; decide)
  · rw [if_neg (nI_nle (by omega) (by omega))]
    refine pM_guessed (c := 0) (d := d + 6) H HF hn (by decide) ?_
    by_cases z : cn (gk (I 29) (nI np) (nI nf) (I 2) n 0) n ≤ 60
    · rw [if_neg (show ¬ (60 : Int32) < nI _ from nI_nlt (a := 60) z (by decide))]
      refine pM_coinOf (d := d + 5) H HF hn (pM_coinOf (d := d + 5) H HF hn ?_)
      have e1 := lw_up (n := cn (gk (I 29) (nI np) (nI nf) (I 2) n 0) n) (a := 1) (c := 1) (show cn (gk (I 29) (nI np) (nI nf) (I 2) n 1) n ≤ cn (gk (I 29) (nI np) (nI nf) (I 2) n 0) n + 1 by omega)
      rw [show 1 + 1 = 2 from rfl] at e1
      have p2 : 2 ^ cn (gk (I 29) (nI np) (nI nf) (I 2) n 0) n ≤ 2 ^ 60 := Nat.pow_le_pow_right (by decide) z
      have c1 : coV (gk (I 29) (nI np) (nI nf) (I 2) n) n 1 = lN (upN (cn (gk (I 29) (nI np) (nI nf) (I 2) n 0) n) 1 1 (cn (gk (I 29) (nI np) (nI nf) (I 2) n 1) n)) := by
        unfold coV
        rw [if_pos z, if_neg (by decide), sl_sn]; rfl
      have c0 : coV (gk (I 29) (nI np) (nI nf) (I 2) n) n 0 = lN (2 ^ cn (gk (I 29) (nI np) (nI nf) (I 2) n 0) n) := by
        unfold coV
        rw [if_pos z, if_pos rfl]
      have hd : 2 ^ cn (gk (I 29) (nI np) (nI nf) (I 2) n 0) n / 20 ≤ 2 ^ cn (gk (I 29) (nI np) (nI nf) (I 2) n 0) n := Nat.div_le_self _ _
      rw [c1, c0, show (20 : Int64) = lN 20 from rfl, pk_lDiv (by omega) (by decide) (by decide)]
      rw [decide_eq_true z, Bool.true_and] at e0
      by_cases y : 20 * upN (cn (gk (I 29) (nI np) (nI nf) (I 2) n 0) n) 1 1 (cn (gk (I 29) (nI np) (nI nf) (I 2) n 1) n) ≤ 2 ^ cn (gk (I 29) (nI np) (nI nf) (I 2) n 0) n
      · rw [if_neg (fun w => absurd ((lg_cmp_gt _ _).mp w) (Int64.not_lt.mpr ((pk_lLE (by omega) (by omega)).mpr (by omega))))]
        exact all true (by rw [e0, decide_eq_true y])
      · rw [if_pos ((lg_cmp_gt _ _).mpr ((pk_lLT (by omega) (by omega)).mpr (by omega)))]
        exact all false (by rw [e0, decide_eq_false y])
    · rw [if_pos (show (60 : Int32) < nI _ from nI_lt (a := 60) (by omega) (by omega))]
      exact all false (by rw [e0, decide_eq_false z, Bool.false_and])
/-- what the class has said is right -/
def iv_said (I : st_I) (nf np nF : Nat) : Prop := ∀ n, n < 81 → I 57 n = -1 ∨ (n ≤ nF ∧ I 57 n = sayS (I 29) (I 3) (I 2) nf np n)
theorem iv_said_same {I J : st_I} {nf np nF : Nat} (h57 : J 57 = I 57) (h29 : J 29 = I 29) (h3 : J 3 = I 3) (h2 : J 2 = I 2) (H : iv_said I nf np nF) : iv_said J nf np nF := fun n hn => by rw [h57, h29, h3, h2]; exact H n hn
theorem pX_sayBy {d lv nf np nb nl npl nF n : Nat} {I : st_I} {L : st_L} {F : Int32 → st_I → st_L → Prop} (H : iv_told I lv nf np nb nl npl) (HF : iv_facts I nF) (hk : iv_kn I nf np nF) (hs : iv_said I nf np nF) (hn : n ≤ nF) (h : ∀ J : st_I, kq I J → iv_kn J nf np nF → iv_said J nf np nF → F (sayS (I 29) (I 3) (I 2) nf np n) J L) : EI (d + 21) mX11_sayBy [.ref 0, .int (nI n)] I L F := by
  have h80 := HF.1
  have v81 : vp_in (nI n) 81 := vp_in_nI (by omega) (by decide)
  refine sgX11_sayBy_0 ?_
  rw [if_neg (nI_pos (by omega)), if_pos (show nI n < 81 from nI_lt (b := 81) (by omega) (by decide)), nI_clamp (by omega)]
  refine ⟨v81, ?_⟩
  by_cases z : I 57 n = -1
  · rw [if_pos z]
    refine x_knows_i (d := d + 16) H HF hk hn (fun J hJ => ?_)
    rw [if_neg (by decide)]
    have HJ := hJ.kq'.told H
    have HFJ := hJ.kq'.facts HF
    have e29 : J 29 = I 29 := hJ.1 29 (by decide)
    have e3 : J 3 = I 3 := hJ.1 3 (by decide)
    have e2 : J 2 = I 2 := hJ.1 2 (by decide)
    refine pX_sayAll (d := d) (F := fun r I5 L5 => vp_in (nI n) 81 ∧ vp_in (nI n) 81 ∧ F ((u_I I5 57 n r) 57 n) (u_I I5 57 n r) L5) HJ HFJ hn hJ.2.2 (fun K hK => ?_)
    refine ⟨v81, v81, ?_⟩
    rw [show (u_I K 57 n (sayS (J 29) (J 3) (J 2) nf np n)) 57 n = sayS (J 29) (J 3) (J 2) nf np n by simp [u_I], e29, e3, e2]
    have hx := hK.kq'
    refine h _ ⟨fun q a b c => ?_, fun q a b c e => ?_, fun k hk' => ?_⟩ (iv_kn_same (I := K) (fun q hq => by rw [u_I_ne _ _ (by omega)]) (iv_kn_same (I := J) (fun q hq => hK q (by omega)) (hJ.kn hn))) (fun m hm => ?_)
    · rw [u_I_ne _ _ (by omega), hx.1 q a b c, hJ.1 q (by omega)]
    · rw [u_I_ne _ _ (by omega), hx.2.1 q a b c e, hJ.1 q (by omega)]
    · rw [u_I_ne _ _ (by decide), hK 58 (by decide), hJ.1 58 (by decide)]
    · rw [u_I_ne n _ (show (29:Nat) ≠ 57 by decide), u_I_ne n _ (show (3:Nat) ≠ 57 by decide), u_I_ne n _ (show (2:Nat) ≠ 57 by decide), hK 29 (by decide), hK 3 (by decide), hK 2 (by decide), e29, e3, e2]
      by_cases e : m = n
      · subst e; right; exact ⟨hn, by simp [u_I]⟩
      · have := hs m hm
        simp only [u_I, if_true, if_neg e]
        rw [hK 57 (by decide), hJ.1 57 (by decide)]; exact this
  · rw [if_neg z]
    rcases hs n (by omega) with y | ⟨-, y⟩
    · exact absurd y z
    · rw [y]
      exact ⟨v81, h I kq.rf hk hs⟩
theorem op_say {lv nf np nb nl npl nF : Nat} {I : st_I} {L : st_L} {P : st_I → st_L → Prop} (H : iv_told I lv nf np nb nl npl) (HF : iv_facts I nF) (hk : iv_kn I nf np nF) (hs : iv_said I nf np nF) (hP : ∀ J, kq I J → iv_kn J nf np nF → iv_said J nf np nF → P J L) (c : Int32) :
    EI 60 mX11_say [.ref 0, .int c] I L (fun r I1 L1 => EI 60 mX12_say [.ref 58, .int c] I1 L1 (fun r' I2 L2 => r' = r ∧ P I2 L2)) := by
  have no : P I L := hP I kq.rf hk hs
  have h80 := HF.1
  refine sgX11_say_0 ?_
  rw [HF.2.1]
  rcases ot_ix c (nF + 1) (by omega) with ho | ⟨n, hn, rfl⟩
  · have bad : EI 60 mX12_say [.ref 58, .int c] I L (fun r' I2 L2 => r' = -1 ∧ P I2 L2) := by
      refine sgX12_say_0 (m_isKnown_o HF ho ?_)
      rw [if_pos rfl]; exact ⟨rfl, no⟩
    by_cases z : c < 0
    · rw [if_pos z]; exact bad
    · obtain ⟨i, hi, rfl⟩ := nI_of z
      have : nF + 1 ≤ i := (nI_leI (by omega) hi).mp (ho.resolve_left z)
      rw [if_neg z, if_neg (nI_ge (by omega) hi)]; exact bad
  rw [if_neg (nI_pos (by omega)), if_pos (nI_le (by omega) (by omega))]
  refine pX_sayBy (d := 38) H HF hk hs (by omega) (fun J hJ kJ sJ => ?_)
  have HJ := hJ.told H
  have HFJ := hJ.facts HF
  refine sgX12_say_0 (m_isKnown_i HFJ (by omega) ?_)
  rw [if_neg (by decide)]
  refine pM_sayOf (d := 49) HJ HFJ (by omega) (fun K hK => ⟨?_, hP K (hJ.tr (hK.kq' (by decide))) (iv_kn_same (fun q hq => hK.1 q (by omega) (by omega)) kJ) (iv_said_same (hK.1 57 (by decide) (by decide)) (hK.1 29 (by decide) (by decide)) (hK.1 3 (by decide) (by decide)) (hK.1 2 (by decide) (by decide)) sJ)⟩)
  rw [hJ.1 29 (by decide) (by decide) (by decide), hJ.1 3 (by decide) (by decide) (by decide), hJ.1 2 (by decide) (by decide) (by decide)]
/-- the first fact from k on that turns SAY, of r -/
def trF (s : Nat → Int32) : Nat → Nat → Int32
  | 0, _ => -1
  | r + 1, k => if s k = s (k + 1) then trF s r (k + 1) else nI k
theorem op_turned {lv nf np nb nl npl nF : Nat} {I : st_I} {L : st_L} {P : st_I → st_L → Prop} (H : iv_told I lv nf np nb nl npl) (HF : iv_facts I nF) (hk : iv_kn I nf np nF) (hs : iv_said I nf np nF) (hP : ∀ J, kq I J → iv_kn J nf np nF → iv_said J nf np nF → P J L) (c : Int32) :
    EI 60 mX11_turned [.ref 0, .int c] I L (fun r I1 L1 => EI 60 mX12_turned [.ref 58, .int c] I1 L1 (fun r' I2 L2 => r' = r ∧ P I2 L2)) := by
  have no : P I L := hP I kq.rf hk hs
  have h80 := HF.1
  refine sgX11_turned_0 ?_
  rcases ot_ix c nF (by omega) with ho | ⟨k0, hk0, rfl⟩
  · refine x_hasF_o HF ho ?_
    rw [if_pos rfl]
    refine sgX12_turned_0 ?_
    rw [HF.2.2.1]
    refine in_out (by omega) ho ?_
    rw [if_pos rfl]; exact ⟨rfl, no⟩
  refine x_hasF_i HF hk0 ?_
  rw [if_neg (by decide)]
  have eS : ∀ {J : st_I}, kq I J → J 29 = I 29 ∧ J 3 = I 3 ∧ J 2 = I 2 := fun {J} h => ⟨h.1 29 (by decide) (by decide) (by decide), h.1 3 (by decide) (by decide) (by decide), h.1 2 (by decide) (by decide) (by decide)⟩
  have ref : ∀ (J : st_I) (ans : Int32), kq I J → iv_kn J nf np nF → iv_said J nf np nF → ans = trF (sayS (I 29) (I 3) (I 2) nf np) (nF - k0) k0 → EI 60 mX12_turned [.ref 58, .int (nI k0)] J L (fun r' I2 L2 => r' = ans ∧ P I2 L2) := by
    intro J ans hJ kJ sJ ha
    have HFJ := hJ.facts HF
    have key : ∀ (r k : Nat) (K : st_I), k + r = nF → m58 53 J K → ans = trF (sayS (I 29) (I 3) (I 2) nf np) r k → TI 60 mX12_turned 18 [.ref 58, .null, .int (nI k)] [] K L (fun r' I2 L2 => r' = ans ∧ P I2 L2) := by
      intro r
      induction r with
      | zero =>
        intro k K hk hK hb
        have hb' : ans = -1 := hb
        obtain rfl : k = nF := by omega
        refine sgX12_turned_18 ?_
        rw [hK.2 52 (by decide), HFJ.2.2.1, if_pos (nI_le (Nat.le_refl _) (by omega))]
        exact ⟨hb'.symm, hP K (hJ.tr (hK.kq' (by decide))) (iv_kn_same (fun q hq => hK.1 q (by omega) (by omega)) kJ) (iv_said_same (hK.1 57 (by decide) (by decide)) (hK.1 29 (by decide) (by decide)) (hK.1 3 (by decide) (by decide)) (hK.1 2 (by decide) (by decide)) sJ)⟩
      | succ r ih =>
        intro k K hk hK ha
        have HK := (hK.kq' (by decide)).told (hJ.told H)
        have HFK := (hK.kq' (by decide)).facts HFJ
        refine sgX12_turned_18 ?_
        rw [hK.2 52 (by decide), HFJ.2.2.1, if_neg (nI_ge (by omega) (by omega)), nI_1]
        refine pM_sayOf (d := 49) HK HFK (by omega) (fun K2 hK2 => ?_)
        have hK2' := hK.tr hK2
        have HK2 := (hK2'.kq' (by decide)).told (hJ.told H)
        have HFK2 := (hK2'.kq' (by decide)).facts HFJ
        refine pM_sayOf (d := 49) HK2 HFK2 (by omega) (fun K3 hK3 => ?_)
        have hK3' := hK2'.tr hK3
        obtain ⟨a1, a2, a3⟩ := eS (hJ.tr (hK.kq' (by decide)))
        obtain ⟨c1, c2, c3⟩ := eS (hJ.tr (hK2'.kq' (by decide)))
        rw [a1, a2, a3, c1, c2, c3]
        rw [trF] at ha
        by_cases z : sayS (I 29) (I 3) (I 2) nf np k = sayS (I 29) (I 3) (I 2) nf np (k + 1)
        · rw [if_pos z] at ha
          rw [if_pos z]; exact ih (k + 1) K3 (by omega) hK3' ha
        · rw [if_neg z] at ha
          rw [if_neg z]
          exact ⟨ha.symm, hP K3 (hJ.tr (hK3'.kq' (by decide))) (iv_kn_same (fun q hq => hK3'.1 q (by omega) (by omega)) kJ) (iv_said_same (hK3'.1 57 (by decide) (by decide)) (hK3'.1 29 (by decide) (by decide)) (hK3'.1 3 (by decide) (by decide)) (hK3'.1 2 (by decide) (by decide)) sJ)⟩
    refine sgX12_turned_0 ?_
    rw [HFJ.2.2.1]
    refine in_in (by omega) hk0 ?_
    rw [if_neg (by decide)]
    exact key (nF - k0) k0 J (by omega) ⟨fun _ _ _ => rfl, fun _ _ => rfl⟩ ha
  have key : ∀ (r k : Nat) (J : st_I), k + r = nF → kq I J → iv_kn J nf np nF → iv_said J nf np nF → trF (sayS (I 29) (I 3) (I 2) nf np) (nF - k0) k0 = trF (sayS (I 29) (I 3) (I 2) nf np) r k → TI 60 mX11_turned 15 [.ref 0, .null, .int (nI k)] [] J L (fun r I1 L1 => EI 60 mX12_turned [.ref 58, .int (nI k0)] I1 L1 (fun r' I2 L2 => r' = r ∧ P I2 L2)) := by
    intro r
    induction r with
    | zero =>
      intro k J hk hJ kJ sJ ht
      obtain rfl : k = nF := by omega
      refine sgX11_turned_15 ?_
      rw [(hJ.facts HF).2.1, if_pos (nI_le (Nat.le_refl _) (by omega))]
      exact ref J _ hJ kJ sJ (by rw [ht]; rfl)
    | succ r ih =>
      intro k J hk hJ kJ sJ ht
      refine sgX11_turned_15 ?_
      rw [(hJ.facts HF).2.1, if_neg (nI_ge (by omega) (by omega)), nI_1]
      refine pX_sayBy (d := 38) (hJ.told H) (hJ.facts HF) kJ sJ (by omega) (fun J1 hJ1 kJ1 sJ1 => ?_)
      have hJ1' := hJ.tr hJ1
      refine pX_sayBy (d := 38) (hJ1'.told H) (hJ1'.facts HF) kJ1 sJ1 (by omega) (fun J2 hJ2 kJ2 sJ2 => ?_)
      have hJ2' := hJ1'.tr hJ2
      obtain ⟨a1, a2, a3⟩ := eS hJ
      obtain ⟨c1, c2, c3⟩ := eS hJ1'
      rw [a1, a2, a3, c1, c2, c3]
      rw [trF] at ht
      by_cases z : sayS (I 29) (I 3) (I 2) nf np k = sayS (I 29) (I 3) (I 2) nf np (k + 1)
      · rw [if_pos z] at ht
        rw [if_pos z.symm]; exact ih (k + 1) J2 (by omega) hJ2' kJ2 sJ2 ht
      · rw [if_neg z] at ht
        rw [if_neg (fun w => z w.symm)]
        exact ref J2 _ hJ2' kJ2 sJ2 ht.symm
  exact key (nF - k0) k0 I (by omega) kq.rf hk hs rfl
