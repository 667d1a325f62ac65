/-! SAY -/
def tgood (X : t12_X) : Bool := decide (20 * twF (fun i => (X.2 i).toInt) X.1 0 0 ≤ 2 ^ X.1)
def pgood (leaf : (Nat → Nat) → Nat) (m : Nat) : Bool := decide (20 * wyG leaf m m 0 (fun _ => 0) 0 ≤ facN m)
def sy_0 (R O : Nat → Int32) (nf np n : Nat) : Bool := decide (cn (gk R (nI np) (nI nf) O n 0) n ≤ 60) && decide (20 * upN (cn (gk R (nI np) (nI nf) O n 0) n) 1 1 (cn (gk R (nI np) (nI nf) O n 1) n) ≤ 2 ^ cn (gk R (nI np) (nI nf) O n 0) n)
def kdS (B T : Nat → Int32) (np : Nat) : Nat → Nat := fun f => sSN B T 0 f np
def kdM (B T : Nat → Int32) (np : Nat) : Nat → Nat := fun f => sM B T 0 f np
def sy_1 (B T O : Nat → Int32) (nf np : Nat) : Bool := kgood (gD (kdS B T np) (kdM B T np) O (cL (kdM B T np) nf) nf) (cL (kdM B T np) nf) 0
def nrX (B T : Nat → Int32) (nf np : Nat) : n6_X := gN (fun f => sM B T 0 f np) (fun f => sM B T 1 f np) nf
def nrN (B T : Nat → Int32) (nf np : Nat) : Nat → Nat → Int32 := svX (fun f => sS B T 0 f np) (fun f => sM B T 0 f np) (nrX B T nf np)
def nrR (B T : Nat → Int32) (nf np : Nat) : Nat → Nat → Int32 := svX (fun f => sS B T 1 f np) (fun f => sM B T 1 f np) (nrX B T nf np)
def sy_5 (B T : Nat → Int32) (nf np : Nat) : Bool := pgood (nfL (nrN B T nf np) (nrR B T nf np) (nrX B T nf np).1 (scZ (nrN B T nf np) (nrR B T nf np) (fun i => i) (nrX B T nf np).1)) (nrX B T nf np).1
def sy_w (B T O : Nat → Int32) (nf np : Nat) : Int32 := if fw (wok B T nf np) nf 0 = -2 then 0 else if O (5 * (fw (wok B T nf np) nf 0).toNatClampNeg) = 0 then 128 else 64
def sayV (b0 b1 b2 b3 b4 b5 : Bool) (w : Int32) : Int32 := (if b0 then 1 else 0) + ((if b1 then 2 else 0) + (if b2 then 4 else 0)) + ((if b3 then 8 else 0) + (if b4 then 16 else 0) + (if b5 then 32 else 0)) + w
theorem say_or : ∀ b0 b1 b2 b3 b4 b5 : Bool, ∀ k, k < 3 → let w : Int32 := if k = 0 then 0 else if k = 1 then 128 else 64; let x0 : Int32 := if b0 then (0 : Int32) ||| 1 else 0; let x1 := if b1 then x0 ||| 2 else x0; let x2 := if b2 then x1 ||| 4 else x1; let x3 := if b3 then x2 ||| 8 else x2; let x4 := if b4 then x3 ||| 16 else x3; let x5 := if b5 then x4 ||| 32 else x4; (x5 ||| w) = sayV b0 b1 b2 b3 b4 b5 w := by decide +kernel
def sayS (R T O : Nat → Int32) (nf np n : Nat) : Int32 := sayV (sy_0 R O nf np n) (sy_1 (kB R (nI np) (nI nf) n n) T O nf np) (tgood (gF (kB R (nI np) (nI nf) n n) O T nf np)) (tgood (gK (kS R (nI np) (nI nf) n n) (kB R (nI np) (nI nf) n n) T O (8 * np)).1) (pgood (sfL (gS (kE R (nI np) (nI nf) n n) (kB R (nI np) (nI nf) n n) T (8 * np))) (gS (kE R (nI np) (nI nf) n n) (kB R (nI np) (nI nf) n n) T (8 * np)).1) (sy_5 (kB R (nI np) (nI nf) n n) T nf np) (sy_w (kB R (nI np) (nI nf) n n) T O nf np)
theorem tw_le (N : Nat → Int) : ∀ (r at' : Nat) (t : Int), twF N r at' t ≤ 2 ^ r
  | 0, at', t => by rw [twF]; split <;> decide
  | r + 1, at', t => by
    have h1 := tw_le N r (at' + 1) t
    have h2 := tw_le N r (at' + 1) (t + N at')
    rw [twF, Nat.pow_succ]; omega
theorem wy_le {leaf : (Nat → Nat) → Nat} (h : ∀ g, leaf g ≤ 1) (m : Nat) : wyG leaf m m 0 (fun _ => 0) 0 ≤ facN m := by
  rw [← gv_all]
  have := sn_le (a := fun w => leaf (gvN m m 0 (fun _ => 0) 0 w)) (c := 1) (n := facN m) (fun i _ => h _)
  omega
theorem sfL_le (X : g7_X) (g : Nat → Nat) : sfL X g ≤ 1 := by unfold sfL; split <;> decide
theorem nfL_le (N R : Nat → Nat → Int32) (m : Nat) (D : Int) (g : Nat → Nat) : nfL N R m D g ≤ 1 := by unfold nfL; split <;> decide
/-- scratch of the class alone -/
def xq (I J : st_I) : Prop := ∀ q, q < 40 ∨ 56 < q → J q = I q
theorem xq.rf {I : st_I} : xq I I := fun _ _ => rfl
theorem xq.tr {I J K : st_I} (h : xq I J) (g : xq J K) : xq I K := fun q a => (g q a).trans (h q a)
theorem xq.kq' {I J : st_I} (h : xq I J) : kq I J := ⟨fun q a _ _ => h q (by omega), fun q a _ _ _ => h q (by omega), fun k _ => by rw [h 58 (by decide)]⟩
theorem b01_if (b : Bool) (x : Int32) : (if b01 b = 0 then (0 : Int32) else x) = if b then x else 0 := by cases b <;> rfl
/-- the class reckons it -/
theorem pX_sayAll {d lv nf np nb nl npl nF n : Nat} {J : st_I} {L : st_L} {F : Int32 → st_I → st_L → Prop} (HJ : iv_told J lv nf np nb nl npl) (HF : iv_facts J nF) (hn : n ≤ nF) (hK : kK J nf np n) (h : ∀ K : st_I, xq J K → F (sayS (J 29) (J 3) (J 2) nf np n) K L) :
    EI (d + 20) mX11_sayOfGuesses [.ref 0] J L (fun r2 I2 L2 => EI (d + 20) mX11_sayOfKinds [.ref 0] I2 L2 (fun r3 I3 L3 => EI (d + 20) mX11_sayOfPairs [.ref 0] I3 L3 (fun r4 I4 L4 => EI (d + 20) mX11_sayOfWinner [.ref 0] I4 L4 (fun r5 I5 L5 => F (r2 + r3 + r4 + r5) I5 L5)))) := by
  have h80 := HF.1
  obtain ⟨hlv, b1, b2, -⟩ := id HJ.1
  obtain ⟨k31, k32, k33, k34, k35, k37, k39⟩ := id hK
  have hv : okB (kB (J 29) (nI np) (nI nf) n n) := kB_val HF hn b1 b2 n (Nat.le_refl _)
  have hs : okB (kS (J 29) (nI np) (nI nf) n n) := kS_val HF hn b1 b2 n (Nat.le_refl _)
  have hE := kE_val HF hn b1 b2 n (Nat.le_refl _)
  have hout : ∀ p f, nf ≤ f → f < 8 → kB (J 29) (nI np) (nI nf) n n (8 * p + f) = -1 := fun p f h1 h2 => kB_out HF hn b1 b2 h1 h2 n (Nat.le_refl _)
  -- the winner
  have s5 : ∀ (K : st_I) (r : Int32), xq J K → (∀ Z : st_I, xq J Z → F (r + sy_w (kB (J 29) (nI np) (nI nf) n n) (J 3) (J 2) nf np) Z L) → EI (d + 20) mX11_sayOfWinner [.ref 0] K L (fun r5 I5 L5 => F (r + r5) I5 L5) := by
    intro K r hKJ hh
    have HK := hKJ.kq'.told HJ
    have e3 : K 3 = J 3 := hKJ 3 (by decide)
    have e2 : K 2 = J 2 := hKJ 2 (by decide)
    refine sgX11_sayOfWinner_0 ?_
    refine pX_beatingAll (B := kB (J 29) (nI np) (nI nf) n n) HK (fun j hj => by rw [hKJ 32 (by decide)]; exact k32 j hj) (fun f hf => by rw [hKJ 36 (by decide), e3]; exact (k35 f hf).2.2.1) ?_
    rw [e3]
    have hz := hh K hKJ
    unfold sy_w at hz
    have fwv : ∀ (ok : Nat → Bool) (r f : Nat), fw ok r f = -2 ∨ ∃ g, g < f + r ∧ fw ok r f = nI g := by
      intro ok r
      induction r with
      | zero => intro f; exact Or.inl rfl
      | succ r ih =>
        intro f
        rw [fw]
        split
        · exact Or.inr ⟨f, by omega, rfl⟩
        · rcases ih (f + 1) with z | ⟨g, g1, g2⟩
          · exact Or.inl z
          · exact Or.inr ⟨g, by omega, g2⟩
    rcases fwv (wok (kB (J 29) (nI np) (nI nf) n n) (J 3) nf np) nf 0 with z | ⟨g, g1, g2⟩
    · rw [z, if_pos rfl] at hz
      rw [z, if_pos rfl]; exact hz
    · have hne : ¬ nI g = -2 := fun w => absurd (w ▸ nI_pos' (show g < 2 ^ 31 by omega)) (by decide)
      rw [g2, if_neg hne, nI_clamp (by omega)] at hz
      rw [g2, if_neg hne]
      refine x_isOld_i HK (by omega) ?_
      rw [e2]; exact hz
  -- PAIRS
  have s4 : ∀ (K : st_I) (r : Int32), xq J K → (∀ Z : st_I, xq J Z → EI (d + 20) mX11_sayOfWinner [.ref 0] Z L (fun r5 I5 L5 => F (r + ((if tgood (gK (kS (J 29) (nI np) (nI nf) n n) (kB (J 29) (nI np) (nI nf) n n) (J 3) (J 2) (8 * np)).1 then 8 else 0) + (if pgood (sfL (gS (kE (J 29) (nI np) (nI nf) n n) (kB (J 29) (nI np) (nI nf) n n) (J 3) (8 * np))) (gS (kE (J 29) (nI np) (nI nf) n n) (kB (J 29) (nI np) (nI nf) n n) (J 3) (8 * np)).1 then 16 else 0) + (if sy_5 (kB (J 29) (nI np) (nI nf) n n) (J 3) nf np then 32 else 0)) + r5) I5 L5)) → EI (d + 20) mX11_sayOfPairs [.ref 0] K L (fun r4 I4 L4 => EI (d + 20) mX11_sayOfWinner [.ref 0] I4 L4 (fun r5 I5 L5 => F (r + r4 + r5) I5 L5)) := by
    intro K r hKJ hh
    have HK := hKJ.kq'.told HJ
    refine sgX11_sayOfPairs_0 ?_
    refine pX_gatherKnowing (d := d + 16) (S := kS (J 29) (nI np) (nI nf) n n) (B := kB (J 29) (nI np) (nI nf) n n) HK (fun j hj => by rw [hKJ 32 (by decide)]; exact k32 j hj) (fun j hj => by rw [hKJ 34 (by decide)]; exact k34 j hj) hout (fun K1 hK1 hX1 => ?_)
    rw [hKJ 3 (by decide), hKJ 2 (by decide)] at hX1
    have v1 : v12 (gK (kS (J 29) (nI np) (nI nf) n n) (kB (J 29) (nI np) (nI nf) n n) (J 3) (J 2) (8 * np)).1 := ⟨gK_le _ _ _ _ _, gK_ok hs hv _⟩
    have x1 : xq J K1 := fun q hq => by rw [hK1 q (by omega) (by omega), hKJ q hq]
    refine pX_tways (d := d + 5) hX1.1 v1 ?_
    have l1 := tw_le (fun i => ((gK (kS (J 29) (nI np) (nI nf) n n) (kB (J 29) (nI np) (nI nf) n n) (J 3) (J 2) (8 * np)).1.2 i).toInt) (gK (kS (J 29) (nI np) (nI nf) n n) (kB (J 29) (nI np) (nI nf) n n) (J 3) (J 2) (8 * np)).1.1 0 0
    have p1 : 2 ^ (gK (kS (J 29) (nI np) (nI nf) n n) (kB (J 29) (nI np) (nI nf) n n) (J 3) (J 2) (8 * np)).1.1 ≤ 2 ^ 12 := Nat.pow_le_pow_right (by decide) v1.1
    have v1' := v1.1
    rw [hX1.1.1, shl_pow _ (by omega), nI_l (by omega)]
    refine x_rare (by omega) (by omega) ?_
    refine pX_steady (d := d + 17) (E := kE (J 29) (nI np) (nI nf) n n) (B := kB (J 29) (nI np) (nI nf) n n) (x1.kq'.told HJ) (fun j hj => by rw [x1 33 (by decide)]; exact k33 j hj) (fun j hj => by rw [x1 32 (by decide)]; exact k32 j hj) hE (fun K2 hK2 hX2 => ?_)
    rw [x1 3 (by decide)] at hX2
    have x2 : xq J K2 := fun q hq => by rw [hK2 q (by omega) (by omega) (by omega), x1 q hq]
    have h7 := gS_le (kE (J 29) (nI np) (nI nf) n n) (kB (J 29) (nI np) (nI nf) n n) (J 3) (8 * np)
    have hvS := gS_ok (T := J 3) hE (8 * np)
    refine pX_sways (d := d + 10) h7 hX2 hvS ?_
    rw [hX2.1]
    refine x_orders (by omega) ?_
    have l2 := wy_le (sfL_le (gS (kE (J 29) (nI np) (nI nf) n n) (kB (J 29) (nI np) (nI nf) n n) (J 3) (8 * np))) (gS (kE (J 29) (nI np) (nI nf) n n) (kB (J 29) (nI np) (nI nf) n n) (J 3) (8 * np)).1
    have p2 := fac_le (gS (kE (J 29) (nI np) (nI nf) n n) (kB (J 29) (nI np) (nI nf) n n) (J 3) (8 * np)).1 (by omega)
    rw [nI_l (by omega), nI_l (by omega)]
    refine x_rare (by omega) (by omega) ?_
    refine pX_near (d := d + 16) (S0 := fun f => sS (kB (J 29) (nI np) (nI nf) n n) (J 3) 0 f np) (S1 := fun f => sS (kB (J 29) (nI np) (nI nf) n n) (J 3) 1 f np) (M0 := fun f => sM (kB (J 29) (nI np) (nI nf) n n) (J 3) 0 f np) (M1 := fun f => sM (kB (J 29) (nI np) (nI nf) n n) (J 3) 1 f np) (x2.kq'.told HJ) (fun f hf => by rw [x2 35 (by decide), x2 36 (by decide)]; exact k35 f hf) (fun f => by have := sM_le (kB (J 29) (nI np) (nI nf) n n) (J 3) 0 f np; omega) (fun f => by have := sM_le (kB (J 29) (nI np) (nI nf) n n) (J 3) 1 f np; omega) (fun K3 hK3 hX3 => ?_)
    have h6 := gN_le (fun f => sM (kB (J 29) (nI np) (nI nf) n n) (J 3) 0 f np) (fun f => sM (kB (J 29) (nI np) (nI nf) n n) (J 3) 1 f np) nf
    have x3 : xq J K3 := fun q hq => by rw [hK3 q (by omega) (by omega) (by omega) (by omega), x2 q hq]
    refine pX_nways (d := d + 10) hX3 h6 (fun a b => sdv_tri _ _) (fun a b => sdv_tri _ _) (fun K4 hK4 => ?_)
    have x4 : xq J K4 := fun q hq => by rw [hK4 q (by omega), x3 q hq]
    rw [hK4 49 (by decide), hX3.1]
    refine x_orders (by omega) ?_
    have l3 := wy_le (nfL_le (nrN (kB (J 29) (nI np) (nI nf) n n) (J 3) nf np) (nrR (kB (J 29) (nI np) (nI nf) n n) (J 3) nf np) (nrX (kB (J 29) (nI np) (nI nf) n n) (J 3) nf np).1 (scZ (nrN (kB (J 29) (nI np) (nI nf) n n) (J 3) nf np) (nrR (kB (J 29) (nI np) (nI nf) n n) (J 3) nf np) (fun i => i) (nrX (kB (J 29) (nI np) (nI nf) n n) (J 3) nf np).1)) (nrX (kB (J 29) (nI np) (nI nf) n n) (J 3) nf np).1
    have p3 := fac_le (nrX (kB (J 29) (nI np) (nI nf) n n) (J 3) nf np).1 (Nat.lt_of_le_of_lt h6 (by decide))
    have hz := hh K4 x4
    unfold nrN nrR nrX at l3
    unfold nrX at p3
    unfold sy_5 pgood nrN nrR nrX at hz
    rw [nI_l (by omega), nI_l (by omega)]
    refine x_rare (by omega) (by omega) ?_
    rw [b01_if, b01_if, b01_if]
    exact hz
  -- KINDS
  have s3 : ∀ (K : st_I) (r : Int32), xq J K → (∀ Z : st_I, xq J Z → EI (d + 20) mX11_sayOfPairs [.ref 0] Z L (fun r4 I4 L4 => EI (d + 20) mX11_sayOfWinner [.ref 0] I4 L4 (fun r5 I5 L5 => F (r + ((if sy_1 (kB (J 29) (nI np) (nI nf) n n) (J 3) (J 2) nf np then 2 else 0) + (if tgood (gF (kB (J 29) (nI np) (nI nf) n n) (J 2) (J 3) nf np) then 4 else 0)) + r4 + r5) I5 L5))) → EI (d + 20) mX11_sayOfKinds [.ref 0] K L (fun r3 I3 L3 => EI (d + 20) mX11_sayOfPairs [.ref 0] I3 L3 (fun r4 I4 L4 => EI (d + 20) mX11_sayOfWinner [.ref 0] I4 L4 (fun r5 I5 L5 => F (r + r3 + r4 + r5) I5 L5))) := by
    intro K r hKJ hh
    have HK := hKJ.kq'.told HJ
    obtain ⟨S, M, eS, eM, hM, hS, hSS, hok, hL⟩ := kd_all (n := n) HF hn b1 b2
    have h35 : ∀ f, f < nf → K 35 f = nI (S f) ∧ K 36 f = nI (M f) := fun f hf => by
      rw [hKJ 35 (by decide), hKJ 36 (by decide)]
      exact ⟨by rw [(k35 f hf).1, hSS f], by rw [(k35 f hf).2.2.1, eM]⟩
    refine sgX11_sayOfKinds_0 ?_
    refine pX_kinds (d := d + 17) HK h35 hM hS (fun K1 hK1 hX1 => ?_)
    rw [hKJ 2 (by decide)] at hX1
    refine pX_kwaysWith (d := d + 9) (x := 0) hX1 hok hL (by decide) (fun K2 hK2 => ?_)
    have x2 : xq J K2 := fun q hq => by rw [hK2 q (by omega), hK1 q (by omega) (by omega) (by omega), hKJ q hq]
    have hX2 : xD K2 (gD S M (J 2) (cL M nf) nf) (cL M nf) := by
      obtain ⟨a, b, c, e, f, g⟩ := hX1
      exact ⟨by rw [hK2 43 (by decide)]; exact a, by rw [hK2 43 (by decide)]; exact b, by rw [hK2 43 (by decide)]; exact c, by rw [hK2 43 (by decide)]; exact e, fun i hi => by rw [hK2 44 (by decide)]; exact f i hi, fun i hi => by rw [hK2 45 (by decide)]; exact g i hi⟩
    refine pX_kall (d := d + 18) hX2 hok ?_
    have hb := bin8 hok.1 (olX (gD S M (J 2) (cL M nf) nf))
    have hkw := kw_le (wX (gD S M (J 2) (cL M nf) nf) (cL M nf) 0) (smX (gD S M (J 2) (cL M nf) nf) (cL M nf) 0) (gD S M (J 2) (cL M nf) nf).1 0 (olX (gD S M (J 2) (cL M nf) nf)) 0
    rw [nI_l (by omega), nI_l (by omega)]
    refine x_rare (by omega) (by omega) ?_
    refine pX_gatherPlayers (d := d + 15) (B := kB (J 29) (nI np) (nI nf) n n) (x2.kq'.told HJ) (fun j hj => by rw [x2 32 (by decide)]; exact k32 j hj) hv (fun K3 hK3 hX3 => ?_)
    rw [x2 3 (by decide), x2 2 (by decide)] at hX3
    have x3 : xq J K3 := fun q hq => by rw [hK3 q (by omega) (by omega), x2 q hq]
    have v2 := gF_12 (O := J 2) (T := J 3) hv b1 b2
    refine pX_tways (d := d + 5) hX3 v2 ?_
    have l1 := tw_le (fun i => ((gF (kB (J 29) (nI np) (nI nf) n n) (J 2) (J 3) nf np).2 i).toInt) (gF (kB (J 29) (nI np) (nI nf) n n) (J 2) (J 3) nf np).1 0 0
    have p1 : 2 ^ (gF (kB (J 29) (nI np) (nI nf) n n) (J 2) (J 3) nf np).1 ≤ 2 ^ 12 := Nat.pow_le_pow_right (by decide) v2.1
    have v2' := v2.1
    rw [hX3.1, shl_pow _ (by omega), nI_l (by omega)]
    refine x_rare (by omega) (by omega) ?_
    have hz := hh K3 x3
    unfold sy_1 kdS kdM at hz
    rw [← eS, ← eM] at hz
    rw [b01_if, b01_if]
    exact hz
  -- GUESSES
  have hm := cn_le (gk (J 29) (nI np) (nI nf) (J 2) n 0) n
  have hr : cn (gk (J 29) (nI np) (nI nf) (J 2) n 1) n ≤ cn (gk (J 29) (nI np) (nI nf) (J 2) n 0) n := gk_le
  have all : ∀ b : Bool, b = sy_0 (J 29) (J 2) nf np n → EI (d + 20) mX11_sayOfKinds [.ref 0] J L (fun r3 I3 L3 => EI (d + 20) mX11_sayOfPairs [.ref 0] I3 L3 (fun r4 I4 L4 => EI (d + 20) mX11_sayOfWinner [.ref 0] I4 L4 (fun r5 I5 L5 => F ((if b then 1 else 0) + r3 + r4 + r5) I5 L5))) := fun b hb =>
    s3 J _ xq.rf (fun Z1 z1 => s4 Z1 _ z1 (fun Z2 z2 => s5 Z2 _ z2 (fun Z3 z3 => by
      have := h Z3 z3
      unfold sayS sayV at this
      rw [← hb] at this
      exact this)))
  refine sgX11_sayOfGuesses_0 ?_
  rw [k39 0 (by decide), k39 1 (by decide)]
  by_cases z : cn (gk (J 29) (nI np) (nI nf) (J 2) n 0) n ≤ 60
  · rw [if_pos (show nI _ ≤ 60 from nI_le (b := 60) z (by decide)), shl_pow _ (by omega)]
    refine pX_heads (d := d + 18) z (by omega) ?_
    rw [sl_sn]
    have e1 := lw_up (n := cn (gk (J 29) (nI np) (nI nf) (J 2) n 0) n) (a := 1) (c := 1) (show cn (gk (J 29) (nI np) (nI nf) (J 2) n 1) n ≤ cn (gk (J 29) (nI np) (nI nf) (J 2) n 0) n + 1 by omega)
    rw [show 1 + 1 = 2 from rfl] at e1
    have p2 : 2 ^ cn (gk (J 29) (nI np) (nI nf) (J 2) n 0) n ≤ 2 ^ 60 := Nat.pow_le_pow_right (by decide) z
    have eu : sn (fun i => tl (cn (gk (J 29) (nI np) (nI nf) (J 2) n 0) n) 1 1 (cn (gk (J 29) (nI np) (nI nf) (J 2) n 1) n + i)) (cn (gk (J 29) (nI np) (nI nf) (J 2) n 0) n + 1 - cn (gk (J 29) (nI np) (nI nf) (J 2) n 1) n) = upN (cn (gk (J 29) (nI np) (nI nf) (J 2) n 0) n) 1 1 (cn (gk (J 29) (nI np) (nI nf) (J 2) n 1) n) := rfl
    rw [eu]
    refine x_rare (by omega) (by omega) ?_
    rw [b01_if]
    exact all _ (by unfold sy_0; rw [decide_eq_true z, Bool.true_and])
  · rw [if_neg (show ¬ nI _ ≤ 60 from nI_ge (a := 60) (by omega) (by omega))]
    have := all false (by unfold sy_0; rw [decide_eq_false z, Bool.false_and])
    exact this
