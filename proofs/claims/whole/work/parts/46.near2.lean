def nfL (N R : Nat → Nat → Int32) (m : Nat) (D : Int) (g : Nat → Nat) : Nat := if D ≤ scZ N R g m then 1 else 0
theorem scZ_upd {N R : Nat → Nat → Int32} {g : Nat → Nat} {at' i k : Nat} (h : k ≤ at') : scZ N R (updN g at' i) k = scZ N R g k := by
  unfold scZ
  refine siF_congr (fun b hb => siF_congr (fun a ha => ?_))
  unfold pPr updN
  rw [if_neg (show ¬ a = at' by omega), if_neg (show ¬ b = at' by omega)]
theorem pX_alike {d m at' : Nat} {N R : Nat → Nat → Int32} {g : Nat → Nat} {J : st_I} {L : st_L} {F : Int32 → st_I → st_L → Prop} (hX : xN J m N R) (h6 : m ≤ 6) (hN : ∀ a b, tri (N a b)) (hR : ∀ a b, tri (R a b)) (hat : at' < m) (hg : ∀ j, j ≤ at' → J 53 j = nI (g j) ∧ g j < m) (h : ∀ r : Int32, r.toInt = siF (fun a => (pPr N R g a at').toInt) at' → F r J L) : EI d mX3_alikeWithThoseAhead [.ref 49, .int (nI at')] J L F := by
  have key : ∀ (c k : Nat) (s : Int32), k + c = at' → s.toInt = siF (fun a => (pPr N R g a at').toInt) k → TI d mX3_alikeWithThoseAhead 4 [.ref 49, .int (nI at'), .int s, .int (nI k)] [] J L F := by
    intro c
    induction c with
    | zero =>
      intro k s hk hs
      obtain rfl : k = at' := by omega
      refine sgX3_alikeWithThoseAhead_4 ?_
      rw [if_pos (nI_le (Nat.le_refl _) (by omega))]; exact h s hs
    | succ c ih =>
      intro k s hk hs
      obtain ⟨g1, g2⟩ := hg k (by omega)
      obtain ⟨g3, g4⟩ := hg at' (Nat.le_refl _)
      have t := tri_int (tri_mul (hN k at') (hR (g k) (g at'))).1
      have bd := siF_bd (a := fun a => (pPr N R g a at').toInt) (c := 1) (by decide) (n := k) (fun a _ => (tri_int (tri_mul (hN a at') (hR (g a) (g at'))).1).2)
      refine sgX3_alikeWithThoseAhead_4 ?_
      rw [if_neg (nI_ge (by omega) (by omega)), nI_clamp (show k < 2 ^ 31 by omega), nI_clamp (show at' < 2 ^ 31 by omega), g1, g3, show nI k * 6 + nI at' = nI (6 * k + at') by rw [show (6 : Int32) = nI 6 from rfl, pk_mul, nI_add, Nat.mul_comm], show nI (g k) * 6 + nI (g at') = nI (6 * g k + g at') by rw [show (6 : Int32) = nI 6 from rfl, pk_mul, nI_add, Nat.mul_comm], nI_clamp (show 6 * k + at' < 2 ^ 31 by omega), nI_clamp (show 6 * g k + g at' < 2 ^ 31 by omega), (hX.2.2.2 k at' (by omega) hat).1, (hX.2.2.2 (g k) (g at') g2 g4).2, nI_1]
      refine ⟨vp_in_nI (by omega) (by decide), vp_in_nI (by omega) (by decide), vp_in_nI (by omega) (by decide), vp_in_nI (by omega) (by decide), ih (k + 1) _ (by omega) ?_⟩
      have e : (pPr N R g k at').toInt = (N k at' * R (g k) (g at')).toInt := rfl
      rw [siF, e, vz_add (by rw [hs]; omega) (by rw [hs]; omega), hs]
  exact sgX3_alikeWithThoseAhead_0 (key at' 0 0 (by omega) rfl)
theorem pX_nwaysFrom {d m : Nat} {N R : Nat → Nat → Int32} {D : Int} {L : st_L} (h6 : m ≤ 6) (hN : ∀ a b, tri (N a b)) (hR : ∀ a b, tri (R a b)) (hD : -36 ≤ D ∧ D ≤ 36) : ∀ (r x at' : Nat) (g : Nat → Nat) (lk : Int32) (J : st_I) {F : Int32 → st_I → st_L → Prop}, xN J m N R → at' + r = m → x < 128 → (∀ j, j < at' → J 53 j = nI (g j) ∧ g j < m) → lk.toInt = D - scZ N R g at' → (∀ K : st_I, (∀ q, q ≠ 53 → K q = J q) → (∀ j, j < at' → K 53 j = J 53 j) → F (nI (wyG (nfL N R m D) m r x g at')) K L) → EI (d + r + 1) mX3_waysFrom [.ref 49, .int (nI at'), .int (nI x), .int lk] J L F := by
  intro r
  induction r with
  | zero =>
    intro x at' g lk J F hX hat hx hg hlk hF
    obtain rfl : at' = m := by omega
    refine sgX3_waysFrom_0 ?_
    rw [hX.1, if_neg (nI_nlt (Nat.le_refl _) (by omega))]
    have := hF J (fun _ _ => rfl) (fun _ _ => rfl)
    rw [wyG, nfL] at this
    by_cases z : D ≤ scZ N R g at'
    · rw [if_pos z] at this
      rw [if_neg (by rw [vz_lt, vz_0]; omega)]; exact this
    · rw [if_neg z] at this
      rw [if_pos (by rw [vz_lt, vz_0]; omega)]; exact this
  | succ r ih =>
    intro x at' g lk J F hX hat hx hg hlk hF
    have bsc := scZ_bd hN hR g (k := at') (by omega)
    refine sgX3_waysFrom_0 ?_
    rw [hX.1, if_pos (nI_lt (by omega) (by omega))]
    have key : ∀ (c i : Nat) (K : st_I), i + c = m → (∀ q, q ≠ 53 → K q = J q) → (∀ j, j < at' → K 53 j = J 53 j) → TI (d + (r + 1) + 1) mX3_waysFrom 24 [.ref 49, .int (nI at'), .int (nI x), .int lk, .int (nI (sn (fun i => if x.testBit i then 0 else wyG (nfL N R m D) m r (x ||| 2 ^ i) (updN g at' i) (at' + 1)) i)), .int (nI i)] [] K L F := by
      intro c
      induction c with
      | zero =>
        intro i K hi hK hK2
        obtain rfl : i = m := by omega
        have := hF K hK hK2
        rw [wyG] at this
        refine sgX3_waysFrom_24 ?_
        rw [hK 49 (by decide), hX.1, if_pos (nI_le (Nat.le_refl _) (by omega))]; exact this
      | succ c ihc =>
        intro i K hi hK hK2
        obtain ⟨t1, t2, t3⟩ := bt7 x hx i (by omega)
        have st := ihc (i + 1)
        rw [sn] at st
        refine sgX3_waysFrom_24 ?_
        rw [hK 49 (by decide), hX.1, if_neg (nI_ge (by omega) (by omega)), t2, nI_1, nI_1]
        cases hb : x.testBit i
        · rw [if_pos (t1.mpr hb), nI_clamp (by omega)]
          rw [hb, if_neg (by decide)] at st
          have hX2 : ∀ Z : st_I, (∀ q, q ≠ 53 → Z q = J q) → xN Z m N R := fun Z hZ => ⟨by rw [hZ 49 (by decide)]; exact hX.1, by rw [hZ 49 (by decide)]; exact hX.2.1, by rw [hZ 49 (by decide)]; exact hX.2.2.1, fun a b h1 h2 => by rw [hZ 51 (by decide), hZ 52 (by decide)]; exact hX.2.2.2 a b h1 h2⟩
          have hU : ∀ q, q ≠ 53 → (u_I K 53 at' (nI i)) q = J q := fun q hq => by rw [u_I_ne _ _ hq]; exact hK q hq
          have hgU : ∀ j, j ≤ at' → (u_I K 53 at' (nI i)) 53 j = nI (updN g at' i j) ∧ updN g at' i j < m := by
            intro j hj
            unfold updN
            by_cases e : j = at'
            · rw [if_pos e]; subst e; exact ⟨by simp [u_I], by omega⟩
            · rw [if_neg e]
              have := hg j (by omega)
              refine ⟨?_, this.2⟩
              simp only [u_I, if_true, if_neg e]
              rw [hK2 j (by omega)]; exact this.1
          refine ⟨vp_in_nI (by omega) (by decide), pX_alike (N := N) (R := R) (g := updN g at' i) (hX2 _ hU) h6 hN hR (by omega) hgU (fun s hs => ?_)⟩
          have e3 : scZ N R (updN g at' i) (at' + 1) = scZ N R g at' + s.toInt := by
            rw [hs, ← scZ_upd (g := g) (i := i) (Nat.le_refl at')]
            rfl
          have bs := siF_bd (a := fun a => (pPr N R (updN g at' i) a at').toInt) (c := 1) (by decide) (n := at') (fun a _ => (tri_int (tri_mul (hN a at') (hR (updN g at' i a) (updN g at' i at'))).1).2)
          refine ih (x ||| 2 ^ i) (at' + 1) (updN g at' i) (lk - s) (u_I K 53 at' (nI i)) (hX2 _ hU) (by omega) t3 (fun j hj => hgU j (by omega)) ?_ (fun Z hZ hZ2 => ?_)
          · rw [vz_sub (by omega) (by omega), hlk, e3]; omega
          · rw [nI_add]
            refine st Z (by omega) (fun q hq => by rw [hZ q hq]; exact hU q hq) (fun j hj => ?_)
            rw [hZ2 j (by omega)]
            simp only [u_I, if_true, if_neg (show ¬ j = at' by omega)]
            exact hK2 j hj
        · rw [if_neg (fun w => by rw [t1.mp w] at hb; exact absurd hb (by decide))]
          rw [hb, if_pos rfl, Nat.add_zero] at st
          exact st K (by omega) hK hK2
    exact key m 0 J (by omega) (fun _ _ => rfl) (fun _ _ => rfl)
theorem pX_nways {d m : Nat} {N R : Nat → Nat → Int32} {J : st_I} {L : st_L} {F : Int32 → st_I → st_L → Prop} (hX : xN J m N R) (h6 : m ≤ 6) (hN : ∀ a b, tri (N a b)) (hR : ∀ a b, tri (R a b)) (h : ∀ K : st_I, (∀ q, q ≠ 53 → K q = J q) → F (nI (wyG (nfL N R m (scZ N R (fun i => i) m)) m m 0 (fun _ => 0) 0)) K L) : EI (d + 9) mX3_ways [.ref 49] J L F := by
  have hD := scZ_bd hN hR (fun i => i) h6
  have p1 := ptN_le N R 1 (fun i => i) h6
  have p2 := ptN_le N R (-1) (fun i => i) h6
  have hp := pt_sc hN hR (fun i => i) m
  refine sgX3_ways_0 ?_
  rw [hX.2.1, hX.2.2.1]
  have := pX_nwaysFrom (d := d + 7 - m) (L := L) h6 hN hR hD m 0 0 (fun _ => 0) (nI (ptN N R 1 (fun i => i) m) - nI (ptN N R (-1) (fun i => i) m)) J (F := F) hX (by omega) (by decide) (fun j hj => absurd hj (Nat.not_lt_zero _)) (by rw [pk_sub_toInt (by omega) (by omega), hp, show scZ N R (fun _ => 0) 0 = 0 from rfl]; omega) (fun K hK _ => h K hK)
  rw [show d + 7 - m + m + 1 = d + 8 by omega] at this
  exact this
/-! the reference -/
def mN (J : st_I) (X : n6_X) (S0 S1 : Nat → Int32) (M0 M1 : Nat → Nat) : Prop := J 58 74 = nI X.1 ∧ ∀ i, i < X.1 → J 110 i = S0 (X.2 i) ∧ J 111 i = nI (M0 (X.2 i)) ∧ J 112 i = S1 (X.2 i) ∧ J 113 i = nI (M1 (X.2 i))
theorem pM_parted {d : Nat} {X : n6_X} {S0 S1 : Nat → Int32} {M0 M1 : Nat → Nat} {how : Int32} {g : Nat → Nat} {J : st_I} {L : st_L} {F : Int32 → st_I → st_L → Prop} (hX : mN J X S0 S1 M0 M1) (h6 : X.1 ≤ 6) (hg : ∀ j, j < X.1 → J 105 j = nI (g j) ∧ g j < X.1) (h : F (nI (ptN (svX S0 M0 X) (svX S1 M1 X) how g X.1)) J L) : EI (d + 1) mX12_parted [.ref 58, .int how] J L F := by
  generalize hN : svX S0 M0 X = N at h
  generalize hR : svX S1 M1 X = R at h
  have outer : ∀ (r a : Nat), a + r = X.1 → TI (d + 1) mX12_parted 4 [.ref 58, .int how, .int (nI (sn (fun a => sn (fun b => if a < b ∧ pPr N R g a b = how then 1 else 0) X.1) a)), .int (nI a), .null, .null, .null, .null] [] J L F := by
    intro r
    induction r with
    | zero =>
      intro a ha
      obtain rfl : a = X.1 := by omega
      refine sgX12_parted_4 ?_
      rw [hX.1, if_pos (nI_le (Nat.le_refl _) (by omega))]; exact h
    | succ r ih =>
      intro a ha
      refine sgX12_parted_4 ?_
      rw [hX.1, if_neg (nI_ge (by omega) (by omega)), nI_1]
      have inner : ∀ (c b : Nat), b + c = X.1 → a < b → TI (d + 1) mX12_parted 17 [.ref 58, .int how, .int (nI (sn (fun a => sn (fun b => if a < b ∧ pPr N R g a b = how then 1 else 0) X.1) a + sn (fun b => if a < b ∧ pPr N R g a b = how then 1 else 0) b)), .int (nI a), .int (nI b), .null, .null, .null] [] J L F := by
        intro c
        induction c with
        | zero =>
          intro b hb hab
          obtain rfl : b = X.1 := by omega
          refine sgX12_parted_17 ?_
          rw [hX.1, if_pos (nI_le (Nat.le_refl _) (by omega)), nI_1]
          exact ih (a + 1) (by omega)
        | succ c ihc =>
          intro b hb hab
          obtain ⟨a1, a2, a3, a4⟩ := hX.2 a (by omega)
          obtain ⟨b1, b2, b3, b4⟩ := hX.2 b (by omega)
          obtain ⟨ga, gal⟩ := hg a (by omega)
          obtain ⟨gb, gbl⟩ := hg b (by omega)
          obtain ⟨-, -, x3, x4⟩ := hX.2 (g a) gal
          obtain ⟨-, -, y3, y4⟩ := hX.2 (g b) gbl
          have st := ihc (b + 1) (by omega) (by omega)
          rw [sn, ← Nat.add_assoc] at st
          have va7 : vp_in (nI a) 7 := vp_in_nI (by omega) (by decide)
          have vb7 : vp_in (nI b) 7 := vp_in_nI (by omega) (by decide)
          have va6 : vp_in (nI a) 6 := vp_in_nI (by omega) (by decide)
          have vb6 : vp_in (nI b) 6 := vp_in_nI (by omega) (by decide)
          have vga : vp_in (nI (g a)) 6 := vp_in_nI (by omega) (by decide)
          have vgb : vp_in (nI (g b)) 6 := vp_in_nI (by omega) (by decide)
          refine sgX12_parted_17 ?_
          rw [hX.1, if_neg (nI_ge (by omega) (by omega)), nI_clamp (show a < 2 ^ 31 by omega), nI_clamp (show b < 2 ^ 31 by omega), a1, a2, b1, b2, ga, gb, nI_clamp (show g a < 2 ^ 31 by omega), nI_clamp (show g b < 2 ^ 31 by omega), nI_1, nI_1]
          refine ⟨va7, vb7, va6, vb6, vb6, va6, pM_sideOf ?_⟩
          rw [x3, x4, y3, y4]
          refine ⟨vga, vgb, vgb, vga, pM_sideOf ?_⟩
          have e : sdv (S0 (X.2 a) * nI (M0 (X.2 b))) (S0 (X.2 b) * nI (M0 (X.2 a))) * sdv (S1 (X.2 (g a)) * nI (M1 (X.2 (g b)))) (S1 (X.2 (g b)) * nI (M1 (X.2 (g a)))) = pPr N R g a b := by rw [← hN, ← hR]; rfl
          rw [e]
          by_cases z : pPr N R g a b = how
          · rw [if_pos ⟨hab, z⟩] at st
            rw [if_pos z]; exact st
          · rw [if_neg (fun w => z w.2), Nat.add_zero] at st
            rw [if_neg z]; exact st
      have := inner (X.1 - (a + 1)) (a + 1) (by omega) (by omega)
      rw [sn_z (a := fun b => if a < b ∧ pPr N R g a b = how then 1 else 0) (n := a + 1) (fun i hi => if_neg (fun w => by omega)), Nat.add_zero] at this
      exact this
  exact sgX12_parted_0 (outer X.1 0 (by omega))
theorem pM_nears {d lv nf np nb nl npl nF n : Nat} {I : st_I} {L : st_L} {F : st_I → st_L → Prop} (H : iv_told I lv nf np nb nl npl) (HF : iv_facts I nF) (hn : n ≤ nF) (S0 S1 : Nat → Int32) (M0 M1 : Nat → Nat) (eS0 : S0 = fun f => sS (kB (I 29) (nI np) (nI nf) n n) (I 3) 0 f np) (eS1 : S1 = fun f => sS (kB (I 29) (nI np) (nI nf) n n) (I 3) 1 f np) (eM0 : M0 = fun f => sM (kB (I 29) (nI np) (nI nf) n n) (I 3) 0 f np) (eM1 : M1 = fun f => sM (kB (I 29) (nI np) (nI nf) n n) (I 3) 1 f np) (h : ∀ J : st_I, m58 53 I J → mN J (gN M0 M1 nf) S0 S1 M0 M1 → (∀ j, j < (gN M0 M1 nf).1 → J 105 j = nI j) → F J L) : EV (d + 4) mX12_nears [.ref 58, .int (nI n)] I L F := by
  obtain ⟨hlv, b1, b2, b3, b4, b5, h18, c0, c1, c2, c3, c4, m0, m1, -⟩ := id H.1
  have v2 : vp_in (nI lv) 2 := vp_in_nI (by omega) (by decide)
  have h6 := gN_le M0 M1 nf
  refine sgX12_nears_0 (pM_gathers H HF hn (fun K hK h1 _ => ?_))
  generalize kB (I 29) (nI np) (nI nf) n n = B at h1 eS0 eS1 eM0 eM1
  have hM0 : ∀ f, M0 f ≤ 10 := fun f => by rw [eM0]; have := sM_le B (I 3) 0 f np; dsimp only; omega
  have hM1 : ∀ f, M1 f ≤ 10 := fun f => by rw [eM1]; have := sM_le B (I 3) 1 f np; dsimp only; omega
  have man : ∀ (J : st_I) {f far : Nat} {G : Int32 → st_I → st_L → Prop} {dd : Nat}, m58 53 I J → (∀ j, j < 80 → J 101 j = B j) → f < nf → G (nI (sM B (I 3) (nI far) f np)) J L → EI (dd + 1) mX12_manyOf [.ref 58, .int (nI f), .int (nI far)] J L G := fun J {f far G dd} hJ hB hf hG => pM_manyOf _ ((hJ.kq' (by decide)).told H) hB (by omega) (by rw [hJ.1 3 (by decide) (by decide)]; exact hG)
  have sum : ∀ (J : st_I) {f far : Nat} {G : Int32 → st_I → st_L → Prop} {dd : Nat}, m58 53 I J → (∀ j, j < 80 → J 101 j = B j) → f < nf → G (sS B (I 3) (nI far) f np) J L → EI (dd + 1) mX12_sumOf [.ref 58, .int (nI f), .int (nI far)] J L G := fun J {f far G dd} hJ hB hf hG => pM_sumOf _ ((hJ.kq' (by decide)).told H) hB (by omega) (by rw [hJ.1 3 (by decide) (by decide)]; exact hG)
  have giv : ∀ (r k : Nat) (J : st_I), k + r = (gN M0 M1 nf).1 → m58 53 I J → mN J (gN M0 M1 nf) S0 S1 M0 M1 → (∀ j, j < k → J 105 j = nI j) → TV (d + 4) mX12_nears 133 [.ref 58, .null, .int (nI k)] [] J L F := by
    intro r
    induction r with
    | zero =>
      intro k J hk hJ hX hj
      refine sgX12_nears_133 ?_
      rw [hX.1, if_pos (nI_le (by omega) (by omega))]
      exact h J hJ hX (fun j hj' => hj j (by omega))
    | succ r ih =>
      intro k J hk hJ hX hj
      refine sgX12_nears_133 ?_
      rw [hX.1, if_neg (nI_ge (by omega) (by omega)), nI_clamp (by omega), nI_1]
      refine ⟨vp_in_nI (by omega) (by decide), ih (k + 1) _ (by omega) ⟨fun q q1 q2 => by rw [u_I_ne _ _ (by omega)]; exact hJ.1 q q1 q2, fun j hj' => by rw [u_I_ne _ _ (by decide)]; exact hJ.2 j hj'⟩ ⟨by rw [u_I_ne _ _ (by decide)]; exact hX.1, fun i hi => by rw [u_I_ne _ _ (by decide), u_I_ne _ _ (by decide), u_I_ne _ _ (by decide), u_I_ne _ _ (by decide)]; exact hX.2 i hi⟩ (fun j hj' => ?_)⟩
      by_cases e : j = k
      · subst e; simp [u_I]
      · simp only [u_I, if_true, if_neg e]; exact hj j (by omega)
  have key : ∀ (r f : Nat) (J : st_I), f + r = nf → m58 53 I J → (∀ j, j < 80 → J 101 j = B j) → mN J (gN M0 M1 f) S0 S1 M0 M1 → TV (d + 4) mX12_nears 12 [.ref 58, .null, .int (nI f)] [] J L F := by
    intro r
    induction r with
    | zero =>
      intro f J hf hJ hB hX
      obtain rfl : f = nf := by omega
      refine sgX12_nears_12 ?_
      rw [hJ.2 18 (by decide), h18, nI_clamp (by omega), hJ.1 69 (by decide) (by decide), m0, if_pos (nI_le (Nat.le_refl _) (by omega))]
      exact ⟨v2, giv (gN M0 M1 f).1 0 J (by omega) hJ hX (fun j hj => absurd hj (Nat.not_lt_zero _))⟩
    | succ r ih =>
      intro f J hf hJ hB hX
      have hle := gN_le M0 M1 f
      have st := ih (f + 1)
      rw [gN] at st
      have a0 := hM0 f
      have a1 := hM1 f
      refine sgX12_nears_12 ?_
      rw [hJ.2 18 (by decide), h18, nI_clamp (by omega), hJ.1 69 (by decide) (by decide), m0, if_neg (nI_ge (by omega) (by omega)), hX.1, nI_1]
      refine ⟨v2, ?_⟩
      by_cases h6' : 6 ≤ (gN M0 M1 f).1
      · rw [if_pos (show (6 : Int32) ≤ nI _ from nI_le (a := 6) h6' (by omega))]
        have e := gN_full h6' (r + 1)
        rw [hf] at e
        exact giv (gN M0 M1 nf).1 0 J (by omega) hJ (by rw [e]; exact hX) (fun j hj => absurd hj (Nat.not_lt_zero _))
      · rw [if_neg (show ¬ (6 : Int32) ≤ nI _ from nI_ge (b := 6) (by omega) (by decide))]
        have em0 : sM B (I 3) (nI 0) f np = M0 f := by rw [eM0]; rfl
        have em1 : sM B (I 3) (nI 1) f np = M1 f := by rw [eM1]; rfl
        have es0 : sS B (I 3) (nI 0) f np = S0 f := by rw [eS0]; rfl
        have es1 : sS B (I 3) (nI 1) f np = S1 f := by rw [eS1]; rfl
        refine man J (far := 0) hJ hB (by omega) ?_
        rw [em0]
        by_cases z : M0 f = 0
        · rw [z, if_pos (show nI 0 = 0 from rfl)]
          rw [if_neg (fun w => w.2.1 z)] at st
          exact st J (by omega) hJ hB hX
        · rw [if_neg (nI_ne0 (by omega) (by omega))]
          refine man J (far := 1) hJ hB (by omega) ?_
          rw [em1]
          by_cases y : M1 f = 0
          · rw [y, if_pos (show nI 0 = 0 from rfl)]
            rw [if_neg (fun w => w.2.2 y)] at st
            exact st J (by omega) hJ hB hX
          · rw [if_neg (nI_ne0 (by omega) (by omega))]
            rw [if_pos ⟨by omega, z, y⟩] at st
            have v6 : vp_in (nI (gN M0 M1 f).1) 6 := vp_in_nI (by omega) (by decide)
            refine sum J (far := 0) hJ hB (by omega) ?_
            rw [es0, hX.1, nI_clamp (by omega)]
            have up : ∀ (K : st_I) (q : Nat) (z : Int32), 110 ≤ q → m58 53 I K → (∀ j, j < 80 → K 101 j = B j) → K 58 74 = nI (gN M0 M1 f).1 → m58 53 I (u_I K q (gN M0 M1 f).1 z) ∧ (∀ j, j < 80 → (u_I K q (gN M0 M1 f).1 z) 101 j = B j) ∧ (u_I K q (gN M0 M1 f).1 z) 58 74 = nI (gN M0 M1 f).1 := fun K q z hq k1 k2 k3 => ⟨⟨fun q' q1 q2 => by rw [u_I_ne _ _ (by omega)]; exact k1.1 q' q1 q2, fun k hk => by rw [u_I_ne _ _ (by omega)]; exact k1.2 k hk⟩, fun j hj => by rw [u_I_ne _ _ (by omega)]; exact k2 j hj, by rw [u_I_ne _ _ (by omega)]; exact k3⟩
            obtain ⟨p1, p2, p3⟩ := up J 110 (S0 f) (by decide) hJ hB hX.1
            refine ⟨v6, man _ (far := 0) p1 p2 (by omega) ?_⟩
            rw [em0, p3, nI_clamp (by omega)]
            obtain ⟨r1, r2, r3⟩ := up _ 111 (nI (M0 f)) (by decide) p1 p2 p3
            refine ⟨v6, sum _ (far := 1) r1 r2 (by omega) ?_⟩
            rw [es1, r3, nI_clamp (by omega)]
            obtain ⟨s1, s2, s3⟩ := up _ 112 (S1 f) (by decide) r1 r2 r3
            refine ⟨v6, man _ (far := 1) s1 s2 (by omega) ?_⟩
            rw [em1, s3]
            obtain ⟨t1, t2, t3⟩ := up _ 113 (nI (M1 f)) (by decide) s1 s2 s3
            rw [nI_1]
            refine ⟨v6, st _ (by omega) ⟨fun q q1 q2 => by rw [u_I_ne _ _ q1]; exact t1.1 q q1 q2, fun k hk => ?_⟩ (fun j hj => by rw [u_I_ne _ _ (by decide)]; exact t2 j hj) ⟨by simp [u_I], fun i hi => ?_⟩⟩
            · simp only [u_I, if_true, if_neg (show ¬ k = 74 by omega)]; exact t1.2 k hk
            · dsimp only at hi ⊢
              unfold updN
              by_cases e : i = (gN M0 M1 f).1
              · rw [if_pos e]; subst e; simp [u_I]
              · rw [if_neg e]
                have := hX.2 i (by omega)
                simp only [u_I, if_true, if_neg e, show (110 : Nat) = 58 ↔ False by decide, show (110 : Nat) = 113 ↔ False by decide, show (110 : Nat) = 112 ↔ False by decide, show (110 : Nat) = 111 ↔ False by decide, show (111 : Nat) = 58 ↔ False by decide, show (111 : Nat) = 113 ↔ False by decide, show (111 : Nat) = 112 ↔ False by decide, show (111 : Nat) = 110 ↔ False by decide, show (112 : Nat) = 58 ↔ False by decide, show (112 : Nat) = 113 ↔ False by decide, show (112 : Nat) = 111 ↔ False by decide, show (112 : Nat) = 110 ↔ False by decide, show (113 : Nat) = 58 ↔ False by decide, show (113 : Nat) = 112 ↔ False by decide, show (113 : Nat) = 111 ↔ False by decide, show (113 : Nat) = 110 ↔ False by decide, if_false]
                exact this
  exact key nf 0 _ (by omega) ⟨fun q q1 q2 => by rw [u_I_ne _ _ q1, hK q (by omega) (by omega)], fun k hk => by simp only [u_I, if_true, if_neg (show ¬ k = 74 by omega)]; rw [hK 58 (by decide) (by decide)]⟩ (fun j hj => by rw [u_I_ne _ _ (by decide)]; exact h1 j hj) ⟨by simp [u_I, gN]; rfl, fun i hi => absurd hi (Nat.not_lt_zero _)⟩
theorem pM_nearCount {d lv nf np nb nl npl nF n : Nat} {I : st_I} {L : st_L} {F : Int32 → st_I → st_L → Prop} (H : iv_told I lv nf np nb nl npl) (HF : iv_facts I nF) (hn : n ≤ nF) (S0 S1 : Nat → Int32) (M0 M1 : Nat → Nat) (eS0 : S0 = fun f => sS (kB (I 29) (nI np) (nI nf) n n) (I 3) 0 f np) (eS1 : S1 = fun f => sS (kB (I 29) (nI np) (nI nf) n n) (I 3) 1 f np) (eM0 : M0 = fun f => sM (kB (I 29) (nI np) (nI nf) n n) (I 3) 0 f np) (eM1 : M1 = fun f => sM (kB (I 29) (nI np) (nI nf) n n) (I 3) 1 f np) (h : ∀ J : st_I, m58 53 I J → J 58 74 = nI (gN M0 M1 nf).1 → F (nI (wyG (nfL (svX S0 M0 (gN M0 M1 nf)) (svX S1 M1 (gN M0 M1 nf)) (gN M0 M1 nf).1 (scZ (svX S0 M0 (gN M0 M1 nf)) (svX S1 M1 (gN M0 M1 nf)) (fun i => i) (gN M0 M1 nf).1)) (gN M0 M1 nf).1 (gN M0 M1 nf).1 0 (fun _ => 0) 0)) J L) : EI (d + 5) mX12_nearCount [.ref 58, .int (nI n)] I L F := by
  have h6 := gN_le M0 M1 nf
  refine sgX12_nearCount_0 (pM_nears H HF hn S0 S1 M0 M1 eS0 eS1 eM0 eM1 (fun J hJ hX hid => ?_))
  have hN : ∀ a b, tri (svX S0 M0 (gN M0 M1 nf) a b) := fun a b => sdv_tri _ _
  have hR : ∀ a b, tri (svX S1 M1 (gN M0 M1 nf) a b) := fun a b => sdv_tri _ _
  refine pM_parted (g := fun i => i) hX h6 (fun j hj => ⟨hid j hj, hj⟩) (pM_parted (g := fun i => i) hX h6 (fun j hj => ⟨hid j hj, hj⟩) ?_)
  generalize gN M0 M1 nf = X at *
  generalize hNN : svX S0 M0 X = N at *
  generalize hRR : svX S1 M1 X = R at *
  have p1 := ptN_le N R 1 (fun i => i) h6
  have p2 := ptN_le N R (-1) (fun i => i) h6
  have hp := pt_sc hN hR (fun i => i) X.1
  generalize hD : scZ N R (fun i => i) X.1 = D at *
  have hfac := fac_le X.1 (by omega)
  have key : ∀ (r w : Nat) (J : st_I), w + r = facN X.1 → m58 53 I J → mN J X S0 S1 M0 M1 → TI (d + 5) mX12_nearCount 22 [.ref 58, .null, .int (nI (ptN N R 1 (fun i => i) X.1) - nI (ptN N R (-1) (fun i => i) X.1)), .int (nI (sn (fun w => nfL N R X.1 D (gvN X.1 X.1 0 (fun _ => 0) 0 w)) w)), .int (nI w)] [] J L F := by
    intro r
    induction r with
    | zero =>
      intro w J hw hJ hX
      obtain rfl : w = facN X.1 := by omega
      refine sgX12_nearCount_22 ?_
      rw [hX.1]
      refine m_fact (by omega) ?_
      rw [if_pos (nI_le (Nat.le_refl _) (by omega)), gv_all]
      exact h J hJ hX.1
    | succ r ih =>
      intro w J hw hJ hX
      refine sgX12_nearCount_22 ?_
      rw [hX.1]
      refine m_fact (by omega) ?_
      rw [if_neg (nI_ge (by omega) (by omega)), hX.1]
      refine m_gives (by omega) (by omega) (fun K hK hg1 hg2 => ?_)
      have hXK : mN K X S0 S1 M0 M1 := ⟨by rw [hK 58 (by decide) (by decide)]; exact hX.1, fun i hi => by rw [hK 110 (by decide) (by decide), hK 111 (by decide) (by decide), hK 112 (by decide) (by decide), hK 113 (by decide) (by decide)]; exact hX.2 i hi⟩
      have hK2 : m58 53 I K := hJ.tr ⟨fun q q1 q2 => hK q (by omega) (by omega), fun k hk => by rw [hK 58 (by decide) (by decide)]⟩
      generalize hg : gvN X.1 X.1 0 (fun _ => 0) 0 w = g at hg1 hg2
      have st := ih (w + 1) K (by omega) hK2 hXK
      rw [sn, hg, nfL] at st
      have q1 := ptN_le N R 1 g h6
      have q2 := ptN_le N R (-1) g h6
      have hq := pt_sc hN hR g X.1
      refine pM_parted (g := g) hXK h6 (fun j hj => ⟨hg1 j hj, hg2 j hj⟩) (pM_parted (g := g) hXK h6 (fun j hj => ⟨hg1 j hj, hg2 j hj⟩) ?_)
      rw [hNN, hRR, nI_1, nI_1]
      by_cases z : D ≤ scZ N R g X.1
      · rw [if_pos z] at st
        rw [if_neg (by rw [vz_lt, pk_sub_toInt (by omega) (by omega), pk_sub_toInt (by omega) (by omega)]; omega)]; exact st
      · rw [if_neg z, Nat.add_zero] at st
        rw [if_pos (by rw [vz_lt, pk_sub_toInt (by omega) (by omega), pk_sub_toInt (by omega) (by omega)]; omega)]; exact st
  exact key (facN X.1) 0 J (by omega) hJ hX
theorem kq_49 {J K : st_I} (hK : ∀ q, q ≠ 49 → q ≠ 50 → q ≠ 51 → q ≠ 52 → q ≠ 53 → K q = J q) : kq J K := ⟨fun q a _ _ => hK q (by omega) (by omega) (by omega) (by omega) (by omega), fun q a b _ _ => hK q (by omega) (by omega) (by omega) (by omega) (by omega), fun k _ => by rw [hK 58 (by decide) (by decide) (by decide) (by decide) (by decide)]⟩
theorem op_near {lv nf np nb nl npl nF : Nat} {I : st_I} {L : st_L} {P : st_I → st_L → Prop} (H : iv_told I lv nf np nb nl npl) (HF : iv_facts I nF) (hk : iv_kn I nf np nF) (hP : ∀ J, kq I J → iv_kn J nf np nF → J 57 = I 57 → P J L) (c e : Int32) :
    EI 60 mX11_near [.ref 0, .int c, .int e] I L (fun r I1 L1 => EI 60 mX12_near [.ref 58, .int c, .int e] I1 L1 (fun r' I2 L2 => r' = r ∧ P I2 L2)) := by
  have no : P I L := hP I kq.rf hk rfl
  have h80 := HF.1
  refine sgX11_near_0 ?_
  rcases ot_ix e 3 (by decide) with ho | ⟨k, hk2, rfl⟩
  · have bad : EI 60 mX12_near [.ref 58, .int c, .int e] I L (fun r' I2 L2 => r' = -1 ∧ P I2 L2) := by
      refine sgX12_near_0 ?_
      rcases ot_ix c (nF + 1) (by omega) with ho2 | ⟨n, hn, rfl⟩
      · refine m_isKnown_o HF ho2 ?_
        rw [if_pos rfl]; exact ⟨rfl, no⟩
      · refine m_isKnown_i HF (by omega) ?_
        rw [if_neg (by decide)]
        refine in_out (n := 3) (by decide) ho ?_
        rw [if_pos rfl]; exact ⟨rfl, no⟩
    by_cases z : e < 0
    · rw [if_pos z]; exact bad
    · obtain ⟨i, hi, rfl⟩ := nI_of z
      have : 3 ≤ i := (nI_leI (by omega) hi).mp (ho.resolve_left z)
      rw [if_neg z, if_pos (show (2 : Int32) < nI i from nI_lt (a := 2) (by omega) hi)]; exact bad
  rw [if_neg (nI_pos (by omega)), if_neg (show ¬ (2 : Int32) < nI k from nI_nlt (a := 2) (b := k) (by omega) (by decide))]
  rcases ot_ix c (nF + 1) (by omega) with ho | ⟨n, hn, rfl⟩
  · refine x_knows_o HF ho ?_
    rw [if_pos rfl]
    refine sgX12_near_0 (m_isKnown_o HF ho ?_)
    rw [if_pos rfl]; exact ⟨rfl, no⟩
  refine x_knows_i H HF hk (by omega) (fun J hJ => ?_)
  have HJ := hJ.kq'.told H
  have HFJ := hJ.kq'.facts HF
  obtain ⟨hlv, b1, b2, -⟩ := id HJ.1
  have hm := hJ.2.2.2.2.2.2.1
  rw [if_neg (by decide)]
  refine pX_near (S0 := fun f => sS (kB (J 29) (nI np) (nI nf) n n) (J 3) 0 f np) (S1 := fun f => sS (kB (J 29) (nI np) (nI nf) n n) (J 3) 1 f np) (M0 := fun f => sM (kB (J 29) (nI np) (nI nf) n n) (J 3) 0 f np) (M1 := fun f => sM (kB (J 29) (nI np) (nI nf) n n) (J 3) 1 f np) HJ hm (fun f => by have := sM_le (kB (J 29) (nI np) (nI nf) n n) (J 3) 0 f np; omega) (fun f => by have := sM_le (kB (J 29) (nI np) (nI nf) n n) (J 3) 1 f np; omega) (fun K hK' hX => ?_)
  have hK : ∀ q, q ≠ 49 → q ≠ 50 → q ≠ 51 → q ≠ 52 → q ≠ 53 → K q = J q := fun q a b c e _ => hK' q a b c e
  have kK' : kq J K := kq_49 hK
  have HK := kK'.told HJ
  have HFK := kK'.facts HFJ
  have e29 : K 29 = J 29 := hK' 29 (by decide) (by decide) (by decide) (by decide)
  have e3 : K 3 = J 3 := hK' 3 (by decide) (by decide) (by decide) (by decide)
  have knK : iv_kn K nf np nF := iv_kn_same (fun q hq => hK' q (by omega) (by omega) (by omega) (by omega)) (hJ.kn (by omega))
  have h6 := gN_le (fun f => sM (kB (J 29) (nI np) (nI nf) n n) (J 3) 0 f np) (fun f => sM (kB (J 29) (nI np) (nI nf) n n) (J 3) 1 f np) nf
  have go : ∀ r : Int32, r = (if nI k = 0 then K 49 0 else if nI k = 1 then K 49 1 else K 49 2) → EI 60 mX12_near [.ref 58, .int (nI n), .int (nI k)] K L (fun r' I2 L2 => r' = r ∧ P I2 L2) := by
    intro r hr
    rw [hX.1, hX.2.1, hX.2.2.1] at hr
    refine sgX12_near_0 (m_isKnown_i HFK (by omega) ?_)
    rw [if_neg (by decide)]
    refine in_in (n := 3) (by decide) hk2 ?_
    rw [if_neg (by decide)]
    refine pM_nears HK HFK (by omega) (fun f => sS (kB (J 29) (nI np) (nI nf) n n) (J 3) 0 f np) (fun f => sS (kB (J 29) (nI np) (nI nf) n n) (J 3) 1 f np) (fun f => sM (kB (J 29) (nI np) (nI nf) n n) (J 3) 0 f np) (fun f => sM (kB (J 29) (nI np) (nI nf) n n) (J 3) 1 f np) (by rw [e29, e3]) (by rw [e29, e3]) (by rw [e29, e3]) (by rw [e29, e3]) (fun Z hZ hXZ hid => ?_)
    have pk : P Z L := hP Z ((hJ.kq'.tr kK').tr (hZ.kq' (by decide))) (iv_kn_same (fun q hq => hZ.1 q (by omega) (by omega)) knK) (by rw [hZ.1 57 (by decide) (by decide), hK' 57 (by decide) (by decide) (by decide) (by decide), hJ.1 57 (by decide)])
    by_cases z : nI k = 0
    · rw [if_pos z] at hr
      rw [if_pos z]; exact ⟨hXZ.1.trans hr.symm, pk⟩
    · rw [if_neg z] at hr
      rw [if_neg z]
      refine pM_parted (g := fun i => i) hXZ h6 (fun j hj => ⟨hid j hj, hj⟩) ⟨?_, pk⟩
      by_cases y : nI k = 1
      · rw [if_pos y] at hr
        rw [if_pos y]; exact hr.symm
      · rw [if_neg y] at hr
        rw [if_neg y]; exact hr.symm
  by_cases z : nI k = 0
  · rw [if_pos z] at go ⊢
    exact go _ rfl
  · rw [if_neg z] at go ⊢
    exact go _ rfl
theorem op_nearWays {lv nf np nb nl npl nF : Nat} {I : st_I} {L : st_L} {P : st_I → st_L → Prop} (H : iv_told I lv nf np nb nl npl) (HF : iv_facts I nF) (hk : iv_kn I nf np nF) (hP : ∀ J, kq I J → iv_kn J nf np nF → J 57 = I 57 → P J L) (c : Int32) :
    EI 60 mX11_nearWays [.ref 0, .int c] I L (fun r I1 L1 => EI 60 mX12_nearWays [.ref 58, .int c] I1 L1 (fun r' I2 L2 => r' = r ∧ P I2 L2)) := by
  have no : P I L := hP I kq.rf hk rfl
  have h80 := HF.1
  refine sgX11_nearWays_0 ?_
  rcases ot_ix c (nF + 1) (by omega) with ho | ⟨n, hn, rfl⟩
  · refine x_knows_o HF ho ?_
    rw [if_pos rfl]
    refine sgX12_nearWays_0 (m_isKnown_o HF ho ?_)
    rw [if_pos rfl]; exact ⟨rfl, no⟩
  refine x_knows_i H HF hk (by omega) (fun J hJ => ?_)
  have HJ := hJ.kq'.told H
  have HFJ := hJ.kq'.facts HF
  obtain ⟨hlv, b1, b2, -⟩ := id HJ.1
  have hm := hJ.2.2.2.2.2.2.1
  rw [if_neg (by decide)]
  refine pX_near (S0 := fun f => sS (kB (J 29) (nI np) (nI nf) n n) (J 3) 0 f np) (S1 := fun f => sS (kB (J 29) (nI np) (nI nf) n n) (J 3) 1 f np) (M0 := fun f => sM (kB (J 29) (nI np) (nI nf) n n) (J 3) 0 f np) (M1 := fun f => sM (kB (J 29) (nI np) (nI nf) n n) (J 3) 1 f np) HJ hm (fun f => by have := sM_le (kB (J 29) (nI np) (nI nf) n n) (J 3) 0 f np; omega) (fun f => by have := sM_le (kB (J 29) (nI np) (nI nf) n n) (J 3) 1 f np; omega) (fun K1 hK1 hX => ?_)
  have h6 := gN_le (fun f => sM (kB (J 29) (nI np) (nI nf) n n) (J 3) 0 f np) (fun f => sM (kB (J 29) (nI np) (nI nf) n n) (J 3) 1 f np) nf
  refine pX_nways hX h6 (fun a b => sdv_tri _ _) (fun a b => sdv_tri _ _) (fun K hK2 => ?_)
  have hK : ∀ q, q ≠ 49 → q ≠ 50 → q ≠ 51 → q ≠ 52 → q ≠ 53 → K q = J q := fun q a b c e f => by rw [hK2 q f, hK1 q a b c e]
  have kK' : kq J K := kq_49 hK
  have HK := kK'.told HJ
  have HFK := kK'.facts HFJ
  have e29 : K 29 = J 29 := hK 29 (by decide) (by decide) (by decide) (by decide) (by decide)
  have e3 : K 3 = J 3 := hK 3 (by decide) (by decide) (by decide) (by decide) (by decide)
  have knK : iv_kn K nf np nF := iv_kn_same (fun q hq => hK q (by omega) (by omega) (by omega) (by omega) (by omega)) (hJ.kn (by omega))
  refine sgX12_nearWays_0 (m_isKnown_i HFK (by omega) ?_)
  rw [if_neg (by decide)]
  exact pM_nearCount HK HFK (by omega) (fun f => sS (kB (J 29) (nI np) (nI nf) n n) (J 3) 0 f np) (fun f => sS (kB (J 29) (nI np) (nI nf) n n) (J 3) 1 f np) (fun f => sM (kB (J 29) (nI np) (nI nf) n n) (J 3) 0 f np) (fun f => sM (kB (J 29) (nI np) (nI nf) n n) (J 3) 1 f np) (by rw [e29, e3]) (by rw [e29, e3]) (by rw [e29, e3]) (by rw [e29, e3]) (fun Z hZ _ => ⟨rfl, hP Z ((hJ.kq'.tr kK').tr (hZ.kq' (by decide))) (iv_kn_same (fun q hq => hZ.1 q (by omega) (by omega)) knK) (by rw [hZ.1 57 (by decide) (by decide), hK 57 (by decide) (by decide) (by decide) (by decide) (by decide), hJ.1 57 (by decide)])⟩)
