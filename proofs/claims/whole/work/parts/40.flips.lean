/-! KINDS BY PLAYERS -/
abbrev g4_X : Type := Nat × Nat × Nat × Nat
/-- olds, news, their sums, of the first f FIDDLES -/
def gP (B O : Nat → Int32) (p : Nat) : Nat → g4_X
  | 0 => (0, 0, 0, 0)
  | f + 1 => if B (8 * p + f) = -1 then gP B O p f else if O (5 * f) = 0 then ((gP B O p f).1, (gP B O p f).2.1 + 1, (gP B O p f).2.2.1, (gP B O p f).2.2.2 + (B (8 * p + f)).toNatClampNeg) else ((gP B O p f).1 + 1, (gP B O p f).2.1, (gP B O p f).2.2.1 + (B (8 * p + f)).toNatClampNeg, (gP B O p f).2.2.2)
def okB (B : Nat → Int32) : Prop := ∀ j, B j = -1 ∨ ∃ v, v ≤ 100 ∧ B j = nI v
theorem gP_bd {B O : Nat → Int32} {p : Nat} (hv : okB B) : ∀ f, (gP B O p f).1 + (gP B O p f).2.1 ≤ f ∧ (gP B O p f).2.2.1 ≤ 100 * (gP B O p f).1 ∧ (gP B O p f).2.2.2 ≤ 100 * (gP B O p f).2.1
  | 0 => ⟨Nat.le_refl _, Nat.le_refl _, Nat.le_refl _⟩
  | f + 1 => by
    have ih := gP_bd (O := O) (p := p) hv f
    rw [gP]
    by_cases e : B (8 * p + f) = -1
    · rw [if_pos e]; omega
    · rw [if_neg e]
      obtain ⟨v, h1, h2⟩ := (hv (8 * p + f)).resolve_left e
      have h3 : (B (8 * p + f)).toNatClampNeg ≤ 100 := by rw [h2, nI_clamp (by omega)]; exact h1
      by_cases z : O (5 * f) = 0
      · rw [if_pos z]; dsimp only; omega
      · rw [if_neg z]; dsimp only; omega
def vP (B O : Nat → Int32) (nf p : Nat) : Int32 := nI ((gP B O p nf).2.2.1 * (gP B O p nf).2.1) - nI ((gP B O p nf).2.2.2 * (gP B O p nf).1)
def gF (B O T : Nat → Int32) (nf : Nat) : Nat → t12_X
  | 0 => (0, fun _ => 0)
  | p + 1 => if T (5 * p) = 0 ∧ 0 < (gP B O p nf).1 ∧ 0 < (gP B O p nf).2.1 then ((gF B O T nf p).1 + 1, upd (gF B O T nf p).2 (gF B O T nf p).1 (vP B O nf p)) else gF B O T nf p
theorem gF_le (B O T : Nat → Int32) (nf : Nat) : ∀ p, (gF B O T nf p).1 ≤ p
  | 0 => Nat.le_refl _
  | p + 1 => by have := gF_le B O T nf p; rw [gF]; split; dsimp only; omega; omega
theorem vP_bd {B O : Nat → Int32} (hv : okB B) {nf p : Nat} (h8 : nf ≤ 8) : -10000 ≤ (vP B O nf p).toInt ∧ (vP B O nf p).toInt ≤ 10000 := by
  obtain ⟨b1, b2, b3⟩ := gP_bd (O := O) (p := p) hv nf
  unfold vP
  have m1 : (gP B O p nf).2.2.1 * (gP B O p nf).2.1 ≤ 800 * 8 := Nat.mul_le_mul (by omega) (by omega)
  have m2 : (gP B O p nf).2.2.2 * (gP B O p nf).1 ≤ 800 * 8 := Nat.mul_le_mul (by omega) (by omega)
  rw [pk_sub_toInt (by omega) (by omega)]
  omega
theorem gF_ok {B O T : Nat → Int32} (hv : okB B) {nf : Nat} (h8 : nf ≤ 8) : ∀ p, ∀ i, i < (gF B O T nf p).1 → -10000 ≤ ((gF B O T nf p).2 i).toInt ∧ ((gF B O T nf p).2 i).toInt ≤ 10000
  | 0 => fun i hi => absurd hi (Nat.not_lt_zero _)
  | p + 1 => by
    intro i hi
    have ih := gF_ok (O := O) (T := T) hv h8 p
    rw [gF] at hi ⊢
    split at hi
    · rename_i hc
      rw [if_pos hc]
      dsimp only at hi ⊢
      by_cases e : i = (gF B O T nf p).1
      · subst e; simp only [upd, if_true]; exact vP_bd hv h8
      · simp only [upd, if_neg e]; exact ih i (by omega)
    · rename_i hc
      rw [if_neg hc]; exact ih i hi
theorem gF_12 {B O T : Nat → Int32} (hv : okB B) {nf np : Nat} (h8 : nf ≤ 8) (h10 : np ≤ 10) : v12 (gF B O T nf np) := ⟨by have := gF_le B O T nf np; omega, gF_ok hv h8 np⟩
theorem pX_gatherPlayers {d lv nf np nb nl npl : Nat} {B : Nat → Int32} {I : st_I} {L : st_L} {F : st_I → st_L → Prop} (H : iv_told I lv nf np nb nl npl) (hB : ∀ j, j < 80 → I 32 j = B j) (hv : okB B) (h : ∀ J : st_I, (∀ q, q ≠ 47 → q ≠ 48 → J q = I q) → xT J (gF B (I 2) (I 3) nf np) → F J L) : EV (d + 4) mX9_gatherPlayers [.ref 47, .ref 1, .ref 30] I L F := by
  obtain ⟨hlv, b1, b2, b3, b4, b5, h18, c0, c1, -⟩ := id H.1
  have T0 : ∀ K : st_I, (∀ q, q ≠ 47 → q ≠ 48 → K q = I q) → iv_told K lv nf np nb nl npl := fun K hK => iv_told_congr (fun q hq => hK q (by omega) (by omega)) (by rw [hK 58 (by decide) (by decide)]) H
  have one : ∀ (p : Nat) (J : st_I) {G : st_I → st_L → Prop}, p < np → (∀ q, q ≠ 47 → q ≠ 48 → J q = I q) → xT J (gF B (I 2) (I 3) nf p) → I 3 (5 * p) = 0 → (∀ K : st_I, (∀ q, q ≠ 47 → q ≠ 48 → K q = I q) → xT K (gF B (I 2) (I 3) nf (p + 1)) → G K L) → EV (d + 3) mX9_gatherPlayer [.ref 47, .ref 1, .ref 30, .int (nI p)] J L G := by
    intro p J G hp hJ hX hpl hG
    have hle := gF_le B (I 2) (I 3) nf p
    have e32 : ∀ f, f < nf → J 32 (8 * p + f) = B (8 * p + f) := fun f hf => by rw [hJ 32 (by decide) (by decide), hB _ (by omega)]
    have key : ∀ (r f : Nat), f + r = nf → TV (d + 3) mX9_gatherPlayer 15 [.ref 47, .ref 1, .ref 30, .int (nI p), .int (nI (gP B (I 2) p f).1), .int (nI (gP B (I 2) p f).2.1), .int (nI (gP B (I 2) p f).2.2.1), .int (nI (gP B (I 2) p f).2.2.2), .int (nI f), .null] [] J L G := by
      intro r
      induction r with
      | zero =>
        intro f hf
        obtain rfl : f = nf := by omega
        obtain ⟨g1, g2, g3⟩ := gP_bd (O := I 2) (p := p) hv f
        refine sgX9_gatherPlayer_15 ?_
        rw [hJ 1 (by decide) (by decide), c0, if_pos (nI_le (Nat.le_refl _) (by omega))]
        rw [gF] at hG
        by_cases z : 0 < (gP B (I 2) p f).1
        · rw [if_neg (nI_nle z (by omega))]
          by_cases y : 0 < (gP B (I 2) p f).2.1
          · rw [if_neg (nI_nle y (by omega)), pk_mul, pk_mul]
            rw [if_pos ⟨hpl, z, y⟩] at hG
            refine sgX9_add_0 ?_
            rw [hX.1, if_neg (show ¬ (12 : Int32) ≤ nI _ from nI_ge (b := 12) (by omega) (by decide)), nI_clamp (by omega), nI_1]
            refine ⟨vp_in_nI (by omega) (by decide), hG _ (fun q q1 q2 => by rw [u_I_ne _ _ q1, u_I_ne _ _ q2]; exact hJ q q1 q2) ⟨by simp [u_I], fun i hi => ?_⟩⟩
            dsimp only at hi
            by_cases e : i = (gF B (I 2) (I 3) f p).1
            · subst e; simp [u_I, upd, vP]
            · simp only [u_I, upd, if_neg e, if_true, show (48 : Nat) = 47 ↔ False by decide, if_false]
              exact hX.2 i (by omega)
          · rw [show (gP B (I 2) p f).2.1 = 0 by omega, if_pos (show nI 0 ≤ 0 by decide)]
            rw [if_neg (fun w => y w.2.2)] at hG
            exact hG J hJ hX
        · rw [show (gP B (I 2) p f).1 = 0 by omega, if_pos (show nI 0 ≤ 0 by decide)]
          rw [if_neg (fun w => z w.2.1)] at hG
          exact hG J hJ hX
      | succ r ih =>
        intro f hf
        have st := ih (f + 1) (by omega)
        rw [gP] at st
        have hBf := e32 f (by omega)
        refine sgX9_gatherPlayer_15 ?_
        rw [hJ 1 (by decide) (by decide), c0, if_neg (nI_ge (by omega) (by omega)), show nI p * 8 + nI f = nI (8 * p + f) by rw [show (8 : Int32) = nI 8 from rfl, pk_mul, nI_add, Nat.mul_comm], nI_clamp (show 8 * p + f < 2 ^ 31 by omega), hBf, nI_1, nI_1]
        refine ⟨vp_in_nI (by omega) (by decide), ?_⟩
        by_cases e : B (8 * p + f) = -1
        · rw [if_pos e] at st
          rw [if_pos e]
          refine sgX9_gatherPlayer_66 ?_
          rw [if_pos e, nI_1]; exact st
        · rw [if_neg e] at st
          rw [if_neg e]
          obtain ⟨v, h1, h2⟩ := (hv (8 * p + f)).resolve_left e
          have h3 : (B (8 * p + f)).toNatClampNeg = v := by rw [h2, nI_clamp (by omega)]
          rw [h3] at st
          refine x_isOld_i (T0 J hJ) (by omega) ?_
          rw [hJ 2 (by decide) (by decide)]
          by_cases z : I 2 (5 * f) = 0
          · rw [if_pos z] at st
            rw [if_pos z]
            refine sgX9_gatherPlayer_66 ?_
            rw [if_neg e, h2, nI_1, nI_1, nI_add]; exact st
          · rw [if_neg z] at st
            rw [if_neg z, h2, nI_add]; exact st
    exact sgX9_gatherPlayer_0 (key nf 0 (by omega))
  have key : ∀ (r p : Nat) (J : st_I), p + r = np → (∀ q, q ≠ 47 → q ≠ 48 → J q = I q) → xT J (gF B (I 2) (I 3) nf p) → TV (d + 4) mX9_gatherPlayers 6 [.ref 47, .ref 1, .ref 30, .int (nI p)] [] J L F := by
    intro r
    induction r with
    | zero =>
      intro p J hp hJ hX
      obtain rfl : p = np := by omega
      refine sgX9_gatherPlayers_6 ?_
      rw [hJ 1 (by decide) (by decide), c1, if_pos (nI_le (Nat.le_refl _) (by omega))]
      exact h J hJ hX
    | succ r ih =>
      intro p J hp hJ hX
      refine sgX9_gatherPlayers_6 ?_
      rw [hJ 1 (by decide) (by decide), c1, if_neg (nI_ge (by omega) (by omega))]
      refine x_isPlayer_i (T0 J hJ) (by omega) ?_
      rw [hJ 3 (by decide) (by decide), nI_1]
      by_cases z : I 3 (5 * p) = 0
      · rw [if_pos z, if_neg (by decide)]
        exact one p J (by omega) hJ hX z (fun K hK hXK => ih (p + 1) K (by omega) hK hXK)
      · rw [if_neg z, if_pos rfl]
        refine ih (p + 1) J (by omega) hJ ?_
        rw [gF, if_neg (fun w => z w.1)]; exact hX
  refine sgX9_gatherPlayers_0 (sgX9_clear_0 ?_)
  exact key np 0 _ (by omega) (fun q q1 q2 => by rw [u_I_ne _ _ q1, u_I_ne _ _ q1, u_I_ne _ _ q1]) ⟨by simp [u_I, gF]; rfl, fun i hi => absurd hi (Nat.not_lt_zero _)⟩
theorem m58_g {c : Nat} {I J : st_I} (h : ∀ q, q ≠ 101 → q ≠ 102 → J q = I q) : m58 c I J := ⟨fun q _ q2 => h q (by omega) (by omega), fun k _ => by rw [h 58 (by decide) (by decide)]⟩
theorem pM_flipsBy {d lv nf np nb nl npl nF n : Nat} {I : st_I} {L : st_L} {F : st_I → st_L → Prop} (H : iv_told I lv nf np nb nl npl) (HF : iv_facts I nF) (hn : n ≤ nF) (h : ∀ J : st_I, m58 53 I J → mT J (gF (kB (I 29) (nI np) (nI nf) n n) (I 2) (I 3) nf np) → F J L) : EV (d + 4) mX12_flipsBy [.ref 58, .int (nI n)] I L F := by
  obtain ⟨hlv, b1, b2, b3, b4, b5, h18, c0, c1, c2, c3, c4, m0, m1, -⟩ := id H.1
  have v2 : vp_in (nI lv) 2 := vp_in_nI (by omega) (by decide)
  refine sgX12_flipsBy_0 (pM_gathers H HF hn (fun K hK h1 _ => ?_))
  have hv : okB (kB (I 29) (nI np) (nI nf) n n) := kB_val HF hn b1 b2 n (Nat.le_refl _)
  generalize kB (I 29) (nI np) (nI nf) n n = B at h1 hv h
  have key : ∀ (r p : Nat) (J : st_I), p + r = np → m58 53 I J → (∀ j, j < 80 → J 101 j = B j) → mT J (gF B (I 2) (I 3) nf p) → TV (d + 4) mX12_flipsBy 12 [.ref 58, .null, .int (nI p), .null, .null, .null, .null, .null, .null] [] J L F := by
    intro r
    induction r with
    | zero =>
      intro p J hp hJ _ hX
      obtain rfl : p = np := by omega
      refine sgX12_flipsBy_12 ?_
      rw [hJ.2 18 (by decide), h18, nI_clamp (by omega), hJ.1 73 (by decide) (by decide), m1, if_pos (nI_le (Nat.le_refl _) (by omega))]
      exact ⟨v2, h J hJ hX⟩
    | succ r ih =>
      intro p J hp hJ hB hX
      have hle := gF_le B (I 2) (I 3) nf p
      have HJ := (hJ.kq' (by decide)).told H
      refine sgX12_flipsBy_12 ?_
      rw [hJ.2 18 (by decide), h18, nI_clamp (by omega), hJ.1 73 (by decide) (by decide), m1, if_neg (nI_ge (by omega) (by omega))]
      refine ⟨v2, pM_isPlayer HJ (by omega) ?_⟩
      rw [hJ.1 3 (by decide) (by decide), nI_1]
      have st := ih (p + 1)
      rw [gF] at st
      by_cases z : I 3 (5 * p) = 0
      · rw [if_pos z, if_neg (by decide)]
        have inner : ∀ (r' f : Nat), f + r' = nf → TV (d + 4) mX12_flipsBy 50 [.ref 58, .null, .int (nI p), .int (nI (gP B (I 2) p f).2.2.1), .int (nI (gP B (I 2) p f).1), .int (nI (gP B (I 2) p f).2.2.2), .int (nI (gP B (I 2) p f).2.1), .int (nI f), .null] [] J L F := by
          intro r'
          induction r' with
          | zero =>
            intro f hf
            obtain rfl : f = nf := by omega
            obtain ⟨g1, g2, g3⟩ := gP_bd (O := I 2) (p := p) hv f
            refine sgX12_flipsBy_50 ?_
            rw [hJ.2 18 (by decide), h18, nI_clamp (by omega), hJ.1 69 (by decide) (by decide), m0, if_pos (nI_le (Nat.le_refl _) (by omega)), nI_1]
            refine ⟨v2, ?_⟩
            by_cases y : 0 < (gP B (I 2) p f).1
            · rw [if_neg (nI_ne0 y (by omega))]
              by_cases x : 0 < (gP B (I 2) p f).2.1
              · rw [if_neg (nI_ne0 x (by omega)), hX.1, nI_clamp (by omega), pk_mul, pk_mul, nI_1]
                rw [if_pos ⟨z, y, x⟩] at st
                refine ⟨vp_in_nI (by omega) (by decide), st _ (by omega) ⟨fun q q1 q2 => ?_, fun k hk => ?_⟩ (fun j hj => ?_) ⟨?_, fun i hi => ?_⟩⟩
                · rw [u_I_ne _ _ q1, u_I_ne _ _ (by omega)]; exact hJ.1 q q1 q2
                · simp only [u_I, if_true, if_neg (show ¬ k = 71 by omega), show (58 : Nat) = 109 ↔ False by decide, if_false]; exact hJ.2 k hk
                · rw [u_I_ne _ _ (by decide), u_I_ne _ _ (by decide)]; exact hB j hj
                · simp [u_I]
                · dsimp only at hi
                  by_cases e : i = (gF B (I 2) (I 3) f p).1
                  · subst e; simp [u_I, upd, vP]
                  · simp only [u_I, upd, if_neg e, if_true, show (109 : Nat) = 58 ↔ False by decide, if_false]
                    exact hX.2 i (by omega)
              · rw [show (gP B (I 2) p f).2.1 = 0 by omega, if_pos (show nI 0 = 0 from rfl)]
                rw [if_neg (fun w => x w.2.2)] at st
                exact st J (by omega) hJ hB hX
            · rw [show (gP B (I 2) p f).1 = 0 by omega, if_pos (show nI 0 = 0 from rfl)]
              rw [if_neg (fun w => y w.2.1)] at st
              exact st J (by omega) hJ hB hX
          | succ r' ih' =>
            intro f hf
            have st' := ih' (f + 1) (by omega)
            rw [gP] at st'
            refine sgX12_flipsBy_50 ?_
            rw [hJ.2 18 (by decide), h18, nI_clamp (by omega), hJ.1 69 (by decide) (by decide), m0, if_neg (nI_ge (by omega) (by omega)), show (8 : Int32) * nI p + nI f = nI (8 * p + f) from mx 8 p f, nI_clamp (show 8 * p + f < 2 ^ 31 by omega), hB _ (by omega), nI_1, nI_1, nI_1]
            refine ⟨v2, vp_in_nI (by omega) (by decide), ?_⟩
            by_cases e : B (8 * p + f) = -1
            · rw [if_pos e] at st' ⊢; exact st'
            · rw [if_neg e] at st' ⊢
              obtain ⟨v, h1, h2⟩ := (hv (8 * p + f)).resolve_left e
              have h3 : (B (8 * p + f)).toNatClampNeg = v := by rw [h2, nI_clamp (by omega)]
              rw [h3] at st'
              refine pM_isOldOne HJ (by omega) ?_
              rw [hJ.1 2 (by decide) (by decide), h2, nI_add, nI_add]
              by_cases y : I 2 (5 * f) = 0
              · rw [if_pos y] at st' ⊢; exact st'
              · rw [if_neg y] at st' ⊢; exact st'
        exact inner nf 0 (by omega)
      · rw [if_neg z, if_pos rfl]
        rw [if_neg (fun w => z w.1)] at st
        exact st J (by omega) hJ hB hX
  exact key np 0 _ (by omega) ⟨fun q q1 q2 => by rw [u_I_ne _ _ q1, hK q (by omega) (by omega)], fun k hk => by simp only [u_I, if_true, if_neg (show ¬ k = 71 by omega)]; rw [hK 58 (by decide) (by decide)]⟩ (fun j hj => by rw [u_I_ne _ _ (by decide)]; exact h1 j hj) ⟨by simp [u_I, gF]; rfl, fun i hi => absurd hi (Nat.not_lt_zero _)⟩
theorem op_flips {lv nf np nb nl npl nF : Nat} {I : st_I} {L : st_L} {P : st_I → st_L → Prop} (H : iv_told I lv nf np nb nl npl) (HF : iv_facts I nF) (hk : iv_kn I nf np nF) (hP : ∀ J, kq I J → iv_kn J nf np nF → J 57 = I 57 → P J L) (c e : Int32) :
    EI 60 mX11_flips [.ref 0, .int c, .int e] I L (fun r I1 L1 => EI 60 mX12_flips [.ref 58, .int c, .int e] I1 L1 (fun r' I2 L2 => r' = r ∧ P I2 L2)) := by
  have no : P I L := hP I kq.rf hk rfl
  have h80 := HF.1
  refine sgX11_flips_0 ?_
  rcases ot_ix e 2 (by decide) with ho | ⟨k, hk2, rfl⟩
  · have bad : EI 60 mX12_flips [.ref 58, .int c, .int e] I L (fun r' I2 L2 => r' = -1000000000 ∧ P I2 L2) := by
      refine sgX12_flips_0 ?_
      rcases ot_ix c (nF + 1) (by omega) with ho2 | ⟨n, hn, rfl⟩
      · refine m_isKnown_o HF ho2 ?_
        rw [if_pos rfl]; exact ⟨rfl, no⟩
      · refine m_isKnown_i HF (by omega) ?_
        rw [if_neg (by decide)]
        refine in_out (n := 2) (by decide) ho ?_
        rw [if_pos rfl]; exact ⟨rfl, no⟩
    by_cases z : e < 0
    · rw [if_pos z]; exact bad
    · obtain ⟨i, hi, rfl⟩ := nI_of z
      have : 2 ≤ i := (nI_leI (by omega) hi).mp (ho.resolve_left z)
      rw [if_neg z, if_pos (show (1 : Int32) < nI i from nI_lt (a := 1) (by omega) hi)]; exact bad
  rw [if_neg (nI_pos (by omega)), if_neg (show ¬ (1 : Int32) < nI k from nI_nlt (a := 1) (b := k) (by omega) (by decide))]
  rcases ot_ix c (nF + 1) (by omega) with ho | ⟨n, hn, rfl⟩
  · refine x_knows_o HF ho ?_
    rw [if_pos rfl]
    refine sgX12_flips_0 (m_isKnown_o HF ho ?_)
    rw [if_pos rfl]; exact ⟨rfl, no⟩
  refine x_knows_i H HF hk (by omega) (fun J hJ => ?_)
  have HJ := hJ.kq'.told H
  have HFJ := hJ.kq'.facts HF
  obtain ⟨hlv, b1, b2, -⟩ := id HJ.1
  have hv : okB (kB (J 29) (nI np) (nI nf) n n) := kB_val HFJ (by omega) b1 b2 n (Nat.le_refl _)
  rw [if_neg (by decide)]
  refine pX_gatherPlayers HJ hJ.2.2.2.1 hv (fun K hK hX => ?_)
  have kK' : kq J K := ⟨fun q a _ _ => hK q (by omega) (by omega), fun q a b _ _ => hK q (by omega) (by omega), fun k _ => by rw [hK 58 (by decide) (by decide)]⟩
  have HK := kK'.told HJ
  have HFK := kK'.facts HFJ
  have e29 : K 29 = J 29 := hK 29 (by decide) (by decide)
  have e3 : K 3 = J 3 := hK 3 (by decide) (by decide)
  have e2 : K 2 = J 2 := hK 2 (by decide) (by decide)
  have knK : iv_kn K nf np nF := iv_kn_same (fun q hq => hK q (by omega) (by omega)) (hJ.kn (by omega))
  have h12 := (gF_12 (O := J 2) (T := J 3) hv b1 b2).1
  have go : ∀ {F : Int32 → st_I → st_L → Prop}, (∀ M : st_I, P M L → mT M (gF (kB (J 29) (nI np) (nI nf) n n) (J 2) (J 3) nf np) → (if nI k = 0 then F (M 58 71) M L else EI 59 mX12_signSum [.ref 58] M L (fun r4 I4 L4 => F r4 I4 L4))) → EI 60 mX12_flips [.ref 58, .int (nI n), .int (nI k)] K L F := by
    intro F h
    refine sgX12_flips_0 (m_isKnown_i HFK (by omega) ?_)
    rw [if_neg (by decide)]
    refine in_in (n := 2) (by decide) hk2 ?_
    rw [if_neg (by decide)]
    refine pM_flipsBy HK HFK (by omega) (fun M hM hXM => h M (hP M ((hJ.kq'.tr kK').tr (hM.kq' (by decide))) (iv_kn_same (fun q hq => hM.1 q (by omega) (by omega)) knK) (by rw [hM.1 57 (by decide) (by decide), hK 57 (by decide) (by decide), hJ.1 57 (by decide)])) ?_)
    rw [e29, e2, e3] at hXM; exact hXM
  by_cases z : nI k = 0
  · rw [if_pos z, hX.1]
    refine go (fun M pk hXM => ?_)
    rw [if_pos z]; exact ⟨hXM.1, pk⟩
  · rw [if_neg z]
    refine pX_tsum hX h12 (go (fun M pk hXM => ?_))
    rw [if_neg z]
    exact pM_signSum hXM h12 ⟨rfl, pk⟩
theorem op_flipWays {lv nf np nb nl npl nF : Nat} {I : st_I} {L : st_L} {P : st_I → st_L → Prop} (H : iv_told I lv nf np nb nl npl) (HF : iv_facts I nF) (hk : iv_kn I nf np nF) (hP : ∀ J, kq I J → iv_kn J nf np nF → J 57 = I 57 → P J L) (c : Int32) :
    EI 60 mX11_flipWays [.ref 0, .int c] I L (fun r I1 L1 => EI 60 mX12_flipWays [.ref 58, .int c] I1 L1 (fun r' I2 L2 => r' = r ∧ P I2 L2)) := by
  have no : P I L := hP I kq.rf hk rfl
  have h80 := HF.1
  refine sgX11_flipWays_0 ?_
  rcases ot_ix c (nF + 1) (by omega) with ho | ⟨n, hn, rfl⟩
  · refine x_knows_o HF ho ?_
    rw [if_pos rfl]
    refine sgX12_flipWays_0 (m_isKnown_o HF ho ?_)
    rw [if_pos rfl]; exact ⟨rfl, no⟩
  refine x_knows_i H HF hk (by omega) (fun J hJ => ?_)
  have HJ := hJ.kq'.told H
  have HFJ := hJ.kq'.facts HF
  obtain ⟨hlv, b1, b2, -⟩ := id HJ.1
  have hv : okB (kB (J 29) (nI np) (nI nf) n n) := kB_val HFJ (by omega) b1 b2 n (Nat.le_refl _)
  rw [if_neg (by decide)]
  refine pX_gatherPlayers HJ hJ.2.2.2.1 hv (fun K hK hX => ?_)
  have kK' : kq J K := ⟨fun q a _ _ => hK q (by omega) (by omega), fun q a b _ _ => hK q (by omega) (by omega), fun k _ => by rw [hK 58 (by decide) (by decide)]⟩
  have HK := kK'.told HJ
  have HFK := kK'.facts HFJ
  have e29 : K 29 = J 29 := hK 29 (by decide) (by decide)
  have e3 : K 3 = J 3 := hK 3 (by decide) (by decide)
  have e2 : K 2 = J 2 := hK 2 (by decide) (by decide)
  have knK : iv_kn K nf np nF := iv_kn_same (fun q hq => hK q (by omega) (by omega)) (hJ.kn (by omega))
  have h12 := gF_12 (O := J 2) (T := J 3) hv b1 b2
  refine pX_tways hX h12 ?_
  refine sgX12_flipWays_0 (m_isKnown_i HFK (by omega) ?_)
  rw [if_neg (by decide)]
  refine pM_flipsBy HK HFK (by omega) (fun M hM hXM => ?_)
  rw [e29, e2, e3] at hXM
  exact pM_signWays hXM h12 ⟨rfl, hP M ((hJ.kq'.tr kK').tr (hM.kq' (by decide))) (iv_kn_same (fun q hq => hM.1 q (by omega) (by omega)) knK) (by rw [hM.1 57 (by decide) (by decide), hK 57 (by decide) (by decide), hJ.1 57 (by decide)])⟩
