theorem pt_le (I : st_I) (w v : Nat) (s : Int32) (q : Nat) : pt I w v s q ≤ nsit I q := cn_le _ _
theorem pX_nextLoop {d lv nf np nb nl npl w v : Nat} {s : Int32} {I : st_I} {L : st_L} {F : Int32 → st_I → st_L → Prop} (H : iv_told I lv nf np nb nl npl) (hw : w < nl) (hv : v < nl) (h : ∀ I', xs I I' → F (nxv (nx I w v s npl)) I' L) :
    ∀ (r n : Nat) (J : st_I) (x5 x6 : Int32), n + r = npl → xs I J → (∀ b, nx I w v s n = some b → x5 = nI (pt I w v s b) ∧ x6 = nI (nsit I b)) → TI (d + 7) mX11_next 37 [.ref 0, .int (nI w), .int (nI v), .int s, .int (nxv (nx I w v s n)), .int x5, .int x6, .int (nI n), .null, .null] [] J L F := by
  have h4 := H.1.2.2.2.2.2.1
  have c4 := H.1.2.2.2.2.2.2.2.2.2.2.2.1
  intro r
  induction r with
  | zero =>
    intro n J x5 x6 hn hJ hb
    obtain rfl : n = npl := by omega
    refine sgX11_next_37 ?_
    rw [hJ 1 (by decide) (by decide), c4, if_pos (nI_le (Nat.le_refl _) (by omega))]
    exact h J hJ
  | succ r ih =>
    intro n J x5 x6 hn hJ hb
    have hs := nsit_eq (H.2.2.2.2.2 n (by omega))
    have hp := pt_le I w v s n
    refine sgX11_next_37 ?_
    rw [hJ 1 (by decide) (by decide), c4, if_neg (nI_ge (by omega) (by omega))]
    refine pX_unlike (hJ.told H) (by omega) hw hv (fun J1 x1 => ?_)
    have hJ1 := hJ.tr x1
    rw [hJ.pt']
    have hn1 : nsit J1 n = nsit I n := hJ1.nsit' n
    have take : nx I w v s (n + 1) = some n → TI (d + 7) mX11_next 114 [.ref 0, .int (nI w), .int (nI v), .int s, .null, .null, .null, .int (nI n), .int (nI (pt I w v s n)), .null] [] J1 L F := by
      intro e
      refine sgX11_next_114 (x_sits_i (hJ1.told H) (by omega) ?_)
      rw [hn1, nI_1]
      have := ih (n + 1) J1 (nI (pt I w v s n)) (nI (nsit I n)) (by omega) hJ1 (fun b hb => by obtain rfl := Option.some.inj (e.symm.trans hb); exact ⟨rfl, rfl⟩)
      rw [e] at this
      exact this
    have goes : ∀ f : Int32, (f = 0 ∨ f = 1) → (∀ b, nx I w v s n = some b → (f = 1 ↔ (pt I w v s n = pt I w v s b ∧ nsit I n < nsit I b))) → TI (d + 7) mX11_next 93 [.ref 0, .int (nI w), .int (nI v), .int s, .int (nxv (nx I w v s n)), .int x5, .int x6, .int (nI n), .int (nI (pt I w v s n)), .null] [.int f] J1 L F := by
      intro f hf hfb
      refine sgX11_next_93 ?_
      cases e : nx I w v s n with
      | none =>
        rw [if_pos (show nxv none = -2 from rfl)]
        exact take (by rw [nx, e])
      | some b =>
        obtain ⟨q5, q6⟩ := hb b e
        have hbl := nx_lt e
        have hsb := nsit_eq (H.2.2.2.2.2 b (by omega))
        have hpb := pt_le I w v s b
        have hne : ¬ nxv (some b) = -2 := fun z => absurd (show (0 : Int32) ≤ -2 from z ▸ nI_pos' (show b < 2 ^ 31 by omega)) (by decide)
        rw [if_neg hne, q5]
        by_cases h1 : pt I w v s b < pt I w v s n
        · rw [if_pos (nI_lt h1 (by omega))]
          exact take (by rw [nx, e]; dsimp only; rw [if_neg (by omega)])
        · rw [if_neg (nI_nlt (by omega) (by omega))]
          by_cases h2 : f = 0
          · rw [if_pos h2]
            have h3 := hfb b e
            have hne1 : ¬ f = 1 := by rw [h2]; decide
            have e2 : nx I w v s (n + 1) = some b := by
              rw [nx, e]; dsimp only
              rw [if_pos]
              by_cases h5 : pt I w v s n < pt I w v s b
              · exact Or.inl h5
              · refine Or.inr ⟨by omega, ?_⟩
                have : ¬ (pt I w v s n = pt I w v s b ∧ nsit I n < nsit I b) := fun z => hne1 (h3.mpr z)
                omega
            have := ih (n + 1) J1 (nI (pt I w v s b)) x6 (by omega) hJ1 (fun b' hb' => by obtain rfl := Option.some.inj (e2.symm.trans hb'); exact ⟨rfl, q6⟩)
            rw [e2] at this
            rw [nI_1]; exact this
          · rw [if_neg h2]
            have h3 := (hfb b e).mp (by rcases hf with q | q; exact absurd q h2; exact q)
            exact take (by rw [nx, e]; dsimp only; rw [if_neg (by omega)])
    cases e : nx I w v s n with
    | none =>
      rw [e] at goes
      have any : ∀ f : Int32, (f = 0 ∨ f = 1) → _ := fun f hf => goes f hf (fun b hb => by cases hb)
      by_cases h1 : nI (pt I w v s n) = x5
      · rw [if_pos h1]
        refine x_sits_i (hJ1.told H) (by omega) ?_
        rw [hn1]
        by_cases h2 : x6 ≤ nI (nsit I n)
        · rw [if_pos h2]; exact any 0 (Or.inl rfl)
        · rw [if_neg h2]; exact any 1 (Or.inr rfl)
      · rw [if_neg h1]; exact any 0 (Or.inl rfl)
    | some b =>
      rw [e] at goes
      obtain ⟨q5, q6⟩ := hb b e
      have hbl := nx_lt e
      have hsb := nsit_eq (H.2.2.2.2.2 b (by omega))
      have hpb := pt_le I w v s b
      by_cases h1 : nI (pt I w v s n) = x5
      · rw [if_pos h1]
        refine x_sits_i (hJ1.told H) (by omega) ?_
        rw [hn1]
        have h1' : pt I w v s n = pt I w v s b := (nI_eq (by omega) (by omega)).mp (h1.trans q5)
        by_cases h2 : x6 ≤ nI (nsit I n)
        · rw [if_pos h2]
          refine goes 0 (Or.inl rfl) (fun b' hb' => ?_)
          obtain rfl := Option.some.inj hb'
          have : nsit I b ≤ nsit I n := (nI_leI (by omega) (by omega)).mp (q6 ▸ h2)
          exact ⟨fun z => absurd z (by decide), fun z => by omega⟩
        · rw [if_neg h2]
          refine goes 1 (Or.inr rfl) (fun b' hb' => ?_)
          obtain rfl := Option.some.inj hb'
          have : ¬ nsit I b ≤ nsit I n := fun z => h2 (q6 ▸ nI_le z (by omega))
          exact ⟨fun _ => ⟨h1', by omega⟩, fun _ => rfl⟩
      · rw [if_neg h1]
        refine goes 0 (Or.inl rfl) (fun b' hb' => ?_)
        obtain rfl := Option.some.inj hb'
        exact ⟨fun z => absurd z (by decide), fun z => absurd (by rw [z.1]; exact q5.symm) h1⟩
theorem pM_nextLoop {d lv nf np nb nl npl w v : Nat} {s : Int32} {I : st_I} {L : st_L} {F : Int32 → st_I → st_L → Prop} (H : iv_told I lv nf np nb nl npl) (hset : iv_set I) (hw : w < nl) (hv : v < nl) (h : ∀ I', ms I I' → F (nxv (nx I w v s npl)) I' L) :
    ∀ (r n : Nat) (J : st_I) (x5 : Int32), n + r = npl → ms I J → (∀ b, nx I w v s n = some b → x5 = nI (pt I w v s b)) → TI (d + 5) mX12_next 28 [.ref 58, .int (nI w), .int (nI v), .int s, .int (nxv (nx I w v s n)), .int x5, .int (nI n), .null] [] J L F := by
  obtain ⟨hlv, -, -, -, -, h4, h18, -, -, -, -, -, -, -, -, -, m4⟩ := id H.1
  intro r
  induction r with
  | zero =>
    intro n J x5 hn hJ hb
    obtain rfl : n = npl := by omega
    refine sgX12_next_28 ?_
    rw [hJ 58 (by decide) (by decide), h18, nI_clamp (by omega), hJ 82 (by decide) (by decide), m4, if_pos (nI_le (Nat.le_refl _) (by omega))]
    exact ⟨vp_in_nI (by omega) (by decide), h J hJ⟩
  | succ r ih =>
    intro n J x5 hn hJ hb
    have hs := nsit_eq (H.2.2.2.2.2 n (by omega))
    have hp := pt_le I w v s n
    refine sgX12_next_28 ?_
    rw [hJ 58 (by decide) (by decide), h18, nI_clamp (by omega), hJ 82 (by decide) (by decide), m4, if_neg (nI_ge (by omega) (by omega))]
    refine ⟨vp_in_nI (by omega) (by decide), pM_parts (hJ.told H) (hJ.set hset) (by omega) hw hv (fun J1 x1 => ?_)⟩
    have hJ1 := hJ.tr x1
    rw [hJ.pt', nI_1]
    have take : nx I w v s (n + 1) = some n → TI (d + 5) mX12_next 28 [.ref 58, .int (nI w), .int (nI v), .int s, .int (nI n), .int (nI (pt I w v s n)), .int (nI (n + 1)), .null] [] J1 L F := by
      intro e
      have := ih (n + 1) J1 (nI (pt I w v s n)) (by omega) hJ1 (fun b hb => by obtain rfl := Option.some.inj (e.symm.trans hb); rfl)
      rw [e] at this
      exact this
    cases e : nx I w v s n with
    | none =>
      rw [if_pos (show nxv none < 0 by decide)]
      exact take (by rw [nx, e])
    | some b =>
      have q5 := hb b e
      have hbl := nx_lt e
      have hsb := nsit_eq (H.2.2.2.2.2 b (by omega))
      have hpb := pt_le I w v s b
      have keep : nx I w v s (n + 1) = some b → TI (d + 5) mX12_next 28 [.ref 58, .int (nI w), .int (nI v), .int s, .int (nxv (some b)), .int x5, .int (nI (n + 1)), .null] [] J1 L F := by
        intro e2
        have := ih (n + 1) J1 x5 (by omega) hJ1 (fun b' hb' => by obtain rfl := Option.some.inj (e2.symm.trans hb'); exact q5)
        rw [e2] at this
        exact this
      rw [if_neg (show ¬ nxv (some b) < 0 from nI_pos (by omega)), q5]
      rw [q5] at keep
      by_cases h1 : pt I w v s n < pt I w v s b
      · rw [if_pos (nI_lt h1 (by omega))]
        exact keep (by rw [nx, e]; dsimp only; rw [if_pos (Or.inl h1)])
      · rw [if_neg (nI_nlt (by omega) (by omega))]
        by_cases h2 : pt I w v s n = pt I w v s b
        · rw [if_pos (by rw [h2]), hJ1 58 (by decide) (by decide), h18, show (4 : Int32) * nI lv + nI n = nI (4 * lv + n) from mx 4 lv n, show (4 : Int32) * nI lv + nxv (some b) = nI (4 * lv + b) from mx 4 lv b, nI_clamp (by omega), nI_clamp (by omega), hJ1 83 (by decide) (by decide), hs.2.1, hsb.2.1]
          refine ⟨vp_in_nI (by omega) (by decide), vp_in_nI (by omega) (by decide), ?_⟩
          by_cases h3 : nsit I n < nsit I b
          · rw [if_pos (nI_lt h3 (by omega))]
            exact take (by rw [nx, e]; dsimp only; rw [if_neg (by omega)])
          · rw [if_neg (nI_nlt (by omega) (by omega))]
            exact keep (by rw [nx, e]; dsimp only; rw [if_pos (Or.inr ⟨h2, by omega⟩)])
        · rw [if_neg (fun z => h2 ((nI_eq (by omega) (by omega)).mp z))]
          exact take (by rw [nx, e]; dsimp only; rw [if_neg (by omega)])
theorem nx_xs {I J : st_I} (h : xs I J) (w v : Nat) (s : Int32) : ∀ n, nx J w v s n = nx I w v s n
  | 0 => rfl
  | n + 1 => by
    rw [nx, nx, nx_xs h w v s n]
    simp only [h.pt', h.nsit']
theorem op_next {lv nf np nb nl npl : Nat} {I : st_I} {L : st_L} {P : st_I → st_L → Prop} (H : iv_told I lv nf np nb nl npl) (hset : iv_set I) (hP : ∀ I2, xm I I2 → P I2 L) (b c s : Int32) :
    EI 60 mX11_next [.ref 0, .int b, .int c, .int s] I L (fun r I1 L1 => EI 60 mX12_next [.ref 58, .int b, .int c, .int s] I1 L1 (fun r' I2 L2 => r' = r ∧ P I2 L2)) := by
  have no : P I L := hP I (fun _ _ _ _ _ => rfl)
  have hnl := H.1.2.2.2.2.1
  refine sgX11_next_0 ?_
  rcases ot_ix b nl (by omega) with ho | ⟨w, hw, rfl⟩
  · refine x_hasLaw_o H ho ?_
    rw [if_pos rfl]
    refine sgX12_next_0 (m_isLaw_o H ho ?_)
    rw [if_pos rfl]; exact ⟨rfl, no⟩
  refine x_hasLaw_i H hw ?_
  rw [if_neg (by decide)]
  rcases ot_ix c nl (by omega) with ho | ⟨v, hv, rfl⟩
  · refine x_hasLaw_o H ho ?_
    rw [if_pos rfl]
    refine sgX12_next_0 (m_isLaw_i H hw ?_)
    rw [if_neg (by decide)]
    refine m_isLaw_o H ho ?_
    rw [if_pos rfl]; exact ⟨rfl, no⟩
  refine x_hasLaw_i H hv ?_
  rw [if_neg (by decide)]
  refine pX_nextLoop (d := 53) (L := L) H hw hv (fun I1 hx => ?_) npl 0 I 0 0 (by omega) xs.rf (fun b hb => by cases hb)
  have H1 := hx.told H
  refine sgX12_next_0 (m_isLaw_i H1 hw ?_)
  rw [if_neg (by decide)]
  refine m_isLaw_i H1 hv ?_
  rw [if_neg (by decide)]
  refine pM_nextLoop (d := 55) (L := L) H1 (hx.set hset) hw hv (fun I2 hm => ⟨?_, hP I2 (xm_of hx hm)⟩) npl 0 I1 0 (by omega) ms.rf (fun b hb => by cases hb)
  rw [nx_xs hx]
