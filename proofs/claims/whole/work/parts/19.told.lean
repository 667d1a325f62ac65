theorem ms.nsit' {I J : st_I} (h : ms I J) (q : Nat) : nsit J q = nsit I q := by rw [nsit, h 7 (by decide) (by decide), ← nsit]
theorem tk_xs {I J : st_I} (h : xs I J) (w : Nat) (s : Int32) (q k : Nat) : tk J w s q k = tk I w s q k := by
  have e : sy J w s q k = sy I w s q k := by funext i; exact h.sy w s q k i
  rw [tk, tk, e, nord, nord, h 8 (by decide) (by decide)]
theorem tk_ms {I J : st_I} (h : ms I J) (w : Nat) (s : Int32) (q k : Nat) : tk J w s q k = tk I w s q k := by
  have e : sy J w s q k = sy I w s q k := by funext i; exact h.sy w s q k i
  rw [tk, tk, e, nord, nord, h 8 (by decide) (by decide)]
theorem xs.tk' {I J : st_I} (h : xs I J) (w : Nat) (s : Int32) (q k : Nat) : tk J w s q k = tk I w s q k := tk_xs h w s q k
theorem ms.tk' {I J : st_I} (h : ms I J) (w : Nat) (s : Int32) (q k : Nat) : tk J w s q k = tk I w s q k := tk_ms h w s q k
/-- how many k below n hold p -/
def cn (p : Nat → Bool) : Nat → Nat
  | 0 => 0
  | n + 1 => cn p n + if p n then 1 else 0
theorem cn_le (p : Nat → Bool) : ∀ n, cn p n ≤ n
  | 0 => Nat.le_refl _
  | n + 1 => by rw [cn]; have := cn_le p n; split <;> omega
theorem cn_congr {p p' : Nat → Bool} {n : Nat} (h : ∀ k, k < n → p k = p' k) : cn p n = cn p' n := by
  induction n with
  | zero => rfl
  | succ n ih => rw [cn, cn, ih (fun k hk => h k (by omega)), h n (by omega)]
/-- PARTS -/
def pt (I : st_I) (w v : Nat) (s : Int32) (q : Nat) : Nat := cn (fun k => !(tk I w s q k == tk I v s q k)) (nsit I q)
theorem pX_unlike {d lv nf np nb nl npl q w v : Nat} {s : Int32} {I : st_I} {L : st_L} {F : Int32 → st_I → st_L → Prop} (H : iv_told I lv nf np nb nl npl) (hq : q < npl) (hw : w < nl) (hv : v < nl) (h : ∀ I', xs I I' → F (nI (pt I w v s q)) I' L) : EI (d + 6) mX7_unlike [.ref 25, .ref 1, .int (nI q), .int (nI w), .int (nI v), .int s] I L F := by
  have h4 := H.1.2.2.2.2.2.1
  obtain ⟨e1, e2, e3, e4⟩ := nsit_eq (H.2.2.2.2.2 q hq)
  have key : ∀ (r k : Nat) (J : st_I), k + r = nsit I q → xs I J → TI (d + 6) mX7_unlike 6 [.ref 25, .ref 1, .int (nI q), .int (nI w), .int (nI v), .int s, .int (nI (cn (fun k => !(tk I w s q k == tk I v s q k)) k)), .int (nI k)] [] J L F := by
    intro r
    induction r with
    | zero =>
      intro k J hk hJ
      obtain rfl : k = nsit I q := by omega
      refine sgX7_unlike_6 (x_sits_i (hJ.told H) hq ?_)
      rw [hJ.nsit', if_pos (nI_le (Nat.le_refl _) (by omega))]
      exact h J hJ
    | succ r ih =>
      intro k J hk hJ
      refine sgX7_unlike_6 (x_sits_i (hJ.told H) hq ?_)
      rw [hJ.nsit', if_neg (nI_ge (by omega) (by omega))]
      refine pX_choice (hJ.told H) hw hq (by rw [hJ.nsit']; omega) (hJ.sit (e4 k (by omega))) (fun J1 x1 => ?_)
      refine pX_choice (x1.told (hJ.told H)) hv hq (by rw [x1.nsit', hJ.nsit']; omega) (x1.sit (hJ.sit (e4 k (by omega)))) (fun J2 x2 => ?_)
      have hJ2 := (hJ.tr x1).tr x2
      rw [(hJ.tr x1).tk', hJ.tk', nI_1, nI_1]
      have := ih (k + 1) J2 (by omega) hJ2
      rw [cn] at this
      by_cases e : tk I w s q k = tk I v s q k
      · rw [if_pos e]; simpa [e] using this
      · rw [if_neg e]; simpa [e] using this
  exact sgX7_unlike_0 (key (nsit I q) 0 I (by omega) xs.rf)
theorem pM_parts {d lv nf np nb nl npl q w v : Nat} {s : Int32} {I : st_I} {L : st_L} {F : Int32 → st_I → st_L → Prop} (H : iv_told I lv nf np nb nl npl) (hset : iv_set I) (hq : q < npl) (hw : w < nl) (hv : v < nl) (h : ∀ I', ms I I' → F (nI (pt I w v s q)) I' L) : EI (d + 4) mX12_partsOf [.ref 58, .int (nI q), .int (nI w), .int (nI v), .int s] I L F := by
  have h4 := H.1.2.2.2.2.2.1; have hlv := H.1.1; have h18 := H.1.2.2.2.2.2.2.1
  obtain ⟨e1, e2, e3, e4⟩ := nsit_eq (H.2.2.2.2.2 q hq)
  have key : ∀ (r k : Nat) (J : st_I), k + r = nsit I q → ms I J → TI (d + 4) mX12_partsOf 6 [.ref 58, .int (nI q), .int (nI w), .int (nI v), .int s, .int (nI (cn (fun k => !(tk I w s q k == tk I v s q k)) k)), .int (nI k)] [] J L F := by
    intro r
    induction r with
    | zero =>
      intro k J hk hJ
      obtain rfl : k = nsit I q := by omega
      refine sgX12_partsOf_6 ?_
      rw [hJ 58 (by decide) (by decide), h18, show (4 : Int32) * nI lv + nI q = nI (4 * lv + q) from mx 4 lv q, nI_clamp (by omega), hJ 83 (by decide) (by decide), e2, if_pos (nI_le (Nat.le_refl _) (by omega))]
      exact ⟨vp_in_nI (by omega) (by decide), h J hJ⟩
    | succ r ih =>
      intro k J hk hJ
      refine sgX12_partsOf_6 ?_
      rw [hJ 58 (by decide) (by decide), h18, show (4 : Int32) * nI lv + nI q = nI (4 * lv + q) from mx 4 lv q, nI_clamp (by omega), hJ 83 (by decide) (by decide), e2, if_neg (nI_ge (by omega) (by omega))]
      refine ⟨vp_in_nI (by omega) (by decide), pM_takenIn (hJ.told H) (hJ.set hset) hw (by omega) (by omega) (hJ.sit (e4 k (by omega))) (fun J1 x1 => ?_)⟩
      refine pM_takenIn (x1.told (hJ.told H)) (x1.set (hJ.set hset)) hv (by omega) (by omega) (x1.sit (hJ.sit (e4 k (by omega)))) (fun J2 x2 => ?_)
      have hJ2 := (hJ.tr x1).tr x2
      rw [(hJ.tr x1).tk', hJ.tk', nI_1, nI_1]
      have := ih (k + 1) J2 (by omega) hJ2
      rw [cn] at this
      by_cases e : tk I w s q k = tk I v s q k
      · rw [if_pos e]; simpa [e] using this
      · rw [if_neg e]; simpa [e] using this
  exact sgX12_partsOf_0 (key (nsit I q) 0 I (by omega) ms.rf)
theorem xs.pt' {I J : st_I} (h : xs I J) (w v : Nat) (s : Int32) (q : Nat) : pt J w v s q = pt I w v s q := by
  unfold pt
  rw [h.nsit']; exact cn_congr (fun k _ => by rw [h.tk', h.tk'])
theorem ms.pt' {I J : st_I} (h : ms I J) (w v : Nat) (s : Int32) (q : Nat) : pt J w v s q = pt I w v s q := by
  unfold pt
  rw [h.nsit']; exact cn_congr (fun k _ => by rw [h.tk', h.tk'])
theorem op_parts {lv nf np nb nl npl : Nat} {I : st_I} {L : st_L} {P : st_I → st_L → Prop} (H : iv_told I lv nf np nb nl npl) (hset : iv_set I) (hP : ∀ I2, xm I I2 → P I2 L) (a b c s : Int32) :
    EI 60 mX11_parts [.ref 0, .int a, .int b, .int c, .int s] I L (fun r I1 L1 => EI 60 mX12_parts [.ref 58, .int a, .int b, .int c, .int s] I1 L1 (fun r' I2 L2 => r' = r ∧ P I2 L2)) := by
  have no : P I L := hP I (fun _ _ _ _ _ => rfl)
  have bd := H.1
  have hnl := bd.2.2.2.2.1
  refine sgX11_parts_0 ?_
  rcases ot_ix a npl (by have := bd.2.2.2.2.2.1; omega) with ho | ⟨q, hq, rfl⟩
  · refine x_hasPlan_o H ho ?_
    rw [if_pos rfl]
    refine sgX12_parts_0 (m_isPlan_o H ho ?_)
    rw [if_pos rfl]; exact ⟨rfl, no⟩
  refine x_hasPlan_i H hq ?_
  rw [if_neg (by decide)]
  rcases ot_ix b nl (by omega) with ho | ⟨w, hw, rfl⟩
  · refine x_hasLaw_o H ho ?_
    rw [if_pos rfl]
    refine sgX12_parts_0 (m_isPlan_i H hq ?_)
    rw [if_neg (by decide)]
    refine m_isLaw_o H ho ?_
    rw [if_pos rfl]; exact ⟨rfl, no⟩
  refine x_hasLaw_i H hw ?_
  rw [if_neg (by decide)]
  rcases ot_ix c nl (by omega) with ho | ⟨v, hv, rfl⟩
  · refine x_hasLaw_o H ho ?_
    rw [if_pos rfl]
    refine sgX12_parts_0 (m_isPlan_i H hq ?_)
    rw [if_neg (by decide)]
    refine m_isLaw_i H hw ?_
    rw [if_neg (by decide)]
    refine m_isLaw_o H ho ?_
    rw [if_pos rfl]; exact ⟨rfl, no⟩
  refine x_hasLaw_i H hv ?_
  rw [if_neg (by decide)]
  refine pX_unlike H hq hw hv (fun I1 hx => ?_)
  have H1 := hx.told H
  refine sgX12_parts_0 (m_isPlan_i H1 hq ?_)
  rw [if_neg (by decide)]
  refine m_isLaw_i H1 hw ?_
  rw [if_neg (by decide)]
  refine m_isLaw_i H1 hv ?_
  rw [if_neg (by decide)]
  refine pM_parts H1 (hx.set hset) hq hw hv (fun I2 hm => ⟨?_, hP I2 (xm_of hx hm)⟩)
  rw [hx.pt']
/-- THE NEXT PLAN, of the first n -/
def nx (I : st_I) (w v : Nat) (s : Int32) : Nat → Option Nat
  | 0 => none
  | n + 1 => match nx I w v s n with
    | none => some n
    | some b => if pt I w v s n < pt I w v s b ∨ (pt I w v s n = pt I w v s b ∧ nsit I b ≤ nsit I n) then some b else some n
theorem nx_lt {I : st_I} {w v : Nat} {s : Int32} : ∀ {n b : Nat}, nx I w v s n = some b → b < n
  | 0, b, h => by cases h
  | n + 1, b, h => by
    rw [nx] at h
    cases e : nx I w v s n with
    | none => rw [e] at h; have := Option.some.inj h; omega
    | some c =>
      rw [e] at h
      have := nx_lt e
      dsimp only at h
      split at h
      · have := Option.some.inj h; omega
      · have := Option.some.inj h; omega
def nxv (o : Option Nat) : Int32 := match o with
  | none => -2
  | some b => nI b
