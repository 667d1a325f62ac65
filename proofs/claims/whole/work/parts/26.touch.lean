/-! SETTINGS -/
def iI (t m : Nat) : Int32 := nI m - nI t
theorem iI_0 : ∀ t, t < 4 → -(nI t) = iI t 0 := by decide +kernel
theorem iI_s : ∀ t, t < 4 → ∀ m, m < 8 → iI t m + 1 = iI t (m + 1) := by decide +kernel
theorem iI_lt : ∀ t, t < 4 → ∀ m, m < 8 → ¬ (2 * t + 1 ≤ m) → ¬ nI t < iI t m := by decide +kernel
theorem iI_ge : ∀ t, t < 4 → nI t < iI t (2 * t + 1) := by decide +kernel
theorem iI_self : ∀ t, t < 4 → iI t t = 0 := by decide +kernel
def st3 (i j k : Int32) : Nat → Int32 := fun n => if n = 0 then i else if n = 1 then j else k
def vl3 (I : st_I) (w p f b : Nat) (i j k : Int32) : Int32 := LK I w (vr I p f b 0 0 0 (st3 i j k))
def le_m (m x r : Int32) : Prop := if m = 0 then r ≤ x else x ≤ r
theorem le_m_tot (m x y : Int32) : le_m m x y ∨ le_m m y x := by
  unfold le_m; split
  · exact Int32.le_total y x
  · exact Int32.le_total x y
theorem le_m_tr {m x y z : Int32} (h : le_m m x y) (g : le_m m y z) : le_m m x z := by
  unfold le_m at *; split at h
  · rw [if_pos (by assumption)] at g ⊢; exact Int32.le_trans g h
  · rw [if_neg (by assumption)] at g ⊢; exact Int32.le_trans h g
theorem le_m_rf (m x : Int32) : le_m m x x := by unfold le_m; split <;> exact Int32.le_refl x
theorem le_m_as {m x y : Int32} (h : le_m m x y) (g : le_m m y x) : x = y := by
  unfold le_m at *; split at h
  · rw [if_pos (by assumption)] at g; exact Int32.le_antisymm g h
  · rw [if_neg (by assumption)] at g; exact Int32.le_antisymm h g
/-- r is the greatest (m = 0: the least) of V -/
def isMx (m r : Int32) (V : Int32 → Prop) : Prop := V r ∧ ∀ x, V x → le_m m x r
theorem isMx_u {m r r' : Int32} {V : Int32 → Prop} (h : isMx m r V) (g : isMx m r' V) : r = r' := le_m_as (g.2 r h.1) (h.2 r' g.1)
theorem isMx_congr {m r : Int32} {V V' : Int32 → Prop} (e : ∀ x, V x ↔ V' x) (h : isMx m r V) : isMx m r V' := ⟨(e r).mp h.1, fun x hx => h.2 x ((e x).mpr hx)⟩
def bet (m v r : Int32) : Prop := if m = 0 then v < r else r < v
theorem bet_not {m v r : Int32} (h : ¬ bet m v r) : le_m m v r := by
  unfold bet at h; unfold le_m; split at h
  · rw [if_pos (by assumption)]; exact Int32.not_lt.mp h
  · rw [if_neg (by assumption)]; exact Int32.not_lt.mp h
theorem bet_le {m v r : Int32} (h : bet m v r) : le_m m r v := by
  unfold bet at h; unfold le_m; split at h
  · rw [if_pos (by assumption)]; exact Int32.le_of_lt h
  · rw [if_neg (by assumption)]; exact Int32.le_of_lt h
/-- the reference's best of V so far -/
def bs (m r some : Int32) (V : Int32 → Prop) : Prop := (some = 0 ∧ ∀ x, ¬ V x) ∨ (some = 1 ∧ isMx m r V)
theorem bs_congr {m r s : Int32} {V V' : Int32 → Prop} (e : ∀ x, V x ↔ V' x) (h : bs m r s V) : bs m r s V' := by
  rcases h with ⟨a, b⟩ | ⟨a, b⟩
  · exact Or.inl ⟨a, fun x hx => b x ((e x).mpr hx)⟩
  · exact Or.inr ⟨a, isMx_congr e b⟩
theorem bs_take {m r v : Int32} {s : Int32} {V V' : Int32 → Prop} (h : bs m r s V) (hV : ∀ x, V' x ↔ V x ∨ x = v) (hb : s = 0 ∨ bet m v r) : bs m v 1 V' := by
  refine Or.inr ⟨rfl, (hV v).mpr (Or.inr rfl), fun x hx => ?_⟩
  rcases (hV x).mp hx with q | q
  · rcases h with ⟨a, b⟩ | ⟨a, b⟩
    · exact absurd q (b x)
    · refine le_m_tr (b.2 x q) ?_
      rcases hb with z | z
      · rw [a] at z; exact absurd z (by decide)
      · exact bet_le z
  · rw [q]; exact le_m_rf m v
theorem bs_keep {m r v s : Int32} {V V' : Int32 → Prop} (h : bs m r s V) (hV : ∀ x, V' x ↔ V x ∨ x = v) (hs : ¬ s = 0) (hb : ¬ bet m v r) : bs m r s V' := by
  rcases h with ⟨a, b⟩ | ⟨a, b⟩
  · exact absurd a hs
  · refine Or.inr ⟨a, (hV r).mpr (Or.inl b.1), fun x hx => ?_⟩
    rcases (hV x).mp hx with q | q
    · exact b.2 x q
    · rw [q]; exact bet_not hb
def mt (I J : st_I) : Prop := ∀ q, q ≠ 92 → q ≠ 93 → q ≠ 94 → J q = I q
theorem mt.rf {I : st_I} : mt I I := fun _ _ _ _ => rfl
theorem mt.tr {I J K : st_I} (h : mt I J) (g : mt J K) : mt I K := fun q a b c => (g q a b c).trans (h q a b c)
theorem mt_of {I J : st_I} (h : ms I J) : mt I J := fun q a b _ => h q a b
theorem mt.told {I J : st_I} (h : mt I J) {lv nf np nb nl npl : Nat} (H : iv_told I lv nf np nb nl npl) : iv_told J lv nf np nb nl npl := iv_told_congr (fun p hp => h p (by omega) (by omega) (by omega)) (by rw [h 58 (by decide) (by decide) (by decide)]) H
theorem mt.vl {I J : st_I} (h : mt I J) (w p f b : Nat) (i j k : Int32) : vl3 J w p f b i j k = vl3 I w p f b i j k := by
  unfold vl3
  rw [LK_same (h 5 (by decide) (by decide) (by decide)) (h 6 (by decide) (by decide) (by decide)), vr_same (h 2 (by decide) (by decide) (by decide)) (h 3 (by decide) (by decide) (by decide)) (h 4 (by decide) (by decide) (by decide))]
/-- all SETTINGS of t -/
def V3 (I : st_I) (w p f b t : Nat) (x : Int32) : Prop := ∃ m1 m2 m3, m1 < 2 * t + 1 ∧ m2 < 2 * t + 1 ∧ m3 < 2 * t + 1 ∧ x = vl3 I w p f b (iI t m1) (iI t m2) (iI t m3)
theorem pM_touched {d lv nf np nb nl npl w p f b t : Nat} {m : Int32} {I : st_I} {L : st_L} {F : Int32 → st_I → st_L → Prop} (H : iv_told I lv nf np nb nl npl) (hw : w < nl) (hp : p < np) (hf : f < nf) (hb : b < nb) (ht : t < 4) (h : ∀ r J, mt I J → iv_set J → isMx m r (V3 I w p f b t) → F r J L) : EI (d + 2) mX12_touched [.ref 58, .int (nI w), .int (nI p), .int (nI f), .int (nI b), .int (nI t), .int m] I L F := by
  have key3 : ∀ (A B : Int32) (V : Int32 → Prop), (∀ r s J, mt I J → bs m r s (fun x => V x ∨ ∃ m3, m3 < 2 * t + 1 ∧ x = vl3 I w p f b A B (iI t m3)) → TI (d + 2) mX12_touched 23 [.ref 58, .int (nI w), .int (nI p), .int (nI f), .int (nI b), .int (nI t), .int m, .int r, .int s, .int A, .int (B + 1), .null, .null] [] J L F) →
      ∀ (n m3 : Nat) (r s : Int32) (J : st_I), m3 + n = 2 * t + 1 → mt I J → bs m r s (fun x => V x ∨ ∃ m', m' < m3 ∧ x = vl3 I w p f b A B (iI t m')) → TI (d + 2) mX12_touched 35 [.ref 58, .int (nI w), .int (nI p), .int (nI f), .int (nI b), .int (nI t), .int m, .int r, .int s, .int A, .int B, .int (iI t m3), .null] [] J L F := by
    intro A B V k n
    induction n with
    | zero =>
      intro m3 r s J hm hJ hbs
      obtain rfl : m3 = 2 * t + 1 := by omega
      refine sgX12_touched_35 ?_
      rw [if_pos (iI_ge t ht)]
      exact k r s J hJ hbs
    | succ n ih =>
      intro m3 r s J hm hJ hbs
      refine sgX12_touched_35 ?_
      rw [if_neg (iI_lt t ht m3 (by omega) (by omega)), iI_s t ht m3 (by omega), u_r J 94 0, r_u, r_u]
      have hJ2 : mt I (r_I J 94 (upd (upd (upd (J 94) 0 A) 1 B) 2 (iI t m3))) := fun q a b c => by rw [r_ne _ c]; exact hJ q a b c
      refine pM_likes (hJ2.told H) hw hp hf hb (Or.inl rfl) (fun K hK => ?_)
      have hJK := hJ2.tr (mt_of hK)
      have ev : LK (r_I J 94 (upd (upd (upd (J 94) 0 A) 1 B) 2 (iI t m3))) w (vr (r_I J 94 (upd (upd (upd (J 94) 0 A) 1 B) 2 (iI t m3))) p f b 0 0 0 (r_I J 94 (upd (upd (upd (J 94) 0 A) 1 B) 2 (iI t m3)) 94)) = vl3 I w p f b A B (iI t m3) := by
        rw [vr_set (s' := st3 A B (iI t m3)) (fun i hi => by
          rw [r_at]
          rcases (show i = 0 ∨ i = 1 ∨ i = 2 by omega) with e | e | e <;> subst e <;> simp [upd, st3])]
        exact hJ2.vl w p f b A B (iI t m3)
      rw [ev]
      have hV : ∀ x, (V x ∨ ∃ m', m' < m3 + 1 ∧ x = vl3 I w p f b A B (iI t m')) ↔ (V x ∨ ∃ m', m' < m3 ∧ x = vl3 I w p f b A B (iI t m')) ∨ x = vl3 I w p f b A B (iI t m3) := by
        intro x
        constructor
        · rintro (q | ⟨m', q1, q2⟩)
          · exact Or.inl (Or.inl q)
          · by_cases e : m' = m3
            · subst e; exact Or.inr q2
            · exact Or.inl (Or.inr ⟨m', by omega, q2⟩)
        · rintro ((q | ⟨m', q1, q2⟩) | q)
          · exact Or.inl q
          · exact Or.inr ⟨m', by omega, q2⟩
          · exact Or.inr ⟨m3, by omega, q⟩
      by_cases hs : s = 0
      · rw [if_pos hs]; exact ih (m3 + 1) _ _ K (by omega) hJK (bs_take hbs hV (Or.inl hs))
      rw [if_neg hs]
      by_cases hm0 : m = 0
      · rw [if_pos hm0]
        by_cases hc : vl3 I w p f b A B (iI t m3) < r
        · rw [if_pos hc]; exact ih (m3 + 1) _ _ K (by omega) hJK (bs_take hbs hV (Or.inr (by unfold bet; rw [if_pos hm0]; exact hc)))
        · rw [if_neg hc]; exact ih (m3 + 1) _ _ K (by omega) hJK (bs_keep hbs hV hs (by unfold bet; rw [if_pos hm0]; exact hc))
      · rw [if_neg hm0]
        by_cases hc : r < vl3 I w p f b A B (iI t m3)
        · rw [if_pos hc]; exact ih (m3 + 1) _ _ K (by omega) hJK (bs_take hbs hV (Or.inr (by unfold bet; rw [if_neg hm0]; exact hc)))
        · rw [if_neg hc]; exact ih (m3 + 1) _ _ K (by omega) hJK (bs_keep hbs hV hs (by unfold bet; rw [if_neg hm0]; exact hc))
  have key2 : ∀ (A : Int32) (V : Int32 → Prop), (∀ r s J, mt I J → bs m r s (fun x => V x ∨ ∃ m2, m2 < 2 * t + 1 ∧ ∃ m3, m3 < 2 * t + 1 ∧ x = vl3 I w p f b A (iI t m2) (iI t m3)) → TI (d + 2) mX12_touched 11 [.ref 58, .int (nI w), .int (nI p), .int (nI f), .int (nI b), .int (nI t), .int m, .int r, .int s, .int (A + 1), .null, .null, .null] [] J L F) →
      ∀ (n m2 : Nat) (r s : Int32) (J : st_I), m2 + n = 2 * t + 1 → mt I J → bs m r s (fun x => V x ∨ ∃ m', m' < m2 ∧ ∃ m3, m3 < 2 * t + 1 ∧ x = vl3 I w p f b A (iI t m') (iI t m3)) → TI (d + 2) mX12_touched 23 [.ref 58, .int (nI w), .int (nI p), .int (nI f), .int (nI b), .int (nI t), .int m, .int r, .int s, .int A, .int (iI t m2), .null, .null] [] J L F := by
    intro A V k n
    induction n with
    | zero =>
      intro m2 r s J hm hJ hbs
      obtain rfl : m2 = 2 * t + 1 := by omega
      refine sgX12_touched_23 ?_
      rw [if_pos (iI_ge t ht)]
      exact k r s J hJ hbs
    | succ n ih =>
      intro m2 r s J hm hJ hbs
      refine sgX12_touched_23 ?_
      rw [if_neg (iI_lt t ht m2 (by omega) (by omega)), iI_0 t ht]
      refine key3 A (iI t m2) (fun x => V x ∨ ∃ m', m' < m2 ∧ ∃ m3, m3 < 2 * t + 1 ∧ x = vl3 I w p f b A (iI t m') (iI t m3)) (fun r s K hK hb2 => ?_) (2 * t + 1) 0 r s J (by omega) hJ (bs_congr (fun x => ⟨Or.inl, fun z => z.elim id (fun ⟨_, z, _⟩ => absurd z (Nat.not_lt_zero _))⟩) hbs)
      rw [iI_s t ht m2 (by omega)]
      refine ih (m2 + 1) r s K (by omega) hK (bs_congr (fun x => ?_) hb2)
      constructor
      · rintro ((q | ⟨m', q1, q2⟩) | ⟨m3, q1, q2⟩)
        · exact Or.inl q
        · exact Or.inr ⟨m', by omega, q2⟩
        · exact Or.inr ⟨m2, by omega, m3, q1, q2⟩
      · rintro (q | ⟨m', q1, q2⟩)
        · exact Or.inl (Or.inl q)
        · by_cases e : m' = m2
          · subst e; exact Or.inr q2
          · exact Or.inl (Or.inr ⟨m', by omega, q2⟩)
  have fin : ∀ (n i : Nat) (r : Int32) (J : st_I), i + n = 3 → mt I J → (∀ j, j < i → J 94 j = 0) → isMx m r (V3 I w p f b t) → TI (d + 2) mX12_touched 138 [.ref 58, .null, .null, .null, .null, .null, .null, .int r, .null, .int (nI i), .null, .null, .null] [] J L F := by
    intro n
    induction n with
    | zero =>
      intro i r J hi hJ h0 hr
      obtain rfl : i = 3 := by omega
      refine sgX12_touched_138 ?_
      rw [if_pos (by decide)]
      exact h r J hJ h0 hr
    | succ n ih =>
      intro i r J hi hJ h0 hr
      refine sgX12_touched_138 ?_
      rw [if_neg (show ¬ (3 : Int32) ≤ nI i from nI_ge (b := 3) (by omega) (by decide)), nI_clamp (by omega), nI_1]
      refine ⟨vp_in_nI (by omega) (by decide), ih (i + 1) r _ (by omega) (fun q a b c => by rw [u_I_ne _ _ c]; exact hJ q a b c) (fun j hj => ?_) hr⟩
      by_cases e : j = i
      · subst e; simp [u_I]
      · simp only [u_I, if_true, if_neg e]; exact h0 j (by omega)
  have key1 : ∀ (n m1 : Nat) (r s : Int32) (J : st_I), m1 + n = 2 * t + 1 → mt I J → bs m r s (fun x => ∃ m', m' < m1 ∧ ∃ m2, m2 < 2 * t + 1 ∧ ∃ m3, m3 < 2 * t + 1 ∧ x = vl3 I w p f b (iI t m') (iI t m2) (iI t m3)) → TI (d + 2) mX12_touched 11 [.ref 58, .int (nI w), .int (nI p), .int (nI f), .int (nI b), .int (nI t), .int m, .int r, .int s, .int (iI t m1), .null, .null, .null] [] J L F := by
    intro n
    induction n with
    | zero =>
      intro m1 r s J hm hJ hbs
      obtain rfl : m1 = 2 * t + 1 := by omega
      refine sgX12_touched_11 ?_
      rw [if_pos (iI_ge t ht)]
      rcases hbs with ⟨a, b'⟩ | ⟨a, b'⟩
      · exact absurd ⟨0, by omega, 0, by omega, 0, by omega, rfl⟩ (b' (vl3 I w p f b (iI t 0) (iI t 0) (iI t 0)))
      · refine fin 3 0 r J rfl hJ (fun j hj => absurd hj (Nat.not_lt_zero _)) (isMx_congr (fun x => ?_) b')
        constructor
        · rintro ⟨m1, h1, m2, h2, m3, h3, e⟩; exact ⟨m1, m2, m3, h1, h2, h3, e⟩
        · rintro ⟨m1, m2, m3, h1, h2, h3, e⟩; exact ⟨m1, h1, m2, h2, m3, h3, e⟩
    | succ n ih =>
      intro m1 r s J hm hJ hbs
      refine sgX12_touched_11 ?_
      rw [if_neg (iI_lt t ht m1 (by omega) (by omega)), iI_0 t ht]
      refine key2 (iI t m1) (fun x => ∃ m', m' < m1 ∧ ∃ m2, m2 < 2 * t + 1 ∧ ∃ m3, m3 < 2 * t + 1 ∧ x = vl3 I w p f b (iI t m') (iI t m2) (iI t m3)) (fun r s K hK hb2 => ?_) (2 * t + 1) 0 r s J (by omega) hJ (bs_congr (fun x => ⟨Or.inl, fun z => z.elim id (fun ⟨_, z, _⟩ => absurd z (Nat.not_lt_zero _))⟩) hbs)
      rw [iI_s t ht m1 (by omega)]
      refine ih (m1 + 1) r s K (by omega) hK (bs_congr (fun x => ?_) hb2)
      constructor
      · rintro (⟨m', q1, q2⟩ | q2)
        · exact ⟨m', by omega, q2⟩
        · exact ⟨m1, by omega, q2⟩
      · rintro ⟨m', q1, q2⟩
        by_cases e : m' = m1
        · subst e; exact Or.inr q2
        · exact Or.inl ⟨m', by omega, q2⟩
  refine sgX12_touched_0 ?_
  rw [iI_0 t ht]
  exact key1 (2 * t + 1) 0 0 0 I (by omega) mt.rf (Or.inl ⟨rfl, fun x ⟨_, z, _⟩ => absurd z (Nat.not_lt_zero _)⟩)
