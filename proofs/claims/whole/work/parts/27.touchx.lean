/-- LAW w names VAR s -/
def usd (I : st_I) (w s : Nat) : Prop := ∃ j, j < (I 6 w).toNatClampNeg - lw_a I w ∧ I 5 (lw_a I w + j) = -(nI (128 + s))
theorem var_m : ∀ s, s < 3 → (-128 : Int32) - nI s = -(nI (128 + s)) := by decide +kernel
theorem var_inj : ∀ i, i < 12 → ∀ s, s < 12 → -(nI (128 + i)) = -(nI (128 + s)) → i = s := by decide +kernel
theorem pX_reach {d lv nf np nb nl npl w s t : Nat} {I : st_I} {L : st_L} {F : Int32 → st_I → st_L → Prop} (H : iv_told I lv nf np nb nl npl) (hw : w < nl) (hs : s < 3) (h : ∀ rr, (rr = t ∨ (rr = 0 ∧ ¬ usd I w s)) → F (nI rr) I L) : EI (d + 2) mX7_reach [.ref 1, .int (nI w), .int (nI s), .int (nI t)] I L F := by
  have h6 := H.1.2.2.2.2.1
  obtain ⟨a, b, n, e1, e2, e3, e4, e5, e6, e7, e8⟩ := H.2.2.2.2.1 w hw
  have key : ∀ (r j : Nat), j + r = n → (∀ i, i < j → ¬ I 5 (a + i) = -(nI (128 + s))) → TI (d + 2) mX7_reach 14 [.ref 1, .null, .int (nI s), .int (nI t), .int (nI (a + n)), .int (nI (a + j))] [] I L F := by
    intro r
    induction r with
    | zero =>
      intro j hj hn
      obtain rfl : j = n := by omega
      refine sgX7_reach_14 ?_
      rw [if_pos (nI_le (Nat.le_refl _) (by omega))]
      refine h 0 (Or.inr ⟨rfl, ?_⟩)
      rintro ⟨i, hi, q⟩
      rw [e1, e2, nI_clamp (by omega), Nat.add_sub_cancel_left] at hi
      rw [e2] at q
      exact hn i hi q
    | succ r ih =>
      intro j hj hn
      refine sgX7_reach_14 ?_
      rw [if_neg (nI_ge (by omega) (by omega)), nI_clamp (by omega), var_m s hs]
      refine ⟨vp_in_nI (by omega) (by decide), ?_⟩
      by_cases q : I 5 (a + j) = -(nI (128 + s))
      · rw [if_pos q]; exact h t (Or.inl rfl)
      · rw [if_neg q, nI_1, Nat.add_assoc]
        refine ih (j + 1) (by omega) (fun i hi => ?_)
        by_cases e : i = j
        · subst e; exact q
        · exact hn i (by omega)
  refine sgX7_reach_0 (x_lawEnd H hw (x_lawStart H hw (by omega) ?_))
  rw [e1, e2]
  exact key n 0 (by omega) (fun i hi => absurd hi (Nat.not_lt_zero _))
theorem lq_usd {c v v' : Nat → Int32} {a n : Nat} (hc : ∀ j, j < n → cd_ok (c (a + j))) (hv : ∀ i, i < 12 → (∃ j, j < n ∧ c (a + j) = -(nI (128 + i))) → v i = v' i) : ∀ j, j ≤ n → lq c v a j = lq c v' a j := by
  intro j
  induction j with
  | zero => intro _; rfl
  | succ j ih =>
    intro hj
    have e := ih (by omega)
    rw [lq, lq, e]
    rcases hc j (by omega) with ⟨m, hm, hx⟩ | ⟨m, hm, hx⟩ | hx | hx | hx | hx | hx
    · rw [hx, if_pos (nI_pos' (by omega)), if_pos (nI_pos' (by omega))]
    · obtain ⟨v1, v2, v3, v4, v5⟩ := cd_var m hm
      have := hv m hm ⟨j, by omega, hx⟩
      rw [hx, if_neg v1, if_pos v2, if_neg v1, if_pos v2, v4, nI_clamp (by omega), this]
    all_goals
      rw [hx, if_neg (by decide), if_neg (by decide), if_neg (by decide), if_neg (by decide)]
theorem LK_usd {I : st_I} {lv w : Nat} {v v' : Nat → Int32} (h : iv_law I lv w) (hv : ∀ i, i < 12 → usd I w i → v i = v' i) : LK I w v = LK I w v' := by
  obtain ⟨a, b, n, e1, e2, e3, e4, e5, e6, e7, e8⟩ := h
  rw [LK_eq e1 e2 e3, LK_eq e1 e2 e3, lq_usd (fun j hj => iv_code_ok (e8 j hj)) (fun i hi ⟨j, hj, q⟩ => hv i hi ⟨j, by rw [e1, e2, nI_clamp (by omega), Nat.add_sub_cancel_left]; exact hj, by rw [e2]; exact q⟩) n (Nat.le_refl _)]
theorem vl_usd {I : st_I} {lv w p f b : Nat} {i j k i' j' k' : Int32} (h : iv_law I lv w) (h0 : usd I w 0 → i = i') (h1 : usd I w 1 → j = j') (h2 : usd I w 2 → k = k') : vl3 I w p f b i j k = vl3 I w p f b i' j' k' := by
  refine LK_usd h (fun z hz hu => ?_)
  simp only [vr]
  by_cases e : z < 3
  · rw [if_pos e, if_pos e]
    congr 1
    rcases (show z = 0 ∨ z = 1 ∨ z = 2 by omega) with q | q | q <;> subst q
    · simp only [st3, if_true]; exact h0 hu
    · simp only [st3, show (1 : Nat) = 0 ↔ False by decide, if_true, if_false]; exact h1 hu
    · simp only [st3, show (2 : Nat) = 0 ↔ False by decide, show (2 : Nat) = 1 ↔ False by decide, if_false]; exact h2 hu
  · rw [if_neg e, if_neg e]
/-- the class's best: or nothing that passes where it began -/
def bx (m r : Int32) (V : Int32 → Prop) : Prop := (∀ x, V x → le_m m x r) ∧ (V r ∨ ∀ y, le_m m r y)
theorem bx_congr {m r : Int32} {V V' : Int32 → Prop} (e : ∀ x, V x ↔ V' x) (h : bx m r V) : bx m r V' := ⟨fun x hx => h.1 x ((e x).mpr hx), h.2.elim (fun z => Or.inl ((e r).mp z)) Or.inr⟩
theorem bx_mx {m r v : Int32} {V : Int32 → Prop} (h : bx m r V) (hv : V v) : isMx m r V := by
  rcases h.2 with z | z
  · exact ⟨z, h.1⟩
  · have e : v = r := le_m_as (h.1 v hv) (z v)
    exact ⟨e ▸ hv, h.1⟩
def cmb (m v r : Int32) : Int32 := if m = 0 then (if v < r then v else r) else (if r < v then v else r)
theorem cmb_or (m v r : Int32) : (cmb m v r = v ∧ le_m m r v) ∨ (cmb m v r = r ∧ le_m m v r) := by
  unfold cmb le_m
  split
  · split
    · exact Or.inl ⟨rfl, Int32.le_of_lt (by assumption)⟩
    · exact Or.inr ⟨rfl, Int32.not_lt.mp (by assumption)⟩
  · split
    · exact Or.inl ⟨rfl, Int32.le_of_lt (by assumption)⟩
    · exact Or.inr ⟨rfl, Int32.not_lt.mp (by assumption)⟩
theorem bx_step {m r v : Int32} {V S V' : Int32 → Prop} (h : bx m r V) (g : isMx m v S) (e : ∀ x, V' x ↔ V x ∨ S x) : bx m (cmb m v r) V' := by
  rcases cmb_or m v r with ⟨q, z⟩ | ⟨q, z⟩
  · rw [q]
    refine ⟨fun x hx => ?_, Or.inl ((e v).mpr (Or.inr g.1))⟩
    rcases (e x).mp hx with y | y
    · exact le_m_tr (h.1 x y) z
    · exact g.2 x y
  · rw [q]
    refine ⟨fun x hx => ?_, h.2.elim (fun y => Or.inl ((e r).mpr (Or.inl y))) Or.inr⟩
    rcases (e x).mp hx with y | y
    · exact h.1 x y
    · exact le_m_tr (g.2 x y) z
theorem bx_max : ∀ y, le_m 0 2147483647 y := fun y => by unfold le_m; rw [if_pos rfl]; exact Int32.le_maxValue y
theorem bx_min {m : Int32} (h : ¬ m = 0) : ∀ y, le_m m (-2147483648) y := fun y => by unfold le_m; rw [if_neg h]; exact Int32.minValue_le y
theorem xs.vl {I J : st_I} (h : xs I J) (w p f b : Nat) (i j k : Int32) : vl3 J w p f b i j k = vl3 I w p f b i j k := by
  unfold vl3
  rw [LK_same (h 5 (by decide) (by decide)) (h 6 (by decide) (by decide)), vr_same (h 2 (by decide) (by decide)) (h 3 (by decide) (by decide)) (h 4 (by decide) (by decide))]
/-- the VARs but for some of the SOUNDS -/
def va3 (I J : st_I) (p f b n : Nat) (i j k : Int32) : Prop := ∀ z, z < 12 → n ≤ z ∨ z = 2 → J 26 z = vr I p f b 0 0 0 (st3 i j k) z
theorem vr_z {I : st_I} {p f b z : Nat} {s s' : Nat → Int32} (h : z < 3 → s z = s' z) : vr I p f b 0 0 0 s z = vr I p f b 0 0 0 s' z := by
  simp only [vr]
  by_cases e : z < 3
  · rw [if_pos e, if_pos e, h e]
  · rw [if_neg e, if_neg e]
theorem pX_quick {d lv nf np nb nl npl w p f b r2 : Nat} {m A B : Int32} {I : st_I} {L : st_L} {F : Int32 → st_I → st_L → Prop} (H : iv_told I lv nf np nb nl npl) (hw : w < nl) (hr : r2 < 4) (J0 : st_I) (hJ0 : xs I J0) (hv : ∀ z, z < 12 → J0 26 z = vr I p f b 0 0 0 (st3 A B 0) z) (h : ∀ r J, xs I J → (∀ z, z < 12 → J 26 z = vr I p f b 0 0 0 (st3 A B 0) z) → isMx m r (fun x => ∃ m3, m3 < 2 * r2 + 1 ∧ x = vl3 I w p f b A B (iI r2 m3)) → F r J L) : EI (d + 3) mX7_extremeOfQuick [.ref 25, .ref 1, .int (nI w), .int (nI r2), .int m] J0 L F := by
  have q2 : J0 26 2 = I 2 (5 * f + 1 + 2) + I 4 (3 * b + 2) + 0 := by rw [hv 2 (by decide)]; simp [vr, st3]
  have key : ∀ (n m3 : Nat) (r : Int32) (J : st_I), m3 + n = 2 * r2 + 1 → xs I J → (∀ z, z < 12 → z ≠ 2 → J 26 z = vr I p f b 0 0 0 (st3 A B 0) z) → bx m r (fun x => ∃ m', m' < m3 ∧ x = vl3 I w p f b A B (iI r2 m')) → TI (d + 3) mX7_extremeOfQuick 26 [.ref 25, .ref 1, .int (nI w), .int (nI r2), .int m, .int (J0 26 2), .int r, .int (iI r2 m3), .null] [] J L F := by
    intro n
    induction n with
    | zero =>
      intro m3 r J hm hJ hz hb
      obtain rfl : m3 = 2 * r2 + 1 := by omega
      refine sgX7_extremeOfQuick_26 ?_
      rw [if_pos (iI_ge r2 hr), u_r]
      refine h r _ (hJ.r26 _) (fun z h12 => ?_) (bx_mx hb ⟨0, by omega, rfl⟩)
      rw [r_at]
      by_cases e : z = 2
      · subst e; simp only [upd, if_true]; exact hv 2 h12
      · simp only [upd, if_neg e]; exact hz z h12 e
    | succ n ih =>
      intro m3 r J hm hJ hz hb
      refine sgX7_extremeOfQuick_26 ?_
      rw [if_neg (iI_lt r2 hr m3 (by omega) (by omega)), iI_s r2 hr m3 (by omega), u_r]
      have hJ2 := hJ.r26 (upd (J 26) 2 (J0 26 2 + iI r2 m3))
      refine pX_likeT (hJ2.told H) hw (fun K hK k26 => ?_)
      have ev : LK (r_I J 26 (upd (J 26) 2 (J0 26 2 + iI r2 m3))) w (r_I J 26 (upd (J 26) 2 (J0 26 2 + iI r2 m3)) 26) = vl3 I w p f b A B (iI r2 m3) := by
        rw [LK_same (hJ2 5 (by decide) (by decide)) (hJ2 6 (by decide) (by decide)), vl3]
        refine LK_congr (H.2.2.2.2.1 w hw) (fun z h12 => ?_)
        rw [r_at]
        by_cases e : z = 2
        · subst e
          simp only [upd, if_true, q2, vr, st3, show (2 : Nat) < 3 ↔ True by decide, show (2 : Nat) = 0 ↔ False by decide, show (2 : Nat) = 1 ↔ False by decide, if_false, Int32.add_zero]
        · simp only [upd, if_neg e]
          rw [hz z h12 e]
          refine vr_z (fun h3 => ?_)
          rcases (show z = 0 ∨ z = 1 by omega) with q | q <;> subst q <;> simp [st3]
      rw [ev]
      have hK1 := hJ2.tr hK
      have hz1 : ∀ z, z < 12 → z ≠ 2 → K 26 z = vr I p f b 0 0 0 (st3 A B 0) z := fun z h12 e => by
        rw [k26, r_at]; simp only [upd, if_neg e]; exact hz z h12 e
      have st := bx_step (V' := fun x => ∃ m', m' < m3 + 1 ∧ x = vl3 I w p f b A B (iI r2 m')) hb (show isMx m (vl3 I w p f b A B (iI r2 m3)) (fun x => x = vl3 I w p f b A B (iI r2 m3)) from ⟨rfl, fun x hx => by rw [hx]; exact le_m_rf _ _⟩) (fun x => by
        constructor
        · rintro ⟨m', h1, h2⟩
          by_cases e : m' = m3
          · subst e; exact Or.inr h2
          · exact Or.inl ⟨m', by omega, h2⟩
        · rintro (⟨m', h1, h2⟩ | h2)
          · exact ⟨m', by omega, h2⟩
          · exact ⟨m3, by omega, h2⟩)
      have := ih (m3 + 1) _ K (by omega) hK1 hz1 st
      unfold cmb at this
      by_cases hm0 : m = 0
      · rw [if_pos hm0] at this ⊢; exact this
      · rw [if_neg hm0] at this ⊢; exact this
  refine sgX7_extremeOfQuick_0 ?_
  rw [iI_0 r2 hr]
  by_cases hm0 : m = 0
  · rw [if_pos hm0]
    subst hm0
    exact key (2 * r2 + 1) 0 _ J0 (by omega) hJ0 (fun z h12 _ => hv z h12) ⟨fun x ⟨_, q, _⟩ => absurd q (Nat.not_lt_zero _), Or.inr bx_max⟩
  · rw [if_neg hm0]
    exact key (2 * r2 + 1) 0 _ J0 (by omega) hJ0 (fun z h12 _ => hv z h12) ⟨fun x ⟨_, q, _⟩ => absurd q (Nat.not_lt_zero _), Or.inr (bx_min hm0)⟩
theorem iI_z : iI 0 0 = 0 := by decide +kernel
theorem pX_extreme {d lv nf np nb nl npl w p f b t : Nat} {m : Int32} {I : st_I} {L : st_L} {F : Int32 → st_I → st_L → Prop} (H : iv_told I lv nf np nb nl npl) (hw : w < nl) (ht : t < 4) (J0 : st_I) (hJ0 : xs I J0) (hv : ∀ z, z < 12 → J0 26 z = vr I p f b 0 0 0 s0 z) (h : ∀ r J, xs I J → isMx m r (V3 I w p f b t) → F r J L) : EI (d + 4) mX7_extreme [.ref 25, .ref 1, .int (nI w), .int (nI t), .int m] J0 L F := by
  have hl := H.2.2.2.2.1 w hw
  have H0 := hJ0.told H
  have us : ∀ s, usd J0 w s ↔ usd I w s := fun s => by
    have e5 := hJ0 5 (by decide) (by decide); have e6 := hJ0 6 (by decide) (by decide)
    unfold usd lw_a; rw [e5, e6]
  have q0 : J0 26 0 = I 2 (5 * f + 1 + 0) + I 4 (3 * b + 0) := by rw [hv 0 (by decide)]; simp [vr, s0]
  have q1 : J0 26 1 = I 2 (5 * f + 1 + 1) + I 4 (3 * b + 1) := by rw [hv 1 (by decide)]; simp [vr, s0]
  refine sgX7_extreme_0 (pX_reach (s := 0) H0 hw (by decide) (fun b0 hb0 => pX_reach (s := 1) H0 hw (by decide) (fun b1 hb1 => pX_reach (s := 2) H0 hw (by decide) (fun b2 hb2 => ?_))))
  rw [us] at hb0 hb1 hb2
  have l0 : b0 < 4 := by omega
  have l1 : b1 < 4 := by omega
  have l2 : b2 < 4 := by omega
  -- the reduced SETTINGS are enough
  have fin : ∀ r J, xs I J → isMx m r (fun x => ∃ m1, m1 < 2 * b0 + 1 ∧ ∃ m2, m2 < 2 * b1 + 1 ∧ ∃ m3, m3 < 2 * b2 + 1 ∧ x = vl3 I w p f b (iI b0 m1) (iI b1 m2) (iI b2 m3)) → F r J L := by
    intro r J hJ hr
    refine h r J hJ (isMx_congr (fun x => ?_) hr)
    have dn : ∀ (s bb : Nat), bb = t ∨ (bb = 0 ∧ ¬ usd I w s) → ∀ m1, m1 < 2 * bb + 1 → ∃ m', m' < 2 * t + 1 ∧ (usd I w s → iI bb m1 = iI t m') := by
      intro s bb hbb m1 h1
      rcases hbb with e | ⟨e, u⟩
      · subst e; exact ⟨m1, h1, fun _ => rfl⟩
      · exact ⟨t, by omega, fun z => absurd z u⟩
    have up : ∀ (s bb : Nat), bb = t ∨ (bb = 0 ∧ ¬ usd I w s) → ∀ m1, m1 < 2 * t + 1 → ∃ m', m' < 2 * bb + 1 ∧ (usd I w s → iI t m1 = iI bb m') := by
      intro s bb hbb m1 h1
      rcases hbb with e | ⟨e, u⟩
      · subst e; exact ⟨m1, h1, fun _ => rfl⟩
      · exact ⟨0, by omega, fun z => absurd z u⟩
    constructor
    · rintro ⟨m1, h1, m2, h2, m3, h3, e⟩
      obtain ⟨n1, g1, f1⟩ := dn 0 b0 hb0 m1 h1
      obtain ⟨n2, g2, f2⟩ := dn 1 b1 hb1 m2 h2
      obtain ⟨n3, g3, f3⟩ := dn 2 b2 hb2 m3 h3
      exact ⟨n1, n2, n3, g1, g2, g3, by rw [e]; exact vl_usd hl f1 f2 f3⟩
    · rintro ⟨m1, m2, m3, h1, h2, h3, e⟩
      obtain ⟨n1, g1, f1⟩ := up 0 b0 hb0 m1 h1
      obtain ⟨n2, g2, f2⟩ := up 1 b1 hb1 m2 h2
      obtain ⟨n3, g3, f3⟩ := up 2 b2 hb2 m3 h3
      exact ⟨n1, g1, n2, g2, n3, g3, by rw [e]; exact vl_usd hl f1 f2 f3⟩
  have key2 : ∀ (A : Int32) (xa : Int32) (V : Int32 → Prop), (∀ r J, xs I J → (∀ z, z < 12 → 2 ≤ z → J 26 z = vr I p f b 0 0 0 s0 z) → bx m r (fun x => V x ∨ ∃ m2, m2 < 2 * b1 + 1 ∧ ∃ m3, m3 < 2 * b2 + 1 ∧ x = vl3 I w p f b A (iI b1 m2) (iI b2 m3)) → TI (d + 4) mX7_extreme 62 [.ref 25, .ref 1, .int (nI w), .null, .int m, .int (J0 26 0), .int (J0 26 1), .int (nI b0), .int (nI b1), .int (nI b2), .int r, .int (xa + 1), .null, .null] [] J L F) →
      ∀ (n m2 : Nat) (r : Int32) (J : st_I), m2 + n = 2 * b1 + 1 → xs I J → J 26 0 = J0 26 0 + A → (∀ z, z < 12 → 2 ≤ z → J 26 z = vr I p f b 0 0 0 s0 z) → bx m r (fun x => V x ∨ ∃ m', m' < m2 ∧ ∃ m3, m3 < 2 * b2 + 1 ∧ x = vl3 I w p f b A (iI b1 m') (iI b2 m3)) → TI (d + 4) mX7_extreme 85 [.ref 25, .ref 1, .int (nI w), .null, .int m, .int (J0 26 0), .int (J0 26 1), .int (nI b0), .int (nI b1), .int (nI b2), .int r, .int xa, .int (iI b1 m2), .null] [] J L F := by
    intro A xa V k n
    induction n with
    | zero =>
      intro m2 r J hm hJ hA hz hb
      obtain rfl : m2 = 2 * b1 + 1 := by omega
      refine sgX7_extreme_85 ?_
      rw [if_pos (iI_ge b1 l1)]
      exact k r J hJ hz hb
    | succ n ih =>
      intro m2 r J hm hJ hA hz hb
      refine sgX7_extreme_85 ?_
      rw [if_neg (iI_lt b1 l1 m2 (by omega) (by omega)), iI_s b1 l1 m2 (by omega), u_r]
      refine pX_quick (p := p) (f := f) (b := b) (A := A) (B := iI b1 m2) (I := I) H hw l2 (r_I J 26 (upd (J 26) 1 (J0 26 1 + iI b1 m2))) (hJ.r26 _) (fun z h12 => ?_) (fun r1 K hK hk hr1 => ?_)
      · rw [r_at]
        by_cases e : z = 1
        · subst e
          simp only [upd, if_true, q1, vr, st3, show (1 : Nat) < 3 ↔ True by decide, show (1 : Nat) = 0 ↔ False by decide, if_false]
        · simp only [upd, if_neg e]
          by_cases e0 : z = 0
          · subst e0
            rw [hA, q0]
            simp only [vr, st3, show (0 : Nat) < 3 ↔ True by decide, if_true]
          · rw [hz z h12 (by omega)]
            refine vr_z (fun h3 => ?_)
            obtain rfl : z = 2 := by omega
            simp [st3, s0]
      · have hA1 : K 26 0 = J0 26 0 + A := by
          rw [hk 0 (by decide), q0]
          simp only [vr, st3, show (0 : Nat) < 3 ↔ True by decide, if_true]
        have hz1 : ∀ z, z < 12 → 2 ≤ z → K 26 z = vr I p f b 0 0 0 s0 z := fun z h12 h2 => by
          rw [hk z h12]
          refine vr_z (fun h3 => ?_)
          obtain rfl : z = 2 := by omega
          simp [st3, s0]
        have st := bx_step (V' := fun x => V x ∨ ∃ m', m' < m2 + 1 ∧ ∃ m3, m3 < 2 * b2 + 1 ∧ x = vl3 I w p f b A (iI b1 m') (iI b2 m3)) hb hr1 (fun x => by
          constructor
          · rintro (q | ⟨m', h1, h2⟩)
            · exact Or.inl (Or.inl q)
            · by_cases e : m' = m2
              · subst e; exact Or.inr h2
              · exact Or.inl (Or.inr ⟨m', by omega, h2⟩)
          · rintro ((q | ⟨m', h1, h2⟩) | h2)
            · exact Or.inl q
            · exact Or.inr ⟨m', by omega, h2⟩
            · exact Or.inr ⟨m2, by omega, h2⟩)
        have := ih (m2 + 1) _ K (by omega) hK hA1 hz1 st
        unfold cmb at this
        by_cases hm0 : m = 0
        · rw [if_pos hm0] at this ⊢; exact this
        · rw [if_neg hm0] at this ⊢; exact this
  have key1 : ∀ (n m1 : Nat) (r : Int32) (J : st_I), m1 + n = 2 * b0 + 1 → xs I J → (∀ z, z < 12 → 2 ≤ z → J 26 z = vr I p f b 0 0 0 s0 z) → bx m r (fun x => ∃ m', m' < m1 ∧ ∃ m2, m2 < 2 * b1 + 1 ∧ ∃ m3, m3 < 2 * b2 + 1 ∧ x = vl3 I w p f b (iI b0 m') (iI b1 m2) (iI b2 m3)) → TI (d + 4) mX7_extreme 62 [.ref 25, .ref 1, .int (nI w), .null, .int m, .int (J0 26 0), .int (J0 26 1), .int (nI b0), .int (nI b1), .int (nI b2), .int r, .int (iI b0 m1), .null, .null] [] J L F := by
    intro n
    induction n with
    | zero =>
      intro m1 r J hm hJ hz hb
      obtain rfl : m1 = 2 * b0 + 1 := by omega
      refine sgX7_extreme_62 ?_
      rw [if_pos (iI_ge b0 l0)]
      exact fin r J hJ (bx_mx hb ⟨0, by omega, 0, by omega, 0, by omega, rfl⟩)
    | succ n ih =>
      intro m1 r J hm hJ hz hb
      refine sgX7_extreme_62 ?_
      rw [if_neg (iI_lt b0 l0 m1 (by omega) (by omega)), iI_0 b1 l1, u_r]
      refine key2 (iI b0 m1) (iI b0 m1) (fun x => ∃ m', m' < m1 ∧ ∃ m2, m2 < 2 * b1 + 1 ∧ ∃ m3, m3 < 2 * b2 + 1 ∧ x = vl3 I w p f b (iI b0 m') (iI b1 m2) (iI b2 m3)) (fun r K hK hk hb2 => ?_) (2 * b1 + 1) 0 r _ (by omega) (hJ.r26 _) (by rw [r_at]; simp [upd]) (fun z h12 h2 => by rw [r_at]; simp only [upd, if_neg (show ¬ z = 0 by omega)]; exact hz z h12 h2) (bx_congr (fun x => ⟨Or.inl, fun z => z.elim id (fun ⟨_, z, _⟩ => absurd z (Nat.not_lt_zero _))⟩) hb)
      rw [iI_s b0 l0 m1 (by omega)]
      refine ih (m1 + 1) r K (by omega) hK hk (bx_congr (fun x => ?_) hb2)
      constructor
      · rintro (⟨m', h1, h2⟩ | h2)
        · exact ⟨m', by omega, h2⟩
        · exact ⟨m1, by omega, h2⟩
      · rintro ⟨m', h1, h2⟩
        by_cases e : m' = m1
        · subst e; exact Or.inr h2
        · exact Or.inl ⟨m', by omega, h2⟩
  have e0 : ∀ z, z < 12 → 2 ≤ z → J0 26 z = vr I p f b 0 0 0 s0 z := fun z h12 _ => hv z h12
  rw [iI_0 b0 l0]
  by_cases hm0 : m = 0
  · rw [if_pos hm0]
    subst hm0
    exact key1 (2 * b0 + 1) 0 _ J0 (by omega) hJ0 e0 ⟨fun x ⟨_, q, _⟩ => absurd q (Nat.not_lt_zero _), Or.inr bx_max⟩
  · rw [if_neg hm0]
    exact key1 (2 * b0 + 1) 0 _ J0 (by omega) hJ0 e0 ⟨fun x ⟨_, q, _⟩ => absurd q (Nat.not_lt_zero _), Or.inr (bx_min hm0)⟩
