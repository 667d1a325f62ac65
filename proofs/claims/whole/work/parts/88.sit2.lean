/-! read: a sit, in the reference -/
theorem tn_dead {B : Nat → Nat} {n k : Nat} {N : nm_X} {s : s4_X} (h : ¬ s.1 = 0) : tnA B n N k s = s := by
  unfold tnA
  have : alv B n s = false := decide_eq_false (fun c => h c.1)
  rw [this, Bool.false_and]
  exact st_dead h
theorem tn_lf {B : Nat → Nat} {n k : Nat} {N : nm_X} {s : s4_X} (h : (tnA B n N k s).2.2.1 = 0) : s.2.2.1 = 0 ∧ (alv B n s && msA B n N s.2.1 k) = false := by
  unfold tnA at h
  have := la_lf (by decide) h
  exact ⟨by rw [← this.1]; exact congrArg (fun a => a.1) (st_lf (b := decide (knF B n s.2.1 = 2)) (s := s)).symm, this.2⟩
theorem lok_tn {B : Nat → Nat} {n k : Nat} {N : nm_X} {s : s4_X} (h : lok s) : lok (tnA B n N k s) := by
  unfold tnA
  refine lok_la (lok_st h) (fun z => ?_)
  obtain ⟨-, -, -, a4⟩ := st_al z
  show s.2.1 < (stA _ s).2.1
  rw [a4]; show s.2.1 < s.2.1 + 1; omega
theorem tn_tok {B : Nat → Nat} {n k : Nat} {N : nm_X} {s : s4_X} (h : (tnA B n N k s).1 = 0) : (tnA B n N k s).2.1 = s.2.1 + 1 := by
  obtain ⟨-, a⟩ := tn_al h
  obtain ⟨-, -, -, b⟩ := alv_2 a
  unfold tnA
  rw [la_1.2, b]
/-- where nothing is told ahead the number is none -/
theorem tn_none {B : Nat → Nat} {n k : Nat} {N : nm_X} {s : s4_X} (z : (tnA B n N k s).1 = 0) (h0 : s.2.2.1 = 0) (h1 : (tnA B n N k s).2.2.1 ≠ 0) : tnV B n N k s = -1 := by
  obtain ⟨-, al⟩ := tn_al z
  unfold tnA at h1
  by_cases ms : msA B n N s.2.1 k = true
  · unfold tnV msA at *
    rw [if_pos al]
    cases hf : fnN B n N s.2.1 with
    | none => rfl
    | some a =>
      simp only [hf] at ms
      have : ¬ N.2.2.1 a = k := by simpa using ms
      simp [this]
  · exfalso
    rw [show (alv B n s && msA B n N s.2.1 k) = false by simp [ms]] at h1
    apply h1
    rw [laA_f]
    have e : (paA B n 2 s).2.2 = s.2.2 := st_lf
    rw [e]; exact h0
/-- frame of a sit in the reference -/
def ms_X (p g : Nat) (I J : st_I) : Prop := (∀ q, q < 58 ∨ (58 < q ∧ q < 83) ∨ 88 < q → J q = I q) ∧ (∀ j, j ≠ 11 → j < 13 ∨ 16 < j → J 58 j = I 58 j) ∧ (∀ j, j ≠ p → J 83 j = I 83 j) ∧ (∀ j, j ≠ g → J 84 j = I 84 j ∧ J 85 j = I 85 j ∧ J 86 j = I 86 j ∧ J 87 j = I 87 j) ∧ ∀ j, j < 6 * g ∨ 6 * g + 6 ≤ j → J 88 j = I 88 j
theorem ms_X.tr {p g : Nat} {I J K : st_I} (h : ms_X p g I J) (k : ms_X p g J K) : ms_X p g I K := ⟨fun q a => (k.1 q a).trans (h.1 q a), fun j a b => (k.2.1 j a b).trans (h.2.1 j a b), fun j a => (k.2.2.1 j a).trans (h.2.2.1 j a), fun j a => by
  obtain ⟨x1, x2, x3, x4⟩ := h.2.2.2.1 j a
  obtain ⟨y1, y2, y3, y4⟩ := k.2.2.2.1 j a
  exact ⟨y1.trans x1, y2.trans x2, y3.trans x3, y4.trans x4⟩, fun j a => (k.2.2.2.2 j a).trans (h.2.2.2.2 j a)⟩
theorem r58.ms {p g : Nat} {I J : st_I} (h : r58 I J) : ms_X p g I J := ⟨fun q a => h.1 q (by omega), fun j a b => h.2 j a b, fun j _ => by rw [h.1 83 (by decide)], fun j _ => by rw [h.1 84 (by decide), h.1 85 (by decide), h.1 86 (by decide), h.1 87 (by decide)]; exact ⟨rfl, rfl, rfl, rfl⟩, fun j _ => by rw [h.1 88 (by decide)]⟩
theorem ms_83 {p g : Nat} {I : st_I} {x : Int32} : ms_X p g I (u_I I 83 p x) := ⟨fun q a => by rw [u_I_ne _ _ (by omega)], fun j _ _ => by rw [u_I_ne _ _ (by decide)], fun j a => by simp only [u_I, if_true, if_neg a], fun j _ => by rw [u_I_ne _ _ (by decide), u_I_ne _ _ (by decide), u_I_ne _ _ (by decide), u_I_ne _ _ (by decide)]; exact ⟨rfl, rfl, rfl, rfl⟩, fun j _ => by rw [u_I_ne _ _ (by decide)]⟩
theorem u_Ik {I : st_I} {q q' g j : Nat} {x : Int32} (h : j ≠ g) : (u_I I q g x) q' j = I q' j := by
  by_cases e : q' = q
  · subst e; simp only [u_I, if_true, if_neg h]
  · rw [u_I_ne _ _ e]
theorem ms_84 {p g q : Nat} {I : st_I} {x : Int32} (h : 84 ≤ q) (h2 : q ≤ 87) : ms_X p g I (u_I I q g x) := ⟨fun q a => by rw [u_I_ne _ _ (by omega)], fun j _ _ => by rw [u_I_ne _ _ (by omega)], fun j _ => by rw [u_I_ne _ _ (by omega)], fun j a => ⟨u_Ik a, u_Ik a, u_Ik a, u_Ik a⟩, fun j _ => by rw [u_I_ne _ _ (by omega)]⟩
theorem ms_88 {p g i : Nat} {I : st_I} {x : Int32} (h : i < 6) : ms_X p g I (u_I I 88 (6 * g + i) x) := ⟨fun q a => by rw [u_I_ne _ _ (by omega)], fun j _ _ => by rw [u_I_ne _ _ (by decide)], fun j _ => by rw [u_I_ne _ _ (by decide)], fun j _ => by rw [u_I_ne _ _ (by decide), u_I_ne _ _ (by decide), u_I_ne _ _ (by decide), u_I_ne _ _ (by decide)]; exact ⟨rfl, rfl, rfl, rfl⟩, fun j a => u_Ik (by omega)⟩
/-- the reference's row of a sit -/
def rQ (J : st_I) (g m : Nat) (R : Nat → Int32) (lf : Nat) : Prop := J 87 g = nI m ∧ (lf = 0 → J 84 g = R 0 ∧ J 85 g = R 1 ∧ J 86 g = R 2 ∧ ∀ i, i < m → J 88 (6 * g + i) = R (4 + i))
theorem rQ.r58 {J K : st_I} {g m lf : Nat} {R : Nat → Int32} (H : rQ J g m R lf) (h : r58 J K) : rQ K g m R lf := by
  unfold rQ
  rw [h.1 84 (by decide), h.1 85 (by decide), h.1 86 (by decide), h.1 87 (by decide), h.1 88 (by decide)]; exact H
theorem rQ.lf {J : st_I} {g m lf lf' : Nat} {R : Nat → Int32} (H : rQ J g m R lf) (h : lf' = 0 → lf = 0) : rQ J g m R lf' := ⟨H.1, fun z => H.2 (h z)⟩
/-- the FIDDLES ahead are looked at -/
theorem m_ord_189 {d g m : Nat} {B : Nat → Nat} {n : Nat} {M : st_L} {N : nm_X} {F : st_I → st_L → Prop} {x1 f : Int32} {s : s4_X} {R : Nat → Int32} {J : st_I} (hg : g < 96) (hm : m < 6) (H : rr B n J M (tnA B n N 140 s)) (hs : s.1 = 0) (hl : lok s) (hz : (tnA B n N 140 s).1 = 0) (ht : s.2.1 < spF B n 401 0) (hQ : rQ J g m R s.2.2.1) (hf : s.2.2.1 = 0 → f = tnV B n N 140 s)
    (h : ∀ K, rr B n K M (orA B n N R 0 m s) → r58 J K → TV (d + 4) mX12_tellSit 189 [.ref 58, .int x1, .int (nI g), .null, .int (nI s.2.1), .int f, .int (nI m)] [] K M F) : TV (d + 4) mX12_tellSit 189 [.ref 58, .int x1, .int (nI g), .null, .int (nI s.2.1), .int f, .int 0] [] J M F := by
  have ea : orA B n N R 0 m s = laA (dupB R 0 m (tnV B n N 140 s)) 3 s.2.1 (tnA B n N 140 s) := by
    obtain ⟨a1, a2⟩ := tn_al hz
    unfold orA
    have e : orU B n m s = s := by unfold orU; rw [if_neg (by omega)]
    rw [e, decide_eq_true (show (tnA B n N 140 s).1 = 0 ∧ m < 6 from ⟨hz, hm⟩), Bool.true_and]
  have vg : vp_in (nI g) 96 := vp_in_nI hg (by decide)
  have ix : ∀ i : Nat, (6 : Int32) * nI g + nI i = nI (6 * g + i) := fun i => mx 6 g i
  -- a FAULT of 3 to 5 lies there: nothing comes of it
  have later : ∀ (w : s4_X), w.1 = 0 → w.2.2.1 ≠ 0 → (w.2.2.2 < s.2.1 ∨ (w.2.2.2 = s.2.1 ∧ w.2.2.1 ≤ 3)) → ∀ (r i : Nat) (K : st_I), i + r = m → rr B n K M w → r58 J K → (∀ K2, rr B n K2 M w → r58 J K2 → TV (d + 4) mX12_tellSit 189 [.ref 58, .int x1, .int (nI g), .null, .int (nI s.2.1), .int f, .int (nI m)] [] K2 M F) → TV (d + 4) mX12_tellSit 189 [.ref 58, .int x1, .int (nI g), .null, .int (nI s.2.1), .int f, .int (nI i)] [] K M F := by
    intro w hw hlf ho r
    induction r with
    | zero => intro i K hi hK hx hF; rw [show i = m by omega]; exact hF K hK hx
    | succ r ih =>
      intro i K hi hK hx hF
      refine sgX12_tellSit_189 ?_
      rw [nI_clamp (by omega), hx.1 87 (by decide), hQ.1, if_neg (nI_ge (by omega) (by omega)), ix i, nI_1]
      refine ⟨vg, ?_⟩
      split
      · exact ih (i + 1) K (by omega) hK hx hF
      · refine ⟨vp_in_nI (by omega) (by decide), ?_⟩
        split
        · refine m_wrong (k := 3) hK hw (by decide) (by decide) ht (Or.inr ho) (fun K2 hK2 hx2 => ?_)
          rw [laA_no hlf] at hK2
          exact ih (i + 1) K2 (by omega) hK2 (hx.tr hx2) hF
        · exact ih (i + 1) K (by omega) hK hx hF
  -- no number: the loop passes
  have pass : f = -1 → ∀ (r i : Nat), i + r = m → TV (d + 4) mX12_tellSit 189 [.ref 58, .int x1, .int (nI g), .null, .int (nI s.2.1), .int f, .int (nI m)] [] J M F → TV (d + 4) mX12_tellSit 189 [.ref 58, .int x1, .int (nI g), .null, .int (nI s.2.1), .int f, .int (nI i)] [] J M F := by
    intro hf1 r
    induction r with
    | zero => intro i hi hF; rw [show i = m by omega]; exact hF
    | succ r ih =>
      intro i hi hF
      refine sgX12_tellSit_189 ?_
      rw [nI_clamp (by omega), hQ.1, if_neg (nI_ge (by omega) (by omega)), if_pos hf1, nI_1]
      exact ⟨vg, ih (i + 1) (by omega) hF⟩
  by_cases z : s.2.2.1 = 0
  · have ef := hf z
    by_cases y : (tnA B n N 140 s).2.2.1 = 0
    · -- the values are the class's
      obtain ⟨-, -, -, hv⟩ := hQ.2 z
      rw [ea] at h
      by_cases f1 : f = -1
      · have hd : dupB R 0 m (tnV B n N 140 s) = false := by unfold dupB; rw [← ef, decide_eq_false (fun c => c f1)]; rfl
        rw [hd, laA_f] at h
        exact pass f1 m 0 (by omega) (h J H r58.rf)
      · have key : ∀ (r i : Nat), i + r = m → (foF (fun i => decide (R (0 + 4 + i) = f)) r i).isSome = (foF (fun i => decide (R (0 + 4 + i) = f)) m 0).isSome → TV (d + 4) mX12_tellSit 189 [.ref 58, .int x1, .int (nI g), .null, .int (nI s.2.1), .int f, .int (nI i)] [] J M F := by
          intro r
          induction r with
          | zero =>
            intro i hi he
            have hd : dupB R 0 m (tnV B n N 140 s) = false := by
              unfold dupB
              rw [← ef, ← he]; simp [foF]
            rw [hd, laA_f] at h
            rw [show i = m by omega]; exact h J H r58.rf
          | succ r ih =>
            intro i hi he
            refine sgX12_tellSit_189 ?_
            rw [nI_clamp (by omega), hQ.1, if_neg (nI_ge (by omega) (by omega)), if_neg f1, ix i, nI_1, nI_clamp (by omega), hv i (by omega)]
            refine ⟨vg, vp_in_nI (by omega) (by decide), ?_⟩
            rw [foF] at he
            by_cases x : R (4 + i) = f
            · rw [if_pos x]
              rw [if_pos (decide_eq_true (show R (0 + 4 + i) = f by rw [Nat.zero_add]; exact x))] at he
              have hd : dupB R 0 m (tnV B n N 140 s) = true := by
                unfold dupB
                rw [← ef, ← he, decide_eq_true (show f ≠ -1 from f1)]; rfl
              rw [hd] at h
              refine m_wrong (k := 3) H hz (by decide) (by decide) ht (Or.inl y) (fun K hK hx => ?_)
              have lw : laA true 3 s.2.1 (tnA B n N 140 s) = ((tnA B n N 140 s).1, (tnA B n N 140 s).2.1, 3, s.2.1) := by unfold laA; rw [if_pos rfl, if_pos y]
              exact later (laA true 3 s.2.1 (tnA B n N 140 s)) (by rw [la_1.1]; exact hz) (la_nz (by decide)) (Or.inr (by rw [lw]; exact ⟨rfl, Nat.le_refl _⟩)) r (i + 1) K (by omega) hK hx h
            · rw [if_neg x]
              rw [if_neg (by rw [decide_eq_false (show ¬ R (0 + 4 + i) = f by rw [Nat.zero_add]; exact x)]; decide)] at he
              exact ih (i + 1) (by omega) he
        exact key m 0 (by omega) rfl
    · have f1 : f = -1 := by rw [ef]; exact tn_none hz z y
      rw [ea, laA_no y] at h
      exact pass f1 m 0 (by omega) (h J H r58.rf)
  · have u0 : (tnA B n N 140 s).2.2.1 ≠ 0 := fun q => z (tn_lf q).1
    have eu : (tnA B n N 140 s).2.2 = s.2.2 := by
      unfold tnA
      have e : (paA B n 2 s).2.2 = s.2.2 := st_lf
      rw [laA_no (by rw [e]; exact z)]; exact e
    rw [ea, laA_no u0] at h
    exact later (tnA B n N 140 s) hz u0 (Or.inl (by rw [eu]; exact hl hs z)) m 0 J (by omega) H r58.rf h
