/-! read: an E in the class -/
def cE (I : st_I) (e : e5_X) : Prop := I 17 15 = nI e.2.1 ∧ I 17 16 = nI e.2.2.1 ∧ I 17 18 = nI e.2.2.2.2 ∧ (∀ i, i < e.2.1 → I 24 i = nI (e.1 i)) ∧ ∀ j, j < e.2.2.2.2 → I 13 j = e.2.2.2.1 j
/-- frame of an E in the class -/
def xe (I J : st_I) : Prop := (∀ q, q ≠ 13 → q ≠ 17 → q ≠ 24 → J q = I q) ∧ ∀ j, j < 6 ∨ (9 < j ∧ j < 15) → J 17 j = I 17 j
theorem xe.rf {I : st_I} : xe I I := ⟨fun _ _ _ _ => rfl, fun _ _ => rfl⟩
theorem xe.tr {I J K : st_I} (h : xe I J) (g : xe J K) : xe I K := ⟨fun q a b c => (g.1 q a b c).trans (h.1 q a b c), fun j a => (g.2 j a).trans (h.2 j a)⟩
theorem x69.xe {I J : st_I} (h : x69 I J) : xe I J := ⟨fun q _ b _ => h.1 q b, fun j a => h.2 j (by omega)⟩
theorem xw.xe {I J : st_I} (h : xw I J) : xe I J := ⟨fun q a b c => h.1 q a b c, fun j a => h.2 j (by omega)⟩
theorem xe_k {I : st_I} {k : Nat} {x : Int32} (h : 14 < k) : xe I (u_I I 17 k x) := ⟨fun q _ b _ => by rw [u_I_ne _ _ b], fun j a => by simp only [u_I, if_true]; rw [if_neg (by omega)]⟩
theorem xw_k {I : st_I} {k : Nat} {x : Int32} (h : 14 < k) : xw I (u_I I 17 k x) := ⟨fun q _ b _ => by rw [u_I_ne _ _ b], fun j a => by simp only [u_I, if_true]; rw [if_neg (by omega)]⟩
theorem cE.x69 {I J : st_I} {e : e5_X} (H : cE I e) (h : x69 I J) : cE J e := by
  unfold cE
  rw [h.1 24 (by decide), h.1 13 (by decide), h.2 15 (by omega), h.2 16 (by omega), h.2 18 (by omega)]; exact H
theorem u17 {I : st_I} {k j : Nat} {x : Int32} (h : j ≠ k) : (u_I I 17 k x) 17 j = I 17 j := by simp only [u_I, if_true, if_neg h]
theorem cE_17 {I : st_I} {e : e5_X} {x : Int32} (H : cE I e) : cE (u_I I 17 17 x) e := by
  unfold cE
  rw [u17 (by decide), u17 (by decide), u17 (by decide), u_I_ne 17 x (show 24 ≠ 17 by decide), u_I_ne 17 x (show 13 ≠ 17 by decide)]
  exact H
theorem cE_write {d : Nat} {x : Int32} {e : e5_X} {I : st_I} {L : st_L} {F : st_I → st_L → Prop} (H : cE I e) (hc : e.2.2.2.2 < 400) (h : ∀ J, cE J (wrE x e) → xw I J → J 17 17 = I 17 17 → F J L) : EV d mX5_write [.ref 17, .int x] I L F := by
  obtain ⟨h1, h2, h3, h4, h5⟩ := H
  refine x_write hc h3 (fun J a b c e f g k => h J ⟨by rw [b]; exact h1, by rw [c]; exact h2, f, by rw [g]; exact h4, fun j hj => ?_⟩ a e)
  rw [k]
  unfold wrE upd at *
  simp only at hj ⊢
  split
  · rfl
  · next q => exact h5 j (by omega)
theorem cE_hold {d k : Nat} {e : e5_X} {I : st_I} {L : st_L} {F : st_I → st_L → Prop} (H : cE I e) (hw : e.2.1 < 24) (h : ∀ J, cE J (hoE k e) → xw I J → J 17 17 = I 17 17 → F J L) : EV d mX5_hold [.ref 17, .int (nI k)] I L F := by
  obtain ⟨h1, h2, h3, h4, h5⟩ := H
  refine x_hold hw h1 (fun J a b c e f g k => h J ⟨b, by rw [c]; exact h2, by rw [f]; exact h3, fun j hj => ?_, by rw [k]; exact h5⟩ a e)
  rw [g]
  unfold hoE updN upd at *
  simp only at hj ⊢
  split
  · rfl
  · next q => exact h4 j (by omega)
theorem poF_1 {W : Nat → Nat} {a b w : Nat} (hp : 0 < w → W (w - 1) = a ∨ W (w - 1) = b → w - 1 = 0 ∨ ¬ (W (w - 1 - 1) = a ∨ W (w - 1 - 1) = b)) : poF W a b w = if 0 < w ∧ (W (w - 1) = a ∨ W (w - 1) = b) then w - 1 else w := by
  cases w with
  | zero => rw [poF]; rfl
  | succ w =>
    rw [Nat.add_sub_cancel] at hp ⊢
    rw [poF]
    by_cases z : W w = a ∨ W w = b
    · rw [if_pos z, if_pos ⟨by omega, z⟩]
      cases w with
      | zero => rw [poF]
      | succ v =>
        rcases hp (by omega) z with q | q
        · omega
        · rw [Nat.add_sub_cancel] at q
          rw [poF, if_neg q]
    · rw [if_neg z, if_neg (fun c => z c.2)]
theorem cE_settle {d a b : Nat} {e : e5_X} {I : st_I} {L : st_L} {F : st_I → st_L → Prop} (H : cE I e) (ha : a < 256) (hb : b < 256) (hW : ∀ i, e.1 i < 256) (hw : e.2.1 ≤ 24) (hc : e.2.2.2.2 + e.2.1 ≤ 400) (hp : 0 < e.2.1 → e.1 (e.2.1 - 1) = a ∨ e.1 (e.2.1 - 1) = b → e.2.1 - 1 = 0 ∨ ¬ (e.1 (e.2.1 - 1 - 1) = a ∨ e.1 (e.2.1 - 1 - 1) = b)) (h : ∀ J, cE J (ppE a b e) → xw I J → J 17 17 = I 17 17 → F J L) : EV (d + 1) mX5_settle [.ref 17, .int (nI a), .int (nI b)] I L F := by
  obtain ⟨h1, h2, h3, h4, h5⟩ := H
  have ep := poF_1 hp
  refine sgX5_settle_e (x_settle ha hb hW e.2.1 e.2.2.2.2 I hw (by omega) h1 h3 h4 (fun J a1 a2 a3 a4 a5 a6 a7 => h J ?_ a1 a4))
  rw [ep] at a2 a5 a7
  unfold ppE
  by_cases z : 0 < e.2.1 ∧ (e.1 (e.2.1 - 1) = a ∨ e.1 (e.2.1 - 1) = b)
  · rw [if_pos z] at a2 a5 a7 ⊢
    rw [show e.2.1 - (e.2.1 - 1) = 1 by omega] at a5 a7
    refine ⟨a2, by rw [a3]; exact h2, a5, fun i hi => by rw [a6]; exact h4 i (Nat.lt_of_lt_of_le hi (Nat.sub_le _ _)), fun j hj => ?_⟩
    have hj' : j < e.2.2.2.2 + 1 := hj
    rw [a7]
    simp only [upd]
    by_cases q : j = e.2.2.2.2
    · rw [if_pos (by omega), if_pos q, q]; simp
    · rw [if_neg (by omega), if_neg q]; exact h5 j (by omega)
  · rw [if_neg z] at a2 a5 a7 ⊢
    rw [Nat.sub_self] at a5 a7
    refine ⟨a2, by rw [a3]; exact h2, a5, fun i hi => by rw [a6]; exact h4 i hi, fun j hj => ?_⟩
    rw [a7, if_neg (by omega)]; exact h5 j hj
/-- at most one of a kind waits on top -/
theorem ok_42 {W : Nat → Nat} {w o t : Nat} (h : okW W w o t) : 0 < w → W (w - 1) = 42 ∨ W (w - 1) = 42 → w - 1 = 0 ∨ ¬ (W (w - 1 - 1) = 42 ∨ W (w - 1 - 1) = 42) := by
  intro hw z
  rcases okW_top h with ⟨c, -⟩ | ⟨-, c, -⟩ | ⟨-, c, -⟩ | ⟨-, -, -, t', c, q⟩
  · omega
  · omega
  · omega
  · rcases okW_top q with ⟨c, -⟩ | ⟨-, c, -⟩ | ⟨-, c, -⟩ | ⟨-, -, c, -⟩
    · exact Or.inl c
    · right; omega
    · right; omega
    · omega
theorem ok_43 {W : Nat → Nat} {w o t : Nat} (h : okW W w o t) : 0 < w → W (w - 1) = 43 ∨ W (w - 1) = 45 → w - 1 = 0 ∨ ¬ (W (w - 1 - 1) = 43 ∨ W (w - 1 - 1) = 45) := by
  intro hw z
  rcases okW_top h with ⟨c, -⟩ | ⟨-, c, -⟩ | ⟨-, -, -, q⟩ | ⟨-, c, -⟩
  · omega
  · omega
  · rcases okW_top q with ⟨c, -⟩ | ⟨-, c, -⟩ | ⟨-, -, c, -⟩ | ⟨-, -, c, -⟩
    · exact Or.inl c
    · right; omega
    · omega
    · omega
  · omega
theorem x_unit {d a t : Nat} {B : Nat → Nat} {n : Nat} {s : s4_X} {e : e5_X} {I : st_I} {L : st_L} {F : st_I → st_L → Prop} (H : cx B n I s) (hs : s.1 = 0) (HE : cE I e) (G : gE a s.2.1 e t 0) (h17 : I 17 17 = 1) (h : ∀ J, cx B n J (uA B n s e).1 → xe I J → ((uA B n s e).1.1 = 0 → cE J (uA B n s e).2.1 ∧ J 17 17 = b01 (decide ((uA B n s e).2.2 = 2))) → F J L) : EV (d + 3) mX5_startUnit [.ref 17] I L F := by
  obtain ⟨l1, l2, l3, l4, l5, l6⟩ := H.lt
  obtain ⟨g1, g2, g3, g4, g5, g6, g7⟩ := id G
  have hw := G.w20
  refine sgX5_startUnit_0 ?_
  rw [l3, nI_clamp (by omega), l4]
  refine ⟨l2, ?_⟩
  unfold uA at h
  by_cases k : knF B n s.2.1 = 40 ∨ knF B n s.2.1 = 91
  · rw [if_pos k] at h
    have go : TV (d + 3) mX5_startUnit 22 [.ref 17, .int (nI (knF B n s.2.1))] [] I L F := by
      refine sgX5_startUnit_22 ?_
      rw [HE.2.1]
      refine x_passFirst (b := 6) H (by omega) (by omega) (by decide) (fun J hJ hx => ?_)
      by_cases z : (pfA (decide (6 ≤ e.2.2.1)) s).1 = 0
      · rw [decide_eq_true (show s.1 = 0 ∧ (pfA (decide (6 ≤ e.2.2.1)) s).1 = 0 from ⟨hs, z⟩), if_neg (by decide)]
        have HJ := HE.x69 hx
        rw [HJ.2.1, nI_1]
        obtain ⟨c1, c2, c3, c4, c5⟩ := HJ
        have HE2 : cE (u_I J 17 16 (nI (e.2.2.1 + 1))) (e.1, e.2.1, e.2.2.1 + 1, e.2.2.2) := ⟨by rw [u17 (by decide)]; exact c1, by simp [u_I], by rw [u17 (by decide)]; exact c3, fun i hi => by rw [u_I_ne _ _ (by decide)]; exact c4 i hi, fun j hj => by rw [u_I_ne _ _ (by decide)]; exact c5 j hj⟩
        refine cE_hold HE2 (show e.2.1 < 24 by omega) (fun K hK hxK h17K => ?_)
        refine h K ((hJ.xw (xw_k (by decide))).xw hxK) ((hx.xe.tr (xe_k (by decide))).tr hxK.xe) (fun _ => ⟨hK, ?_⟩)
        rw [h17K, u17 (by decide), hx.2 17 (by omega), h17]; rfl
      · rw [decide_eq_false (fun c => z c.2), if_pos (by decide)]
        exact h J hJ hx.xe (fun q => absurd q z)
    rcases k with k | k
    · rw [if_pos (by rw [k]; rfl)]; exact go
    · rw [if_neg (by rw [k]; decide), if_pos (by rw [k]; rfl)]; exact go
  rw [if_neg k] at h
  rw [if_neg (fun q => k (Or.inl (by exact (nI_eq (b := 40) (by omega) (by decide)).mp q))), if_neg (fun q => k (Or.inr (by exact (nI_eq (b := 91) (by omega) (by decide)).mp q)))]
  have H0 : cx B n (u_I I 17 17 0) s := H.xw (xw_k (by decide))
  have HE0 : cE (u_I I 17 17 0) e := cE_17 HE
  have x0 : xe I (u_I I 17 17 0) := xe_k (by decide)
  have z0 : (u_I I 17 17 0) 17 17 = 0 := by simp [u_I]
  have num : ¬ (128 ≤ knF B n s.2.1 ∧ knF B n s.2.1 < 140) → TV (d + 3) mX5_startUnit 85 [.ref 17, .null] [] (u_I I 17 17 0) L F := by
    intro v
    rw [if_neg v] at h
    refine sgX5_startUnit_85 ?_
    refine x_takeInt (most := 9999) H0 (by decide) (fun J hJ hx => ?_)
    refine cE_write (HE0.x69 hx) (by omega) (fun K hK hxK h17K => ?_)
    refine h K (hJ.xw hxK) ((x0.tr hx.xe).tr hxK.xe) (fun _ => ⟨hK, ?_⟩)
    rw [h17K, hx.2 17 (by omega), z0]; rfl
  by_cases v1 : knF B n s.2.1 < 128
  · rw [if_pos (by exact nI_lt (b := 128) v1 (by decide))]; exact num (by omega)
  rw [if_neg (by exact nI_nlt (b := 128) (by omega) (by omega))]
  by_cases v2 : 140 ≤ knF B n s.2.1
  · rw [if_pos (by exact nI_le (a := 140) v2 (by omega))]; exact num (by omega)
  rw [if_neg (by exact nI_ge (b := 140) (by omega) (by decide))]
  rw [if_pos (show 128 ≤ knF B n s.2.1 ∧ knF B n s.2.1 < 140 by omega)] at h
  refine x_pass (k := knF B n s.2.1) H0 (by omega) l6 (fun J hJ hx => ?_)
  have ep : paA B n (knF B n s.2.1) s = stA true s := by unfold paA; rw [decide_eq_true rfl]
  rw [ep] at hJ
  refine cE_write (HE0.x69 hx) (by omega) (fun K hK hxK h17K => ?_)
  refine h K (hJ.xw hxK) ((x0.tr hx.xe).tr hxK.xe) (fun _ => ⟨hK, ?_⟩)
  rw [h17K, hx.2 17 (by omega), z0]; rfl
theorem b01_or (b : Bool) : b01 b = 0 ∨ b01 b = 1 := by cases b <;> decide
theorem x_join {d k : Nat} {B : Nat → Nat} {n : Nat} {s : s4_X} {e : e5_X} {I : st_I} {L : st_L} {F : Int32 → st_I → st_L → Prop} (H : cx B n I s) (hs : s.1 = 0) (HE : cE I e) (hw : e.2.1 < 24) (hk : knF B n s.2.1 = k) (hk2 : 2 ≤ k) (h : ∀ J, cx B n J (stA true s) → xe I J → ((stA true s).1 = 0 → cE J (hoE k e) ∧ J 17 17 = 1) → F (b01 (decide ((stA true s).1 = 0))) J L) : EI (d + 1) mX5_join [.ref 17, .int (nI k)] I L F := by
  obtain ⟨l1, l2, l3, l4, l5, l6⟩ := H.lt
  refine sgX5_join_0 ?_
  refine cE_hold (cE_17 HE) hw (fun J hJ hx h17 => ?_)
  refine x_pass (k := k) ((H.xw (xw_k (by decide))).xw hx) hk2 (by omega) (fun K hK hxK => ⟨b01_or _, ?_⟩)
  have ep : paA B n k s = stA true s := by unfold paA; rw [decide_eq_true hk]
  rw [ep] at hK ⊢
  have ed : decide (s.1 = 0 ∧ (stA true s).1 = 0) = decide ((stA true s).1 = 0) := decide_eq_decide.mpr ⟨fun c => c.2, fun c => ⟨hs, c⟩⟩
  rw [ed]
  refine h K hK (((xe_k (by decide)).tr hx.xe).tr hxK.xe) (fun z => ⟨hJ.x69 hxK, ?_⟩)
  rw [hxK.2 17 (by omega), h17]; simp [u_I]
theorem x_close {d a : Nat} {B : Nat → Nat} {n : Nat} {s : s4_X} {e : e5_X} {I : st_I} {L : st_L} {F : Int32 → st_I → st_L → Prop} (H : cx B n I s) (hs : s.1 = 0) (HE : cE I e) (G : gE a s.2.1 e 0 1) (ho : e.2.2.1 ≠ 0) (h17 : I 17 17 = 0)
    (h1 : e.1 (e.2.1 - 1) = 91 → ∀ J, cx B n J (paA B n (if knF B n s.2.1 = 4 then 4 else 60) s) → xe I J → ((paA B n (if knF B n s.2.1 = 4 then 4 else 60) s).1 = 0 → cE J (cmE (knF B n s.2.1) e) ∧ J 17 17 = 1) → F (b01 (decide ((paA B n (if knF B n s.2.1 = 4 then 4 else 60) s).1 = 0))) J L)
    (h2 : ¬ e.1 (e.2.1 - 1) = 91 → ∀ J, cx B n J (paA B n (if e.1 (e.2.1 - 1) = 40 then 41 else 93) s) → xe I J → ((paA B n (if e.1 (e.2.1 - 1) = 40 then 41 else 93) s).1 = 0 → cE J (clE e) ∧ J 17 17 = 0) → F (b01 (decide ((paA B n (if e.1 (e.2.1 - 1) = 40 then 41 else 93) s).1 = 0))) J L) : EI (d + 1) mX5_closeOrCompare [.ref 17, .int (nI (knF B n s.2.1))] I L F := by
  obtain ⟨l1, l2, l3, l4, l5, l6⟩ := H.lt
  obtain ⟨g1, g2, g3, g4, g5, g6, g7⟩ := id G
  have hw := G.w20
  have hw0 : 0 < e.2.1 := by
    rcases okW_top g1 with ⟨-, c, -⟩ | ⟨c, -⟩ | ⟨c, -⟩ | ⟨c, -⟩
    · exact absurd c ho
    all_goals exact c
  obtain ⟨c1, c2, c3, c4, c5⟩ := id HE
  have v : vp_in (nI (e.2.1 - 1)) 24 := vp_in_nI (by omega) (by decide)
  obtain ⟨w, ew⟩ : ∃ w, e.2.1 = w + 1 := ⟨e.2.1 - 1, by omega⟩
  have tp : I 24 (e.2.1 - 1) = nI (e.1 (e.2.1 - 1)) := c4 _ (by omega)
  have tb := g3 (e.2.1 - 1)
  have pr : nI e.2.1 - 1 = nI (e.2.1 - 1) := by rw [ew, nI_pred, Nat.add_sub_cancel]
  refine sgX5_closeOrCompare_0 ?_
  rw [c1, if_neg (by exact nI_ne0 hw0 (by omega)), pr, nI_clamp (by omega), tp]
  refine ⟨v, ?_⟩
  have ed : ∀ k, decide (s.1 = 0 ∧ (paA B n k s).1 = 0) = decide ((paA B n k s).1 = 0) := fun k => decide_eq_decide.mpr ⟨fun c => c.2, fun c => ⟨hs, c⟩⟩
  by_cases b : e.1 (e.2.1 - 1) = 91
  · rw [if_pos (by rw [b]; rfl)]
    refine ⟨v, ?_⟩
    have ek : (if nI (knF B n s.2.1) = 4 then (4 : Int32) else 60) = nI (if knF B n s.2.1 = 4 then 4 else 60) := by
      by_cases q : knF B n s.2.1 = 4
      · rw [if_pos q, if_pos (by rw [q]; rfl)]; rfl
      · rw [if_neg q, if_neg (fun c => q (by exact (nI_eq (b := 4) (by omega) (by decide)).mp c))]; rfl
    rw [ek]
    have H2 : cx B n (u_I (u_I I 24 (e.2.1 - 1) (nI (knF B n s.2.1))) 17 17 1) s := (cx_tab H (by decide) (by decide) (by decide) (by decide)).xw (xw_k (by decide))
    refine x_pass H2 (by split <;> decide) (by split <;> decide) (fun J hJ hx => ⟨b01_or _, ?_⟩)
    rw [ed]
    have xx : xe I (u_I (u_I I 24 (e.2.1 - 1) (nI (knF B n s.2.1))) 17 17 1) := ⟨fun q _ b c => by rw [u_I_ne _ _ b, u_I_ne _ _ c], fun j a => by rw [u17 (by omega), u_I_ne _ _ (by decide)]⟩
    refine h1 b J hJ (xx.tr hx.xe) (fun _ => ⟨cE.x69 ⟨?_, ?_, ?_, ?_, ?_⟩ hx, by rw [hx.2 17 (by omega)]; simp [u_I]⟩)
    · rw [u17 (by decide), u_I_ne _ _ (by decide)]; exact c1
    · rw [u17 (by decide), u_I_ne _ _ (by decide)]; exact c2
    · rw [u17 (by decide), u_I_ne _ _ (by decide)]; exact c3
    · intro i hi
      have hi' : i < e.2.1 := hi
      rw [u_I_ne _ _ (by decide)]
      show (u_I I 24 (e.2.1 - 1) (nI (knF B n s.2.1))) 24 i = nI (updN e.1 (e.2.1 - 1) (knF B n s.2.1) i)
      simp only [u_I, updN, if_true]
      split
      · rfl
      · exact c4 i hi'
    · intro j hj
      rw [u_I_ne _ _ (by decide), u_I_ne _ _ (by decide)]; exact c5 j hj
  · rw [if_neg (fun q => b (by exact (nI_eq (b := 91) (by omega) (by decide)).mp q))]
    have eb : nI (e.1 (e.2.1 - 1)) = 40 ↔ e.1 (e.2.1 - 1) = 40 := nI_eq (b := 40) (by omega) (by decide)
    have ek : (if nI (e.1 (e.2.1 - 1)) = 40 then (41 : Int32) else 93) = nI (if e.1 (e.2.1 - 1) = 40 then 41 else 93) := by
      by_cases q : e.1 (e.2.1 - 1) = 40
      · rw [if_pos q, if_pos (eb.mpr q)]; rfl
      · rw [if_neg q, if_neg (fun c => q (eb.mp c))]; rfl
    rw [ek]
    refine x_pass H (by split <;> decide) (by split <;> decide) (fun J hJ hx => ?_)
    rw [ed]
    have HJ := HE.x69 hx
    by_cases z : (paA B n (if e.1 (e.2.1 - 1) = 40 then 41 else 93) s).1 = 0
    · have f := h2 b
      rw [decide_eq_true z] at f ⊢
      rw [if_neg (by decide)]
      have last : ∀ K, cx B n K (paA B n (if e.1 (e.2.1 - 1) = 40 then 41 else 93) s) → xe I K → K 17 15 = nI e.2.1 → K 17 16 = nI e.2.2.1 → K 17 17 = 0 → K 17 18 = nI (clE e).2.2.2.2 → (∀ i, i < e.2.1 → K 24 i = nI (e.1 i)) → (∀ j, j < (clE e).2.2.2.2 → K 13 j = (clE e).2.2.2.1 j) → TI (d + 1) mX5_closeOrCompare 94 [.ref 17, .null, .null] [] K L F := by
        intro K hK hxK k15 k16 k17 k18 k24 k13
        refine sgX5_closeOrCompare_94 ?_
        rw [k15, k16, pr]
        obtain ⟨o, eo⟩ : ∃ o, e.2.2.1 = o + 1 := ⟨e.2.2.1 - 1, by omega⟩
        have po : nI e.2.2.1 - 1 = nI (e.2.2.1 - 1) := by rw [eo, nI_pred, Nat.add_sub_cancel]
        rw [po]
        have el : (clE e).1 = e.1 ∧ (clE e).2.1 = e.2.1 - 1 ∧ (clE e).2.2.1 = e.2.2.1 - 1 := by unfold clE; split <;> exact ⟨rfl, rfl, rfl⟩
        refine f _ ((hK.xw (xw_k (by decide))).xw (xw_k (by decide))) ((hxK.tr (xe_k (by decide))).tr (xe_k (by decide))) (fun _ => ⟨⟨?_, ?_, ?_, ?_, ?_⟩, ?_⟩)
        · rw [el.2.1]; simp [u_I]
        · rw [el.2.2]; simp [u_I]
        · rw [u17 (by decide), u17 (by decide)]; exact k18
        · intro i hi
          rw [el.2.1] at hi
          rw [el.1, u_I_ne _ _ (by decide), u_I_ne _ _ (by decide)]; exact k24 i (by omega)
        · intro j hj
          rw [u_I_ne _ _ (by decide), u_I_ne _ _ (by decide)]; exact k13 j hj
        · rw [u17 (by decide), u17 (by decide)]; exact k17
      have j17 : J 17 17 = 0 := by rw [hx.2 17 (by omega)]; exact h17
      by_cases y : e.1 (e.2.1 - 1) = 40
      · rw [if_pos (eb.mpr y)]
        have ec : clE e = (e.1, e.2.1 - 1, e.2.2.1 - 1, e.2.2.2) := by unfold clE; rw [if_pos y]
        exact last J hJ hx.xe HJ.1 HJ.2.1 j17 (by rw [ec]; exact HJ.2.2.1) HJ.2.2.2.1 (by rw [ec]; exact HJ.2.2.2.2)
      · rw [if_neg (fun q => y (eb.mp q))]
        have ec : clE e = (e.1, e.2.1 - 1, e.2.2.1 - 1, upd e.2.2.2.1 e.2.2.2.2 (-(nI (e.1 (e.2.1 - 1)))), e.2.2.2.2 + 1) := by unfold clE; rw [if_neg y]
        refine cE_write HJ (by omega) (fun K hK hxK h17K => ?_)
        exact last K (hJ.xw hxK) (hx.xe.tr hxK.xe) hK.1 hK.2.1 (by rw [h17K]; exact j17) (by rw [ec]; exact hK.2.2.1) hK.2.2.2.1 (by rw [ec]; exact hK.2.2.2.2)
    · have f := h2 b J hJ hx.xe (fun q => absurd q z)
      rw [decide_eq_false z] at f ⊢
      rw [if_pos (by decide)]
      exact f
