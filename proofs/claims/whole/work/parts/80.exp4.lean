/-! read: an E in the reference: what waits, codes -/
theorem okW_vk {W : Nat → Nat} : ∀ w o t, okW W w o t → ∀ i, i < w → W i = 40 ∨ W i = 91 ∨ W i = 60 ∨ W i = 4 ∨ W i = 43 ∨ W i = 45 ∨ W i = 42
  | 0, _, _, _, i, hi => by omega
  | w + 1, o, t, h, i, hi => by
    by_cases e : i = w
    · subst e
      rcases h with ⟨h1, -⟩ | ⟨h1, -⟩ | ⟨h1, -⟩ <;> omega
    · rcases h with ⟨-, -, o', t', -, -, h3⟩ | ⟨-, -, h3⟩ | ⟨-, -, t', -, h3⟩
      · exact okW_vk w o' t' h3 i (by omega)
      · exact okW_vk w o 0 h3 i (by omega)
      · exact okW_vk w o t' h3 i (by omega)
/-- where one that waits begins in the reference: a '[' stays below what compares -/
def ofW (W : Nat → Nat) : Nat → Nat
  | 0 => 0
  | w + 1 => ofW W w + (if W w = 60 ∨ W w = 4 then 2 else 1)
theorem ofW_le (W : Nat → Nat) : ∀ w, ofW W w ≤ 2 * w ∧ w ≤ ofW W w
  | 0 => ⟨Nat.le_refl _, Nat.le_refl _⟩
  | w + 1 => by have := ofW_le W w; rw [ofW]; split <;> omega
theorem ofW_congr {W V : Nat → Nat} : ∀ w, (∀ i, i < w → V i = W i) → ofW V w = ofW W w
  | 0, _ => rfl
  | w + 1, e => by rw [ofW, ofW, ofW_congr w (fun i hi => e i (by omega)), e w (by omega)]
theorem ofW_mono (W : Nat → Nat) {i : Nat} : ∀ w, i ≤ w → ofW W i ≤ ofW W w
  | 0, h => by have : i = 0 := by omega
               rw [this]; exact Nat.le_refl _
  | w + 1, h => by
    by_cases e : i = w + 1
    · rw [e]; exact Nat.le_refl _
    · have := ofW_mono W w (show i ≤ w by omega)
      rw [ofW]; omega
def rS (J : st_I) (W : Nat → Nat) (w : Nat) : Prop := J 58 48 = nI (ofW W w) ∧ ∀ i, i < w → J 91 (ofW W (i + 1) - 1) = nI (kmF (W i)) ∧ (W i = 60 ∨ W i = 4 → J 91 (ofW W i) = nI 17)
theorem rS.cg {J K : st_I} {W : Nat → Nat} {w : Nat} (H : rS J W w) (h1 : K 58 48 = J 58 48) (h2 : K 91 = J 91) : rS K W w := by
  unfold rS
  rw [h1, h2]; exact H
theorem rS_push {J : st_I} {W : Nat → Nat} {w k : Nat} (H : rS J W w) (hk : ¬ (k = 60 ∨ k = 4)) : rS (u_I (u_I J 91 (ofW W w) (nI (kmF k))) 58 48 (nI (ofW W w + 1))) (updN W w k) (w + 1) := by
  have e0 : ofW (updN W w k) w = ofW W w := ofW_congr w updN_ne
  have e1 : ofW (updN W w k) (w + 1) = ofW W w + 1 := by rw [ofW, updN_eq, if_neg hk, e0]
  refine ⟨by rw [e1]; simp [u_I], fun i hi => ?_⟩
  rw [u_I_ne _ _ (by decide)]
  by_cases e : i = w
  · subst e
    rw [e1, updN_eq, Nat.add_sub_cancel]
    exact ⟨by simp [u_I], fun c => absurd c hk⟩
  · have e2 : ofW (updN W w k) (i + 1) = ofW W (i + 1) := ofW_congr _ (fun j hj => updN_ne j (by omega))
    have e3 : ofW (updN W w k) i = ofW W i := ofW_congr _ (fun j hj => updN_ne j (by omega))
    rw [e2, e3, updN_ne i (by omega)]
    have m1 := ofW_mono W w (show i + 1 ≤ w by omega)
    have m2 : ofW W i < ofW W (i + 1) := by rw [ofW]; split <;> omega
    obtain ⟨q1, q2⟩ := H.2 i (by omega)
    refine ⟨?_, fun c => ?_⟩
    · simp only [u_I, if_true]; rw [if_neg (by omega)]; exact q1
    · simp only [u_I, if_true]; rw [if_neg (by omega)]; exact q2 c
theorem rS_cmp {J : st_I} {W : Nat → Nat} {w k : Nat} (H : rS J W w) (hw : 0 < w) (hb : W (w - 1) = 91) (hk : k = 60 ∨ k = 4) : rS (u_I (u_I J 91 (ofW W w) (nI (kmF k))) 58 48 (nI (ofW W w + 1))) (updN W (w - 1) k) w := by
  obtain ⟨v, rfl⟩ : ∃ v, w = v + 1 := ⟨w - 1, by omega⟩
  rw [Nat.add_sub_cancel] at hb ⊢
  have ev : ofW W (v + 1) = ofW W v + 1 := by rw [ofW, hb, if_neg (by decide)]
  have e0 : ofW (updN W v k) v = ofW W v := ofW_congr v updN_ne
  have e1 : ofW (updN W v k) (v + 1) = ofW W v + 2 := by rw [ofW, updN_eq, if_pos hk, e0]
  have q := H.2 v (by omega)
  rw [ev, Nat.add_sub_cancel, hb] at q
  rw [ev]
  refine ⟨by rw [e1]; simp [u_I], fun i hi => ?_⟩
  rw [u_I_ne _ _ (by decide)]
  by_cases e : i = v
  · subst e
    rw [e1, updN_eq, e0]
    refine ⟨by simp [u_I], fun _ => ?_⟩
    simp only [u_I, if_true]; rw [if_neg (by omega)]; exact q.1
  · have e2 : ofW (updN W v k) (i + 1) = ofW W (i + 1) := ofW_congr _ (fun j hj => updN_ne j (by omega))
    have e3 : ofW (updN W v k) i = ofW W i := ofW_congr _ (fun j hj => updN_ne j (by omega))
    rw [e2, e3, updN_ne i (by omega)]
    have m1 := ofW_mono W v (show i + 1 ≤ v by omega)
    have m2 : ofW W i < ofW W (i + 1) := by rw [ofW]; split <;> omega
    obtain ⟨q1, q2⟩ := H.2 i (by omega)
    refine ⟨?_, fun c => ?_⟩
    · simp only [u_I, if_true]; rw [if_neg (by omega)]; exact q1
    · simp only [u_I, if_true]; rw [if_neg (by omega)]; exact q2 c
theorem rS_pop {J : st_I} {W : Nat → Nat} {w x : Nat} (H : rS J W w) (hw : 0 < w) (hx : x = ofW W (w - 1)) : rS (u_I J 58 48 (nI x)) W (w - 1) := by
  refine ⟨by rw [hx]; simp [u_I], fun i hi => ?_⟩
  rw [u_I_ne _ _ (by decide)]
  exact H.2 i (by omega)
def rE (sd : Nat) (J : st_I) (e : e5_X) : Prop := rS J e.1 e.2.1 ∧ J 58 12 = nI e.2.2.1 ∧ J 58 44 = nI (420 * sd + e.2.2.2.2) ∧ ∀ j, j < e.2.2.2.2 → iv_code (e.2.2.2.1 j) (J 89 (420 * sd + j)) (J 90 (420 * sd + j))
/-- frame of an E in the reference -/
def me (sd : Nat) (I J : st_I) : Prop := (∀ q, q ≠ 58 → q ≠ 89 → q ≠ 90 → q ≠ 91 → J q = I q) ∧ (∀ j, j ≠ 11 → j ≠ 12 → j ≠ 44 → j ≠ 48 → j < 13 ∨ 16 < j → J 58 j = I 58 j) ∧ ∀ j, j < 420 * sd ∨ 420 * sd + 420 ≤ j → J 89 j = I 89 j ∧ J 90 j = I 90 j
theorem me.rf {sd : Nat} {I : st_I} : me sd I I := ⟨fun _ _ _ _ _ => rfl, fun _ _ _ _ _ _ => rfl, fun _ _ => ⟨rfl, rfl⟩⟩
theorem me.tr {sd : Nat} {I J K : st_I} (h : me sd I J) (g : me sd J K) : me sd I K := ⟨fun q a b c e => (g.1 q a b c e).trans (h.1 q a b c e), fun j a b c e f => (g.2.1 j a b c e f).trans (h.2.1 j a b c e f), fun j a => ⟨(g.2.2 j a).1.trans (h.2.2 j a).1, (g.2.2 j a).2.trans (h.2.2 j a).2⟩⟩
theorem r58.me {sd : Nat} {I J : st_I} (h : r58 I J) : me sd I J := ⟨fun q a _ _ _ => h.1 q a, fun j a _ _ _ e => h.2 j a e, fun j _ => by rw [h.1 89 (by decide), h.1 90 (by decide)]; exact ⟨rfl, rfl⟩⟩
theorem me_k {sd k : Nat} {I : st_I} {x : Int32} (h : k = 12 ∨ k = 44 ∨ k = 48) : me sd I (u_I I 58 k x) := ⟨fun q a _ _ _ => by rw [u_I_ne _ _ a], fun j _ a b c _ => by simp only [u_I, if_true]; rw [if_neg (by omega)], fun j _ => by rw [u_I_ne _ _ (by decide), u_I_ne _ _ (by decide)]; exact ⟨rfl, rfl⟩⟩
theorem me_91 {sd k : Nat} {I : st_I} {x : Int32} : me sd I (u_I I 91 k x) := ⟨fun q _ _ _ a => by rw [u_I_ne _ _ a], fun j _ _ _ _ _ => by rw [u_I_ne _ _ (by decide)], fun j _ => by rw [u_I_ne _ _ (by decide), u_I_ne _ _ (by decide)]; exact ⟨rfl, rfl⟩⟩
theorem rr_58 {B : Nat → Nat} {n k : Nat} {x : Int32} {J : st_I} {M : st_L} {s : s4_X} (H : rr B n J M s) (h : k = 12 ∨ 16 < k) : rr B n (u_I J 58 k x) M s := by
  have e : ∀ j, j ≠ k → (u_I J 58 k x) 58 j = J 58 j := fun j hj => by simp only [u_I, if_true, if_neg hj]
  obtain ⟨h1, h2, h3, h4, h5, h6, h7⟩ := H
  refine ⟨?_, h2, by rw [e 11 (by omega)]; exact h3, by rw [e 13 (by omega)]; exact h4, h5, by rw [e 14 (by omega)]; exact h6, by rw [e 15 (by omega), e 16 (by omega)]; exact h7⟩
  rw [u_I_ne _ _ (by decide), u_I_ne _ _ (by decide), u_I_ne _ _ (by decide)]; exact h1
theorem rE.r58 {sd : Nat} {J K : st_I} {e : e5_X} (H : rE sd J e) (h : r58 J K) : rE sd K e := by
  obtain ⟨h1, h2, h3, h4⟩ := H
  refine ⟨h1.cg (h.2 48 (by decide) (by omega)) (h.1 91 (by decide)), by rw [h.2 12 (by decide) (by omega)]; exact h2, by rw [h.2 44 (by decide) (by omega)]; exact h3, ?_⟩
  rw [h.1 89 (by decide), h.1 90 (by decide)]; exact h4
theorem m_waitsOn {d sd k : Nat} {e : e5_X} {o t : Nat} {J : st_I} {M : st_L} {F : Int32 → st_I → st_L → Prop} {c : Int32} (H : rS J e.1 e.2.1) (hok : okW e.1 e.2.1 o t) (hw : e.2.1 ≤ 24) (hc : c = nI (kmF k)) (hk : k < 256) (vk : vkB k = true) (h : F (b01 (decide (0 < e.2.1 ∧ e.1 (e.2.1 - 1) = k))) J M) : EI d mX12_waitsOn [.ref 58, .int c] J M F := by
  have ol := ofW_le e.1 e.2.1
  refine sgX12_waitsOn_0 ?_
  rw [H.1]
  by_cases z : 0 < e.2.1
  · obtain ⟨w, ew⟩ : ∃ w, e.2.1 = w + 1 := ⟨e.2.1 - 1, by omega⟩
    have q := (H.2 (e.2.1 - 1) (by omega)).1
    rw [show e.2.1 - 1 + 1 = e.2.1 by omega] at q
    have tk := okW_vk _ _ _ hok (e.2.1 - 1) (by omega)
    have vt : vkB (e.1 (e.2.1 - 1)) = true ∧ e.1 (e.2.1 - 1) < 256 := by
      rcases tk with c | c | c | c | c | c | c <;> rw [c] <;> decide
    have km1 := (ki_ok _ vt.2 vt.1).1
    have km2 := (ki_ok _ hk vk).1
    rw [if_neg (by exact nI_nle (by omega) (by omega)), show nI (ofW e.1 e.2.1) - 1 = nI (ofW e.1 e.2.1 - 1) from pk_sub (b := 1) (by omega), nI_clamp (by omega), q, hc]
    refine ⟨vp_in_nI (by omega) (by decide), ?_⟩
    by_cases y : e.1 (e.2.1 - 1) = k
    · rw [if_pos (by rw [y])]
      rw [decide_eq_true (show 0 < e.2.1 ∧ e.1 (e.2.1 - 1) = k from ⟨z, y⟩)] at h; exact h
    · rw [if_neg (fun c => y ((km_eq vt.2 hk vt.1 vk).mp ((nI_eq (by omega) (by omega)).mp c)))]
      rw [decide_eq_false (fun c => y c.2)] at h; exact h
  · have w0 : e.2.1 = 0 := by omega
    rw [w0, show ofW e.1 0 = 0 from rfl, if_pos (by decide)]
    rw [decide_eq_false (fun c => z c.1)] at h; exact h
/-- one more code -/
theorem wr_89 {J : st_I} {p : Nat} {k v y : Int32} : (∀ j, (u_I (u_I (u_I J 89 p k) 90 p v) 58 44 y) 89 j = if j = p then k else J 89 j) ∧ ∀ j, (u_I (u_I (u_I J 89 p k) 90 p v) 58 44 y) 90 j = if j = p then v else J 90 j := by
  constructor
  · intro j
    rw [u_I_ne _ _ (show 89 ≠ 58 by decide), u_I_ne _ _ (show 89 ≠ 90 by decide)]
    simp only [u_I, if_true]
  · intro j
    rw [u_I_ne _ _ (show 90 ≠ 58 by decide)]
    simp only [u_I, if_true]
    rfl
theorem rE_wr {sd : Nat} {J : st_I} {e : e5_X} {x k v : Int32} (H : rE sd J e) (hi : iv_code x k v) : rE sd (u_I (u_I (u_I J 89 (420 * sd + e.2.2.2.2) k) 90 (420 * sd + e.2.2.2.2) v) 58 44 (nI (420 * sd + e.2.2.2.2 + 1))) (wrE x e) := by
  obtain ⟨h1, h2, h3, h4⟩ := H
  refine ⟨h1.cg (by simp [u_I]) (by rw [u_I_ne _ _ (by decide), u_I_ne _ _ (by decide), u_I_ne _ _ (by decide)]), by simp [u_I]; exact h2, by simp [u_I, wrE]; rfl, fun j hj => ?_⟩
  have hj' : j < e.2.2.2.2 + 1 := hj
  rw [wr_89.1, wr_89.2]
  show iv_code (upd e.2.2.2.1 e.2.2.2.2 x j) _ _
  by_cases q : j = e.2.2.2.2
  · subst q
    rw [if_pos rfl, if_pos rfl]
    simp only [upd, if_true]; exact hi
  · have := h4 j (by omega)
    rw [if_neg (by omega), if_neg (by omega)]
    simp only [upd, if_neg q]; exact this
theorem m_emit {d sd : Nat} {B : Nat → Nat} {n : Nat} {s : s4_X} {e : e5_X} {x k v : Int32} {J : st_I} {M : st_L} {F : st_I → st_L → Prop} (hsd : sd ≤ 1) (H : rr B n J M s) (hs : s.1 = 0) (HE : rE sd J e) (hc : e.2.2.2.2 < 420) (hi : iv_code x k v) (h : ∀ K, rr B n K M s → rE sd K (wrE x e) → me sd J K → F K M) : EV d mX12_emit [.ref 58, .int k, .int v] J M F := by
  refine sgX12_emit_0 ?_
  have vv : vp_in (nI (420 * sd + e.2.2.2.2)) 840 := vp_in_nI (by omega) (by decide)
  rw [show J 58 13 = 0 by rw [H.2.2.2.1, hs]; exact nI_0, if_pos (by decide), HE.2.2.1, nI_clamp (by omega), nI_1]
  refine ⟨vv, vv, ?_⟩
  have e44 : (u_I (u_I J 89 (420 * sd + e.2.2.2.2) k) 90 (420 * sd + e.2.2.2.2) v) 58 44 = nI (420 * sd + e.2.2.2.2) := by rw [u_I_ne _ _ (show 58 ≠ 90 by decide), u_I_ne _ _ (show 58 ≠ 89 by decide)]; exact HE.2.2.1
  refine h _ (rr_58 (rr_tab (rr_tab H (by decide)) (by decide)) (by omega)) (rE_wr HE hi) ⟨fun q a b c f => by rw [u_I_ne _ _ a, u_I_ne _ _ c, u_I_ne _ _ b], fun j _ _ a _ _ => by simp [u_I, a], fun j a => ?_⟩
  rw [wr_89.1, wr_89.2, if_neg (by omega), if_neg (by omega)]
  exact ⟨rfl, rfl⟩
