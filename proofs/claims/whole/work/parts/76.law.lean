/-! read: an E in the class: codes and what waits -/
/-- only codes and what waits have changed -/
def xw (I J : st_I) : Prop := (∀ q, q ≠ 13 → q ≠ 17 → q ≠ 24 → J q = I q) ∧ ∀ j, j < 15 → J 17 j = I 17 j
theorem xw.rf {I : st_I} : xw I I := ⟨fun _ _ _ _ => rfl, fun _ _ => rfl⟩
theorem xw.tr {I J K : st_I} (h : xw I J) (g : xw J K) : xw I K := ⟨fun q a b c => (g.1 q a b c).trans (h.1 q a b c), fun j a => (g.2 j a).trans (h.2 j a)⟩
theorem cx.xw {B : Nat → Nat} {n : Nat} {I J : st_I} {s : s4_X} (H : cx B n I s) (h : xw I J) : cx B n J s := by
  obtain ⟨⟨b1, b2, b3, b4, b5⟩, c2, c3, c4, c5, c6, c7, c8⟩ := H
  have e18 := h.1 18 (by decide) (by decide) (by decide)
  refine ⟨⟨b1, by rw [h.2 0 (by decide)]; exact b2, fun j => by rw [e18]; exact b3 j, by rw [← b4]; funext j; unfold bB; rw [e18], fun i hi => ?_⟩, c2, by rw [h.2 6 (by decide)]; exact c3, by rw [h.2 7 (by decide)]; exact c4, c5, by rw [h.2 8 (by decide)]; exact c6, c7, fun z => by rw [h.2 9 (by decide)]; exact c8 z⟩
  rw [h.1 19 (by decide) (by decide) (by decide), h.1 20 (by decide) (by decide) (by decide)]; exact b5 i hi
theorem cN.xw {B : Nat → Nat} {n : Nat} {I J : st_I} {L : st_L} {N : nm_X} (H : cN B n I L N) (h : xw I J) : cN B n J L N := by
  refine ⟨by rw [h.2 13 (by decide)]; exact H.1, H.2.1, fun j hj => ?_⟩
  rw [h.1 22 (by decide) (by decide) (by decide), h.1 23 (by decide) (by decide) (by decide)]; exact H.2.2 j hj
theorem x_write {d c : Nat} {a : Int32} {I : st_I} {L : st_L} {F : st_I → st_L → Prop} (hc : c < 400) (h18 : I 17 18 = nI c) (h : ∀ J, xw I J → J 17 15 = I 17 15 → J 17 16 = I 17 16 → J 17 17 = I 17 17 → J 17 18 = nI (c + 1) → J 24 = I 24 → J 13 = upd (I 13) c a → F J L) : EV d mX5_write [.ref 17, .int a] I L F := by
  refine sgX5_write_0 ?_
  rw [h18, if_neg (show ¬ (400 : Int32) ≤ nI c from nI_ge (b := 400) hc (by decide)), nI_clamp (by omega), nI_1]
  refine ⟨vp_in_nI hc (by decide), h _ ⟨fun q a b c => by rw [u_I_ne _ _ b, u_I_ne _ _ a], fun j hj => by simp only [u_I, if_true]; rw [if_neg (by omega), if_neg (by omega)]⟩ (by simp [u_I]) (by simp [u_I]) (by simp [u_I]) (by simp [u_I]) (by rw [u_I_ne _ _ (by decide), u_I_ne _ _ (by decide)]) ?_⟩
  funext k
  simp [u_I, upd]
theorem x_hold {d w : Nat} {a : Int32} {I : st_I} {L : st_L} {F : st_I → st_L → Prop} (hw : w < 24) (h15 : I 17 15 = nI w) (h : ∀ J, xw I J → J 17 15 = nI (w + 1) → J 17 16 = I 17 16 → J 17 17 = I 17 17 → J 17 18 = I 17 18 → J 24 = upd (I 24) w a → J 13 = I 13 → F J L) : EV d mX5_hold [.ref 17, .int a] I L F := by
  refine sgX5_hold_0 ?_
  rw [h15, if_neg (show ¬ (24 : Int32) ≤ nI w from nI_ge (b := 24) hw (by decide)), nI_clamp (by omega), nI_1]
  refine ⟨vp_in_nI hw (by decide), h _ ⟨fun q a b c => by rw [u_I_ne _ _ b, u_I_ne _ _ c], fun j hj => by simp only [u_I, if_true]; rw [if_neg (by omega), if_neg (by omega)]⟩ (by simp [u_I]) (by simp [u_I]) (by simp [u_I]) (by simp [u_I]) ?_ (by rw [u_I_ne _ _ (by decide), u_I_ne _ _ (by decide)])⟩
  funext k
  simp [u_I, upd]
/-- how many still wait when the ones of two kinds have come out -/
def poF (W : Nat → Nat) (a b : Nat) : Nat → Nat
  | 0 => 0
  | w + 1 => if W w = a ∨ W w = b then poF W a b w else w + 1
theorem poF_le (W : Nat → Nat) (a b : Nat) : ∀ w, poF W a b w ≤ w
  | 0 => Nat.le_refl _
  | w + 1 => by
    have := poF_le W a b w
    rw [poF]; split <;> omega
theorem x_settle {d a b : Nat} {W : Nat → Nat} {L : st_L} {F : st_I → st_L → Prop} (ha : a < 256) (hb : b < 256) (hW : ∀ i, W i < 256) : ∀ (w c : Nat) (I : st_I), w ≤ 24 → c + (w - poF W a b w) ≤ 400 → I 17 15 = nI w → I 17 18 = nI c → (∀ i, i < w → I 24 i = nI (W i)) → (∀ J, xw I J → J 17 15 = nI (poF W a b w) → J 17 16 = I 17 16 → J 17 17 = I 17 17 → J 17 18 = nI (c + (w - poF W a b w)) → J 24 = I 24 → (∀ j, J 13 j = if c ≤ j ∧ j < c + (w - poF W a b w) then -(nI (W (w - 1 - (j - c)))) else I 13 j) → F J L) → TV (d + 1) mX5_settle 0 [.ref 17, .int (nI a), .int (nI b)] [] I L F := by
  intro w
  induction w with
  | zero =>
    intro c I _ hc h15 h18 h24 h
    refine sgX5_settle_0 ?_
    rw [h15, if_pos (by decide)]
    exact h I xw.rf h15 rfl rfl (by rw [h18]; rfl) rfl (fun j => by rw [if_neg (by rw [poF]; omega)])
  | succ w ih =>
    intro c I hw hc h15 h18 h24 h
    have hp := poF_le W a b w
    have v : vp_in (nI w) 24 := vp_in_nI (by omega) (by decide)
    have et : I 24 w = nI (W w) := h24 w (by omega)
    refine sgX5_settle_0 ?_
    rw [h15, if_neg (nI_nle (by omega) (by omega)), nI_pred, nI_clamp (by omega), et]
    refine ⟨v, ?_⟩
    have pop : W w = a ∨ W w = b → TV (d + 1) mX5_settle 37 [.ref 17, .int (nI a), .int (nI b)] [] I L F := by
      intro z
      rw [poF, if_pos z] at hc h
      refine sgX5_settle_37 ?_
      rw [h15, nI_pred, nI_clamp (by omega), et]
      refine ⟨v, x_write (c := c) (by omega) (by simp [u_I]; exact h18) (fun J hJ j15 j16 j17 j18 j24 j13 => ?_)⟩
      have x0 : xw I (u_I I 17 15 (nI w)) := ⟨fun q x y z => by rw [u_I_ne _ _ y], fun j hj => by simp only [u_I, if_true]; rw [if_neg (by omega)]⟩
      have xJ : xw I J := x0.tr hJ
      refine ih (c + 1) J (by omega) (by omega) (by rw [j15]; simp [u_I]) j18 (fun i hi => by rw [j24, u_I_ne _ _ (by decide)]; exact h24 i (by omega)) (fun K xK k15 k16 k17 k18 k24 k13 => ?_)
      refine h K (xJ.tr xK) k15 (by rw [k16, j16]; simp [u_I]) (by rw [k17, j17]; simp [u_I]) (by rw [k18, show c + 1 + (w - poF W a b w) = c + (w + 1 - poF W a b w) by omega]) (by rw [k24, j24, u_I_ne _ _ (by decide)]) (fun j => ?_)
      rw [k13, j13, u_I_ne _ _ (by decide)]
      by_cases e : j = c
      · subst e
        rw [if_neg (by omega), if_pos (by omega)]
        simp [upd]
      · by_cases r : c + 1 ≤ j ∧ j < c + 1 + (w - poF W a b w)
        · rw [if_pos r, if_pos (by omega), show w + 1 - 1 - (j - c) = w - 1 - (j - (c + 1)) by omega]
        · rw [if_neg r, if_neg (by omega)]
          simp [upd, e]
    by_cases z : W w = a
    · rw [if_pos (by rw [z])]; exact pop (Or.inl z)
    · rw [if_neg (fun q => z ((nI_eq (by have := hW w; omega) (by omega)).mp q))]
      refine ⟨v, ?_⟩
      by_cases y : W w = b
      · rw [if_pos (by rw [y])]; exact pop (Or.inr y)
      · rw [if_neg (fun q => y ((nI_eq (by have := hW w; omega) (by omega)).mp q))]
        rw [poF, if_neg (fun q => q.elim z y)] at hc h
        exact h I xw.rf h15 rfl rfl (by rw [h18, Nat.sub_self]; rfl) rfl (fun j => by rw [if_neg (by omega)])
