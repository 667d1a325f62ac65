/-! read: the reference's cut, by bytes -/
/-- the reference's text is the class's tape -/
def rx (I : st_I) (n : Nat) : Prop := n ≤ 2000 ∧ I 58 4 = nI n ∧ (∀ j, j < n → I 60 j = I 18 j) ∧ iv_byt I
theorem m_byteAt {d n i : Nat} {I : st_I} {L : st_L} {F : Int32 → st_I → st_L → Prop} (H : rx I n) (hi : i < 4000) (h : F (nI (if i < n then bB I i else 0)) I L) : EI d mX12_byteAt [.ref 58, .int (nI i)] I L F := by
  obtain ⟨h1, h2, h3, h4⟩ := H
  refine sgX12_byteAt_0 ?_
  rw [h2]
  by_cases z : i < n
  · rw [if_pos z] at h
    rw [if_neg (nI_ge z (by omega)), nI_clamp (by omega), h3 i z, (bt_c (h4 i)).2.1]
    exact ⟨vp_in_nI (by omega) (by decide), h⟩
  · rw [if_neg z] at h
    rw [if_pos (nI_le (by omega) (by omega))]; exact h
theorem m_isLetter {d c : Nat} {I : st_I} {L : st_L} {F : Int32 → st_I → st_L → Prop} (hc : c < 256) (h : F (b01 (lcB c)) I L) : EI d mX12_isLetter [.int (nI c)] I L F := by
  refine sgX12_isLetter_0 (cast (congrArg (fun r => F r I L) ?_) h)
  unfold lcB
  by_cases z : 97 ≤ c
  · rw [if_neg (show ¬ nI c < 97 from nI_nlt (b := 97) z (by omega))]
    by_cases y : c ≤ 122
    · rw [if_neg (show ¬ (122 : Int32) < nI c from nI_nlt (a := 122) y (by decide)), decide_eq_true ⟨z, y⟩]; rfl
    · rw [if_pos (show (122 : Int32) < nI c from nI_lt (a := 122) (by omega) (by omega)), decide_eq_false (fun q => y q.2)]; rfl
  · rw [if_pos (show nI c < 97 from nI_lt (b := 97) (by omega) (by decide)), decide_eq_false (fun q => z q.1)]; rfl
theorem m_isDigit {d c : Nat} {I : st_I} {L : st_L} {F : Int32 → st_I → st_L → Prop} (hc : c < 256) (h : F (b01 (dgB c)) I L) : EI d mX12_isDigit [.int (nI c)] I L F := by
  refine sgX12_isDigit_0 (cast (congrArg (fun r => F r I L) ?_) h)
  unfold dgB
  by_cases z : 48 ≤ c
  · rw [if_neg (show ¬ nI c < 48 from nI_nlt (b := 48) z (by omega))]
    by_cases y : c ≤ 57
    · rw [if_neg (show ¬ (57 : Int32) < nI c from nI_nlt (a := 57) y (by decide)), decide_eq_true ⟨z, y⟩]; rfl
    · rw [if_pos (show (57 : Int32) < nI c from nI_lt (a := 57) (by omega) (by omega)), decide_eq_false (fun q => y q.2)]; rfl
  · rw [if_pos (show nI c < 48 from nI_lt (b := 48) (by omega) (by decide)), decide_eq_false (fun q => z q.1)]; rfl
theorem m_appends {d c v : Nat} {I : st_I} {L : st_L} {F : Int64 → st_I → st_L → Prop} (hc : 97 ≤ c ∧ c ≤ 122) (h : F (lN (27 * v + (c - 96))) I L) : EL d mX12_appends [.long (lN v), .int (nI c)] I L F := by
  refine sgX12_appends_0 ?_
  rw [if_neg (nI_ne0 (by omega) (by omega)), show nI c - 97 = nI (c - 97) from pk_sub (b := 97) hc.1, nI_1, nI_l (by omega), show (27 : Int64) = lN 27 from rfl, lN_mul, lN_add, show c - 97 + 1 = c - 96 by omega]
  exact h
theorem m_token {d k : Nat} {I : st_I} {L : st_L} {F : st_I → st_L → Prop} {a b c : Int32} {v : Int64} (h10 : I 58 10 = nI k) (hk : k < 403) (h : ∀ J, (∀ q, q ≠ 58 → q ≠ 61 → q ≠ 62 → q ≠ 63 → J q = I q) → (∀ j, j ≠ 10 → J 58 j = I 58 j) → J 58 10 = nI (k + 1) → J 61 k = a → J 62 k = b → J 63 k = c → (∀ q j, q ≠ 58 → j ≠ k → J q j = I q j) → F J (u_L L 64 k v)) : EV d mX12_token [.ref 58, .int a, .int b, .int c, .long v] I L F := by
  have w : vp_in (nI k) 403 := vp_in_nI hk (by decide)
  refine sgX12_token_0 ?_
  rw [h10, nI_clamp (by omega), nI_1]
  refine ⟨w, w, w, w, h _ (fun q q1 q2 q3 q4 => ?_) (fun j hj => ?_) ?_ ?_ ?_ ?_ (fun q j q1 hj => ?_)⟩
  · rw [u_I_ne _ _ q1, u_I_ne _ _ q4, u_I_ne _ _ q3, u_I_ne _ _ q2]
  · simp [u_I, hj]
  · simp [u_I]
  · simp [u_I]
  · simp [u_I]
  · simp [u_I]
  · rw [u_I_ne _ _ q1]
    simp only [u_I, if_neg hj]
    repeat' split
    all_goals rfl
/-- the reference has cut k TOKENS -/
def rk (I : st_I) (L : st_L) (J : st_I) (M : st_L) (n k : Nat) : Prop := (∀ q, q ≠ 58 → q ≠ 61 → q ≠ 62 → q ≠ 63 → J q = I q) ∧ (∀ j, j ≠ 10 → J 58 j = I 58 j) ∧ J 58 10 = nI k ∧ (∀ q, q ≠ 64 → M q = L q) ∧ ∀ i, i < k → J 61 i = nI (kmF (knF (bB I) n i)) ∧ J 62 i = nI (psF (bB I) n i) ∧ (knF (bB I) n i = 3 → J 63 i = nI (kf 10 (fun j => bB I (psF (bB I) n i + j) - 48) (teF (bB I) n (psF (bB I) n i) - psF (bB I) n i))) ∧ (knF (bB I) n i = 2 → M 64 i = lN (nkF 27 (bB I) (psF (bB I) n i) (teF (bB I) n (psF (bB I) n i) - psF (bB I) n i)))
theorem rk.rx {I : st_I} {L : st_L} {J : st_I} {M : st_L} {n k : Nat} (h : rk I L J M n k) (H : rx I n) : rx J n ∧ bB J = bB I := by
  have e60 := h.1 60 (by decide) (by decide) (by decide) (by decide)
  have e18 := h.1 18 (by decide) (by decide) (by decide) (by decide)
  refine ⟨⟨H.1, by rw [h.2.1 4 (by decide)]; exact H.2.1, fun j hj => by rw [e60, e18]; exact H.2.2.1 j hj, fun j => by rw [e18]; exact H.2.2.2 j⟩, by funext j; unfold bB; rw [e18]⟩
/-- one more TOKEN -/
theorem rk_token {d n k : Nat} {I : st_I} {L : st_L} {J : st_I} {M : st_L} {F : st_I → st_L → Prop} {a c : Int32} {v : Int64} (h : rk I L J M n k) (hk : k < 401) (ha : a = nI (kmF (knF (bB I) n k))) (hc : knF (bB I) n k = 3 → c = nI (kf 10 (fun j => bB I (psF (bB I) n k + j) - 48) (teF (bB I) n (psF (bB I) n k) - psF (bB I) n k))) (hv : knF (bB I) n k = 2 → v = lN (nkF 27 (bB I) (psF (bB I) n k) (teF (bB I) n (psF (bB I) n k) - psF (bB I) n k))) (hF : ∀ J' M', rk I L J' M' n (k + 1) → F J' M') : EV d mX12_token [.ref 58, .int a, .int (nI (psF (bB I) n k)), .int c, .long v] J M F := by
  refine m_token h.2.2.1 (by omega) (fun J' x1 x2 x3 x4 x5 x6 x7 => hF _ _ ⟨fun q a b c e => by rw [x1 q a b c e, h.1 q a b c e], fun j hj => by rw [x2 j hj, h.2.1 j hj], x3, fun q hq => by rw [u_L_ne _ _ hq, h.2.2.2.1 q hq], fun i hi => ?_⟩)
  by_cases e : i = k
  · subst e
    exact ⟨by rw [x4, ha], by rw [x5], fun z => by rw [x6, hc z], fun z => by rw [hv z]; simp [u_L]⟩
  · obtain ⟨y1, y2, y3, y4⟩ := h.2.2.2.2 i (by omega)
    exact ⟨by rw [x7 61 i (by decide) e, y1], by rw [x7 62 i (by decide) e, y2], fun z => by rw [x7 63 i (by decide) e, y3 z], fun z => by simp only [u_L, if_true, if_neg e]; exact y4 z⟩
theorem ite4 {c d : Prop} [Decidable c] [Decidable d] {P : Int32 → Prop} {a b e : Int32} (h : P (if d then a else if c then b else e)) : if c then (if d then P a else P b) else (if d then P a else P e) := by
  by_cases x : c <;> by_cases y : d <;> simp only [x, y, if_true, if_false] at h ⊢ <;> exact h
theorem ite6 {c d f : Prop} [Decidable c] [Decidable d] [Decidable f] {P : Int32 → Prop} {a b e : Int32} (h : P (if d then a else if c then (if f then b else e) else e)) : if c then (if f then (if d then P a else P b) else (if d then P a else P e)) else (if d then P a else P e) := by
  by_cases x : c <;> by_cases y : d <;> by_cases z : f <;> simp only [x, y, z, if_true, if_false] at h ⊢ <;> exact h
/-- a sign's kind in the reference -/
def sgR (c t : Int32) : Int32 :=
  let a0 : Int32 := if t = 0 then (if c = 59 then 4 else (if c = 58 then 5 else (if c = 40 then 6 else (if c = 41 then 7 else 3)))) else 11
  let a1 : Int32 := if c = 45 then 9 else if c = 43 then 8 else a0
  let a2 : Int32 := if c = 60 then 12 else if c = 42 then 10 else a1
  let a3 : Int32 := if c = 44 then 14 else if c = 61 then (if t = 0 then 13 else a2) else a2
  let a4 : Int32 := if c = 125 then 16 else if c = 123 then 15 else a3
  if c = 93 then 18 else if c = 91 then 17 else a4
theorem m_sign {d : Nat} {I : st_I} {L : st_L} {F : Int32 → st_I → st_L → Prop} {i c e : Int32} (h : EV d mX12_token [.ref 58, .int (sgR c (if c = 61 then (if e = 61 then (1 : Int32) else 0) else 0)), .int i, .int 0, .long 0] I L (fun I1 L1 => F (if (if c = 61 then (if e = 61 then (1 : Int32) else 0) else 0) = 0 then (1 : Int32) else 2) I1 L1)) : EI (d + 1) mX12_sign [.ref 58, .int i, .int c, .int e] I L F := by
  refine sgX12_sign_0 ?_
  generalize (if c = 61 then (if e = 61 then (1 : Int32) else 0) else 0) = t at h ⊢
  refine sgX12_sign_72 (ite4 (P := fun x => TI (d + 1) mX12_sign 94 [.ref 58, .int i, .int c, .null, .int t, .int x] [] I L F) ?_)
  refine sgX12_sign_94 (ite4 (P := fun x => TI (d + 1) mX12_sign 114 [.ref 58, .int i, .int c, .null, .int t, .int x] [] I L F) ?_)
  refine sgX12_sign_114 (ite6 (P := fun x => TI (d + 1) mX12_sign 139 [.ref 58, .int i, .int c, .null, .int t, .int x] [] I L F) ?_)
  refine sgX12_sign_139 (ite4 (P := fun x => TI (d + 1) mX12_sign 159 [.ref 58, .int i, .int c, .null, .int t, .int x] [] I L F) ?_)
  refine sgX12_sign_159 (ite4 (P := fun x => TI (d + 1) mX12_sign 179 [.ref 58, .int i, .null, .null, .int t, .int x] [] I L F) ?_)
  exact sgX12_sign_179 h
theorem sgR_ok : ∀ c, c < 256 → ¬ lcB c = true → ¬ dgB c = true → sgR (nI c) 0 = nI (kmF (if sgB c then c else 1)) := by decide +kernel
theorem sgR_two : sgR 61 1 = nI (kmF 4) := by decide
