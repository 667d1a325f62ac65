/-! read: the parser's steps. s = (FAULT of 1 or 2, TOKEN, FAULT of 3 to 5, its TOKEN) -/
abbrev s4_X := Nat × Nat × Nat × Nat
/-- over the TOKEN, if it is what must stand there -/
def stA (ok : Bool) (s : s4_X) : s4_X := if s.1 = 0 then (if ok then (if 400 ≤ s.2.1 then (2, s.2) else (0, s.2.1 + 1, s.2.2)) else (1, s.2)) else s
/-- a FAULT of 3 to 5 -/
def laA (c : Bool) (k tok : Nat) (s : s4_X) : s4_X := if c then (if s.2.2.1 = 0 then (s.1, s.2.1, k, tok) else s) else s
def vlF (B : Nat → Nat) (n i : Nat) : Nat := kf 10 (fun j => B (psF B n i + j) - 48) (teF B n (psF B n i) - psF B n i)
def paA (B : Nat → Nat) (n k : Nat) (s : s4_X) : s4_X := stA (decide (knF B n s.2.1 = k)) s
def inA (B : Nat → Nat) (n most : Nat) (s : s4_X) : s4_X := laA (decide (s.1 = 0 ∧ (paA B n 3 s).1 = 0 ∧ most < vlF B n s.2.1)) 5 s.2.1 (paA B n 3 s)
def ivA (B : Nat → Nat) (n : Nat) (s : s4_X) : Nat := if s.1 = 0 ∧ (paA B n 3 s).1 = 0 then vlF B n s.2.1 else 0
theorem sp_ok {B : Nat → Nat} {n : Nat} : ∀ r i, i + r = 401 → i ≤ spF B n r i ∧ spF B n r i ≤ 401 ∧ (0 < r → i < spF B n r i) ∧ ∀ t, i ≤ t → t < spF B n r i → ¬ (knF B n t = 0 ∨ knF B n t = 1) → t < 400 → t + 1 < spF B n r i
  | 0, i, h => by rw [spF]; exact ⟨Nat.le_refl _, by omega, fun q => by omega, fun t a b => by omega⟩
  | r + 1, i, h => by
    rw [spF]
    by_cases z : knF B n i = 0 ∨ knF B n i = 1
    · rw [if_pos z]
      refine ⟨by omega, by omega, fun _ => by omega, fun t a b c _ => ?_⟩
      have : t = i := by omega
      subst this; exact absurd z c
    · rw [if_neg z]
      obtain ⟨h1, h2, h3, h4⟩ := sp_ok (B := B) (n := n) r (i + 1) (by omega)
      refine ⟨by omega, h2, fun _ => by omega, fun t a b c e => ?_⟩
      by_cases q : t = i
      · subst q
        exact h3 (by omega)
      · exact h4 t (by omega) b c e
/-- the class stands at s -/
def cx (B : Nat → Nat) (n : Nat) (I : st_I) (s : s4_X) : Prop := (n ≤ 2000 ∧ I 17 0 = nI n ∧ iv_byt I ∧ bB I = B ∧ ∀ i, i < spF B n 401 0 → I 19 i = nI (knF B n i) ∧ I 20 i = nI (psF B n i)) ∧ s.2.1 < spF B n 401 0 ∧ I 17 6 = nI s.2.1 ∧ I 17 7 = nI s.1 ∧ s.1 ≤ 2 ∧ I 17 8 = nI s.2.2.1 ∧ s.2.2.1 ≤ 5 ∧ (s.2.2.1 ≠ 0 → I 17 9 = nI (psF B n s.2.2.2))
/-- only where it stands has changed -/
def x69 (I J : st_I) : Prop := (∀ q, q ≠ 17 → J q = I q) ∧ ∀ j, j < 6 ∨ 9 < j → J 17 j = I 17 j
theorem x69.rf {I : st_I} : x69 I I := ⟨fun _ _ => rfl, fun _ _ => rfl⟩
theorem x69.tr {I J K : st_I} (h : x69 I J) (g : x69 J K) : x69 I K := ⟨fun q a => (g.1 q a).trans (h.1 q a), fun j a => (g.2 j a).trans (h.2 j a)⟩
theorem cx.base {B : Nat → Nat} {n : Nat} {I J : st_I} {s : s4_X} (H : cx B n I s) (h : x69 I J) : n ≤ 2000 ∧ J 17 0 = nI n ∧ iv_byt J ∧ bB J = B ∧ ∀ i, i < spF B n 401 0 → J 19 i = nI (knF B n i) ∧ J 20 i = nI (psF B n i) := by
  obtain ⟨a1, a2, a3, a4, a5⟩ := H.1
  have e18 := h.1 18 (by decide)
  refine ⟨a1, by rw [h.2 0 (by omega)]; exact a2, fun j => by rw [e18]; exact a3 j, by rw [← a4]; funext j; unfold bB; rw [e18], fun i hi => ?_⟩
  rw [h.1 19 (by decide), h.1 20 (by decide)]; exact a5 i hi
theorem cx.lt {B : Nat → Nat} {n : Nat} {I : st_I} {s : s4_X} (H : cx B n I s) : s.2.1 < 401 ∧ vp_in (nI s.2.1) 401 ∧ I 17 6 = nI s.2.1 ∧ I 19 s.2.1 = nI (knF B n s.2.1) ∧ I 20 s.2.1 = nI (psF B n s.2.1) ∧ knF B n s.2.1 < 256 := by
  have := (sp_ok (B := B) (n := n) 401 0 rfl).2.1
  have h := H.2.1
  refine ⟨by omega, vp_in_nI (by omega) (by decide), H.2.2.1, (H.1.2.2.2.2 _ h).1, (H.1.2.2.2.2 _ h).2, kdF_lt (fun j => ?_) _ _ _⟩
  rw [← H.1.2.2.2.1]; exact (bt_c (H.1.2.2.1 j)).1
theorem x69_7 {I : st_I} {x : Int32} : x69 I (u_I I 17 7 x) := ⟨fun q h => by rw [u_I_ne _ _ h], fun j h => by simp only [u_I, if_true]; rw [if_neg (by omega)]⟩
theorem x69_6 {I : st_I} {x : Int32} : x69 I (u_I I 17 6 x) := ⟨fun q h => by rw [u_I_ne _ _ h], fun j h => by simp only [u_I, if_true]; rw [if_neg (by omega)]⟩
theorem cx_dead {B : Nat → Nat} {n f : Nat} {I : st_I} {s : s4_X} (H : cx B n I s) (hf : f ≤ 2) : cx B n (u_I I 17 7 (nI f)) (f, s.2) := by
  obtain ⟨h1, h2, h3, h4, h5, h6, h7, h8⟩ := id H
  refine ⟨H.base x69_7, h2, ?_, ?_, hf, ?_, h7, fun z => ?_⟩
  · simp [u_I, h3]
  · simp [u_I]
  · simp [u_I, h6]
  · simp [u_I, h8 z]
theorem x_pass {d n k : Nat} {B : Nat → Nat} {I : st_I} {L : st_L} {s : s4_X} {F : Int32 → st_I → st_L → Prop} (H : cx B n I s) (hk : 2 ≤ k) (hk2 : k < 256) (h : ∀ J, cx B n J (paA B n k s) → x69 I J → F (b01 (decide (s.1 = 0 ∧ (paA B n k s).1 = 0))) J L) : EI d mX5_pass [.ref 17, .int (nI k)] I L F := by
  obtain ⟨h1, h2, h3, h4, h5, h6, h7, h8⟩ := id H
  obtain ⟨l1, l2, -, l4, l5, l6⟩ := H.lt
  refine sgX5_pass_0 ?_
  unfold paA stA at h
  by_cases z : s.1 = 0
  · rw [z, nI_0] at h4
    rw [h4, if_pos rfl, h3, nI_clamp (by omega), l4]
    refine ⟨l2, ?_⟩
    rw [if_pos z] at h
    by_cases y : knF B n s.2.1 = k
    · rw [if_pos (by rw [y])]
      rw [if_pos (decide_eq_true y)] at h
      refine sgX5_pass_28 ?_
      rw [h4, if_pos rfl, h3]
      by_cases w : 400 ≤ s.2.1
      · rw [if_neg (show ¬ nI s.2.1 < 400 from nI_nlt (b := 400) w (by omega))]
        rw [if_pos w] at h
        have q := h _ (cx_dead H (by decide)) x69_7
        rw [decide_eq_false (fun c => absurd (show (2 : Nat) = 0 from c.2) (by decide))] at q
        exact q
      · rw [if_pos (show nI s.2.1 < 400 from nI_lt (b := 400) (by omega) (by decide))]
        rw [if_neg w] at h
        refine sgX5_pass_53 ?_
        rw [h4, if_pos rfl, h3, nI_1]
        have q := h (u_I I 17 6 (nI (s.2.1 + 1))) ⟨H.base x69_6, (sp_ok (B := B) (n := n) 401 0 rfl).2.2.2 _ (Nat.zero_le _) h2 (by omega) (by omega), by simp [u_I], (show (u_I I 17 6 (nI (s.2.1 + 1))) 17 7 = nI 0 by rw [nI_0, ← h4]; simp [u_I]), Nat.zero_le _, by simp [u_I]; exact h6, h7, fun c => by simp [u_I]; exact h8 c⟩ x69_6
        rw [decide_eq_true (show s.1 = 0 ∧ (0 : Nat) = 0 from ⟨z, rfl⟩)] at q
        exact q
    · rw [if_neg (fun q => y ((nI_eq (by omega) (by omega)).mp q))]
      rw [if_neg (by rw [decide_eq_false y]; decide)] at h
      have q := h _ (cx_dead H (by decide)) x69_7
      rw [decide_eq_false (fun c => absurd (show (1 : Nat) = 0 from c.2) (by decide))] at q
      exact q
  · have nz : ¬ I 17 7 = 0 := by rw [h4]; exact nI_ne0 (by omega) (by omega)
    rw [if_neg nz]
    refine sgX5_pass_28 ?_
    rw [if_neg nz]
    refine sgX5_pass_53 ?_
    rw [if_neg nz]
    rw [if_neg z] at h
    have q := h I H x69.rf
    rw [decide_eq_false (fun c => z c.1)] at q
    exact q
