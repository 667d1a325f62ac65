/-! read: a new NAME, a NAME told ahead, in the class -/
def alv (B : Nat → Nat) (n : Nat) (s : s4_X) : Bool := decide (s.1 = 0 ∧ (paA B n 2 s).1 = 0)
theorem alv_2 {B : Nat → Nat} {n : Nat} {s : s4_X} (h : alv B n s = true) : s.1 = 0 ∧ knF B n s.2.1 = 2 ∧ s.2.1 < 400 ∧ paA B n 2 s = (0, s.2.1 + 1, s.2.2) := by
  obtain ⟨h1, h2⟩ := of_decide_eq_true h
  unfold paA stA at h2 ⊢
  rw [if_pos h1] at h2 ⊢
  by_cases y : knF B n s.2.1 = 2
  · rw [if_pos (decide_eq_true y)] at h2 ⊢
    by_cases t : 400 ≤ s.2.1
    · rw [if_pos t] at h2; exact absurd (show (2 : Nat) = 0 from h2) (by decide)
    · rw [if_neg t]; exact ⟨h1, y, by omega, rfl⟩
  · rw [if_neg (by rw [decide_eq_false y]; decide)] at h2; exact absurd (show (1 : Nat) = 0 from h2) (by decide)
def pushN (N : nm_X) (t so wh : Nat) : nm_X := (N.1 + 1, fun j => if j = N.1 then t else N.2.1 j, fun j => if j = N.1 then so else N.2.2.1 j, fun j => if j = N.1 then wh else N.2.2.2 j)
def nwA (B : Nat → Nat) (n : Nat) (N : nm_X) (s : s4_X) : s4_X := laA (alv B n s && (fnN B n N s.2.1).isSome) 3 s.2.1 (paA B n 2 s)
def nwN (B : Nat → Nat) (n : Nat) (N : nm_X) (s : s4_X) (so wh : Nat) : nm_X := if alv B n s && (fnN B n N s.2.1).isNone then pushN N s.2.1 so wh else N
/-- frame of a step with NAMES -/
def x22 (I J : st_I) : Prop := (∀ q, q ≠ 17 → q ≠ 22 → q ≠ 23 → J q = I q) ∧ ∀ j, j < 6 ∨ (9 < j ∧ j ≠ 13) → J 17 j = I 17 j
theorem x69.x22 {I J : st_I} (h : x69 I J) : x22 I J := ⟨fun q a _ _ => h.1 q a, fun j a => h.2 j (by omega)⟩
theorem cN.x69 {B : Nat → Nat} {n : Nat} {I J : st_I} {L : st_L} {N : nm_X} (H : cN B n I L N) (h : x69 I J) : cN B n J L N := by
  refine ⟨by rw [h.2 13 (by omega)]; exact H.1, H.2.1, fun j hj => ?_⟩
  rw [h.1 22 (by decide), h.1 23 (by decide)]; exact H.2.2 j hj
theorem x_takeNewName {d n kind num : Nat} {B : Nat → Nat} {I : st_I} {L : st_L} {s : s4_X} {N : nm_X} {F : st_I → st_L → Prop} (H : cx B n I s) (HN : cN B n I L N) (h32 : N.1 < 32) (h : ∀ J M, cx B n J (nwA B n N s) → cN B n J M (nwN B n N s kind num) → x22 I J → (∀ q, q ≠ 21 → M q = L q) → F J M) : EV (d + 2) mX5_takeNewName [.ref 17, .int (nI kind), .int (nI num)] I L F := by
  obtain ⟨l1, l2, l3, l4, l5, l6⟩ := H.lt
  refine sgX5_takeNewName_0 ?_
  rw [l3, nI_clamp (by omega), l5]
  refine ⟨l2, x_pass H (by decide) (by decide) (fun J hJ hx => ?_)⟩
  have eal : decide (s.1 = 0 ∧ (paA B n 2 s).1 = 0) = alv B n s := rfl
  rw [eal]
  unfold nwA nwN at h
  by_cases w : alv B n s = true
  · obtain ⟨w1, w2, w3, w4⟩ := alv_2 w
    rw [b01_1 w, if_neg (by decide)]
    rw [w, Bool.true_and, Bool.true_and] at h
    refine x_keyAt (B := B) ⟨hJ.1.1, hJ.1.2.1, hJ.1.2.2.1⟩ hJ.1.2.2.2.1 w2 ?_
    have HNJ := HN.x69 hx
    refine x_nameOf HNJ w2 ?_
    cases hf : fnN B n N s.2.1 with
    | none =>
      rw [hf] at h
      rw [if_pos rfl, HNJ.1, if_neg (show ¬ (32 : Int32) ≤ nI N.1 from nI_ge (b := 32) h32 (by decide)), nI_clamp (by omega), nI_1]
      have v : vp_in (nI N.1) 32 := vp_in_nI h32 (by decide)
      refine ⟨v, v, v, ?_⟩
      have g1 : ∀ q, q ≠ 17 → q ≠ 22 → q ≠ 23 → (u_I (u_I (u_I J 22 N.1 (nI kind)) 23 N.1 (nI num)) 17 13 (nI (N.1 + 1))) q = J q := fun q a b c => by rw [u_I_ne _ _ a, u_I_ne _ _ c, u_I_ne _ _ b]
      have g2 : ∀ j, j ≠ 13 → (u_I (u_I (u_I J 22 N.1 (nI kind)) 23 N.1 (nI num)) 17 13 (nI (N.1 + 1))) 17 j = J 17 j := fun j hj => by simp [u_I, hj]
      obtain ⟨c1, c2, c3, c4, c5, c6, c7, c8⟩ := hJ
      refine h _ _ ⟨?_, c2, by rw [g2 6 (by decide)]; exact c3, by rw [g2 7 (by decide)]; exact c4, c5, by rw [g2 8 (by decide)]; exact c6, c7, fun q => by rw [g2 9 (by decide)]; exact c8 q⟩ ?_ ?_ ?_
      · obtain ⟨b1, b2, b3, b4, b5⟩ := c1
        have e18 := g1 18 (by decide) (by decide) (by decide)
        refine ⟨b1, by rw [g2 0 (by decide)]; exact b2, fun j => by rw [e18]; exact b3 j, by rw [← b4]; funext j; unfold bB; rw [e18], fun i hi => ?_⟩
        rw [g1 19 (by decide) (by decide) (by decide), g1 20 (by decide) (by decide) (by decide)]; exact b5 i hi
      · rw [show (Option.none : Option Nat).isNone = true from rfl, if_pos rfl]
        refine ⟨by simp [u_I, pushN], by unfold pushN; omega, fun j hj => ?_⟩
        have hj' : j < N.1 + 1 := hj
        by_cases e : j = N.1
        · subst e
          refine ⟨by simp [pushN]; exact w2, by simp [pushN, u_L], by simp [pushN, u_I], by simp [pushN, u_I]⟩
        · obtain ⟨q1, q2, q3, q4⟩ := HNJ.2.2 j (by omega)
          refine ⟨by simp only [pushN, if_neg e]; exact q1, by simp only [pushN, u_L, if_true, if_neg e]; exact q2, by simp [pushN, u_I, e]; exact q3, by simp [pushN, u_I, e]; exact q4⟩
      · exact ⟨fun q a b c => by rw [g1 q a b c, hx.1 q a], fun j hj => by rw [g2 j (by omega), hx.2 j (by omega)]⟩
      · intro q hq; rw [u_L_ne _ _ hq]
    | some a =>
      rw [hf] at h
      obtain ⟨-, a2, -⟩ := foF_lt _ _ _ hf
      have ne : ¬ nI a = -1 := fun q => absurd (q ▸ nI_pos' (show a < 2 ^ 31 by omega)) (by decide)
      rw [if_neg ne]
      refine x_failLater hJ (by decide) (by decide) (fun K hK hxK => ?_)
      exact h K L hK ((HN.x69 hx).x69 hxK) (hx.tr hxK).x22 (fun _ _ => rfl)
  · rw [b01_0 w, if_pos rfl]
    have wf : alv B n s = false := by simpa using w
    rw [wf, Bool.false_and, Bool.false_and] at h
    exact h J L hJ (HN.x69 hx) hx.x22 (fun _ _ => rfl)
/-- no such NAME of the kind -/
def msA (B : Nat → Nat) (n : Nat) (N : nm_X) (t kind : Nat) : Bool := match fnN B n N t with
  | none => true
  | some j => !decide (N.2.2.1 j = kind)
def tnA (B : Nat → Nat) (n : Nat) (N : nm_X) (kind : Nat) (s : s4_X) : s4_X := laA (alv B n s && msA B n N s.2.1 kind) 4 s.2.1 (paA B n 2 s)
def tnV (B : Nat → Nat) (n : Nat) (N : nm_X) (kind : Nat) (s : s4_X) : Int32 := if alv B n s then (match fnN B n N s.2.1 with
  | none => -1
  | some j => if N.2.2.1 j = kind then nI (N.2.2.2 j) else -1) else -1
theorem x_takeToldName {d n kind : Nat} {B : Nat → Nat} {I : st_I} {L : st_L} {s : s4_X} {N : nm_X} {F : Int32 → st_I → st_L → Prop} (H : cx B n I s) (HN : cN B n I L N) (hk : kind < 2 ^ 31) (hs : ∀ j, j < N.1 → N.2.2.1 j < 2 ^ 31) (h : ∀ J, cx B n J (tnA B n N kind s) → x69 I J → F (tnV B n N kind s) J L) : EI (d + 2) mX5_takeToldName [.ref 17, .int (nI kind)] I L F := by
  obtain ⟨l1, l2, l3, l4, l5, l6⟩ := H.lt
  refine sgX5_takeToldName_0 ?_
  rw [l3, nI_clamp (by omega), l5]
  refine ⟨l2, x_pass H (by decide) (by decide) (fun J hJ hx => ?_)⟩
  have eal : decide (s.1 = 0 ∧ (paA B n 2 s).1 = 0) = alv B n s := rfl
  rw [eal]
  unfold tnA tnV msA at h
  by_cases w : alv B n s = true
  · obtain ⟨w1, w2, w3, w4⟩ := alv_2 w
    rw [b01_1 w, if_neg (by decide)]
    rw [w, Bool.true_and, if_pos rfl] at h
    refine x_keyAt (B := B) ⟨hJ.1.1, hJ.1.2.1, hJ.1.2.2.1⟩ hJ.1.2.2.2.1 w2 ?_
    have HNJ := HN.x69 hx
    refine x_nameOf HNJ w2 ?_
    cases hf : fnN B n N s.2.1 with
    | none =>
      simp only [hf] at h
      rw [if_pos rfl]
      exact x_failLater hJ (by decide) (by decide) (fun K hK hxK => h K hK (hx.tr hxK))
    | some a =>
      simp only [hf] at h
      obtain ⟨-, a2, -⟩ := foF_lt _ _ _ hf
      have n32 := HN.2.1
      have ne : ¬ nI a = -1 := fun q => absurd (q ▸ nI_pos' (show a < 2 ^ 31 by omega)) (by decide)
      obtain ⟨q1, q2, q3, q4⟩ := HNJ.2.2 a (by omega)
      rw [if_neg ne, nI_clamp (by omega), q3]
      have v : vp_in (nI a) 32 := vp_in_nI (by omega) (by decide)
      refine ⟨v, ?_⟩
      by_cases y : N.2.2.1 a = kind
      · rw [if_pos (by rw [y]), q4]
        refine ⟨v, ?_⟩
        have f := h J (by rw [decide_eq_true y]; exact hJ) hx
        rw [if_pos y] at f; exact f
      · rw [if_neg (fun q => y ((nI_eq (hs a (by omega)) hk).mp q))]
        refine x_failLater hJ (by decide) (by decide) (fun K hK hxK => ?_)
        have f := h K (by rw [decide_eq_false y]; exact hK) (hx.tr hxK)
        rw [if_neg y] at f; exact f
  · rw [b01_0 w, if_pos rfl]
    have wf : alv B n s = false := by simpa using w
    rw [wf, Bool.false_and, if_neg (by decide)] at h
    exact h J hJ hx
