/-! read: steps where there is a FAULT already, and what they keep -/
theorem st_dead {b : Bool} {s : s4_X} (h : ¬ s.1 = 0) : stA b s = s := by unfold stA; rw [if_neg h]
theorem st_al {b : Bool} {s : s4_X} (h : (stA b s).1 = 0) : s.1 = 0 ∧ b = true ∧ s.2.1 < 400 ∧ stA b s = (0, s.2.1 + 1, s.2.2) := by
  by_cases z : s.1 = 0
  · unfold stA at h ⊢
    rw [if_pos z] at h ⊢
    by_cases y : b = true
    · rw [if_pos y] at h ⊢
      by_cases t : 400 ≤ s.2.1
      · rw [if_pos t] at h; exact absurd (show (2 : Nat) = 0 from h) (by decide)
      · rw [if_neg t]; exact ⟨z, y, by omega, rfl⟩
    · rw [if_neg y] at h; exact absurd (show (1 : Nat) = 0 from h) (by decide)
  · rw [st_dead z] at h; exact absurd h z
theorem st_lf {b : Bool} {s : s4_X} : (stA b s).2.2 = s.2.2 := by
  unfold stA
  repeat' split
  all_goals rfl
theorem lok_st {b : Bool} {s : s4_X} (h : lok s) : lok (stA b s) := by
  intro z y
  obtain ⟨a1, -, -, a4⟩ := st_al z
  rw [a4] at y ⊢
  have := h a1 y
  show s.2.2.2 < s.2.1 + 1
  omega
theorem la_1 {c : Bool} {k t : Nat} {s : s4_X} : (laA c k t s).1 = s.1 ∧ (laA c k t s).2.1 = s.2.1 := by
  unfold laA
  repeat' split
  all_goals exact ⟨rfl, rfl⟩
theorem la_lf {c : Bool} {k t : Nat} {s : s4_X} (hk : k ≠ 0) (h : (laA c k t s).2.2.1 = 0) : s.2.2.1 = 0 ∧ c = false := by
  unfold laA at h
  by_cases a : c = true
  · rw [if_pos a] at h
    by_cases b : s.2.2.1 = 0
    · rw [if_pos b] at h; exact absurd h hk
    · rw [if_neg b] at h; exact absurd h b
  · rw [if_neg a] at h
    exact ⟨h, by simpa using a⟩
theorem lok_la {c : Bool} {k t : Nat} {s : s4_X} (h : lok s) (ht : s.1 = 0 → t < s.2.1) : lok (laA c k t s) := by
  unfold laA
  split
  · split
    · exact fun z _ => ht z
    · exact h
  · exact h
theorem in_al {B : Nat → Nat} {n m : Nat} {s : s4_X} (h : (inA B n m s).1 = 0) : s.1 = 0 ∧ knF B n s.2.1 = 3 := by
  unfold inA at h
  rw [la_1.1] at h
  obtain ⟨a, b, -, -⟩ := st_al h
  exact ⟨a, of_decide_eq_true b⟩
theorem in_dead {B : Nat → Nat} {n m : Nat} {s : s4_X} (h : ¬ s.1 = 0) : inA B n m s = s := by
  unfold inA
  rw [decide_eq_false (fun c => h c.1)]
  exact st_dead h
theorem in_lf {B : Nat → Nat} {n m : Nat} {s : s4_X} (h : (inA B n m s).2.2.1 = 0) : s.2.2.1 = 0 := by
  unfold inA at h
  have := (la_lf (by decide) h).1
  rwa [show (paA B n 3 s).2.2 = s.2.2 from st_lf] at this
theorem lok_in {B : Nat → Nat} {n m : Nat} {s : s4_X} (h : lok s) : lok (inA B n m s) := by
  unfold inA
  refine lok_la (lok_st h) (fun z => ?_)
  obtain ⟨-, -, -, a4⟩ := st_al z
  show s.2.1 < (stA _ s).2.1
  rw [a4]; show s.2.1 < s.2.1 + 1; omega
theorem nw_al {B : Nat → Nat} {n : Nat} {N : nm_X} {s : s4_X} (h : (nwA B n N s).1 = 0) : s.1 = 0 ∧ alv B n s = true := by
  unfold nwA at h
  rw [la_1.1] at h
  have := st_al h
  exact ⟨this.1, decide_eq_true ⟨this.1, h⟩⟩
theorem nw_dead {B : Nat → Nat} {n : Nat} {N : nm_X} {s : s4_X} (h : ¬ s.1 = 0) : nwA B n N s = s := by
  unfold nwA
  have : alv B n s = false := decide_eq_false (fun c => h c.1)
  rw [this, Bool.false_and]
  exact st_dead h
theorem nw_lf {B : Nat → Nat} {n : Nat} {N : nm_X} {s : s4_X} (h : (nwA B n N s).2.2.1 = 0) : s.2.2.1 = 0 ∧ (alv B n s && (fnN B n N s.2.1).isSome) = false := by
  unfold nwA at h
  have := la_lf (by decide) h
  exact ⟨by rw [← this.1]; exact congrArg (fun a => a.1) (st_lf (b := decide (knF B n s.2.1 = 2)) (s := s)).symm, this.2⟩
theorem lok_nw {B : Nat → Nat} {n : Nat} {N : nm_X} {s : s4_X} (h : lok s) : lok (nwA B n N s) := by
  unfold nwA
  refine lok_la (lok_st h) (fun z => ?_)
  obtain ⟨-, -, -, a4⟩ := st_al z
  show s.2.1 < (stA _ s).2.1
  rw [a4]; show s.2.1 < s.2.1 + 1; omega
theorem pi_al {B : Nat → Nat} {n k : Nat} {s : s4_X} (h : (piA B n k s).1 = 0) : s.1 = 0 := by
  unfold piA at h
  split at h
  · exact (st_al h).1
  · exact h
theorem pi_lf {B : Nat → Nat} {n k : Nat} {s : s4_X} : (piA B n k s).2.2 = s.2.2 := by
  unfold piA; split
  · exact st_lf
  · rfl
theorem lok_pi {B : Nat → Nat} {n k : Nat} {s : s4_X} (h : lok s) : lok (piA B n k s) := by
  unfold piA; split
  · exact lok_st h
  · exact h
theorem pi_dead {B : Nat → Nat} {n k : Nat} {s : s4_X} (h : ¬ s.1 = 0) : piA B n k s = s := by
  unfold piA; split
  · exact st_dead h
  · rfl
theorem fi3_dead {B : Nat → Nat} {n : Nat} {s : s4_X} (h : ¬ s.1 = 0) : fi3 B n s = s := by
  unfold fi3
  rw [pi_dead h]
  split
  · rfl
  · exact st_dead h
/-- old, new or neither -/
theorem fi3_c {B : Nat → Nat} {n : Nat} {u : s4_X} (h : u.1 = 0) : fi3 B n u = if knF B n u.2.1 = 135 ∨ knF B n u.2.1 = 141 then stA true u else (1, u.2) := by
  unfold fi3 piA
  by_cases a : knF B n u.2.1 = 135
  · rw [if_pos (Or.inl a), if_pos a]
    have e : paA B n 135 u = stA true u := by unfold paA; rw [decide_eq_true a]
    split
    · exact e
    · next o =>
      have : ¬ (paA B n 135 u).1 = 0 := fun q => o (decide_eq_true ⟨h, a, q⟩)
      rw [show paA B n 141 (paA B n 135 u) = paA B n 135 u from st_dead this]; exact e
  · rw [if_neg a]
    have o : ¬ foB B n 135 u = true := fun q => a (of_decide_eq_true q).2.1
    rw [if_neg o]
    unfold paA
    by_cases b : knF B n u.2.1 = 141
    · rw [if_pos (Or.inr b), decide_eq_true b]
    · rw [if_neg (fun q => q.elim a b), decide_eq_false b]
      unfold stA; rw [if_pos h]; rfl
theorem rr_tab {B : Nat → Nat} {n q k : Nat} {x : Int32} {J : st_I} {M : st_L} {s : s4_X} (H : rr B n J M s) (h : 63 < q) : rr B n (u_I J q k x) M s := by
  unfold rr at H ⊢
  rw [u_I_ne _ _ (show 58 ≠ q by omega), u_I_ne _ _ (show 61 ≠ q by omega), u_I_ne _ _ (show 62 ≠ q by omega), u_I_ne _ _ (show 63 ≠ q by omega)]
  exact H
theorem rN_tab {B : Nat → Nat} {n q k c lf : Nat} {x : Int32} {J : st_I} {M : st_L} {N : nm_X} (H : rN B n J M N c lf) (h : 68 < q) : rN B n (u_I J q k x) M N c lf := by
  unfold rN at H ⊢
  rw [u_I_ne _ _ (show 58 ≠ q by omega), u_I_ne _ _ (show 67 ≠ q by omega), u_I_ne _ _ (show 68 ≠ q by omega)]
  exact H
theorem rN_lf {B : Nat → Nat} {n c lf lf' : Nat} {J : st_I} {M : st_L} {N : nm_X} (H : rN B n J M N c lf) (h : lf' = 0 → lf = 0) : rN B n J M N c lf' := ⟨H.1, H.2.1, fun z => H.2.2 (h z)⟩
theorem m_tolds {d most : Nat} {B : Nat → Nat} {n : Nat} {J : st_I} {M : st_L} {s : s4_X} {F : Int32 → st_I → st_L → Prop} (H : rr B n J M s) (hl : lok s) (hm : most < 10000) (h : ∀ K x, rr B n K M (inA B n most s) → r58 J K → ((inA B n most s).1 = 0 → x = nI (ivA B n s)) → F x K M) : EI (d + 2) mX12_told [.ref 58, .int (nI most)] J M F :=
  m_told H hl hm (fun K hK hx => ⟨fun _ => h K _ hK hx (fun _ => rfl), fun x hd => h K x hK hx (fun q => absurd q hd)⟩)
theorem nar_b01 (b : Bool) : vp_nar .boolean (b01 b) = b01 b := by cases b <;> rfl
