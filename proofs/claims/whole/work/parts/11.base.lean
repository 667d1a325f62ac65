theorem lit (n : Nat) : (@OfNat.ofNat Int32 n _) = nI (OfNat.ofNat n) := rfl
theorem u_at (I : st_I) (q k : Nat) (x : Int32) (a b : Nat) : u_I I q k x a b = if a = q then (if b = k then x else I a b) else I a b := rfl
theorem uL_at (L : st_L) (q k : Nat) (x : Int64) (a b : Nat) : u_L L q k x a b = if a = q then (if b = k then x else L a b) else L a b := rfl
/-- a byte of an int -/
def by_of (x : Int32) (s : Nat) : Int32 := ((x >>> (nI s &&& 31)).toInt8.toInt32).toInt8.toInt32
/-- the tape with an int's four bytes behind n -/
def tp4 (t : Nat → Int32) (n : Nat) (x : Int32) : Nat → Int32 := upd (upd (upd (upd t n (by_of x 24)) (n + 1) (by_of x 16)) (n + 2) (by_of x 8)) (n + 3) (by_of x 0)
theorem u_I_u (I : st_I) (q k k2 : Nat) (x x2 : Int32) : u_I (u_I I q k x) q k2 x2 = fun a => if a = q then upd (upd (I q) k x) k2 x2 else I a := by
  funext a b
  by_cases h : a = q <;> simp [u_I, upd, h]
theorem pX_append {d n : Nat} {I : st_I} {L : st_L} {F : st_I → st_L → Prop} {x : Int32} (hn : n + 4 ≤ 2000) (h0 : I 17 0 = nI n) (h : F (fun a => if a = 18 then tp4 (I 18) n x else if a = 17 then upd (I 17) 0 (nI (n + 4)) else I a) L) : EV d mX5_append [.ref 17, .int x] I L F := by
  refine sgX5_append_0 (sgX5_append_3 ?_)
  rw [if_neg (by decide), h0, if_neg (show ¬ (2000 : Int32) ≤ nI n from nI_ge (b := 2000) (by omega) (by decide))]
  refine ⟨vp_in_nI (by omega) (by decide), sgX5_append_3 ?_⟩
  simp only [u_at, nI_clamp (show n < 2 ^ 31 by omega), nI_1, if_true, show (18 : Nat) = 17 ↔ False by decide, show (17 : Nat) = 18 ↔ False by decide, if_false]
  rw [if_neg (by decide), if_neg (show ¬ (2000 : Int32) ≤ nI (n + 1) from nI_ge (b := 2000) (by omega) (by decide))]
  refine ⟨vp_in_nI (by omega) (by decide), sgX5_append_3 ?_⟩
  simp only [u_at, nI_clamp (show n + 1 < 2 ^ 31 by omega), nI_1, if_true, show (18 : Nat) = 17 ↔ False by decide, show (17 : Nat) = 18 ↔ False by decide, if_false]
  rw [if_neg (by decide), if_neg (show ¬ (2000 : Int32) ≤ nI (n + 1 + 1) from nI_ge (b := 2000) (by omega) (by decide))]
  refine ⟨vp_in_nI (by omega) (by decide), sgX5_append_3 ?_⟩
  simp only [u_at, nI_clamp (show n + 1 + 1 < 2 ^ 31 by omega), nI_1, if_true, show (18 : Nat) = 17 ↔ False by decide, show (17 : Nat) = 18 ↔ False by decide, if_false]
  rw [if_neg (by decide), if_neg (show ¬ (2000 : Int32) ≤ nI (n + 1 + 1 + 1) from nI_ge (b := 2000) (by omega) (by decide))]
  refine ⟨vp_in_nI (by omega) (by decide), sgX5_append_3 ?_⟩
  simp only [u_at, nI_clamp (show n + 1 + 1 + 1 < 2 ^ 31 by omega), nI_1, if_true, show (18 : Nat) = 17 ↔ False by decide, show (17 : Nat) = 18 ↔ False by decide, if_false]
  rw [if_pos (by decide)]
  refine cast (congrArg (fun z => F z L) ?_) h
  funext a b
  by_cases h1 : a = 17
  · subst h1; by_cases h2 : b = 0 <;> simp [u_I, upd, h2]
  · by_cases h2 : a = 18
    · subst h2; simp only [u_I, tp4, upd, if_true, show (18 : Nat) = 17 ↔ False by decide, if_false]; rfl
    · simp [u_I, h1, h2]
