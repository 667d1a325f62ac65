/-! feed, back -/
theorem tp4_lt {t t' : Nat → Int32} {n : Nat} {x : Int32} (h : ∀ j, j < n → t j = t' j) : ∀ j, j < n + 4 → tp4 t n x j = tp4 t' n x j := by
  intro j hj
  simp only [tp4, upd]
  by_cases h3 : j = n + 3
  · rw [if_pos h3, if_pos h3]
  rw [if_neg h3, if_neg h3]
  by_cases h2 : j = n + 2
  · rw [if_pos h2, if_pos h2]
  rw [if_neg h2, if_neg h2]
  by_cases h1 : j = n + 1
  · rw [if_pos h1, if_pos h1]
  rw [if_neg h1, if_neg h1]
  by_cases h0 : j = n
  · rw [if_pos h0, if_pos h0]
  rw [if_neg h0, if_neg h0]
  exact h j (by omega)
theorem pX_append' {d n : Nat} {I : st_I} {L : st_L} {F : st_I → st_L → Prop} {x : Int32} (hn : n + 4 ≤ 2000) (h0 : I 17 0 = nI n) (h : ∀ J : st_I, (∀ q, q ≠ 17 → q ≠ 18 → J q = I q) → J 18 = tp4 (I 18) n x → (∀ k, k ≠ 0 → J 17 k = I 17 k) → J 17 0 = nI (n + 4) → F J L) : EV d mX5_append [.ref 17, .int x] I L F := by
  refine pX_append hn h0 (h _ (fun q a b => ?_) ?_ (fun k hk => ?_) ?_)
  · rw [if_neg b, if_neg a]
  · rfl
  · rw [if_neg (by decide), if_pos rfl, upd, if_neg hk]
  · rw [if_neg (by decide), if_pos rfl, upd, if_pos rfl]
theorem pM_put {d n : Nat} {I : st_I} {L : st_L} {F : st_I → st_L → Prop} {x : Int32} (hn : n + 4 ≤ 2000) (h0 : I 58 2 = nI n) (h : ∀ J : st_I, (∀ q, q ≠ 58 → q ≠ 59 → J q = I q) → J 59 = tp4 (I 59) n x → (∀ k, k ≠ 2 → J 58 k = I 58 k) → J 58 2 = nI (n + 4) → F J L) : EV d mX12_put [.ref 58, .int x] I L F := by
  refine sgX12_put_0 (sgX12_put_3 ?_)
  rw [if_neg (by decide), h0, nI_clamp (by omega), nI_1]
  refine ⟨vp_in_nI (by omega) (by decide), sgX12_put_3 ?_⟩
  simp only [u_at, if_true, nI_clamp (show n + 1 < 2 ^ 31 by omega), nI_1]
  rw [if_neg (by decide)]
  refine ⟨vp_in_nI (by omega) (by decide), sgX12_put_3 ?_⟩
  simp only [u_at, if_true, nI_clamp (show n + 1 + 1 < 2 ^ 31 by omega), nI_1]
  rw [if_neg (by decide)]
  refine ⟨vp_in_nI (by omega) (by decide), sgX12_put_3 ?_⟩
  simp only [u_at, if_true, nI_clamp (show n + 1 + 1 + 1 < 2 ^ 31 by omega), nI_1]
  rw [if_neg (by decide)]
  refine ⟨vp_in_nI (by omega) (by decide), sgX12_put_3 ?_⟩
  rw [if_pos (by decide)]
  refine h _ (fun q a b => ?_) ?_ (fun k hk => ?_) ?_
  · funext k; simp [u_I, a, b]
  · funext k; simp only [u_I, tp4, upd, if_true, show (59 : Nat) = 58 ↔ False by decide, if_false]; rfl
  · simp [u_I, hk]
  · simp [u_I]
theorem op_feed {I : st_I} {L : st_L} {P : st_I → st_L → Prop} (H : iv_tape I) (no : P I L) (hP : ∀ J : st_I, (∀ q, q ≠ 17 → q ≠ 18 → q ≠ 58 → q ≠ 59 → J q = I q) → (∀ k, k ≠ 0 → J 17 k = I 17 k) → (∀ k, k ≠ 2 → J 58 k = I 58 k) → iv_tape J → P J L) (a b c e f : Int32) :
    EI 60 mX11_feed [.ref 0, .int a, .int b, .int c, .int e, .int f] I L (fun r I1 L1 => EI 60 mX12_feed [.ref 58, .int a, .int b, .int c, .int e, .int f] I1 L1 (fun r' I2 L2 => r' = r ∧ P I2 L2)) := by
  obtain ⟨n, hn, hx, hm, ht⟩ := H
  refine sgX11_feed_0 ?_
  rw [hx, show nI n + 20 = nI (n + 20) from nI_add n 20]
  by_cases h : n + 20 ≤ 2000
  · rw [if_pos (show nI (n + 20) ≤ 2000 from nI_le (b := 2000) h (by decide))]
    refine pX_append' (by omega) hx (fun J1 a1 b1 c1 d1 => pX_append' (by omega) d1 (fun J2 a2 b2 c2 d2 => pX_append' (by omega) d2 (fun J3 a3 b3 c3 d3 => pX_append' (by omega) d3 (fun J4 a4 b4 c4 d4 => pX_append' (by omega) d4 (fun J5 a5 b5 c5 d5 => ?_)))))
    have s : ∀ q, q ≠ 17 → q ≠ 18 → J5 q = I q := fun q x y => by rw [a5 q x y, a4 q x y, a3 q x y, a2 q x y, a1 q x y]
    refine sgX12_feed_0 ?_
    rw [s 58 (by decide) (by decide), hm, show nI n + 20 = nI (n + 20) from nI_add n 20, if_pos (show nI (n + 20) ≤ 2000 from nI_le (b := 2000) h (by decide))]
    refine pM_put (n := n) (by omega) (by rw [s 58 (by decide) (by decide), hm]) (fun K1 e1 f1 g1 h1 => pM_put (by omega) h1 (fun K2 e2 f2 g2 h2 => pM_put (by omega) h2 (fun K3 e3 f3 g3 h3 => pM_put (by omega) h3 (fun K4 e4 f4 g4 h4 => pM_put (by omega) h4 (fun K5 e5 f5 g5 h5 => ?_)))))
    have s2 : ∀ q, q ≠ 58 → q ≠ 59 → K5 q = J5 q := fun q x y => by rw [e5 q x y, e4 q x y, e3 q x y, e2 q x y, e1 q x y]
    refine ⟨by rw [h5, d5], hP K5 (fun q q1 q2 q3 q4 => by rw [s2 q q3 q4, s q q1 q2]) (fun k hk => by rw [s2 17 (by decide) (by decide), c5 k hk, c4 k hk, c3 k hk, c2 k hk, c1 k hk]) (fun k hk => by rw [g5 k hk, g4 k hk, g3 k hk, g2 k hk, g1 k hk, s 58 (by decide) (by decide)]) ⟨n + 20, h, by rw [s2 17 (by decide) (by decide), d5], h5, ?_⟩⟩
    rw [f5, f4, f3, f2, f1, s2 18 (by decide) (by decide), b5, b4, b3, b2, b1, s 59 (by decide) (by decide)]
    exact tp4_lt (tp4_lt (tp4_lt (tp4_lt (tp4_lt ht))))
  · have hi : ¬ nI (n + 20) ≤ 2000 := nI_ge (a := 2000) (by omega) (by omega)
    rw [if_neg hi]
    refine sgX12_feed_0 ?_
    rw [hm, show nI n + 20 = nI (n + 20) from nI_add n 20, if_neg hi]
    exact ⟨rfl, no⟩
theorem op_back {I : st_I} {L : st_L} {P : st_I → st_L → Prop} (H : iv_tape I) (no : P I L) (hP : ∀ J : st_I, (∀ q, q ≠ 17 → q ≠ 18 → q ≠ 58 → q ≠ 59 → J q = I q) → (∀ k, k ≠ 0 → J 17 k = I 17 k) → (∀ k, k ≠ 2 → J 58 k = I 58 k) → iv_tape J → P J L) (a : Int32) :
    EI 60 mX11_back [.ref 0, .int a] I L (fun r I1 L1 => EI 60 mX12_back [.ref 58, .int a] I1 L1 (fun r' I2 L2 => r' = r ∧ P I2 L2)) := by
  obtain ⟨n, hn, hx, hm, ht⟩ := H
  refine sgX11_back_0 ?_
  rw [hx]
  rcases ot_ix a (n + 1) (by omega) with ho | ⟨j, hj, rfl⟩
  · have bad : EI 60 mX12_back [.ref 58, .int a] I L (fun r' I2 L2 => r' = -1 ∧ P I2 L2) := by
      refine sgX12_back_0 ?_
      rw [hm]
      rcases ho with z | z
      · rw [if_pos z]; exact ⟨rfl, no⟩
      · by_cases y : a < 0
        · rw [if_pos y]; exact ⟨rfl, no⟩
        · obtain ⟨i, hi, rfl⟩ := nI_of y
          have : n + 1 ≤ i := (nI_leI (by omega) hi).mp z
          rw [if_neg y, if_neg (nI_ge (by omega) hi)]; exact ⟨rfl, no⟩
    by_cases y : a < 0
    · rw [if_pos y]; exact bad
    · obtain ⟨i, hi, rfl⟩ := nI_of y
      have : n + 1 ≤ i := (nI_leI (by omega) hi).mp (ho.resolve_left y)
      rw [if_neg y, if_neg (nI_ge (by omega) hi)]; exact bad
  · rw [if_neg (nI_pos (by omega)), if_pos (nI_le (by omega) (by omega)), pk_sub (by omega)]
    refine sgX12_back_0 ?_
    rw [if_neg (nI_pos (by omega)), u_I_ne 0 _ (by decide), hm, if_pos (nI_le (by omega) (by omega)), pk_sub (by omega)]
    refine ⟨rfl, hP _ (fun q q1 q2 q3 q4 => by rw [u_I_ne 2 _ q3, u_I_ne 0 _ q1]) (fun k hk => by simp [u_I, hk]) (fun k hk => by simp [u_I, hk]) ⟨n - j, by omega, by simp [u_I], by simp [u_I], fun i hi => ?_⟩⟩
    rw [u_I_ne 2 _ (by decide), u_I_ne 0 _ (by decide), u_I_ne 2 _ (by decide), u_I_ne 0 _ (by decide)]
    exact ht i (by omega)
/-! FACTS that come -/
/-- fact k, in the rows R and in the reference -/
def iv_fr (R : Nat → Int32) (I : st_I) (k : Nat) : Prop := I 95 k = R (6 * k) ∧ I 96 k = R (6 * k + 1) ∧
  ((R (6 * k) = 0 ∧ (∃ p, p < 10 ∧ R (6 * k + 1) = nI p) ∧ (∃ f, f < 8 ∧ R (6 * k + 2) = nI f ∧ I 97 k = nI f) ∧ (∃ v, v ≤ 100 ∧ R (6 * k + 3) = nI v ∧ I 98 k = nI v) ∧ (∃ sp, sp < 10 ∧ R (6 * k + 4) = nI sp ∧ I 99 k = nI sp) ∧ bo (R (6 * k + 5)) ∧ I 100 k = R (6 * k + 5))
  ∨ (R (6 * k) = 1 ∧ (∃ p, p < 10 ∧ R (6 * k + 1) = nI p) ∧ (∃ f, f < 8 ∧ R (6 * k + 2) = nI f ∧ I 97 k = nI f) ∧ bo (R (6 * k + 3)) ∧ I 98 k = R (6 * k + 3) ∧ R (6 * k + 4) = -1 ∧ R (6 * k + 5) = -1)
  ∨ (R (6 * k) = 2 ∧ (∃ j, j < k ∧ R (6 * k + 1) = nI j ∧ ¬ R (6 * j) = 2) ∧ R (6 * k + 2) = -1 ∧ R (6 * k + 3) = -1 ∧ R (6 * k + 4) = -1 ∧ R (6 * k + 5) = -1))
theorem iv_fr_eq (I : st_I) (k : Nat) : iv_fr (I 29) I k = iv_fact I k := rfl
theorem iv_fr_keep {R R' : Nat → Int32} {I J : st_I} {n k : Nat} (hk : k < n) (hR : ∀ j, j < 6 * n → R' j = R j) (hc : ∀ q, 95 ≤ q → q ≤ 100 → J q k = I q k) (h : iv_fr R I k) : iv_fr R' J k := by
  have e0 := hR (6 * k) (by omega); have e1 := hR (6 * k + 1) (by omega); have e2 := hR (6 * k + 2) (by omega); have e3 := hR (6 * k + 3) (by omega); have e4 := hR (6 * k + 4) (by omega); have e5 := hR (6 * k + 5) (by omega)
  have f0 := hc 95 (by decide) (by decide); have f1 := hc 96 (by decide) (by decide); have f2 := hc 97 (by decide) (by decide); have f3 := hc 98 (by decide) (by decide); have f4 := hc 99 (by decide) (by decide); have f5 := hc 100 (by decide) (by decide)
  simp only [iv_fr, e0, e1, e2, e3, e4, e5, f0, f1, f2, f3, f4, f5] at h ⊢
  refine ⟨h.1, h.2.1, ?_⟩
  rcases h.2.2 with q | q | ⟨q1, ⟨j, hj, q2, q3⟩, q4⟩
  · exact Or.inl q
  · exact Or.inr (Or.inl q)
  · exact Or.inr (Or.inr ⟨q1, ⟨j, hj, q2, by rw [hR (6 * j) (by omega)]; exact q3⟩, q4⟩)
/-- a row is written -/
def rw6 (R : Nat → Int32) (n : Nat) (a b c e f g : Int32) : Nat → Int32 := upd (upd (upd (upd (upd (upd R (6 * n) a) (6 * n + 1) b) (6 * n + 2) c) (6 * n + 3) e) (6 * n + 4) f) (6 * n + 5) g
theorem rw6_lt {R : Nat → Int32} {n : Nat} {a b c e f g : Int32} {j : Nat} (h : j < 6 * n) : rw6 R n a b c e f g j = R j := by
  simp only [rw6, upd, if_neg (show ¬ j = 6 * n by omega), if_neg (show ¬ j = 6 * n + 1 by omega), if_neg (show ¬ j = 6 * n + 2 by omega), if_neg (show ¬ j = 6 * n + 3 by omega), if_neg (show ¬ j = 6 * n + 4 by omega), if_neg (show ¬ j = 6 * n + 5 by omega)]
theorem rw6_at (R : Nat → Int32) (n : Nat) (a b c e f g : Int32) : rw6 R n a b c e f g (6 * n) = a ∧ rw6 R n a b c e f g (6 * n + 1) = b ∧ rw6 R n a b c e f g (6 * n + 2) = c ∧ rw6 R n a b c e f g (6 * n + 3) = e ∧ rw6 R n a b c e f g (6 * n + 4) = f ∧ rw6 R n a b c e f g (6 * n + 5) = g := by
  refine ⟨?_, ?_, ?_, ?_, ?_, ?_⟩ <;> simp [rw6, upd]
theorem x_add_o {d : Nat} {I : st_I} {L : st_L} {F : Int32 → st_I → st_L → Prop} {a b c e f g : Int32} (h28 : I 28 0 = nI 80) (h : F (-1) I L) : EI d mX0_add [.ref 28, .int a, .int b, .int c, .int e, .int f, .int g] I L F := by
  refine sgX0_add_0 ?_
  rw [h28, if_neg (by decide)]; exact h
theorem x_add {d n : Nat} {I : st_I} {L : st_L} {F : Int32 → st_I → st_L → Prop} {a b c e f g : Int32} (h28 : I 28 0 = nI n) (hn : n < 80) (h : ∀ J : st_I, (∀ q, q ≠ 28 → q ≠ 29 → J q = I q) → J 28 0 = nI (n + 1) → J 29 = rw6 (I 29) n a b c e f g → F (nI n) J L) : EI d mX0_add [.ref 28, .int a, .int b, .int c, .int e, .int f, .int g] I L F := by
  refine sgX0_add_0 ?_
  have m : ∀ c, nI (n * 6) + nI c = nI (6 * n + c) := fun c => by rw [nI_add, Nat.mul_comm]
  rw [h28, if_pos (show nI n < 80 from nI_lt (b := 80) hn (by decide)), show nI n * 6 = nI (n * 6) from pk_mul n 6, show nI (n * 6) + 1 = nI (6 * n + 1) from m 1, show nI (n * 6) + 2 = nI (6 * n + 2) from m 2, show nI (n * 6) + 3 = nI (6 * n + 3) from m 3, show nI (n * 6) + 4 = nI (6 * n + 4) from m 4, show nI (n * 6) + 5 = nI (6 * n + 5) from m 5, Nat.mul_comm n 6, nI_clamp (by omega), nI_clamp (by omega), nI_clamp (by omega), nI_clamp (by omega), nI_clamp (by omega), nI_clamp (by omega), nI_1, nI_pred]
  refine ⟨vp_in_nI (by omega) (by decide), vp_in_nI (by omega) (by decide), vp_in_nI (by omega) (by decide), vp_in_nI (by omega) (by decide), vp_in_nI (by omega) (by decide), vp_in_nI (by omega) (by decide), ?_⟩
  refine h _ (fun q q1 q2 => ?_) ?_ ?_
  · funext k; simp [u_I, q1, q2]
  · simp [u_I]
  · funext k; simp only [u_I, rw6, upd, if_true, show (29 : Nat) = 28 ↔ False by decide, if_false]
theorem nar_bo {x : Int32} (h : bo x) : vp_nar .boolean x = x := by
  rcases h with h | h <;> subst h <;> rfl
/-- only the FACTS' columns of the reference are written, at n alone -/
def ms6 (n : Nat) (I J : st_I) : Prop := (∀ q, q ≠ 58 → (q < 95 ∨ 100 < q) → J q = I q) ∧ (∀ k, k ≠ 52 → J 58 k = I 58 k) ∧ ∀ q k, q ≠ 58 → k ≠ n → J q k = I q k
theorem m_comes {d n : Nat} {I : st_I} {L : st_L} {F : Int32 → st_I → st_L → Prop} {a b c e f g : Int32} (h52 : I 58 52 = nI n) (hn : n < 80) (hg : bo g) (h : ∀ J : st_I, ms6 n I J → J 58 52 = nI (n + 1) → J 95 n = a → J 96 n = b → J 97 n = c → J 98 n = e → J 99 n = f → J 100 n = g → F (nI n) J L) : EI d mX12_comes [.ref 58, .int a, .int b, .int c, .int e, .int f, .int g] I L F := by
  refine sgX12_comes_0 ?_
  have v : vp_in (nI n) 80 := vp_in_nI hn (by decide)
  rw [h52, nI_clamp (by omega), nI_1, nI_pred, nar_bo hg]
  refine ⟨v, v, v, v, v, v, ?_⟩
  refine h _ ⟨fun q q1 q2 => ?_, fun k hk => ?_, fun q k q1 hk => ?_⟩ ?_ ?_ ?_ ?_ ?_ ?_ ?_
  · funext k
    simp only [u_I, if_neg q1, if_neg (show ¬ q = 95 by omega), if_neg (show ¬ q = 96 by omega), if_neg (show ¬ q = 97 by omega), if_neg (show ¬ q = 98 by omega), if_neg (show ¬ q = 99 by omega), if_neg (show ¬ q = 100 by omega)]
  · simp [u_I, hk]
  · simp only [u_I, if_neg q1, if_neg hk]
    repeat' split
    all_goals rfl
  all_goals simp [u_I]
theorem ms6.fr {n : Nat} {I J : st_I} (h : ms6 n I J) {R R' : Nat → Int32} (hR : ∀ j, j < 6 * n → R' j = R j) {k : Nat} (hk : k < n) (H : iv_fr R I k) : iv_fr R' J k :=
  iv_fr_keep hk hR (fun q h1 h2 => h.2.2 q k (by omega) (by omega)) H
/-- FACTS have come: what else is as it was -/
def fa (nF nF' : Nat) (I J : st_I) : Prop := (∀ q, q ≠ 26 → q ≠ 27 → q ≠ 28 → q ≠ 29 → q ≠ 58 → q ≠ 92 → q ≠ 93 → (q < 95 ∨ 100 < q) → J q = I q) ∧ (∀ k, k ≠ 52 → J 58 k = I 58 k) ∧ nF ≤ nF' ∧ (∀ j, j < 6 * nF → J 29 j = I 29 j) ∧ iv_facts J nF'
theorem fa.rf {nF : Nat} {I : st_I} (H : iv_facts I nF) : fa nF nF I I := ⟨fun _ _ _ _ _ _ _ _ _ => rfl, fun _ _ => rfl, Nat.le_refl _, fun _ _ => rfl, H⟩
/-- one FACT on both sides -/
theorem fa_one {n : Nat} {I J K : st_I} {a b c e f g b' c' e' f' g' : Int32} (H : iv_facts I n) (hn : n < 80) (x1 : ∀ q, q ≠ 28 → q ≠ 29 → J q = I q) (x2 : J 28 0 = nI (n + 1)) (x3 : J 29 = rw6 (I 29) n a b c e f g) (m1 : ms6 n J K) (m2 : K 58 52 = nI (n + 1)) (m3 : K 95 n = a) (m4 : K 96 n = b') (m5 : K 97 n = c') (m6 : K 98 n = e') (m7 : K 99 n = f') (m8 : K 100 n = g')
    (hb : b' = b) (hnew : ∀ R : Nat → Int32, R = J 29 → (a = 0 ∧ (∃ p, p < 10 ∧ b = nI p) ∧ (∃ f, f < 8 ∧ c = nI f ∧ c' = nI f) ∧ (∃ v, v ≤ 100 ∧ e = nI v ∧ e' = nI v) ∧ (∃ sp, sp < 10 ∧ f = nI sp ∧ f' = nI sp) ∧ bo g ∧ g' = g) ∨ (a = 1 ∧ (∃ p, p < 10 ∧ b = nI p) ∧ (∃ f, f < 8 ∧ c = nI f ∧ c' = nI f) ∧ bo e ∧ e' = e ∧ f = -1 ∧ g = -1) ∨ (a = 2 ∧ (∃ j, j < n ∧ b = nI j ∧ ¬ R (6 * j) = 2) ∧ c = -1 ∧ e = -1 ∧ f = -1 ∧ g = -1)) : fa n (n + 1) I K := by
  have k29 : K 29 = J 29 := m1.1 29 (by decide) (by decide)
  have lt : ∀ j, j < 6 * n → K 29 j = I 29 j := fun j hj => by rw [k29, x3, rw6_lt hj]
  obtain ⟨r0, r1, r2, r3, r4, r5⟩ := rw6_at (I 29) n a b c e f g
  refine ⟨fun q _ _ q3 q4 q5 _ _ q8 => by rw [m1.1 q q5 q8, x1 q q3 q4], fun k hk => by rw [m1.2.1 k hk, x1 58 (by decide) (by decide)], by omega, lt, by omega, by rw [m1.1 28 (by decide) (by decide), x2], m2, fun k hk => ?_⟩
  rw [← iv_fr_eq]
  by_cases hkn : k = n
  · subst hkn
    rw [k29]
    refine ⟨by rw [m3, x3, r0], by rw [m4, hb, x3, r1], ?_⟩
    have h := hnew (J 29) rfl
    rw [x3, r0, r1, r2, r3, r4, r5, m5, m6, m7, m8]
    rw [x3] at h
    exact h
  · refine m1.fr (R := I 29) lt (show k < n by omega) ?_
    exact iv_fr_keep (I := I) (n := n) (by omega) (fun _ _ => rfl) (fun q h1 h2 => by rw [x1 q (by omega) (by omega)]) (by rw [iv_fr_eq]; exact H.2.2.2 k (by omega))
theorem op_guess {lv nf np nb nl npl nF : Nat} {I : st_I} {L : st_L} {P : st_I → st_L → Prop} (H : iv_told I lv nf np nb nl npl) (HF : iv_facts I nF) (hP : ∀ J nF', fa nF nF' I J → P J L) (a b : Int32) {g : Int32} (hg : bo g) :
    EI 60 mX11_guess [.ref 0, .int a, .int b, .int g] I L (fun r I1 L1 => EI 60 mX12_guess [.ref 58, .int a, .int b, .int g] I1 L1 (fun r' I2 L2 => r' = r ∧ P I2 L2)) := by
  have no : P I L := hP I nF (fa.rf HF)
  obtain ⟨hlv, b1, b2, b3, b4, b5, h18, -⟩ := id H.1
  have b80 := HF.1
  -- the reference says no
  have ok : nF < 80 ∨ nF = 80 := by omega
  have nope : ot a np ∨ (∃ p, p < np ∧ a = nI p ∧ ot b nf) → EI 60 mX12_guess [.ref 58, .int a, .int b, .int g] I L (fun r' I2 L2 => r' = -1 ∧ P I2 L2) := by
    intro h
    refine sgX12_guess_0 ?_
    rw [HF.2.2.1]
    by_cases z : nI nF = 80
    · rw [if_pos z]; exact ⟨rfl, no⟩
    rw [if_neg z]
    rcases h with ho | ⟨p, hp, rfl, ho⟩
    · refine m_isPerson_o H ho ?_
      rw [if_pos rfl]; exact ⟨rfl, no⟩
    · refine m_isPerson_i H hp ?_
      rw [if_neg (by decide)]
      refine m_isFiddle_o H ho ?_
      rw [if_pos rfl]; exact ⟨rfl, no⟩
  refine sgX11_guess_0 ?_
  rcases ot_ix a np (by omega) with ho | ⟨p, hp, rfl⟩
  · refine x_hasPerson_o H ho ?_
    rw [if_pos rfl]; exact nope (Or.inl ho)
  refine x_hasPerson_i H hp ?_
  rw [if_neg (by decide)]
  rcases ot_ix b nf (by omega) with ho | ⟨f, hf, rfl⟩
  · refine x_hasFiddle_o H ho ?_
    rw [if_pos rfl]; exact nope (Or.inr ⟨p, hp, rfl, ho⟩)
  refine x_hasFiddle_i H hf ?_
  rw [if_neg (by decide)]
  rcases ok with hn | hn
  · refine x_add HF.2.1 hn (fun J x1 x2 x3 => ?_)
    have HJ : iv_told J lv nf np nb nl npl := iv_told_congr (fun q hq => x1 q (by omega) (by omega)) (by rw [x1 58 (by decide) (by decide)]) H
    refine sgX12_guess_0 ?_
    rw [x1 58 (by decide) (by decide), HF.2.2.1, if_neg (show ¬ nI nF = 80 from sw_ne nF 80 (by omega) (by decide) (by omega))]
    refine m_isPerson_i HJ hp ?_
    rw [if_neg (by decide)]
    refine m_isFiddle_i HJ hf ?_
    rw [if_neg (by decide), bo_if hg]
    refine m_comes (by rw [x1 58 (by decide) (by decide), HF.2.2.1]) hn (Or.inl rfl) (fun K m1 m2 m3 m4 m5 m6 m7 m8 => ?_)
    refine ⟨rfl, hP K (nF + 1) ?_⟩
    rw [bo_if hg] at x3
    exact fa_one HF hn x1 x2 x3 m1 m2 m3 m4 m5 m6 m7 m8 rfl (fun R _ => Or.inr (Or.inl ⟨rfl, ⟨p, by omega, rfl⟩, ⟨f, by omega, rfl, rfl⟩, hg, rfl, rfl, rfl⟩))
  · refine x_add_o (by rw [HF.2.1, hn]) ?_
    refine sgX12_guess_0 ?_
    rw [HF.2.2.1, hn, if_pos (show nI 80 = 80 from rfl)]; exact ⟨rfl, no⟩
theorem op_mark {lv nf np nb nl npl nF : Nat} {I : st_I} {L : st_L} {P : st_I → st_L → Prop} (H : iv_told I lv nf np nb nl npl) (HF : iv_facts I nF) (hP : ∀ J nF', fa nF nF' I J → P J L) (a b c e : Int32) {g : Int32} (hg : bo g) :
    EI 60 mX11_mark [.ref 0, .int a, .int b, .int c, .int e, .int g] I L (fun r I1 L1 => EI 60 mX12_mark [.ref 58, .int a, .int b, .int c, .int e, .int g] I1 L1 (fun r' I2 L2 => r' = r ∧ P I2 L2)) := by
  have no : P I L := hP I nF (fa.rf HF)
  obtain ⟨hlv, b1, b2, b3, b4, b5, h18, -⟩ := id H.1
  have b80 := HF.1
  have ok : nF < 80 ∨ nF = 80 := by omega
  have nope : ot a np ∨ (∃ p, p < np ∧ a = nI p ∧ (ot b nf ∨ ∃ f, f < nf ∧ b = nI f ∧ (ot c 101 ∨ ∃ v, v < 101 ∧ c = nI v ∧ ot e 10))) → EI 60 mX12_mark [.ref 58, .int a, .int b, .int c, .int e, .int g] I L (fun r' I2 L2 => r' = -1 ∧ P I2 L2) := by
    intro h
    refine sgX12_mark_0 ?_
    rw [HF.2.2.1]
    by_cases z : nI nF = 80
    · rw [if_pos z]; exact ⟨rfl, no⟩
    rw [if_neg z]
    rcases h with ho | ⟨p, hp, rfl, h⟩
    · refine m_isPerson_o H ho ?_
      rw [if_pos rfl]; exact ⟨rfl, no⟩
    refine m_isPerson_i H hp ?_
    rw [if_neg (by decide)]
    rcases h with ho | ⟨f, hf, rfl, h⟩
    · refine m_isFiddle_o H ho ?_
      rw [if_pos rfl]; exact ⟨rfl, no⟩
    refine m_isFiddle_i H hf ?_
    rw [if_neg (by decide)]
    rcases h with ho | ⟨v, hv, rfl, ho⟩
    · refine in_out (n := 101) (by decide) ho ?_
      rw [if_pos rfl]; exact ⟨rfl, no⟩
    refine in_in (n := 101) (by decide) hv ?_
    rw [if_neg (by decide)]
    refine in_out (n := 10) (by decide) ho ?_
    rw [if_pos rfl]; exact ⟨rfl, no⟩
  refine sgX11_mark_0 ?_
  rcases ot_ix a np (by omega) with ho | ⟨p, hp, rfl⟩
  · refine x_hasPerson_o H ho ?_
    rw [if_pos rfl]; exact nope (Or.inl ho)
  refine x_hasPerson_i H hp ?_
  rw [if_neg (by decide)]
  rcases ot_ix b nf (by omega) with ho | ⟨f, hf, rfl⟩
  · refine x_hasFiddle_o H ho ?_
    rw [if_pos rfl]; exact nope (Or.inr ⟨p, hp, rfl, Or.inl ho⟩)
  refine x_hasFiddle_i H hf ?_
  rw [if_neg (by decide)]
  rcases ot_ix c 101 (by decide) with ho | ⟨v, hv, rfl⟩
  · have bad := nope (Or.inr ⟨p, hp, rfl, Or.inr ⟨f, hf, rfl, Or.inl ho⟩⟩)
    by_cases z : c < 0
    · rw [if_pos z]; exact bad
    · obtain ⟨i, hi, rfl⟩ := nI_of z
      have : 101 ≤ i := (nI_leI (by omega) hi).mp (ho.resolve_left z)
      rw [if_neg z, if_pos (show (100 : Int32) < nI i from nI_lt (a := 100) (by omega) hi)]; exact bad
  rw [if_neg (nI_pos (by omega)), if_neg (show ¬ (100 : Int32) < nI v from nI_nlt (b := v) (a := 100) (by omega) (by omega))]
  rcases ot_ix e 10 (by decide) with ho | ⟨sp, hsp, rfl⟩
  · have bad := nope (Or.inr ⟨p, hp, rfl, Or.inr ⟨f, hf, rfl, Or.inr ⟨v, hv, rfl, ho⟩⟩⟩)
    by_cases z : e < 0
    · rw [if_pos z]; exact bad
    · rw [if_neg z, if_neg (show ¬ e < 10 from Int32.not_lt.mpr (ho.resolve_left z))]; exact bad
  rw [if_neg (nI_pos (by omega)), if_pos (show nI sp < 10 from nI_lt (b := 10) hsp (by decide))]
  rcases ok with hn | hn
  · refine x_add HF.2.1 hn (fun J x1 x2 x3 => ?_)
    have HJ : iv_told J lv nf np nb nl npl := iv_told_congr (fun q hq => x1 q (by omega) (by omega)) (by rw [x1 58 (by decide) (by decide)]) H
    refine sgX12_mark_0 ?_
    rw [x1 58 (by decide) (by decide), HF.2.2.1, if_neg (show ¬ nI nF = 80 from sw_ne nF 80 (by omega) (by decide) (by omega))]
    refine m_isPerson_i HJ hp ?_
    rw [if_neg (by decide)]
    refine m_isFiddle_i HJ hf ?_
    rw [if_neg (by decide)]
    refine in_in (n := 101) (by decide) hv ?_
    rw [if_neg (by decide)]
    refine in_in (n := 10) (by decide) hsp ?_
    rw [if_neg (by decide)]
    refine m_comes (by rw [x1 58 (by decide) (by decide), HF.2.2.1]) hn hg (fun K m1 m2 m3 m4 m5 m6 m7 m8 => ?_)
    refine ⟨rfl, hP K (nF + 1) ?_⟩
    rw [bo_if hg] at x3
    exact fa_one HF hn x1 x2 x3 m1 m2 m3 m4 m5 m6 m7 m8 rfl (fun R _ => Or.inl ⟨rfl, ⟨p, by omega, rfl⟩, ⟨f, by omega, rfl, rfl⟩, ⟨v, by omega, rfl, rfl⟩, ⟨sp, hsp, rfl, rfl⟩, hg, rfl⟩)
  · refine x_add_o (by rw [HF.2.1, hn]) ?_
    refine sgX12_mark_0 ?_
    rw [HF.2.2.1, hn, if_pos (show nI 80 = 80 from rfl)]; exact ⟨rfl, no⟩
theorem op_annul {nF : Nat} {I : st_I} {L : st_L} {P : st_I → st_L → Prop} (HF : iv_facts I nF) (hP : ∀ J nF', fa nF nF' I J → P J L) (a : Int32) :
    EI 60 mX11_annul [.ref 0, .int a] I L (fun r I1 L1 => EI 60 mX12_annul [.ref 58, .int a] I1 L1 (fun r' I2 L2 => r' = r ∧ P I2 L2)) := by
  have no : P I L := hP I nF (fa.rf HF)
  have b80 := HF.1
  have ok : nF < 80 ∨ nF = 80 := by omega
  refine sgX11_annul_0 ?_
  have full : nF = 80 → EI 60 mX12_annul [.ref 58, .int a] I L (fun r' I2 L2 => r' = -1 ∧ P I2 L2) := by
    intro hn
    refine sgX12_annul_0 ?_
    rw [HF.2.2.1, hn, if_pos (show nI 80 = 80 from rfl)]; exact ⟨rfl, no⟩
  rcases ot_ix a nF (by omega) with ho | ⟨k, hk, rfl⟩
  · refine x_hasF_o HF ho ?_
    rw [if_pos rfl]
    rcases ok with hn | hn
    · refine sgX12_annul_0 ?_
      rw [HF.2.2.1, if_neg (show ¬ nI nF = 80 from sw_ne nF 80 (by omega) (by decide) (by omega))]
      refine in_out (by omega) ho ?_
      rw [if_pos rfl]; exact ⟨rfl, no⟩
    · exact full hn
  refine x_hasF_i HF hk ?_
  rw [if_neg (by decide)]
  refine x_of (c := 0) HF.2.1 HF.1 hk (by decide) ?_
  obtain ⟨e95, e96, -⟩ := HF.2.2.2 k hk
  rw [Nat.add_zero]
  by_cases z : I 29 (6 * k) = 2
  · rw [if_pos z]
    rcases ok with hn | hn
    · refine sgX12_annul_0 ?_
      rw [HF.2.2.1, if_neg (show ¬ nI nF = 80 from sw_ne nF 80 (by omega) (by decide) (by omega))]
      refine in_in (by omega) hk ?_
      rw [if_neg (by decide), nI_clamp (by omega), e95, if_pos z]; exact ⟨vp_in_nI (by omega) (by decide), rfl, no⟩
    · exact full hn
  rw [if_neg z]
  rcases ok with hn | hn
  · refine x_add HF.2.1 hn (fun J x1 x2 x3 => ?_)
    refine sgX12_annul_0 ?_
    rw [x1 58 (by decide) (by decide), HF.2.2.1, if_neg (show ¬ nI nF = 80 from sw_ne nF 80 (by omega) (by decide) (by omega))]
    refine in_in (by omega) hk ?_
    rw [if_neg (by decide), nI_clamp (by omega), x1 95 (by decide) (by decide), e95, if_neg z]
    refine ⟨vp_in_nI (by omega) (by decide), m_comes (by rw [x1 58 (by decide) (by decide), HF.2.2.1]) hn (Or.inl rfl) (fun K m1 m2 m3 m4 m5 m6 m7 m8 => ?_)⟩
    refine ⟨rfl, hP K (nF + 1) ?_⟩
    exact fa_one HF hn x1 x2 x3 m1 m2 m3 m4 m5 m6 m7 m8 rfl (fun R hR => Or.inr (Or.inr ⟨rfl, ⟨k, hk, rfl, by rw [hR, x3, rw6_lt (by omega)]; exact z⟩, rfl, rfl, rfl, rfl⟩))
  · exact x_add_o (by rw [HF.2.1, hn]) (full hn)
