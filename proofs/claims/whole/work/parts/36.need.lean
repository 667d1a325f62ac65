/-! NEED -/
def sn (a : Nat → Nat) : Nat → Nat
  | 0 => 0
  | n + 1 => sn a n + a n
theorem sn_congr {a b : Nat → Nat} {n : Nat} (h : ∀ i, i < n → a i = b i) : sn a n = sn b n := by
  induction n with
  | zero => rfl
  | succ n ih => rw [sn, sn, ih (fun i hi => h i (by omega)), h n (by omega)]
theorem sn_head (a : Nat → Nat) : ∀ n, sn a (n + 1) = a 0 + sn (fun i => a (i + 1)) n
  | 0 => by simp [sn]
  | n + 1 => by rw [sn, sn_head a n, sn, Nat.add_assoc]
theorem sn_add (a b : Nat → Nat) : ∀ n, sn (fun i => a i + b i) n = sn a n + sn b n
  | 0 => rfl
  | n + 1 => by rw [sn, sn, sn, sn_add a b n]; omega
theorem sn_mul (a : Nat → Nat) (c : Nat) : ∀ n, sn (fun i => a i * c) n = sn a n * c
  | 0 => by simp [sn]
  | n + 1 => by rw [sn, sn, sn_mul a c n, Nat.add_mul]
theorem sn_split (a : Nat → Nat) (r : Nat) : ∀ c, sn a (r + c) = sn a r + sn (fun i => a (r + i)) c
  | 0 => by simp [sn]
  | c + 1 => by rw [← Nat.add_assoc, sn, sn_split a r c, sn, Nat.add_assoc]
theorem sl_sn (a : Nat → Nat) : ∀ n, sl (fun i => lN (a i)) n = lN (sn a n)
  | 0 => rfl
  | n + 1 => by rw [sl, sl_sn a n, sn, lN_add]
theorem tl_s (m a c k : Nat) : tl (m + 1) a c (k + 1) = tl m a c (k + 1) * c + tl m a c k * a := by
  unfold tl
  rw [show bin (m + 1) (k + 1) = bin m k + bin m (k + 1) from rfl, Nat.add_sub_add_right, Nat.add_mul, Nat.add_mul, Nat.add_comm]
  congr 1
  · by_cases h : k + 1 ≤ m
    · rw [show m - k = (m - (k + 1)) + 1 by omega, Nat.pow_succ c, Nat.mul_assoc]
      simp only [Nat.mul_assoc]
    · rw [bin_z (show m < k + 1 by omega)]; simp
  · rw [Nat.pow_succ a]
    simp only [Nat.mul_assoc, Nat.mul_comm a, Nat.mul_left_comm a]
theorem tl_0 (m a c : Nat) : tl (m + 1) a c 0 = tl m a c 0 * c := by
  unfold tl
  rw [bin_0, bin_0, Nat.sub_zero, Nat.sub_zero, Nat.pow_succ c]
  simp
theorem tl_z {n a c k : Nat} (h : n < k) : tl n a c k = 0 := by unfold tl; rw [bin_z h]; simp
theorem tl_sum (a c : Nat) : ∀ n, sn (tl n a c) (n + 1) = (a + c) ^ n
  | 0 => by simp [sn, tl, bin]
  | n + 1 => by
    rw [sn_head, sn_congr (b := fun i => tl n a c (i + 1) * c + tl n a c i * a) (fun i _ => tl_s n a c i), sn_add, sn_mul, sn_mul, tl_0, tl_sum a c n]
    have h := sn_head (tl n a c) (n + 1)
    rw [sn, tl_sum a c n, tl_z (show n < n + 1 by omega)] at h
    rw [← Nat.add_assoc, ← Nat.add_mul, ← h, Nat.pow_succ, Nat.add_zero, ← Nat.mul_add, Nat.add_comm c a]
def lwN (n a c r : Nat) : Nat := sn (tl n a c) r
def upN (n a c r : Nat) : Nat := sn (fun i => tl n a c (r + i)) (n + 1 - r)
theorem lw_up {n a c r : Nat} (h : r ≤ n + 1) : lwN n a c r + upN n a c r = (a + c) ^ n := by
  unfold lwN upN
  rw [← sn_split, show r + (n + 1 - r) = n + 1 by omega, tl_sum]
/-- n and r will do -/
def ndc (u v a b n r : Nat) : Bool := decide (u * upN n 1 1 r ≤ 2 ^ n) && decide (lwN n a (b - a) r ≤ b ^ n / v)
def lbF (c : Nat → Bool) : Nat → Nat → Option Nat
  | 0, _ => none
  | m + 1, r => if c r then some r else lbF c m (r + 1)
def fndF (u v a b : Nat) : Nat → Nat → Option (Nat × Nat)
  | 0, _ => none
  | m + 1, n => match lbF (ndc u v a b n) (n + 1) 0 with
    | none => fndF u v a b m (n + 1)
    | some r => some (n, r)
theorem lbF_lt {c : Nat → Bool} : ∀ {m r x : Nat}, lbF c m r = some x → x < r + m
  | 0, r, x, h => by cases h
  | m + 1, r, x, h => by
    rw [lbF] at h
    split at h
    · have := Option.some.inj h; omega
    · have := lbF_lt h; omega
theorem lb_no {c : Nat → Bool} {m r : Nat} (h : c r = false) : lbF c (m + 1) r = lbF c m (r + 1) := by rw [lbF, h, if_neg (by decide)]
theorem lb_yes {c : Nat → Bool} {m r : Nat} (h : c r = true) : lbF c (m + 1) r = some r := by rw [lbF, h, if_pos rfl]
theorem fnd_none {u v a b m n : Nat} (h : lbF (ndc u v a b n) (n + 1) 0 = none) : fndF u v a b (m + 1) n = fndF u v a b m (n + 1) := by rw [fndF, h]
theorem fnd_some {u v a b m n r : Nat} (h : lbF (ndc u v a b n) (n + 1) 0 = some r) : fndF u v a b (m + 1) n = some (n, r) := by rw [fndF, h]
theorem lg_le {x y : Int64} {A : Prop} {B : Prop} (h : y < x → A) (g : x ≤ y → B) : (0 < lg_cmp x y → A) ∧ (¬ 0 < lg_cmp x y → B) := ⟨fun z => h ((lg_cmp_gt x y).mp z), fun z => g (Int64.not_lt.mp (fun w => z ((lg_cmp_gt x y).mpr w)))⟩
theorem pow4 {b n : Nat} (hb : b ≤ 4) (hn : n ≤ 30) : b ^ n ≤ 2 ^ 60 := by
  have h1 : b ^ n ≤ 4 ^ n := Nat.pow_le_pow_left hb n
  have h2 : 4 ^ n ≤ 4 ^ 30 := Nat.pow_le_pow_right (by decide) hn
  exact Nat.le_trans (Nat.le_trans h1 h2) (Nat.le_of_ble_eq_true rfl)
theorem pX_leastBar {d u v a b n : Nat} {I : st_I} {L : st_L} {F : Int32 → st_I → st_L → Prop} (hu : 0 < u) (hu2 : u ≤ 1000) (hv : 0 < v) (hn : n ≤ 30) (hb : b ≤ 4) (hab : a ≤ b) (h55 : ∀ k, k < 31 → L 55 k = lN (tl n 1 1 k)) (h56 : ∀ k, k < 31 → L 56 k = lN (tl n a (b - a) k)) (h : F (match lbF (ndc u v a b n) (n + 1) 0 with | none => -1 | some r => nI r) I L) : EI d mX4_leastBar [.ref 54, .int (nI n), .long (lN (2 ^ n)), .long (lN (2 ^ n / u)), .long (lN (b ^ n / v))] I L F := by
  have p2 : 2 ^ n ≤ 2 ^ 30 := Nat.pow_le_pow_right (by decide) hn
  have pb := pow4 hb hn
  have key : ∀ (m r : Nat), r + m = n + 1 → F (match lbF (ndc u v a b n) m r with | none => -1 | some r => nI r) I L → TI d mX4_leastBar 9 [.ref 54, .int (nI n), .null, .null, .long (lN (2 ^ n / u)), .null, .long (lN (b ^ n / v)), .null, .long (lN (2 ^ n) - lN (lwN n 1 1 r)), .null, .long (lN (lwN n a (b - a) r)), .null, .int (nI r)] [] I L F := by
    intro m
    induction m with
    | zero =>
      intro r hr hF
      refine sgX4_leastBar_9 ?_
      rw [if_pos (nI_lt (by omega) (by omega))]; exact hF
    | succ m ih =>
      intro r hr hF
      have e1 := lw_up (n := n) (a := 1) (c := 1) (show r ≤ n + 1 by omega)
      have e2 := lw_up (n := n) (a := a) (c := b - a) (show r ≤ n + 1 by omega)
      rw [show 1 + 1 = 2 from rfl] at e1
      rw [show a + (b - a) = b by omega] at e2
      rw [lbF] at hF
      have next : ndc u v a b n r = false → TI d mX4_leastBar 34 [.ref 54, .int (nI n), .null, .null, .long (lN (2 ^ n / u)), .null, .long (lN (b ^ n / v)), .null, .long (lN (2 ^ n) - lN (lwN n 1 1 r)), .null, .long (lN (lwN n a (b - a) r)), .null, .int (nI r)] [] I L F := by
        intro e
        rw [e, if_neg (by decide)] at hF
        refine sgX4_leastBar_34 ?_
        rw [nI_clamp (by omega), h55 r (by omega), h56 r (by omega), nI_1, lN_add]
        have := ih (r + 1) (by omega) hF
        have e3 : lN (2 ^ n) - lN (lwN n 1 1 r) - lN (tl n 1 1 r) = lN (2 ^ n) - lN (lwN n 1 1 (r + 1)) := by
          rw [show lwN n 1 1 (r + 1) = lwN n 1 1 r + tl n 1 1 r from rfl, ← lN_add, Int64.sub_sub]
        rw [e3]
        exact ⟨vp_in_nI (by omega) (by decide), vp_in_nI (by omega) (by decide), this⟩
      refine sgX4_leastBar_9 ?_
      rw [if_neg (nI_nlt (by omega) (by omega)), lN_sub (show lwN n 1 1 r ≤ 2 ^ n by omega), show 2 ^ n - lwN n 1 1 r = upN n 1 1 r by omega]
      rw [lN_sub (show lwN n 1 1 r ≤ 2 ^ n by omega), show 2 ^ n - lwN n 1 1 r = upN n 1 1 r by omega] at next
      have hdu : 2 ^ n / u ≤ 2 ^ n := Nat.div_le_self _ _
      have hdv : b ^ n / v ≤ b ^ n := Nat.div_le_self _ _
      by_cases z : upN n 1 1 r ≤ 2 ^ n / u
      · have zz : u * upN n 1 1 r ≤ 2 ^ n := by rw [Nat.mul_comm]; exact (Nat.le_div_iff_mul_le hu).mp z
        rw [if_neg (fun w => absurd ((lg_cmp_gt _ _).mp w) (Int64.not_lt.mpr ((pk_lLE (by omega) (by omega)).mpr z)))]
        by_cases y : lwN n a (b - a) r ≤ b ^ n / v
        · rw [if_neg (fun w => absurd ((lg_cmp_gt _ _).mp w) (Int64.not_lt.mpr ((pk_lLE (by omega) (by omega)).mpr y)))]
          have : ndc u v a b n r = true := by unfold ndc; rw [decide_eq_true zz, decide_eq_true y]; rfl
          rw [this, if_pos rfl] at hF
          exact hF
        · rw [if_pos ((lg_cmp_gt _ _).mpr ((pk_lLT (by omega) (by omega)).mpr (by omega)))]
          exact next (by unfold ndc; rw [decide_eq_false y, Bool.and_false])
      · have zz : ¬ u * upN n 1 1 r ≤ 2 ^ n := fun w => z ((Nat.le_div_iff_mul_le hu).mpr (by rw [Nat.mul_comm]; exact w))
        rw [if_pos ((lg_cmp_gt _ _).mpr ((pk_lLT (by omega) (by omega)).mpr (by omega)))]
        exact next (by unfold ndc; rw [decide_eq_false zz, Bool.false_and])
  refine sgX4_leastBar_0 ?_
  have := key (n + 1) 0 (by omega) h
  rw [show lwN n 1 1 0 = 0 from rfl, show lwN n a (b - a) 0 = 0 from rfl, show lN 0 = 0 from rfl, Int64.sub_zero] at this
  exact this
theorem uL_ne {L : st_L} {q a : Nat} (k : Nat) (x : Int64) (h : a ≠ q) : u_L L q k x a = L a := u_L_ne k x h
theorem pX_addTry5 {d m a c : Nat} {I : st_I} {L : st_L} {F : st_I → st_L → Prop} (hm : m < 30) (h55 : ∀ k, k < 31 → L 55 k = lN (tl m a c k)) (h : ∀ M : st_L, (∀ q, q ≠ 55 → M q = L q) → (∀ k, k < 31 → M 55 k = lN (tl (m + 1) a c k)) → F I M) : EV d mX4_addTry [.ref 55, .int (nI (m + 1)), .long (lN a), .long (lN c)] I L F := by
  have key : ∀ (j : Nat) (M : st_L), j ≤ m + 1 → (∀ q, q ≠ 55 → M q = L q) → (∀ k, k < 31 → M 55 k = if k ≤ j then lN (tl m a c k) else lN (tl (m + 1) a c k)) → TV d mX4_addTry 3 [.ref 55, .null, .long (lN a), .null, .long (lN c), .null, .int (nI j)] [] I M F := by
    intro j
    induction j with
    | zero =>
      intro M hj hM hk
      refine sgX4_addTry_55_3 ?_
      rw [if_pos (show nI 0 ≤ 0 by decide)]
      refine h _ (fun q hq => by rw [u_L_ne _ _ hq]; exact hM q hq) (fun k hk2 => ?_)
      by_cases e : k = 0
      · subst e
        rw [uL_at, if_pos rfl, if_pos rfl, hk 0 (by decide), if_pos (Nat.le_refl _), lN_mul, tl_0]
      · rw [uL_at, if_pos rfl, if_neg e, hk k hk2, if_neg (by omega)]
    | succ j ih =>
      intro M hj hM hk
      refine sgX4_addTry_55_3 ?_
      rw [if_neg (nI_nle (by omega) (by omega)), nI_pred, nI_clamp (by omega), nI_clamp (by omega), pk_m1, hk (j + 1) (by omega), hk j (by omega), if_pos (Nat.le_refl _), if_pos (by omega), lN_mul, lN_mul, lN_add, ← tl_s]
      refine ⟨vp_in_nI (by omega) (by decide), vp_in_nI (by omega) (by decide), vp_in_nI (by omega) (by decide), ih _ (by omega) (fun q hq => by rw [u_L_ne _ _ hq]; exact hM q hq) (fun k hk2 => ?_)⟩
      by_cases e : k = j + 1
      · subst e
        rw [uL_at, if_pos rfl, if_pos rfl, if_neg (by omega)]
      · rw [uL_at, if_pos rfl, if_neg e, hk k hk2]
        by_cases z : k ≤ j
        · rw [if_pos z, if_pos (by omega)]
        · rw [if_neg z, if_neg (by omega)]
  refine sgX4_addTry_55_0 (key (m + 1) L (Nat.le_refl _) (fun _ _ => rfl) (fun k hk => ?_))
  rw [h55 k hk]
  by_cases z : k ≤ m + 1
  · rw [if_pos z]
  · rw [if_neg z, tl_z (by omega), tl_z (by omega)]
theorem pX_addTry6 {d m a c : Nat} {I : st_I} {L : st_L} {F : st_I → st_L → Prop} (hm : m < 30) (h56 : ∀ k, k < 31 → L 56 k = lN (tl m a c k)) (h : ∀ M : st_L, (∀ q, q ≠ 56 → M q = L q) → (∀ k, k < 31 → M 56 k = lN (tl (m + 1) a c k)) → F I M) : EV d mX4_addTry [.ref 56, .int (nI (m + 1)), .long (lN a), .long (lN c)] I L F := by
  have key : ∀ (j : Nat) (M : st_L), j ≤ m + 1 → (∀ q, q ≠ 56 → M q = L q) → (∀ k, k < 31 → M 56 k = if k ≤ j then lN (tl m a c k) else lN (tl (m + 1) a c k)) → TV d mX4_addTry 3 [.ref 56, .null, .long (lN a), .null, .long (lN c), .null, .int (nI j)] [] I M F := by
    intro j
    induction j with
    | zero =>
      intro M hj hM hk
      refine sgX4_addTry_56_3 ?_
      rw [if_pos (show nI 0 ≤ 0 by decide)]
      refine h _ (fun q hq => by rw [u_L_ne _ _ hq]; exact hM q hq) (fun k hk2 => ?_)
      by_cases e : k = 0
      · subst e
        rw [uL_at, if_pos rfl, if_pos rfl, hk 0 (by decide), if_pos (Nat.le_refl _), lN_mul, tl_0]
      · rw [uL_at, if_pos rfl, if_neg e, hk k hk2, if_neg (by omega)]
    | succ j ih =>
      intro M hj hM hk
      refine sgX4_addTry_56_3 ?_
      rw [if_neg (nI_nle (by omega) (by omega)), nI_pred, nI_clamp (by omega), nI_clamp (by omega), pk_m1, hk (j + 1) (by omega), hk j (by omega), if_pos (Nat.le_refl _), if_pos (by omega), lN_mul, lN_mul, lN_add, ← tl_s]
      refine ⟨vp_in_nI (by omega) (by decide), vp_in_nI (by omega) (by decide), vp_in_nI (by omega) (by decide), ih _ (by omega) (fun q hq => by rw [u_L_ne _ _ hq]; exact hM q hq) (fun k hk2 => ?_)⟩
      by_cases e : k = j + 1
      · subst e
        rw [uL_at, if_pos rfl, if_pos rfl, if_neg (by omega)]
      · rw [uL_at, if_pos rfl, if_neg e, hk k hk2]
        by_cases z : k ≤ j
        · rw [if_pos z, if_pos (by omega)]
        · rw [if_neg z, if_neg (by omega)]
  refine sgX4_addTry_56_0 (key (m + 1) L (Nat.le_refl _) (fun _ _ => rfl) (fun k hk => ?_))
  rw [h56 k hk]
  by_cases z : k ≤ m + 1
  · rw [if_pos z]
  · rw [if_neg z, tl_z (by omega), tl_z (by omega)]
theorem x_fillL {d q n : Nat} {I : st_I} {L : st_L} {F : st_I → st_L → Prop} {v : Int64} (hq : shp[q]? = some (.inl (3, n))) (hn : n < 2 ^ 31) (h : F I (f_L L q n v)) : EV d mJ7_fill_d0a16 [.ref q, .long v] I L F := js_fillL hq hn ⟨rfl, rfl, h⟩
theorem pX_find {d u v a b : Nat} {I : st_I} {L : st_L} {F : Int32 → st_I → st_L → Prop} (hu : 2 ≤ u) (hu2 : u ≤ 1000) (hv : 2 ≤ v) (hv2 : v ≤ 1000) (hb : b ≤ 4) (hab : a ≤ b) (h : ∀ (J : st_I) (M : st_L), (∀ q, q ≠ 54 → J q = I q) → (∀ q, q ≠ 55 → q ≠ 56 → M q = L q) → (fndF u v a b 30 1 = none → F 0 J M) ∧ (∀ n r, fndF u v a b 30 1 = some (n, r) → J 54 0 = nI n → J 54 1 = nI r → F 1 J M)) : EI (d + 1) mX4_find [.ref 54, .int (nI u), .int (nI v), .int (nI a), .int (nI b)] I L F := by
  have eu : ((if 1 < nI u then nI u else 1) : Int32) = nI u := by rw [if_pos (show (1 : Int32) < nI u from nI_lt (a := 1) (by omega) (by omega))]
  have ev : ((if 1 < nI v then nI v else 1) : Int32) = nI v := by rw [if_pos (show (1 : Int32) < nI v from nI_lt (a := 1) (by omega) (by omega))]
  have key : ∀ (m n : Nat) (M : st_L), n + m = 30 → (∀ q, q ≠ 55 → q ≠ 56 → M q = L q) → (∀ k, k < 31 → M 55 k = lN (tl n 1 1 k)) → (∀ k, k < 31 → M 56 k = lN (tl n a (b - a) k)) → fndF u v a b 30 1 = fndF u v a b m (n + 1) → TI (d + 1) mX4_find 39 [.ref 54, .int (nI u), .int (nI v), .int (nI a), .int (nI b), .long (lN (2 ^ n)), .null, .long (lN (b ^ n)), .null, .int (nI (n + 1)), .null] [] I M F := by
    intro m
    induction m with
    | zero =>
      intro n M hm hM k5 k6 hf
      refine sgX4_find_39 ?_
      rw [if_pos (show (30 : Int32) < nI (n + 1) from nI_lt (a := 30) (by omega) (by omega))]
      exact (h I M (fun _ _ => rfl) hM).1 hf
    | succ m ih =>
      intro n M hm hM k5 k6 hf
      refine sgX4_find_39 ?_
      rw [if_neg (show ¬ (30 : Int32) < nI (n + 1) from nI_nlt (a := 30) (by omega) (by omega)), eu, ev, pk_sub hab, nI_l (by omega), nI_l (by omega), nI_l (by omega), nI_l (by omega), nI_l (by omega)]
      refine pX_addTry5 (a := 1) (c := 1) (by omega) k5 (fun M1 g1 g2 => ?_)
      refine pX_addTry6 (by omega) (fun k hk => by rw [g1 56 (by decide)]; exact k6 k hk) (fun M2 g3 g4 => ?_)
      have p2 : 2 ^ (n + 1) ≤ 2 ^ 30 := Nat.pow_le_pow_right (by decide) (by omega)
      have pb := pow4 hb (show n + 1 ≤ 30 by omega)
      have e2 : lN (2 ^ n) * 2 = lN (2 ^ (n + 1)) := by rw [show (2 : Int64) = lN 2 from rfl, lN_mul, Nat.pow_succ]
      rw [e2, lN_mul, show b ^ n * b = b ^ (n + 1) from rfl, pk_lDiv (by omega) (by omega) (by omega), pk_lDiv (by omega) (by omega) (by omega)]
      refine ⟨lN_nz (by omega) (by omega), lN_nz (by omega) (by omega), pX_leastBar (by omega) hu2 (by omega) (by omega) hb hab (fun k hk => by rw [g3 55 (by decide)]; exact g2 k hk) g4 ?_⟩
      cases e : lbF (ndc u v a b (n + 1)) (n + 1 + 1) 0 with
      | none =>
        replace hf := hf.trans (fnd_none e)
        dsimp only
        rw [if_pos rfl, nI_1]
        exact ih (n + 1) M2 (by omega) (fun q h1 h2 => by rw [g3 q h2, g1 q h1]; exact hM q h1 h2) (fun k hk => by rw [g3 55 (by decide)]; exact g2 k hk) g4 hf
      | some r =>
        replace hf := hf.trans (fnd_some e)
        have hr := lbF_lt e
        dsimp only
        rw [if_neg (fun w => absurd (w ▸ nI_pos' (show r < 2 ^ 31 by omega)) (by decide))]
        exact (h _ M2 (fun q hq => by rw [u_I_ne _ _ hq, u_I_ne _ _ hq]) (fun q h1 h2 => by rw [g3 q h2, g1 q h1]; exact hM q h1 h2)).2 (n + 1) r hf (by simp [u_I]) (by simp [u_I])
  refine sgX4_find_0 (x_fillL (n := 31) rfl (by decide) (x_fillL (n := 31) rfl (by decide) ?_))
  have := key 30 0 (u_L (u_L (f_L (f_L L 55 31 0) 56 31 0) 55 0 1) 56 0 1) (by omega) (fun q h1 h2 => by funext k; simp [u_L, f_L, h1, h2]) (fun k hk => ?_) (fun k hk => ?_) rfl
  · exact this
  · by_cases e : k = 0
    · subst e; simp [u_L, tl, bin]; rfl
    · obtain ⟨j, rfl⟩ : ∃ j, k = j + 1 := ⟨k - 1, by omega⟩
      rw [tl_z (by omega)]
      simp only [u_L, f_L, show (55 : Nat) = 56 ↔ False by decide, if_false, if_true, if_neg e, if_pos hk]; rfl
  · by_cases e : k = 0
    · subst e; simp [u_L, tl, bin]; rfl
    · obtain ⟨j, rfl⟩ : ∃ j, k = j + 1 := ⟨k - 1, by omega⟩
      rw [tl_z (by omega)]
      simp only [u_L, f_L, show (56 : Nat) = 55 ↔ False by decide, if_false, if_true, if_neg e, if_pos hk]; rfl
theorem pM_need {d u v a b : Nat} {w : Int32} {I : st_I} {L : st_L} {F : Int32 → st_I → st_L → Prop} (hu : 2 ≤ u) (hu2 : u ≤ 1000) (hv : 2 ≤ v) (hv2 : v ≤ 1000) (hb : b ≤ 4) (hab : a ≤ b) (h : F (match fndF u v a b 30 1 with | none => -2 | some x => if w = 0 then nI x.1 else nI x.2) I L) :
    ∀ (m n : Nat), n + m = 30 → fndF u v a b 30 1 = fndF u v a b m (n + 1) → TI (d + 2) mX12_need 57 [.null, .int (nI u), .int (nI v), .int (nI a), .int (nI b), .int w, .int (nI (n + 1)), .null, .null, .null] [] I L F := by
  intro m
  induction m with
  | zero =>
    intro n hm hf
    refine sgX12_need_57 ?_
    rw [if_pos (show (30 : Int32) < nI (n + 1) from nI_lt (a := 30) (by omega) (by omega))]
    rw [hf, fndF] at h; exact h
  | succ m ih =>
    intro n hm hf
    have p2 : 2 ^ (n + 1) ≤ 2 ^ 30 := Nat.pow_le_pow_right (by decide) (by omega)
    have pb := pow4 hb (show n + 1 ≤ 30 by omega)
    have inner : ∀ (j r : Nat), r + j = n + 1 + 1 → lbF (ndc u v a b (n + 1)) (n + 1 + 1) 0 = lbF (ndc u v a b (n + 1)) j r → TI (d + 2) mX12_need 67 [.null, .int (nI u), .int (nI v), .int (nI a), .int (nI b), .int w, .int (nI (n + 1)), .int (nI r), .null, .null] [] I L F := by
      intro j
      induction j with
      | zero =>
        intro r hr hl
        refine sgX12_need_67 ?_
        rw [if_pos (nI_lt (by omega) (by omega)), nI_1]
        replace hf := hf.trans (fnd_none (hl.trans rfl))
        exact ih (n + 1) (by omega) hf
      | succ j ihj =>
        intro r hr hl
        have e1 := lw_up (n := n + 1) (a := 1) (c := 1) (show r ≤ n + 1 + 1 by omega)
        have e2 := lw_up (n := n + 1) (a := a) (c := b - a) (show r ≤ n + 1 + 1 by omega)
        rw [show 1 + 1 = 2 from rfl] at e1
        rw [show a + (b - a) = b by omega] at e2
        refine sgX12_need_67 ?_
        rw [if_neg (nI_nlt (by omega) (by omega)), nI_l (show b < 2 ^ 31 by omega), nI_l (show u < 2 ^ 31 by omega), nI_l (show v < 2 ^ 31 by omega), nI_1]
        refine pM_power (by omega) (pM_tail (by omega) (by omega) hab (by omega) (pM_tail (a := 1) (b := 2) (by omega) (by omega) (by decide) (by decide) (pM_power (a := 2) (by omega) ?_)))
        rw [sl_sn, sl_sn]
        have c1 : sn (fun i => tl (n + 1) 1 (2 - 1) (r + i)) (n + 1 + 1 - r) = upN (n + 1) 1 1 r := rfl
        have c2 : sn (fun i => tl (n + 1) a (b - a) (r + i)) (n + 1 + 1 - r) = upN (n + 1) a (b - a) r := rfl
        rw [c1, c2, lN_mul, lN_sub (by omega), show b ^ (n + 1) - upN (n + 1) a (b - a) r = lwN (n + 1) a (b - a) r by omega]
        have hm2 : u * upN (n + 1) 1 1 r ≤ 1000 * 2 ^ 30 := Nat.mul_le_mul hu2 (by omega)
        have next : ndc u v a b (n + 1) r = false → TI (d + 2) mX12_need 67 [.null, .int (nI u), .int (nI v), .int (nI a), .int (nI b), .int w, .int (nI (n + 1)), .int (nI (r + 1)), .null, .null] [] I L F := by
          intro e
          exact ihj (r + 1) (by omega) (hl.trans (lb_no e))
        by_cases z : u * upN (n + 1) 1 1 r ≤ 2 ^ (n + 1)
        · rw [if_neg (fun w => absurd ((lg_cmp_gt _ _).mp w) (Int64.not_lt.mpr ((pk_lLE (by omega) (by omega)).mpr z)))]
          refine pM_power (by omega) ⟨lN_nz (by omega) (by omega), ?_⟩
          have hdv : b ^ (n + 1) / v ≤ b ^ (n + 1) := Nat.div_le_self _ _
          rw [pk_lDiv (by omega) (by omega) (by omega)]
          by_cases y : lwN (n + 1) a (b - a) r ≤ b ^ (n + 1) / v
          · rw [if_neg (fun w => absurd ((lg_cmp_gt _ _).mp w) (Int64.not_lt.mpr ((pk_lLE (by omega) (by omega)).mpr y)))]
            have : ndc u v a b (n + 1) r = true := by unfold ndc; rw [decide_eq_true z, decide_eq_true y]; rfl
            rw [hf.trans (fnd_some (hl.trans (lb_yes this)))] at h
            exact h
          · rw [if_pos ((lg_cmp_gt _ _).mpr ((pk_lLT (by omega) (by omega)).mpr (by omega)))]
            exact next (by unfold ndc; rw [decide_eq_false y, Bool.and_false])
        · rw [if_pos ((lg_cmp_gt _ _).mpr ((pk_lLT (by omega) (by omega)).mpr (by omega)))]
          exact next (by unfold ndc; rw [decide_eq_false z, Bool.false_and])
    refine sgX12_need_57 ?_
    rw [if_neg (show ¬ (30 : Int32) < nI (n + 1) from nI_nlt (a := 30) (by omega) (by omega))]
    exact inner (n + 1 + 1) 0 (by omega) rfl
theorem ot_no {x : Int32} {c n j : Nat} (hc : c + n < 2 ^ 31) (h : x < nI c ∨ nI (c + n) ≤ x) (e : x = nI (c + j)) (hj : j < n) : False := by
  subst e
  rcases h with z | z
  · exact nI_nlt (by omega) (by omega) z
  · exact nI_ge (by omega) (by omega) z
theorem op_need {I : st_I} {L : st_L} {P : st_I → st_L → Prop} (hP : ∀ (J : st_I) (M : st_L), (∀ q, q ≠ 54 → J q = I q) → (∀ q, q ≠ 55 → q ≠ 56 → M q = L q) → P J M) (u v a b w : Int32) :
    EI 60 mX11_need [.ref 0, .int u, .int v, .int a, .int b, .int w] I L (fun r I1 L1 => EI 60 mX12_need [.ref 58, .int u, .int v, .int a, .int b, .int w] I1 L1 (fun r' I2 L2 => r' = r ∧ P I2 L2)) := by
  have no : P I L := hP I L (fun _ _ => rfl) (fun _ _ _ => rfl)
  have nope : (u < nI 2 ∨ nI (2 + 999) ≤ u) ∨ (v < nI 2 ∨ nI (2 + 999) ≤ v) ∨ (b < nI 2 ∨ nI (2 + 3) ≤ b) ∨ (∃ j, j < 3 ∧ b = nI (2 + j) ∧ ot a (2 + j + 1)) ∨ ot w 2 → EI 60 mX12_need [.ref 58, .int u, .int v, .int a, .int b, .int w] I L (fun r' I2 L2 => r' = -1 ∧ P I2 L2) := by
    intro h
    refine sgX12_need_0 ?_
    rcases ot_ixc u 2 999 (by decide) with ho | ⟨i1, h1, e1⟩
    · refine in_o2 (c := 2) (n := 999) (by decide) (by decide) rfl ho ?_
      rw [if_pos rfl]; exact ⟨rfl, no⟩
    rw [e1]
    refine in_i2 (c := 2) (n := 999) (by decide) rfl h1 ?_
    rw [if_neg (by decide)]
    rcases ot_ixc v 2 999 (by decide) with ho | ⟨i2, h2, e2⟩
    · refine in_o2 (c := 2) (n := 999) (by decide) (by decide) rfl ho ?_
      rw [if_pos rfl]; exact ⟨rfl, no⟩
    rw [e2]
    refine in_i2 (c := 2) (n := 999) (by decide) rfl h2 ?_
    rw [if_neg (by decide)]
    rcases ot_ixc b 2 3 (by decide) with ho | ⟨i3, h3, e3⟩
    · refine in_o2 (c := 2) (n := 3) (by decide) (by decide) rfl ho ?_
      rw [if_pos rfl]; exact ⟨rfl, no⟩
    rw [e3]
    refine in_i2 (c := 2) (n := 3) (by decide) rfl h3 ?_
    rw [if_neg (by decide), ← nI_pred (2 + i3)]
    rcases ot_ix a (2 + i3 + 1) (by omega) with ho | ⟨i4, h4, e4⟩
    · refine in_out (n := 2 + i3 + 1) (by omega) ho ?_
      rw [if_pos rfl]; exact ⟨rfl, no⟩
    rw [e4]
    refine in_in (n := 2 + i3 + 1) (by omega) h4 ?_
    rw [if_neg (by decide)]
    rcases ot_ix w 2 (by decide) with ho | ⟨i5, h5, e5⟩
    · refine in_out (n := 2) (by decide) ho ?_
      rw [if_pos rfl]; exact ⟨rfl, no⟩
    exfalso
    rcases h with h | h | h | ⟨j, hj, q1, q2⟩ | h
    · exact ot_no (by decide) h e1 h1
    · exact ot_no (by decide) h e2 h2
    · exact ot_no (by decide) h e3 h3
    · have : 2 + j = 2 + i3 := (nI_eq (by omega) (by omega)).mp (q1.symm.trans e3)
      rw [this] at q2
      rcases q2 with z | z
      · rw [e4] at z; exact nI_pos (by omega) z
      · rw [e4] at z; exact nI_ge h4 (by omega) z
    · rcases h with z | z
      · rw [e5] at z; exact nI_pos (by omega) z
      · rw [e5] at z; exact nI_ge h5 (by omega) z
  refine sgX11_need_0 ?_
  rcases ot_ixc u 2 999 (by decide) with ho | ⟨i1, h1, e1⟩
  · have bad := nope (Or.inl ho)
    by_cases z : u < 2
    · rw [if_pos z]; exact bad
    · have h1 : ¬ u < 0 := Int32.not_lt.mpr (Int32.le_trans (show (0 : Int32) ≤ 2 by decide) (Int32.not_lt.mp z))
      obtain ⟨i, hi, rfl⟩ := nI_of h1
      have : 2 + 999 ≤ i := (nI_leI (by omega) hi).mp (ho.resolve_left z)
      rw [if_neg z, if_pos (show (1000 : Int32) < nI i from nI_lt (a := 1000) (by omega) hi)]; exact bad
  have nu1 : ¬ u < 2 := by rw [e1]; exact nI_nlt (b := 2) (by omega) (by omega)
  have nu2 : ¬ (1000 : Int32) < u := by rw [e1]; exact nI_nlt (a := 1000) (by omega) (by omega)
  rw [if_neg nu1, if_neg nu2]
  rcases ot_ixc v 2 999 (by decide) with ho | ⟨i2, h2, e2⟩
  · have bad := nope (Or.inr (Or.inl ho))
    by_cases z : v < 2
    · rw [if_pos z]; exact bad
    · have h1 : ¬ v < 0 := Int32.not_lt.mpr (Int32.le_trans (show (0 : Int32) ≤ 2 by decide) (Int32.not_lt.mp z))
      obtain ⟨i, hi, rfl⟩ := nI_of h1
      have : 2 + 999 ≤ i := (nI_leI (by omega) hi).mp (ho.resolve_left z)
      rw [if_neg z, if_pos (show (1000 : Int32) < nI i from nI_lt (a := 1000) (by omega) hi)]; exact bad
  have nv1 : ¬ v < 2 := by rw [e2]; exact nI_nlt (b := 2) (by omega) (by omega)
  have nv2 : ¬ (1000 : Int32) < v := by rw [e2]; exact nI_nlt (a := 1000) (by omega) (by omega)
  rw [if_neg nv1, if_neg nv2]
  rcases ot_ix w 2 (by decide) with ho | ⟨i5, h5, e5⟩
  · have bad := nope (Or.inr (Or.inr (Or.inr (Or.inr ho))))
    by_cases z : w < 0
    · rw [if_pos z]; exact bad
    · obtain ⟨i, hi, rfl⟩ := nI_of z
      have : 2 ≤ i := (nI_leI (by omega) hi).mp (ho.resolve_left z)
      rw [if_neg z, if_neg (show ¬ nI i ≤ 1 from nI_ge (a := 1) (by omega) hi)]; exact bad
  have nw1 : ¬ w < 0 := by rw [e5]; exact nI_pos (by omega)
  have nw2 : w ≤ 1 := by rw [e5]; exact nI_le (b := 1) (by omega) (by decide)
  rw [if_neg nw1, if_pos nw2]
  rcases ot_ixc b 2 3 (by decide) with ho | ⟨i3, h3, e3⟩
  · have bad := nope (Or.inr (Or.inr (Or.inl ho)))
    by_cases z : b < 2
    · rw [if_pos z]; exact bad
    · have h1 : ¬ b < 0 := Int32.not_lt.mpr (Int32.le_trans (show (0 : Int32) ≤ 2 by decide) (Int32.not_lt.mp z))
      obtain ⟨i, hi, rfl⟩ := nI_of h1
      have : 2 + 3 ≤ i := (nI_leI (by omega) hi).mp (ho.resolve_left z)
      rw [if_neg z, if_pos (show (4 : Int32) < nI i from nI_lt (a := 4) (by omega) hi)]; exact bad
  have nb1 : ¬ b < 2 := by rw [e3]; exact nI_nlt (b := 2) (by omega) (by omega)
  have nb2 : ¬ (4 : Int32) < b := by rw [e3]; exact nI_nlt (a := 4) (by omega) (by omega)
  rw [if_neg nb1, if_neg nb2]
  rcases ot_ix a (2 + i3 + 1) (by omega) with ho | ⟨i4, h4, e4⟩
  · have bad := nope (Or.inr (Or.inr (Or.inr (Or.inl ⟨i3, h3, e3, ho⟩))))
    by_cases z : a < 0
    · rw [if_pos z]; exact bad
    · obtain ⟨i, hi, rfl⟩ := nI_of z
      have : 2 + i3 + 1 ≤ i := (nI_leI (by omega) hi).mp (ho.resolve_left z)
      rw [if_neg z, if_neg (show ¬ nI i ≤ b by rw [e3]; exact nI_ge (by omega) hi)]; exact bad
  have na1 : ¬ a < 0 := by rw [e4]; exact nI_pos (by omega)
  have na2 : a ≤ b := by rw [e4, e3]; exact nI_le (by omega) (by omega)
  rw [if_neg na1, if_pos na2]
  subst e1; subst e2; subst e3; subst e4
  refine pX_find (by omega) (by omega) (by omega) (by omega) (by omega) (by omega) (fun J M hJ hM => ?_)
  have go : ∀ r : Int32, (match fndF (2 + i1) (2 + i2) i4 (2 + i3) 30 1 with | none => (-2 : Int32) | some x => if w = 0 then nI x.1 else nI x.2) = r → EI 60 mX12_need [.ref 58, .int (nI (2 + i1)), .int (nI (2 + i2)), .int (nI i4), .int (nI (2 + i3)), .int w] J M (fun r' I2 L2 => r' = r ∧ P I2 L2) := by
    intro r hr
    refine sgX12_need_0 ?_
    refine in_i2 (c := 2) (n := 999) (by decide) rfl h1 ?_
    rw [if_neg (by decide)]
    refine in_i2 (c := 2) (n := 999) (by decide) rfl h2 ?_
    rw [if_neg (by decide)]
    refine in_i2 (c := 2) (n := 3) (by decide) rfl h3 ?_
    rw [if_neg (by decide), ← nI_pred (2 + i3)]
    refine in_in (n := 2 + i3 + 1) (by omega) h4 ?_
    rw [if_neg (by decide), nI_pred, e5]
    refine in_in (n := 2) (by decide) h5 ?_
    rw [if_neg (by decide), ← e5]
    exact pM_need (d := 58) (by omega) (by omega) (by omega) (by omega) (by omega) (by omega) ⟨hr, hP J M hJ hM⟩ 30 0 (by omega) rfl
  refine ⟨fun hf => ?_, fun n r hf j0 j1 => ?_⟩
  · rw [if_pos rfl]; exact go _ (by rw [hf])
  · rw [if_neg (by decide), j0, j1]; exact go _ (by rw [hf])
