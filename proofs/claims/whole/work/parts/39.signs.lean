/-! signs that may be turned -/
def siF (a : Nat → Int) : Nat → Int
  | 0 => 0
  | n + 1 => siF a n + a n
theorem siF_congr {a b : Nat → Int} {n : Nat} (h : ∀ i, i < n → a i = b i) : siF a n = siF b n := by
  induction n with
  | zero => rfl
  | succ n ih => rw [siF, siF, ih (fun i hi => h i (by omega)), h n (by omega)]
theorem siF_bd {a : Nat → Int} {c : Int} (hc : 0 ≤ c) : ∀ {n : Nat}, (∀ i, i < n → -c ≤ a i ∧ a i ≤ c) → -(n * c) ≤ siF a n ∧ siF a n ≤ n * c
  | 0, _ => by simp [siF]
  | n + 1, h => by
    have h1 := siF_bd hc (fun i hi => h i (show i < n + 1 by omega)) (n := n)
    have h2 := h n (by omega)
    rw [siF]
    have e : ((n + 1 : Nat) : Int) * c = n * c + c := by rw [Int.natCast_succ, Int.add_mul, Int.one_mul]
    rw [e]; omega
theorem vz_add {x y : Int32} (h1 : -2147483648 ≤ x.toInt + y.toInt) (h2 : x.toInt + y.toInt < 2147483648) : (x + y).toInt = x.toInt + y.toInt := by
  rw [Int32.toInt_add]; exact Int.bmod_eq_of_le (by omega) (by omega)
theorem vz_sub {x y : Int32} (h1 : -2147483648 ≤ x.toInt - y.toInt) (h2 : x.toInt - y.toInt < 2147483648) : (x - y).toInt = x.toInt - y.toInt := by
  rw [Int32.toInt_sub]; exact Int.bmod_eq_of_le (by omega) (by omega)
theorem vz_neg {x : Int32} (h1 : -2147483648 < x.toInt) (h2 : x.toInt < 2147483648) : (-x).toInt = -x.toInt := by
  rw [Int32.toInt_neg]; exact Int.bmod_eq_of_le (by omega) (by omega)
theorem vz_le {x y : Int32} : x ≤ y ↔ x.toInt ≤ y.toInt := Int32.le_iff_toInt_le
theorem vz_lt {x y : Int32} : x < y ↔ x.toInt < y.toInt := Int32.lt_iff_toInt_lt
theorem vz_0 : (0 : Int32).toInt = 0 := by decide
theorem vz_min (x : Int32) : (if x < 0 then x else 0).toInt = if x.toInt < 0 then x.toInt else 0 := by
  by_cases h : x < 0
  · rw [if_pos h, if_pos (by rw [vz_lt, vz_0] at h; exact h)]
  · rw [if_neg h, if_neg (by rw [vz_lt, vz_0] at h; exact h)]; rfl
theorem vz_max (x : Int32) : (if 0 < x then x else 0).toInt = if 0 < x.toInt then x.toInt else 0 := by
  by_cases h : 0 < x
  · rw [if_pos h, if_pos (by rw [vz_lt, vz_0] at h; exact h)]
  · rw [if_neg h, if_neg (by rw [vz_lt, vz_0] at h; exact h)]; rfl
abbrev t12_X : Type := Nat × (Nat → Int32)
def v12 (X : t12_X) : Prop := X.1 ≤ 12 ∧ ∀ i, i < X.1 → -10000 ≤ (X.2 i).toInt ∧ (X.2 i).toInt ≤ 10000
/-- ways to turn: places at' on, turned so far -/
def twF (N : Nat → Int) : Nat → Nat → Int → Nat
  | 0, _, t => if t ≤ 0 then 1 else 0
  | r + 1, at', t => twF N r (at' + 1) t + twF N r (at' + 1) (t + N at')
def loF (N : Nat → Int) (at' : Nat) (r : Nat) : Int := siF (fun i => if N (at' + i) < 0 then N (at' + i) else 0) r
def hiF (N : Nat → Int) (at' : Nat) (r : Nat) : Int := siF (fun i => if 0 < N (at' + i) then N (at' + i) else 0) r
theorem siF_head (a : Nat → Int) : ∀ n, siF a (n + 1) = a 0 + siF (fun i => a (i + 1)) n
  | 0 => by simp [siF]
  | n + 1 => by rw [siF, siF_head a n, siF, Int.add_assoc]
theorem loF_s (N : Nat → Int) (at' r : Nat) : loF N at' (r + 1) = (if N at' < 0 then N at' else 0) + loF N (at' + 1) r := by
  unfold loF
  rw [siF_head, Nat.add_zero]
  congr 1
  exact siF_congr (fun i _ => by rw [show at' + (i + 1) = at' + 1 + i by omega])
theorem hiF_s (N : Nat → Int) (at' r : Nat) : hiF N at' (r + 1) = (if 0 < N at' then N at' else 0) + hiF N (at' + 1) r := by
  unfold hiF
  rw [siF_head, Nat.add_zero]
  congr 1
  exact siF_congr (fun i _ => by rw [show at' + (i + 1) = at' + 1 + i by omega])
theorem tw_lo (N : Nat → Int) : ∀ (r at' : Nat) (t : Int), 0 < t + loF N at' r → twF N r at' t = 0
  | 0, at', t, h => by
    have : loF N at' 0 = 0 := rfl
    rw [twF, if_neg (by omega)]
  | r + 1, at', t, h => by
    rw [loF_s] at h
    rw [twF, tw_lo N r (at' + 1) t (by split at h <;> omega), tw_lo N r (at' + 1) (t + N at') (by split at h <;> omega)]
theorem tw_hi (N : Nat → Int) : ∀ (r at' : Nat) (t : Int), t + hiF N at' r ≤ 0 → twF N r at' t = 2 ^ r
  | 0, at', t, h => by
    have : hiF N at' 0 = 0 := rfl
    rw [twF, if_pos (by omega)]
    try rfl
  | r + 1, at', t, h => by
    rw [hiF_s] at h
    rw [twF, tw_hi N r (at' + 1) t (by split at h <;> omega), tw_hi N r (at' + 1) (t + N at') (by split at h <;> omega), Nat.pow_succ]; omega
def xT (J : st_I) (X : t12_X) : Prop := J 47 0 = nI X.1 ∧ ∀ i, i < X.1 → J 48 i = X.2 i
theorem shl12 : ∀ m, m < 13 → (1 : Int32) <<< (nI m &&& 31) = nI (2 ^ m) := by decide +kernel
theorem pX_twaysFrom {d : Nat} {X : t12_X} {J : st_I} {L : st_L} (hX : xT J X) (hv : v12 X) : ∀ (r at' : Nat) (t lo hi : Int32) {F : Int32 → st_I → st_L → Prop}, at' + r = X.1 → -(at' * 10000 : Int) ≤ t.toInt → t.toInt ≤ at' * 10000 → lo.toInt = loF (fun i => (X.2 i).toInt) at' r → hi.toInt = hiF (fun i => (X.2 i).toInt) at' r → F (nI (twF (fun i => (X.2 i).toInt) r at' t.toInt)) J L → EI (d + r + 1) mX9_waysFrom [.ref 47, .int (nI at'), .int t, .int lo, .int hi] J L F := by
  obtain ⟨hm, hb⟩ := hv
  have blo : ∀ r at', at' + r = X.1 → -(r * 10000 : Int) ≤ loF (fun i => (X.2 i).toInt) at' r ∧ loF (fun i => (X.2 i).toInt) at' r ≤ r * 10000 := fun r at' h => siF_bd (by decide) (fun i hi => by have := hb (at' + i) (by omega); dsimp only; split <;> omega)
  have bhi : ∀ r at', at' + r = X.1 → -(r * 10000 : Int) ≤ hiF (fun i => (X.2 i).toInt) at' r ∧ hiF (fun i => (X.2 i).toInt) at' r ≤ r * 10000 := fun r at' h => siF_bd (by decide) (fun i hi => by have := hb (at' + i) (by omega); dsimp only; split <;> omega)
  intro r
  induction r with
  | zero =>
    intro at' t lo hi F hat ht1 ht2 hlo hhi hF
    have l0 : loF (fun i => (X.2 i).toInt) at' 0 = 0 := rfl
    have h0 : hiF (fun i => (X.2 i).toInt) at' 0 = 0 := rfl
    have e1 : (t + lo).toInt = t.toInt := by rw [vz_add (by omega) (by omega)]; omega
    have e2 : (t + hi).toInt = t.toInt := by rw [vz_add (by omega) (by omega)]; omega
    rw [twF] at hF
    refine sgX9_waysFrom_0 ?_
    have hsh : (1 : Int32) <<< ((J 47 0 - nI at') &&& 31) = nI 1 := by rw [hX.1, pk_sub (by omega), show X.1 - at' = 0 by omega]; decide
    by_cases z : t.toInt ≤ 0
    · rw [if_pos z] at hF
      rw [if_pos (by rw [vz_le, e1, vz_0]; exact z), if_pos (by rw [vz_le, e2, vz_0]; exact z), hsh]; exact hF
    · rw [if_neg z] at hF
      rw [if_neg (by rw [vz_le, e1, vz_0]; exact z)]; exact hF
  | succ r ih =>
    intro at' t lo hi F hat ht1 ht2 hlo hhi hF
    have hl := blo (r + 1) at' hat
    have hh := bhi (r + 1) at' hat
    have hn := hb at' (by omega)
    have e1 : (t + lo).toInt = t.toInt + lo.toInt := vz_add (by omega) (by omega)
    have e2 : (t + hi).toInt = t.toInt + hi.toInt := vz_add (by omega) (by omega)
    refine sgX9_waysFrom_0 ?_
    by_cases z : t.toInt + lo.toInt ≤ 0
    · rw [if_pos (by rw [vz_le, e1, vz_0]; exact z)]
      by_cases y : t.toInt + hi.toInt ≤ 0
      · rw [tw_hi _ _ _ _ (by omega)] at hF
        rw [if_pos (by rw [vz_le, e2, vz_0]; exact y), hX.1, pk_sub (by omega), shl12 _ (by omega), show X.1 - at' = r + 1 by omega]; exact hF
      · rw [if_neg (by rw [vz_le, e2, vz_0]; exact y), hX.1, if_pos (nI_lt (by omega) (by omega)), nI_clamp (by omega), hX.2 at' (by omega), nI_1]
        rw [loF_s] at hlo
        rw [hiF_s] at hhi
        have hl2 := blo r (at' + 1) (by omega)
        have hh2 := bhi r (at' + 1) (by omega)
        have e3 : (lo - (if X.2 at' < 0 then X.2 at' else 0)).toInt = loF (fun i => (X.2 i).toInt) (at' + 1) r := by
          have q := vz_min (X.2 at')
          rw [vz_sub (by rw [q]; split at hlo <;> omega) (by rw [q]; split at hlo <;> omega), q]; omega
        have e4 : (hi - (if 0 < X.2 at' then X.2 at' else 0)).toInt = hiF (fun i => (X.2 i).toInt) (at' + 1) r := by
          have q := vz_max (X.2 at')
          rw [vz_sub (by rw [q]; split at hhi <;> omega) (by rw [q]; split at hhi <;> omega), q]; omega
        have e5 : (t + X.2 at').toInt = t.toInt + (X.2 at').toInt := vz_add (by omega) (by omega)
        rw [twF] at hF
        refine ⟨vp_in_nI (by omega) (by decide), ih (at' + 1) t _ _ (by omega) (by omega) (by omega) e3 e4 (ih (at' + 1) (t + X.2 at') _ _ (by omega) (by omega) (by omega) e3 e4 ?_)⟩
        rw [e5, nI_add]; exact hF
    · rw [tw_lo _ _ _ _ (by omega)] at hF
      rw [if_neg (by rw [vz_le, e1, vz_0]; exact z)]; exact hF
theorem pX_tways {d : Nat} {X : t12_X} {J : st_I} {L : st_L} {F : Int32 → st_I → st_L → Prop} (hX : xT J X) (hv : v12 X) (h : F (nI (twF (fun i => (X.2 i).toInt) X.1 0 0)) J L) : EI (d + 14) mX9_ways [.ref 47] J L F := by
  obtain ⟨hm, hb⟩ := id hv
  have key : ∀ (r k : Nat) (lo hi : Int32), k + r = X.1 → lo.toInt = loF (fun i => (X.2 i).toInt) 0 k → hi.toInt = hiF (fun i => (X.2 i).toInt) 0 k → TI (d + 14) mX9_ways 6 [.ref 47, .int lo, .int hi, .int (nI k)] [] J L F := by
    intro r
    induction r with
    | zero =>
      intro k lo hi hk hlo hhi
      obtain rfl : k = X.1 := by omega
      refine sgX9_ways_6 ?_
      rw [hX.1, if_pos (nI_le (Nat.le_refl _) (by omega))]
      have := pX_twaysFrom (d := d + 12 - X.1) (L := L) hX hv X.1 0 0 lo hi (F := F) (by omega) (by decide) (by decide) hlo hhi (by rw [vz_0]; exact h)
      rw [show d + 12 - X.1 + X.1 + 1 = d + 13 by omega] at this
      exact this
    | succ r ih =>
      intro k lo hi hk hlo hhi
      have vk : vp_in (nI k) 12 := vp_in_nI (by omega) (by decide)
      have hn := hb k (by omega)
      have bl : -(k * 10000 : Int) ≤ loF (fun i => (X.2 i).toInt) 0 k ∧ loF (fun i => (X.2 i).toInt) 0 k ≤ k * 10000 := siF_bd (by decide) (fun i hi => by have := hb (0 + i) (by omega); dsimp only; split <;> omega)
      have bh : -(k * 10000 : Int) ≤ hiF (fun i => (X.2 i).toInt) 0 k ∧ hiF (fun i => (X.2 i).toInt) 0 k ≤ k * 10000 := siF_bd (by decide) (fun i hi => by have := hb (0 + i) (by omega); dsimp only; split <;> omega)
      refine sgX9_ways_6 ?_
      rw [hX.1, if_neg (nI_ge (by omega) (by omega)), nI_clamp (by omega), hX.2 k (by omega), nI_1]
      have q1 := vz_min (X.2 k)
      have q2 := vz_max (X.2 k)
      have s1 : loF (fun i => (X.2 i).toInt) 0 (k + 1) = loF (fun i => (X.2 i).toInt) 0 k + (if (X.2 k).toInt < 0 then (X.2 k).toInt else 0) := by unfold loF; rw [siF, Nat.zero_add]
      have s2 : hiF (fun i => (X.2 i).toInt) 0 (k + 1) = hiF (fun i => (X.2 i).toInt) 0 k + (if 0 < (X.2 k).toInt then (X.2 k).toInt else 0) := by unfold hiF; rw [siF, Nat.zero_add]
      refine ⟨vk, vk, ih (k + 1) _ _ (by omega) ?_ ?_⟩
      · rw [vz_add (by rw [q1]; split <;> omega) (by rw [q1]; split <;> omega), q1, hlo, s1]
      · rw [vz_add (by rw [q2]; split <;> omega) (by rw [q2]; split <;> omega), q2, hhi, s2]
  exact sgX9_ways_0 (key X.1 0 0 0 (by omega) rfl rfl)
/-! the reference -/
def mT (J : st_I) (X : t12_X) : Prop := J 58 71 = nI X.1 ∧ ∀ i, i < X.1 → J 109 i = X.2 i
/-- the sum of 32 bits -/
def s32 (V : Nat → Int32) : Nat → Int32
  | 0 => 0
  | n + 1 => s32 V n + V n
theorem s32_int {X : t12_X} (hv : v12 X) : ∀ k, k ≤ X.1 → (s32 X.2 k).toInt = siF (fun i => (X.2 i).toInt) k ∧ -(k * 10000 : Int) ≤ siF (fun i => (X.2 i).toInt) k ∧ siF (fun i => (X.2 i).toInt) k ≤ k * 10000
  | 0, _ => ⟨rfl, by simp [siF], by simp [siF]⟩
  | k + 1, h => by
    obtain ⟨a, b, c⟩ := s32_int hv k (by omega)
    have hn := hv.2 k (by omega)
    have hm := hv.1
    rw [s32, siF, vz_add (by omega) (by omega)]
    refine ⟨by omega, by omega, by omega⟩
def cwF (N : Nat → Int) : Nat → Nat → Nat → Int
  | 0, _, _ => 0
  | r + 1, at', w => (if w % 2 = 1 then N at' else 0) + cwF N r (at' + 1) (w / 2)
theorem cw_sum (N : Nat → Int) : ∀ (r at' : Nat) (t : Int), sn (fun w => if t + cwF N r at' w ≤ 0 then 1 else 0) (2 ^ r) = twF N r at' t
  | 0, at', t => by simp [sn, cwF, twF]
  | r + 1, at', t => by
    rw [Nat.pow_succ, Nat.mul_comm, sn_ms, twF, ← cw_sum N r (at' + 1) t, ← cw_sum N r (at' + 1) (t + N at')]
    rw [sn, sn, sn, Nat.zero_add]
    congr 1
    · refine sn_congr (fun w _ => ?_)
      rw [cwF, show (0 + 2 * w) % 2 = 0 by omega, show (0 + 2 * w) / 2 = w by omega, if_neg (show ¬ (0 : Nat) = 1 by decide), Int.zero_add]
    · refine sn_congr (fun w _ => ?_)
      rw [cwF, show (1 + 2 * w) % 2 = 1 by omega, show (1 + 2 * w) / 2 = w by omega, if_pos (show (1 : Nat) = 1 from rfl), Int.add_assoc]
def chF (N : Nat → Int) (w k : Nat) : Int := siF (fun i => if w / 2 ^ i % 2 = 1 then N i else 0) k
theorem cw_ch (N : Nat → Int) (w : Nat) : ∀ (r at' : Nat), cwF N r at' (w / 2 ^ at') = chF N w (at' + r) - chF N w at'
  | 0, at' => by rw [cwF, Nat.add_zero]; omega
  | r + 1, at' => by
    rw [cwF, Nat.div_div_eq_div_mul, ← Nat.pow_succ, cw_ch N w r (at' + 1)]
    have e : chF N w (at' + 1) = chF N w at' + (if w / 2 ^ at' % 2 = 1 then N at' else 0) := rfl
    rw [show at' + 1 + r = at' + (r + 1) by omega]
    omega
theorem cw_all (N : Nat → Int) (w m : Nat) : cwF N m 0 w = chF N w m := by
  have := cw_ch N w m 0
  rw [Nat.pow_zero, Nat.div_one, Nat.zero_add] at this
  rw [this]
  have : chF N w 0 = 0 := rfl
  omega
theorem smod12 : ∀ k, k < 12 → (((nI k) &&& 31).toBitVec.smod 32).toNat = k := by decide +kernel
theorem bit_w {w k : Nat} (hw : w < 2 ^ 31) (hk : k < 12) : ((nI w >>> (nI k &&& 31)) &&& 1) = nI (w / 2 ^ k % 2) := by
  rw [pk_shrN hw _ k (smod12 k hk), pk_andN (m := 1) (Nat.lt_of_le_of_lt (Nat.div_le_self _ _) (by omega)) 1 (by decide)]
theorem pM_signSum {d : Nat} {X : t12_X} {J : st_I} {L : st_L} {F : Int32 → st_I → st_L → Prop} (hX : mT J X) (hm : X.1 ≤ 12) (h : F (s32 X.2 X.1) J L) : EI d mX12_signSum [.ref 58] J L F := by
  have key : ∀ (r k : Nat), k + r = X.1 → TI d mX12_signSum 4 [.ref 58, .int (s32 X.2 k), .int (nI k)] [] J L F := by
    intro r
    induction r with
    | zero =>
      intro k hk
      obtain rfl : k = X.1 := by omega
      refine sgX12_signSum_4 ?_
      rw [hX.1, if_pos (nI_le (Nat.le_refl _) (by omega))]; exact h
    | succ r ih =>
      intro k hk
      refine sgX12_signSum_4 ?_
      rw [hX.1, if_neg (nI_ge (by omega) (by omega)), nI_clamp (by omega), hX.2 k (by omega), nI_1]
      exact ⟨vp_in_nI (by omega) (by decide), ih (k + 1) (by omega)⟩
  exact sgX12_signSum_0 (key X.1 0 (by omega))
theorem pX_tsum {d : Nat} {X : t12_X} {J : st_I} {L : st_L} {F : Int32 → st_I → st_L → Prop} (hX : xT J X) (hm : X.1 ≤ 12) (h : F (s32 X.2 X.1) J L) : EI d mX9_sum [.ref 47] J L F := by
  have key : ∀ (r k : Nat), k + r = X.1 → TI d mX9_sum 4 [.ref 47, .int (s32 X.2 k), .int (nI k)] [] J L F := by
    intro r
    induction r with
    | zero =>
      intro k hk
      obtain rfl : k = X.1 := by omega
      refine sgX9_sum_4 ?_
      rw [hX.1, if_pos (nI_le (Nat.le_refl _) (by omega))]; exact h
    | succ r ih =>
      intro k hk
      refine sgX9_sum_4 ?_
      rw [hX.1, if_neg (nI_ge (by omega) (by omega)), nI_clamp (by omega), hX.2 k (by omega), nI_1]
      exact ⟨vp_in_nI (by omega) (by decide), ih (k + 1) (by omega)⟩
  exact sgX9_sum_0 (key X.1 0 (by omega))
theorem pM_signWays {d : Nat} {X : t12_X} {J : st_I} {L : st_L} {F : Int32 → st_I → st_L → Prop} (hX : mT J X) (hv : v12 X) (h : F (nI (twF (fun i => (X.2 i).toInt) X.1 0 0)) J L) : EI (d + 1) mX12_signWays [.ref 58] J L F := by
  obtain ⟨hm, hb⟩ := id hv
  have h2 : 2 ^ X.1 ≤ 2 ^ 12 := Nat.pow_le_pow_right (by decide) hm
  refine sgX12_signWays_0 (pM_signSum hX hm ?_)
  obtain ⟨n1, n2, n3⟩ := s32_int hv X.1 (Nat.le_refl _)
  have key : ∀ (r w : Nat), w + r = 2 ^ X.1 → TI (d + 1) mX12_signWays 9 [.ref 58, .int (s32 X.2 X.1), .int (nI (sn (fun w => if 0 + cwF (fun i => (X.2 i).toInt) X.1 0 w ≤ 0 then 1 else 0) w)), .int (nI w), .null, .null] [] J L F := by
    intro r
    induction r with
    | zero =>
      intro w hw
      obtain rfl : w = 2 ^ X.1 := by omega
      refine sgX12_signWays_9 ?_
      rw [hX.1, shl12 _ (by omega), if_pos (nI_le (Nat.le_refl _) (by omega)), cw_sum]; exact h
    | succ r ih =>
      intro w hw
      have st := ih (w + 1) (by omega)
      rw [sn, Int.zero_add, cw_all] at st
      refine sgX12_signWays_9 ?_
      rw [hX.1, shl12 _ (by omega), if_neg (nI_ge (by omega) (by omega))]
      have inner : ∀ (c k : Nat) (all : Int32), k + c = X.1 → all.toInt = siF (fun i => (X.2 i).toInt) k - 2 * chF (fun i => (X.2 i).toInt) w k → TI (d + 1) mX12_signWays 25 [.ref 58, .int (s32 X.2 X.1), .int (nI (sn (fun w => if 0 + cwF (fun i => (X.2 i).toInt) X.1 0 w ≤ 0 then 1 else 0) w)), .int (nI w), .int all, .int (nI k)] [] J L F := by
        intro c
        induction c with
        | zero =>
          intro k all hk ha
          obtain rfl : k = X.1 := by omega
          refine sgX12_signWays_25 ?_
          rw [hX.1, if_pos (nI_le (Nat.le_refl _) (by omega)), nI_1, nI_1]
          by_cases z : chF (fun i => (X.2 i).toInt) w X.1 ≤ 0
          · rw [if_neg (by rw [vz_lt]; omega)]
            rw [if_pos z] at st; exact st
          · rw [if_pos (by rw [vz_lt]; omega)]
            rw [if_neg z] at st; exact st
        | succ c ihc =>
          intro k all hk ha
          have hn := hb k (by omega)
          obtain ⟨-, q2, q3⟩ := s32_int hv k (by omega)
          have qc : -(k * 10000 : Int) ≤ chF (fun i => (X.2 i).toInt) w k ∧ chF (fun i => (X.2 i).toInt) w k ≤ k * 10000 := siF_bd (by decide) (fun i hi => by have := hb i (by omega); dsimp only; split <;> omega)
          have e1 : siF (fun i => (X.2 i).toInt) (k + 1) = siF (fun i => (X.2 i).toInt) k + (X.2 k).toInt := rfl
          have e2 : chF (fun i => (X.2 i).toInt) w (k + 1) = chF (fun i => (X.2 i).toInt) w k + (if w / 2 ^ k % 2 = 1 then (X.2 k).toInt else 0) := rfl
          have vk : vp_in (nI k) 12 := vp_in_nI (by omega) (by decide)
          refine sgX12_signWays_25 ?_
          rw [hX.1, if_neg (nI_ge (by omega) (by omega)), bit_w (by omega) (by omega), nI_clamp (by omega), hX.2 k (by omega), nI_1]
          rcases (show w / 2 ^ k % 2 = 0 ∨ w / 2 ^ k % 2 = 1 by omega) with z | z
          · rw [z, if_neg (by decide)]
            rw [z, if_neg (by decide)] at e2
            exact ⟨vk, ihc (k + 1) _ (by omega) (by rw [vz_add (by omega) (by omega)]; omega)⟩
          · rw [z, if_pos (by decide)]
            rw [z, if_pos rfl] at e2
            have e3 := vz_neg (x := X.2 k) (by omega) (by omega)
            exact ⟨vk, ihc (k + 1) _ (by omega) (by rw [vz_add (by omega) (by omega)]; omega)⟩
      exact inner X.1 0 0 (by omega) (by rw [vz_0]; rfl)
  exact key (2 ^ X.1) 0 (by omega)
