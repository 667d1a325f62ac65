/-! all ways to give -/
def facN : Nat → Nat
  | 0 => 1
  | n + 1 => (n + 1) * facN n
def updN (g : Nat → Nat) (k x : Nat) : Nat → Nat := fun j => if j = k then x else g j
/-- all ways to go on: m places, those of x are given, g what is given so far, at the next one -/
def wyG (leaf : (Nat → Nat) → Nat) (m : Nat) : Nat → Nat → (Nat → Nat) → Nat → Nat
  | 0, _, g, _ => leaf g
  | r + 1, x, g, at' => sn (fun i => if x.testBit i then 0 else wyG leaf m r (x ||| 2 ^ i) (updN g at' i) (at' + 1)) m
/-- the t-th that is not given, from i on -/
def nuF (x : Nat) : Nat → Nat → Nat → Nat
  | 0, i, _ => i
  | f + 1, i, t => if x.testBit i then nuF x f (i + 1) t else if t = 0 then i else nuF x f (i + 1) (t - 1)
/-- how many of i .. i + f - 1 are not given -/
def ucF (x : Nat) : Nat → Nat → Nat
  | 0, _ => 0
  | f + 1, i => (if x.testBit i then 0 else 1) + ucF x f (i + 1)
theorem nuF_sum (x : Nat) (f' : Nat → Nat) : ∀ (f i : Nat), sn (fun j => if x.testBit (i + j) then 0 else f' (i + j)) f = sn (fun t => f' (nuF x f i t)) (ucF x f i)
  | 0, i => rfl
  | f + 1, i => by
    have ih := nuF_sum x f' f (i + 1)
    rw [sn_head, Nat.add_zero]
    have e : sn (fun j => if x.testBit (i + (j + 1)) then 0 else f' (i + (j + 1))) f = sn (fun j => if x.testBit (i + 1 + j) then 0 else f' (i + 1 + j)) f := sn_congr (fun j _ => by rw [show i + (j + 1) = i + 1 + j by omega])
    rw [e, ih, ucF]
    by_cases h : x.testBit i = true
    · rw [if_pos h, if_pos h, Nat.zero_add, Nat.zero_add]
      exact sn_congr (fun t _ => by rw [nuF, if_pos h])
    · rw [if_neg h, if_neg h, Nat.add_comm 1, sn_head, nuF, if_neg h, if_pos rfl]
      congr 1
      exact sn_congr (fun t _ => by rw [nuF, if_neg h, if_neg (by omega), Nat.add_sub_cancel])
theorem nuF_ok (x : Nat) : ∀ (f i t : Nat), t < ucF x f i → i ≤ nuF x f i t ∧ nuF x f i t < i + f ∧ x.testBit (nuF x f i t) = false
  | 0, i, t, h => by rw [ucF] at h; omega
  | f + 1, i, t, h => by
    rw [ucF] at h
    rw [nuF]
    by_cases hb : x.testBit i = true
    · rw [if_pos hb] at h ⊢
      have := nuF_ok x f (i + 1) t (by omega)
      exact ⟨by omega, by omega, this.2.2⟩
    · rw [if_neg hb] at h ⊢
      by_cases ht : t = 0
      · rw [if_pos ht]; exact ⟨by omega, by omega, by simpa using hb⟩
      · rw [if_neg ht]
        have := nuF_ok x f (i + 1) (t - 1) (by omega)
        exact ⟨by omega, by omega, this.2.2⟩
theorem tb_or (x i j : Nat) : (x ||| 2 ^ i).testBit j = (x.testBit j || decide (i = j)) := by rw [Nat.testBit_or, Nat.testBit_two_pow]
theorem ucF_or (x k : Nat) : ∀ (f i : Nat), (i ≤ k ∧ k < i + f ∧ x.testBit k = false → ucF x f i = ucF (x ||| 2 ^ k) f i + 1) ∧ ((k < i ∨ i + f ≤ k) → ucF (x ||| 2 ^ k) f i = ucF x f i)
  | 0, i => ⟨fun h => by omega, fun _ => rfl⟩
  | f + 1, i => by
    have ih := ucF_or x k f (i + 1)
    rw [ucF, ucF, tb_or]
    refine ⟨fun ⟨h1, h2, h3⟩ => ?_, fun h => ?_⟩
    · by_cases e : k = i
      · subst e
        rw [h3, decide_eq_true rfl, ih.2 (Or.inl (by omega))]
        simp; omega
      · rw [decide_eq_false e, Bool.or_false, ih.1 ⟨by omega, by omega, h3⟩]; omega
    · rw [decide_eq_false (by omega), Bool.or_false, ih.2 (by omega)]
theorem ucF_0 : ∀ (f i : Nat), ucF 0 f i = f
  | 0, _ => rfl
  | f + 1, i => by rw [ucF, ucF_0 f, Nat.zero_testBit]; simp; omega
theorem sn_ms (f : Nat → Nat) (k : Nat) : ∀ N, sn f (k * N) = sn (fun t => sn (fun w => f (t + k * w)) N) k
  | 0 => by
    have : ∀ k, sn (fun _ => 0) k = 0 := fun k => by induction k with | zero => rfl | succ k ih => rw [sn, ih]
    simp only [Nat.mul_zero, sn]; exact (this k).symm
  | N + 1 => by
    rw [Nat.mul_succ, sn_split, sn_ms f k N]
    simp only [sn]
    rw [sn_add]
    congr 1
    exact sn_congr (fun t _ => by rw [Nat.add_comm])
/-- what the reference gives by the number w: with r places left -/
def gvN (m : Nat) : Nat → Nat → (Nat → Nat) → Nat → Nat → (Nat → Nat)
  | 0, _, g, _, _ => g
  | r + 1, x, g, at', w => gvN m r (x ||| 2 ^ nuF x m 0 (w % (r + 1))) (updN g at' (nuF x m 0 (w % (r + 1)))) (at' + 1) (w / (r + 1))
theorem gv_sum (leaf : (Nat → Nat) → Nat) (m : Nat) : ∀ (r x : Nat) (g : Nat → Nat) (at' : Nat), ucF x m 0 = r → sn (fun w => leaf (gvN m r x g at' w)) (facN r) = wyG leaf m r x g at'
  | 0, x, g, at', _ => by simp [facN, sn, gvN, wyG]
  | r + 1, x, g, at', hu => by
    rw [facN, sn_ms, wyG]
    have e := nuF_sum x (fun i => wyG leaf m r (x ||| 2 ^ i) (updN g at' i) (at' + 1)) m 0
    simp only [Nat.zero_add] at e
    rw [e, hu]
    refine sn_congr (fun t ht => ?_)
    have hk := nuF_ok x m 0 t (by omega)
    have hu2 := (ucF_or x (nuF x m 0 t) m 0).1 ⟨hk.1, hk.2.1, hk.2.2⟩
    rw [← gv_sum leaf m r (x ||| 2 ^ nuF x m 0 t) (updN g at' (nuF x m 0 t)) (at' + 1) (by omega)]
    refine sn_congr (fun w _ => ?_)
    rw [gvN, show (t + (r + 1) * w) % (r + 1) = t by rw [Nat.add_mul_mod_self_left]; exact Nat.mod_eq_of_lt ht, show (t + (r + 1) * w) / (r + 1) = w by rw [Nat.add_mul_div_left _ _ (by omega), Nat.div_eq_of_lt ht, Nat.zero_add]]
theorem gv_all (leaf : (Nat → Nat) → Nat) (m : Nat) : sn (fun w => leaf (gvN m m 0 (fun _ => 0) 0 w)) (facN m) = wyG leaf m m 0 (fun _ => 0) 0 := gv_sum leaf m m 0 _ 0 (ucF_0 m 0)
theorem fac_le : ∀ m, m < 8 → facN m ≤ 5040 := by decide +kernel
theorem fac_pos : ∀ m, 0 < facN m
  | 0 => by decide
  | m + 1 => Nat.mul_pos (by omega) (fac_pos m)
theorem facN_top (m : Nat) : ∀ {F : Nat → Prop}, (∀ j, j + 1 ≤ m → F j → F (j + 1)) → F 0 → F m := by
  intro F h h0
  have : ∀ j, j ≤ m → F j := fun j => by
    induction j with
    | zero => intro _; exact h0
    | succ j ih => intro hj; exact h j hj (ih (by omega))
  exact this m (Nat.le_refl _)
theorem x_orders {d m : Nat} {I : st_I} {L : st_L} {F : Int32 → st_I → st_L → Prop} (hm : m < 8) (h : F (nI (facN m)) I L) : EI d mX10_orders [.int (nI m)] I L F := by
  have key : ∀ (r j : Nat), j + 1 + r = m + 1 → TI d mX10_orders 4 [.int (nI m), .int (nI (facN j)), .int (nI (j + 1))] [] I L F := by
    intro r
    induction r with
    | zero =>
      intro j hj
      obtain rfl : j = m := by omega
      refine sgX10_orders_4 ?_
      rw [if_pos (nI_lt (by omega) (by omega))]; exact h
    | succ r ih =>
      intro j hj
      refine sgX10_orders_4 ?_
      rw [if_neg (nI_nlt (by omega) (by omega)), pk_mul, nI_1, Nat.mul_comm]
      exact ih (j + 1) (by omega)
  refine sgX10_orders_0 ?_
  by_cases h0 : m = 0
  · subst h0
    refine sgX10_orders_4 ?_
    rw [if_pos (by decide)]; exact h
  · exact key (m - 1) 1 (by omega)
theorem m_fact {d m : Nat} {I : st_I} {L : st_L} {F : Int32 → st_I → st_L → Prop} (hm : m < 8) (h : F (nI (facN m)) I L) : EI d mX12_factorial [.int (nI m)] I L F := by
  have key : ∀ (r j : Nat), j + 1 + r = m + 1 → TI d mX12_factorial 4 [.int (nI m), .int (nI (facN j)), .int (nI (j + 1))] [] I L F := by
    intro r
    induction r with
    | zero =>
      intro j hj
      obtain rfl : j = m := by omega
      refine sgX12_factorial_4 ?_
      rw [if_pos (nI_lt (by omega) (by omega))]; exact h
    | succ r ih =>
      intro j hj
      refine sgX12_factorial_4 ?_
      rw [if_neg (nI_nlt (by omega) (by omega)), pk_mul, nI_1, Nat.mul_comm]
      exact ih (j + 1) (by omega)
  refine sgX12_factorial_0 ?_
  by_cases h0 : m = 0
  · subst h0
    refine sgX12_factorial_4 ?_
    rw [if_pos (by decide)]; exact h
  · exact key (m - 1) 1 (by omega)
/-- gives: the numbers are given in 105, what is given stands in 106 -/
theorem m_gives {d m w : Nat} {I : st_I} {L : st_L} {F : st_I → st_L → Prop} (hm : m < 8) (hw : w < 2 ^ 31) (h : ∀ J : st_I, (∀ q, q ≠ 105 → q ≠ 106 → J q = I q) → (∀ j, j < m → J 105 j = nI (gvN m m 0 (fun _ => 0) 0 w j)) → (∀ j, j < m → gvN m m 0 (fun _ => 0) 0 w j < m) → F J L) : EV d mX12_gives [.ref 58, .int (nI w), .int (nI m)] I L F := by
  have main : ∀ (r x : Nat) (g : Nat → Nat) (l : Nat) (J : st_I), r ≤ m → ucF x m 0 = r → l < 2 ^ 31 → (∀ q, q ≠ 105 → q ≠ 106 → J q = I q) → (∀ j, j < m - r → J 105 j = nI (g j) ∧ g j < m) → (∀ j, j < m → J 106 j = b01 (x.testBit j)) → gvN m m 0 (fun _ => 0) 0 w = gvN m r x g (m - r) l → TV d mX12_gives 28 [.ref 58, .null, .int (nI m), .int (nI l), .int (nI r), .null, .null] [] J L F := by
    intro r
    induction r with
    | zero =>
      intro x g l J hr hu hl hJ hg hx e
      refine sgX12_gives_28 ?_
      rw [if_pos (show nI 0 ≤ 0 by decide)]
      rw [gvN] at e
      exact h J hJ (fun j hj => by rw [e]; exact (hg j (by omega)).1) (fun j hj => by rw [e]; exact (hg j (by omega)).2)
    | succ r ih =>
      intro x g l J hr hu hl hJ hg hx e
      rw [gvN] at e
      have ht : l % (r + 1) < r + 1 := Nat.mod_lt _ (by omega)
      have hk := nuF_ok x m 0 (l % (r + 1)) (by omega)
      refine sgX12_gives_28 ?_
      rw [if_neg (nI_nle (by omega) (by omega)), pk_rem hl (by omega) (by omega), pk_div hl (by omega) (by omega)]
      refine ⟨nI_ne0 (by omega) (by omega), nI_ne0 (by omega) (by omega), ?_⟩
      have scan : ∀ (f i t : Nat), i + f = m → t < ucF x f i → nuF x f i t = nuF x m 0 (l % (r + 1)) → TV d mX12_gives 47 [.ref 58, .null, .int (nI m), .int (nI (l / (r + 1))), .int (nI (r + 1)), .int (nI t), .int (nI i)] [] J L F := by
        intro f
        induction f with
        | zero => intro i t _ ht2 _; rw [ucF] at ht2; omega
        | succ f ihf =>
          intro i t hi ht2 hn
          have v7 : vp_in (nI i) 7 := vp_in_nI (by omega) (by decide)
          have ucle : ∀ (f i : Nat), ucF x f i ≤ f := fun f => by
            induction f with
            | zero => intro i; exact Nat.le_refl _
            | succ f ih => intro i; rw [ucF]; have := ih (i + 1); split <;> omega
          have ule := ucle (f + 1) i
          have ht31 : t < 2 ^ 31 := by omega
          rw [ucF] at ht2
          rw [nuF] at hn
          refine sgX12_gives_47 ?_
          rw [nI_clamp (by omega), hx i (by omega)]
          refine ⟨v7, ?_⟩
          have go62 : (x.testBit i = true ∨ ¬ t = 0) → TV d mX12_gives 62 [.ref 58, .null, .int (nI m), .int (nI (l / (r + 1))), .int (nI (r + 1)), .int (nI t), .int (nI i)] [] J L F := by
            intro hor
            refine sgX12_gives_62 ?_
            rw [nI_clamp (by omega), hx i (by omega), nI_1]
            refine ⟨v7, ?_⟩
            by_cases hb : x.testBit i = true
            · rw [hb, if_neg (by decide)]
              rw [if_pos hb] at ht2 hn
              exact ihf (i + 1) t (by omega) (by omega) hn
            · have hbf : x.testBit i = false := by simpa using hb
              have ht0 := hor.resolve_left hb
              rw [hbf, if_pos (by decide)]
              rw [if_neg hb] at ht2 hn
              rw [if_neg ht0] at hn
              rw [show nI t + (-1) = nI (t - 1) from jp_3 t (by omega)]
              exact ihf (i + 1) (t - 1) (by omega) (by omega) hn
          by_cases hb : x.testBit i = true
          · rw [hb, if_neg (by decide)]; exact go62 (Or.inl hb)
          · have hbf : x.testBit i = false := by simpa using hb
            rw [hbf, if_pos (by decide)]
            by_cases ht0 : t = 0
            · rw [if_neg hb, if_pos ht0] at hn
              rw [ht0, if_pos (show nI 0 ≤ 0 by decide), pk_sub (by omega), nI_clamp (by omega), show nI (r + 1) + (-1) = nI r from pk_m1 r]
              have hu2 := (ucF_or x (nuF x m 0 (l % (r + 1))) m 0).1 ⟨hk.1, hk.2.1, hk.2.2⟩
              rw [← hn] at hu2 e
              refine ⟨v7, vp_in_nI (by omega) (by decide), ih (x ||| 2 ^ i) (updN g (m - (r + 1)) i) (l / (r + 1)) _ (by omega) (by omega) (Nat.lt_of_le_of_lt (Nat.div_le_self _ _) hl) (fun q h1 h2 => by rw [u_I_ne _ _ h1, u_I_ne _ _ h2]; exact hJ q h1 h2) (fun j hj => ?_) (fun j hj => ?_) (by rw [show m - r = m - (r + 1) + 1 by omega]; exact e)⟩
              · unfold updN
                by_cases q : j = m - (r + 1)
                · rw [if_pos q]; subst q; exact ⟨by simp [u_I], by omega⟩
                · rw [if_neg q]
                  have := hg j (by omega)
                  refine ⟨?_, this.2⟩
                  simp only [u_I, if_true, if_neg q, show (105 : Nat) = 106 ↔ False by decide, if_false]
                  exact this.1
              · rw [tb_or]
                by_cases q : j = i
                · subst q; simp [u_I, b01]
                · simp only [u_I, if_true, if_neg q, show (106 : Nat) = 105 ↔ False by decide, if_false]
                  rw [hx j hj, decide_eq_false (fun z => q z.symm), Bool.or_false]
            · rw [if_neg (nI_nle (by omega) (by omega))]
              exact go62 (Or.inr ht0)
      exact scan m 0 (l % (r + 1)) (by omega) (by omega) rfl
  have clr : ∀ (r j : Nat) (J : st_I), j + r = m → (∀ q, q ≠ 105 → q ≠ 106 → J q = I q) → (∀ i, i < j → J 106 i = 0) → TV d mX12_gives 5 [.ref 58, .null, .int (nI m), .int (nI w), .int (nI j), .null, .null] [] J L F := by
    intro r
    induction r with
    | zero =>
      intro j J hj hJ hz
      obtain rfl : j = m := by omega
      refine sgX12_gives_5 ?_
      rw [if_pos (nI_le (Nat.le_refl _) (by omega))]
      exact main j 0 (fun _ => 0) w J (Nat.le_refl _) (ucF_0 j 0) hw hJ (fun i hi => by omega) (fun i hi => by rw [hz i hi, Nat.zero_testBit]; rfl) (by rw [Nat.sub_self])
    | succ r ih =>
      intro j J hj hJ hz
      refine sgX12_gives_5 ?_
      rw [if_neg (nI_ge (by omega) (by omega)), nI_clamp (by omega), nI_1]
      refine ⟨vp_in_nI (by omega) (by decide), ih (j + 1) _ (by omega) (fun q h1 h2 => by rw [u_I_ne _ _ h2]; exact hJ q h1 h2) (fun i hi => ?_)⟩
      by_cases q : i = j
      · subst q; simp [u_I]
      · simp only [u_I, if_true, if_neg q]; exact hz i (by omega)
  exact sgX12_gives_0 (clr m 0 I (by omega) (fun _ _ _ => rfl) (fun i hi => absurd hi (Nat.not_lt_zero _)))
