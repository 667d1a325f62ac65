/-! KNOWING -/
theorem kS_val {I : st_I} {nF nf np n : Nat} (HF : iv_facts I nF) (hn : n ≤ nF) (hnf : nf ≤ 8) (hnp : np ≤ 10) : ∀ m, m ≤ n → okB (kS (I 29) (nI np) (nI nf) n m) := by
  intro m
  induction m with
  | zero => intro _ j; exact Or.inl rfl
  | succ m ih =>
    intro hm j
    rw [kS]
    by_cases e : kcs (I 29) (nI np) (nI nf) n m = true
    · rw [if_pos e]
      by_cases z : j = pi8 (I 29) m
      · right
        unfold kcs kc at e
        obtain ⟨e1, e2⟩ := Bool.and_eq_true_iff.mp e
        obtain ⟨e3, e4⟩ := Bool.and_eq_true_iff.mp e1
        obtain ⟨p, f, hp, hf, r1, r2, r3, hpi, c1, c2, hc⟩ := kb_ok HF hn (by omega) hnf hnp e4
        rcases hc with ⟨-, -, ⟨v, hv, v1⟩, -⟩ | ⟨z1, -⟩
        · exact ⟨v, hv, by simp only [upd, if_pos z]; exact v1⟩
        · have := of_decide_eq_true e3
          rw [z1] at this; exact absurd this (by decide)
      · simp only [upd, if_neg z]; exact ih (by omega) j
    · rw [if_neg e]; exact ih (by omega) j
theorem kB_out {I : st_I} {nF nf np n : Nat} (HF : iv_facts I nF) (hn : n ≤ nF) (hnf : nf ≤ 8) (hnp : np ≤ 10) {p f : Nat} (hf : nf ≤ f) (hf8 : f < 8) : ∀ m, m ≤ n → kB (I 29) (nI np) (nI nf) n m (8 * p + f) = -1 := by
  intro m
  induction m with
  | zero => intro _; rfl
  | succ m ih =>
    intro hm
    rw [kB]
    by_cases e : kcb (I 29) (nI np) (nI nf) n m = true
    · rw [if_pos e]
      unfold kcb kc at e
      obtain ⟨e1, e2⟩ := Bool.and_eq_true_iff.mp e
      obtain ⟨e3, e4⟩ := Bool.and_eq_true_iff.mp e1
      obtain ⟨p', f', hp', hf', r1, r2, r3, hpi, c1, c2, hc⟩ := kb_ok HF hn (by omega) hnf hnp e4
      simp only [upd, hpi, if_neg (show ¬ 8 * p + f = 8 * p' + f' by omega)]
      exact ih (by omega)
    · rw [if_neg e]; exact ih (by omega)
abbrev gk_X : Type := t12_X × Int32
def kCo (S B T : Nat → Int32) (x : Nat) : Bool := decide (T (5 * (x / 8)) = 0) && (!decide (B x = -1) && !decide (S x = -1))
/-- the PAIRS among the first x, the sum on old FIDDLES -/
def gK (S B T O : Nat → Int32) : Nat → gk_X
  | 0 => ((0, fun _ => 0), 0)
  | x + 1 => if (gK S B T O x).1.1 < 12 ∧ kCo S B T x = true then (((gK S B T O x).1.1 + 1, upd (gK S B T O x).1.2 (gK S B T O x).1.1 (S x - B x)), if O (5 * (x % 8)) = 0 then (gK S B T O x).2 else (gK S B T O x).2 + (S x - B x)) else gK S B T O x
theorem gK_le (S B T O : Nat → Int32) : ∀ x, (gK S B T O x).1.1 ≤ 12
  | 0 => Nat.zero_le _
  | x + 1 => by have := gK_le S B T O x; rw [gK]; split; dsimp only; omega; omega
theorem gK_full {S B T O : Nat → Int32} {x : Nat} (h : 12 ≤ (gK S B T O x).1.1) : ∀ k, gK S B T O (x + k) = gK S B T O x
  | 0 => rfl
  | k + 1 => by rw [← Nat.add_assoc, gK, gK_full h k, if_neg (by omega)]
theorem gK_skip {S B T O : Nat → Int32} {x : Nat} : ∀ k, (∀ j, j < k → B (x + j) = -1) → gK S B T O (x + k) = gK S B T O x
  | 0, _ => rfl
  | k + 1, h => by
    rw [← Nat.add_assoc, gK, if_neg (fun z => by have := z.2; unfold kCo at this; rw [h k (by omega)] at this; simp at this), gK_skip k (fun j hj => h j (by omega))]
theorem gK_ok {S B T O : Nat → Int32} (hS : okB S) (hB : okB B) : ∀ x, ∀ i, i < (gK S B T O x).1.1 → -10000 ≤ ((gK S B T O x).1.2 i).toInt ∧ ((gK S B T O x).1.2 i).toInt ≤ 10000
  | 0 => fun i hi => absurd hi (Nat.not_lt_zero _)
  | x + 1 => by
    intro i hi
    have ih := gK_ok (T := T) (O := O) hS hB x
    rw [gK] at hi ⊢
    split at hi
    · rename_i hc
      rw [if_pos hc]
      dsimp only at hi ⊢
      by_cases e : i = (gK S B T O x).1.1
      · subst e
        simp only [upd, if_true]
        have hk := hc.2
        unfold kCo at hk
        simp at hk
        obtain ⟨a, ha, e1⟩ := (hS x).resolve_left hk.2.2
        obtain ⟨b, hb, e2⟩ := (hB x).resolve_left hk.2.1
        rw [e1, e2, pk_sub_toInt (by omega) (by omega)]; omega
      · simp only [upd, if_neg e]; exact ih i (by omega)
    · rename_i hc
      rw [if_neg hc]; exact ih i hi
/-- the class has gathered X -/
def xK (J : st_I) (X : gk_X) : Prop := xT J X.1 ∧ J 47 1 = X.2 ∧ J 47 2 = s32 X.1.2 X.1.1 - X.2
theorem s32_upd {V : Nat → Int32} {n : Nat} {v : Int32} : s32 (upd V n v) (n + 1) = s32 V n + v := by
  have : ∀ k, k ≤ n → s32 (upd V n v) k = s32 V k := by
    intro k
    induction k with
    | zero => intro _; rfl
    | succ k ih => intro hk; rw [s32, s32, ih (by omega)]; simp only [upd, if_neg (show ¬ k = n by omega)]
  rw [s32, this n (Nat.le_refl _)]; simp [upd]
theorem pX_gatherKnowing {d lv nf np nb nl npl : Nat} {S B : Nat → Int32} {I : st_I} {L : st_L} {F : st_I → st_L → Prop} (H : iv_told I lv nf np nb nl npl) (hB : ∀ j, j < 80 → I 32 j = B j) (hS : ∀ j, j < 80 → I 34 j = S j) (hout : ∀ p f, nf ≤ f → f < 8 → B (8 * p + f) = -1) (h : ∀ J : st_I, (∀ q, q ≠ 47 → q ≠ 48 → J q = I q) → xK J (gK S B (I 3) (I 2) (8 * np)) → F J L) : EV (d + 3) mX9_gatherKnowing [.ref 47, .ref 1, .ref 30] I L F := by
  obtain ⟨hlv, b1, b2, b3, b4, b5, h18, c0, c1, -⟩ := id H.1
  have T0 : ∀ K : st_I, (∀ q, q ≠ 47 → q ≠ 48 → K q = I q) → iv_told K lv nf np nb nl npl := fun K hK => iv_told_congr (fun q hq => hK q (by omega) (by omega)) (by rw [hK 58 (by decide) (by decide)]) H
  have key : ∀ (r x : Nat) (J : st_I), x + r = 8 * np → (∀ q, q ≠ 47 → q ≠ 48 → J q = I q) → xK J (gK S B (I 3) (I 2) x) → TV (d + 3) mX9_gatherKnowing 6 [.ref 47, .ref 1, .ref 30, .int (nI x), .null, .null] [] J L F := by
    intro r
    induction r with
    | zero =>
      intro x J hx hJ hX
      obtain rfl : x = 8 * np := by omega
      refine sgX9_gatherKnowing_6 ?_
      rw [hJ 1 (by decide) (by decide), c1, show nI np * 8 = nI (np * 8) from pk_mul np 8, if_pos (nI_le (by omega) (by omega))]
      exact h J hJ hX
    | succ r ih =>
      intro x J hx hJ hX
      have hle := gK_le S B (I 3) (I 2) x
      have vx : vp_in (nI x) 80 := vp_in_nI (by omega) (by decide)
      refine sgX9_gatherKnowing_6 ?_
      rw [hJ 1 (by decide) (by decide), c1, show nI np * 8 = nI (np * 8) from pk_mul np 8, if_neg (nI_ge (by omega) (by omega)), hX.1.1]
      by_cases h12 : 12 ≤ (gK S B (I 3) (I 2) x).1.1
      · rw [if_pos (show (12 : Int32) ≤ nI _ from nI_le (a := 12) h12 (by omega))]
        refine h J hJ ?_
        have := gK_full h12 (r + 1)
        rw [hx] at this
        rw [this]; exact hX
      · rw [if_neg (show ¬ (12 : Int32) ≤ nI _ from nI_ge (b := 12) (by omega) (by decide)), nI_clamp (by omega), hJ 32 (by decide) (by decide), hB x (by omega), hJ 34 (by decide) (by decide), hS x (by omega)]
        refine ⟨vx, ?_⟩
        have st := ih (x + 1)
        rw [gK] at st
        have skip : kCo S B (I 3) x = false → TV (d + 3) mX9_gatherKnowing 6 [.ref 47, .ref 1, .ref 30, .int (nI (x + 1)), .null, .null] [] J L F := by
          intro e
          rw [if_neg (fun w => by rw [e] at w; exact absurd w.2 (by decide))] at st
          exact st J (by omega) hJ hX
        by_cases z : B x = -1
        · rw [if_pos z]
          refine sgX9_gatherKnowing_51 ?_
          rw [if_pos rfl, nI_1]
          exact skip (by unfold kCo; rw [z]; simp)
        · rw [if_neg z]
          refine ⟨vx, ?_⟩
          by_cases y : S x = -1
          · rw [if_pos y]
            refine sgX9_gatherKnowing_51 ?_
            rw [if_pos rfl, nI_1]
            exact skip (by unfold kCo; rw [y]; simp)
          · rw [if_neg y]
            refine sgX9_gatherKnowing_51 ?_
            rw [if_neg (by decide), show nI x / 8 = nI (x / 8) from pk_div (d := 8) (by omega) (by decide) (by decide)]
            refine x_isPlayer_i (T0 J hJ) (by omega) ?_
            rw [hJ 3 (by decide) (by decide), nI_1, nI_clamp (by omega), hJ 32 (by decide) (by decide), hB x (by omega), hJ 34 (by decide) (by decide), hS x (by omega)]
            by_cases w : I 3 (5 * (x / 8)) = 0
            · have ek : kCo S B (I 3) x = true := by unfold kCo; simp [w, z, y]
              rw [if_pos ⟨by omega, ek⟩] at st
              rw [if_pos w, if_neg (by decide)]
              refine ⟨vx, vx, sgX9_add_0 ?_⟩
              have hf : x % 8 < nf := by
                by_cases q : x % 8 < nf
                · exact q
                · have := hout (x / 8) (x % 8) (by omega) (by omega)
                  rw [show 8 * (x / 8) + x % 8 = x by omega] at this
                  exact absurd this z
              rw [hX.1.1, if_neg (show ¬ (12 : Int32) ≤ nI _ from nI_ge (b := 12) (by omega) (by decide)), nI_clamp (by omega), nI_1]
              have hJ2 : ∀ q, q ≠ 47 → q ≠ 48 → (u_I (u_I J 48 (gK S B (I 3) (I 2) x).1.1 (S x - B x)) 47 0 (nI ((gK S B (I 3) (I 2) x).1.1 + 1))) q = I q := fun q q1 q2 => by rw [u_I_ne _ _ q1, u_I_ne _ _ q2]; exact hJ q q1 q2
              refine ⟨vp_in_nI (by omega) (by decide), ?_⟩
              rw [show nI x - nI (x / 8) * 8 = nI (x % 8) by rw [show nI (x / 8) * 8 = nI (x / 8 * 8) from pk_mul _ 8, pk_sub (by omega)]; congr 1; omega]
              refine x_isOld_i (T0 _ hJ2) hf ?_
              rw [hJ2 2 (by decide) (by decide)]
              have xt : ∀ K : st_I, K 48 = (u_I J 48 (gK S B (I 3) (I 2) x).1.1 (S x - B x)) 48 → K 47 0 = nI ((gK S B (I 3) (I 2) x).1.1 + 1) → xT K ((gK S B (I 3) (I 2) x).1.1 + 1, upd (gK S B (I 3) (I 2) x).1.2 (gK S B (I 3) (I 2) x).1.1 (S x - B x)) := by
                intro K k1 k2
                refine ⟨k2, fun i hi => ?_⟩
                dsimp only at hi
                rw [k1]
                by_cases e : i = (gK S B (I 3) (I 2) x).1.1
                · subst e; simp [u_I, upd]
                · simp only [u_I, upd, if_neg e, if_true]; exact hX.1.2 i (by omega)
              by_cases u : I 2 (5 * (x % 8)) = 0
              · rw [if_pos u] at st
                rw [if_pos u]
                refine st _ (by omega) (fun q q1 q2 => by rw [u_I_ne _ _ q1]; exact hJ2 q q1 q2) ⟨xt _ (by funext k; simp [u_I]) (by simp [u_I]), ?_, ?_⟩
                · simp only [u_I, if_true, show (1 : Nat) = 2 ↔ False by decide, show (1 : Nat) = 0 ↔ False by decide, show (47 : Nat) = 48 ↔ False by decide, if_false]; exact hX.2.1
                · have e2 : (u_I (u_I (u_I J 48 (gK S B (I 3) (I 2) x).1.1 (S x - B x)) 47 0 (nI ((gK S B (I 3) (I 2) x).1.1 + 1))) 47 2 ((u_I (u_I J 48 (gK S B (I 3) (I 2) x).1.1 (S x - B x)) 47 0 (nI ((gK S B (I 3) (I 2) x).1.1 + 1))) 47 2 + (S x - B x))) 47 2 = J 47 2 + (S x - B x) := by simp [u_I]
                  rw [e2, hX.2.2]
                  dsimp only
                  rw [s32_upd]
                  have q : ∀ a b c : Int32, a - b + c = a + c - b := fun a b c => by rw [Int32.sub_eq_add_neg, Int32.sub_eq_add_neg, Int32.add_assoc, Int32.add_assoc, Int32.add_comm (-b)]
                  exact q _ _ _
              · rw [if_neg u] at st
                rw [if_neg u]
                refine st _ (by omega) (fun q q1 q2 => by rw [u_I_ne _ _ q1]; exact hJ2 q q1 q2) ⟨xt _ (by funext k; simp [u_I]) (by simp [u_I]), ?_, ?_⟩
                · simp only [u_I, if_true, show (1 : Nat) = 0 ↔ False by decide, show (47 : Nat) = 48 ↔ False by decide, if_false]
                  rw [hX.2.1]
                · simp only [u_I, if_true, show (2 : Nat) = 1 ↔ False by decide, show (2 : Nat) = 0 ↔ False by decide, show (47 : Nat) = 48 ↔ False by decide, if_false]
                  rw [hX.2.2, s32_upd]
                  have : ∀ a b c : Int32, a - b = a + c - (b + c) := fun a b c => by
                    rw [Int32.sub_eq_add_neg, Int32.sub_eq_add_neg, Int32.neg_add, Int32.sub_eq_add_neg, Int32.add_assoc, ← Int32.add_assoc c, Int32.add_comm c, Int32.add_assoc, Int32.add_comm c, Int32.add_left_neg, Int32.add_zero]
                  exact this _ _ _
            · rw [if_neg w, if_pos rfl]
              exact skip (by unfold kCo; simp [w])
  refine sgX9_gatherKnowing_0 (sgX9_clear_0 (key (8 * np) 0 _ (by omega) (fun q q1 q2 => by rw [u_I_ne _ _ q1, u_I_ne _ _ q1, u_I_ne _ _ q1]) ⟨⟨by simp [u_I, gK]; rfl, fun i hi => absurd hi (Nat.not_lt_zero _)⟩, by simp [u_I, gK], by simp [u_I, gK, s32]⟩))
def mK (J : st_I) (X : gk_X) : Prop := mT J X.1 ∧ J 58 73 = X.2
theorem pM_knowingBy {d lv nf np nb nl npl nF n : Nat} {I : st_I} {L : st_L} {F : st_I → st_L → Prop} (H : iv_told I lv nf np nb nl npl) (HF : iv_facts I nF) (hn : n ≤ nF) (h : ∀ J : st_I, m58 53 I J → mK J (gK (kS (I 29) (nI np) (nI nf) n n) (kB (I 29) (nI np) (nI nf) n n) (I 3) (I 2) (8 * np)) → F J L) : EV (d + 4) mX12_knowingBy [.ref 58, .int (nI n)] I L F := by
  obtain ⟨hlv, b1, b2, b3, b4, b5, h18, c0, c1, c2, c3, c4, m0, m1, -⟩ := id H.1
  have v2 : vp_in (nI lv) 2 := vp_in_nI (by omega) (by decide)
  refine sgX12_knowingBy_0 (pM_gathers H HF hn (fun K hK h1 h2 => ?_))
  have hout : ∀ p f, nf ≤ f → f < 8 → kB (I 29) (nI np) (nI nf) n n (8 * p + f) = -1 := fun p f h1 h2 => kB_out HF hn b1 b2 h1 h2 n (Nat.le_refl _)
  generalize kB (I 29) (nI np) (nI nf) n n = B at h1 hout h
  generalize kS (I 29) (nI np) (nI nf) n n = S at h2 h
  have outer : ∀ (r p : Nat) (J : st_I), p + r = np → m58 53 I J → (∀ j, j < 80 → J 101 j = B j) → (∀ j, j < 80 → J 102 j = S j) → mK J (gK S B (I 3) (I 2) (8 * p)) → TV (d + 4) mX12_knowingBy 17 [.ref 58, .null, .int (nI p), .null, .null] [] J L F := by
    intro r
    induction r with
    | zero =>
      intro p J hp hJ _ _ hX
      obtain rfl : p = np := by omega
      refine sgX12_knowingBy_17 ?_
      rw [hJ.2 18 (by decide), h18, nI_clamp (by omega), hJ.1 73 (by decide) (by decide), m1, if_pos (nI_le (Nat.le_refl _) (by omega))]
      exact ⟨v2, h J hJ hX⟩
    | succ r ih =>
      intro p J hp hJ hB hS hX
      refine sgX12_knowingBy_17 ?_
      rw [hJ.2 18 (by decide), h18, nI_clamp (by omega), hJ.1 73 (by decide) (by decide), m1, if_neg (nI_ge (by omega) (by omega))]
      refine ⟨v2, ?_⟩
      have inner : ∀ (r' f : Nat) (J : st_I), f + r' = nf → m58 53 I J → (∀ j, j < 80 → J 101 j = B j) → (∀ j, j < 80 → J 102 j = S j) → mK J (gK S B (I 3) (I 2) (8 * p + f)) → TV (d + 4) mX12_knowingBy 32 [.ref 58, .null, .int (nI p), .int (nI f), .null] [] J L F := by
        intro r'
        induction r' with
        | zero =>
          intro f J hf hJ hB hS hX
          obtain rfl : f = nf := by omega
          refine sgX12_knowingBy_32 ?_
          rw [hJ.2 18 (by decide), h18, nI_clamp (by omega), hJ.1 69 (by decide) (by decide), m0, if_pos (nI_le (Nat.le_refl _) (by omega)), nI_1]
          refine ⟨v2, ih (p + 1) J (by omega) hJ hB hS ?_⟩
          have e := gK_skip (S := S) (B := B) (T := I 3) (O := I 2) (x := 8 * p + f) (8 - f) (fun j hj => by rw [Nat.add_assoc]; exact hout p (f + j) (by omega) (by omega))
          rw [show 8 * p + f + (8 - f) = 8 * (p + 1) by omega] at e
          rw [e]; exact hX
        | succ r' ih' =>
          intro f J hf hJ hB hS hX
          have hle := gK_le S B (I 3) (I 2) (8 * p + f)
          refine sgX12_knowingBy_32 ?_
          rw [hJ.2 18 (by decide), h18, nI_clamp (by omega), hJ.1 69 (by decide) (by decide), m0, if_neg (nI_ge (by omega) (by omega)), hX.1.1, nI_1, nI_1]
          refine ⟨v2, ?_⟩
          by_cases h12 : 12 ≤ (gK S B (I 3) (I 2) (8 * p + f)).1.1
          · rw [if_pos (show (12 : Int32) ≤ nI _ from nI_le (a := 12) h12 (by omega))]
            refine ih (p + 1) J (by omega) hJ hB hS ?_
            have e := gK_full h12 (8 - f)
            rw [show 8 * p + f + (8 - f) = 8 * (p + 1) by omega] at e
            rw [e]; exact hX
          · rw [if_neg (show ¬ (12 : Int32) ≤ nI _ from nI_ge (b := 12) (by omega) (by decide))]
            refine pM_isPlayer ((hJ.kq' (by decide)).told H) (by omega) ?_
            rw [hJ.1 3 (by decide) (by decide)]
            have st := ih' (f + 1)
            rw [← Nat.add_assoc, gK, show (8 * p + f) % 8 = f by omega] at st
            have ek : kCo S B (I 3) (8 * p + f) = (decide (I 3 (5 * p) = 0) && (!decide (B (8 * p + f) = -1) && !decide (S (8 * p + f) = -1))) := by unfold kCo; rw [show (8 * p + f) / 8 = p by omega]
            have skip : kCo S B (I 3) (8 * p + f) = false → TV (d + 4) mX12_knowingBy 32 [.ref 58, .null, .int (nI p), .int (nI (f + 1)), .null] [] J L F := by
              intro e
              rw [if_neg (fun w => by rw [e] at w; exact absurd w.2 (by decide))] at st
              exact st J (by omega) hJ hB hS hX
            have v80 : vp_in (nI (8 * p + f)) 80 := vp_in_nI (by omega) (by decide)
            by_cases z : I 3 (5 * p) = 0
            · rw [if_pos z, if_neg (by decide), show (8 : Int32) * nI p + nI f = nI (8 * p + f) from mx 8 p f, nI_clamp (show 8 * p + f < 2 ^ 31 by omega), hB _ (by omega), hS _ (by omega)]
              refine ⟨v80, ?_⟩
              by_cases y : B (8 * p + f) = -1
              · rw [if_pos y]; exact skip (by rw [ek, y]; simp)
              · rw [if_neg y]
                refine ⟨v80, ?_⟩
                by_cases x : S (8 * p + f) = -1
                · rw [if_pos x]; exact skip (by rw [ek, x]; simp)
                · rw [if_neg x, hX.1.1, nI_clamp (by omega)]
                  rw [if_pos ⟨by omega, by rw [ek]; simp [z, y, x]⟩] at st
                  have v12' : vp_in (nI (gK S B (I 3) (I 2) (8 * p + f)).1.1) 12 := vp_in_nI (by omega) (by decide)
                  have hJ2 : m58 53 I (u_I J 109 (gK S B (I 3) (I 2) (8 * p + f)).1.1 (S (8 * p + f) - B (8 * p + f))) := ⟨fun q q1 q2 => by rw [u_I_ne _ _ (by omega)]; exact hJ.1 q q1 q2, fun k hk => by rw [u_I_ne _ _ (by decide)]; exact hJ.2 k hk⟩
                  refine ⟨v80, v80, v12', pM_isOldOne ((hJ2.kq' (by decide)).told H) (by omega) ?_⟩
                  rw [hJ2.1 2 (by decide) (by decide)]
                  have e71 : (u_I J 109 (gK S B (I 3) (I 2) (8 * p + f)).1.1 (S (8 * p + f) - B (8 * p + f))) 58 71 = nI (gK S B (I 3) (I 2) (8 * p + f)).1.1 := by rw [u_I_ne _ _ (by decide)]; exact hX.1.1
                  have e73 : (u_I J 109 (gK S B (I 3) (I 2) (8 * p + f)).1.1 (S (8 * p + f) - B (8 * p + f))) 58 73 = (gK S B (I 3) (I 2) (8 * p + f)).2 := by rw [u_I_ne _ _ (by decide)]; exact hX.2
                  have e109 : (u_I J 109 (gK S B (I 3) (I 2) (8 * p + f)).1.1 (S (8 * p + f) - B (8 * p + f))) 109 (gK S B (I 3) (I 2) (8 * p + f)).1.1 = S (8 * p + f) - B (8 * p + f) := by simp [u_I]
                  have xt : ∀ K : st_I, K 109 = (u_I J 109 (gK S B (I 3) (I 2) (8 * p + f)).1.1 (S (8 * p + f) - B (8 * p + f))) 109 → K 58 71 = nI ((gK S B (I 3) (I 2) (8 * p + f)).1.1 + 1) → mT K ((gK S B (I 3) (I 2) (8 * p + f)).1.1 + 1, upd (gK S B (I 3) (I 2) (8 * p + f)).1.2 (gK S B (I 3) (I 2) (8 * p + f)).1.1 (S (8 * p + f) - B (8 * p + f))) := by
                    intro K k1 k2
                    refine ⟨k2, fun i hi => ?_⟩
                    dsimp only at hi
                    rw [k1]
                    by_cases e : i = (gK S B (I 3) (I 2) (8 * p + f)).1.1
                    · subst e; simp [u_I, upd]
                    · simp only [u_I, upd, if_neg e, if_true]; exact hX.1.2 i (by omega)
                  rw [e71, nI_1, nI_clamp (by omega), e73, e109]
                  by_cases u : I 2 (5 * f) = 0
                  · rw [if_pos u] at st
                    rw [if_pos u]
                    refine st _ (by omega) ⟨fun q q1 q2 => by rw [u_I_ne _ _ q1]; exact hJ2.1 q q1 q2, fun k hk => ?_⟩ (fun j hj => by rw [u_I_ne _ _ (by decide), u_I_ne _ _ (by decide)]; exact hB j hj) (fun j hj => by rw [u_I_ne _ _ (by decide), u_I_ne _ _ (by decide)]; exact hS j hj) ⟨xt _ (by rw [u_I_ne _ _ (by decide)]) (by simp [u_I]), ?_⟩
                    · simp only [u_I, if_true, if_neg (show ¬ k = 71 by omega), show (58 : Nat) = 109 ↔ False by decide, if_false]; exact hJ.2 k hk
                    · simp only [u_I, if_true, show (73 : Nat) = 71 ↔ False by decide, show (58 : Nat) = 109 ↔ False by decide, if_false]; exact hX.2
                  · rw [if_neg u] at st
                    rw [if_neg u]
                    refine ⟨v12', st _ (by omega) ⟨fun q q1 q2 => by rw [u_I_ne _ _ q1, u_I_ne _ _ q1]; exact hJ2.1 q q1 q2, fun k hk => ?_⟩ (fun j hj => by rw [u_I_ne _ _ (by decide), u_I_ne _ _ (by decide), u_I_ne _ _ (by decide)]; exact hB j hj) (fun j hj => by rw [u_I_ne _ _ (by decide), u_I_ne _ _ (by decide), u_I_ne _ _ (by decide)]; exact hS j hj) ⟨xt _ (by rw [u_I_ne _ _ (by decide), u_I_ne _ _ (by decide)]) (by simp [u_I]), ?_⟩⟩
                    · simp only [u_I, if_true, if_neg (show ¬ k = 71 by omega), if_neg (show ¬ k = 73 by omega), show (58 : Nat) = 109 ↔ False by decide, if_false]; exact hJ.2 k hk
                    · simp only [u_I, if_true, show (73 : Nat) = 71 ↔ False by decide, if_false]
            · rw [if_neg z, if_pos rfl]
              exact skip (by rw [ek]; simp [z])
      exact inner nf 0 J (by omega) hJ hB hS hX
  exact outer np 0 _ (by omega) ⟨fun q q1 q2 => by rw [u_I_ne _ _ q1, u_I_ne _ _ q1, hK q (by omega) (by omega)], fun k hk => by simp only [u_I, if_true, if_neg (show ¬ k = 71 by omega), if_neg (show ¬ k = 73 by omega)]; rw [hK 58 (by decide) (by decide)]⟩ (fun j hj => by rw [u_I_ne _ _ (by decide), u_I_ne _ _ (by decide)]; exact h1 j hj) (fun j hj => by rw [u_I_ne _ _ (by decide), u_I_ne _ _ (by decide)]; exact h2 j hj) ⟨⟨by simp [u_I, gK]; rfl, fun i hi => absurd hi (Nat.not_lt_zero _)⟩, by simp [u_I, gK]⟩
theorem op_knowing {lv nf np nb nl npl nF : Nat} {I : st_I} {L : st_L} {P : st_I → st_L → Prop} (H : iv_told I lv nf np nb nl npl) (HF : iv_facts I nF) (hk : iv_kn I nf np nF) (hP : ∀ J, kq I J → iv_kn J nf np nF → J 57 = I 57 → P J L) (c e : Int32) :
    EI 60 mX11_knowing [.ref 0, .int c, .int e] I L (fun r I1 L1 => EI 60 mX12_knowing [.ref 58, .int c, .int e] I1 L1 (fun r' I2 L2 => r' = r ∧ P I2 L2)) := by
  have no : P I L := hP I kq.rf hk rfl
  have h80 := HF.1
  refine sgX11_knowing_0 ?_
  rcases ot_ix e 3 (by decide) with ho | ⟨k, hk2, rfl⟩
  · have bad : EI 60 mX12_knowing [.ref 58, .int c, .int e] I L (fun r' I2 L2 => r' = -1000000000 ∧ P I2 L2) := by
      refine sgX12_knowing_0 ?_
      rcases ot_ix c (nF + 1) (by omega) with ho2 | ⟨n, hn, rfl⟩
      · refine m_isKnown_o HF ho2 ?_
        rw [if_pos rfl]; exact ⟨rfl, no⟩
      · refine m_isKnown_i HF (by omega) ?_
        rw [if_neg (by decide)]
        refine in_out (n := 3) (by decide) ho ?_
        rw [if_pos rfl]; exact ⟨rfl, no⟩
    by_cases z : e < 0
    · rw [if_pos z]; exact bad
    · obtain ⟨i, hi, rfl⟩ := nI_of z
      have : 3 ≤ i := (nI_leI (by omega) hi).mp (ho.resolve_left z)
      rw [if_neg z, if_pos (show (2 : Int32) < nI i from nI_lt (a := 2) (by omega) hi)]; exact bad
  rw [if_neg (nI_pos (by omega)), if_neg (show ¬ (2 : Int32) < nI k from nI_nlt (a := 2) (b := k) (by omega) (by decide))]
  rcases ot_ix c (nF + 1) (by omega) with ho | ⟨n, hn, rfl⟩
  · refine x_knows_o HF ho ?_
    rw [if_pos rfl]
    refine sgX12_knowing_0 (m_isKnown_o HF ho ?_)
    rw [if_pos rfl]; exact ⟨rfl, no⟩
  refine x_knows_i H HF hk (by omega) (fun J hJ => ?_)
  have HJ := hJ.kq'.told H
  have HFJ := hJ.kq'.facts HF
  obtain ⟨hlv, b1, b2, -⟩ := id HJ.1
  have hout : ∀ p f, nf ≤ f → f < 8 → kB (J 29) (nI np) (nI nf) n n (8 * p + f) = -1 := fun p f h1 h2 => kB_out HFJ (by omega) b1 b2 h1 h2 n (Nat.le_refl _)
  rw [if_neg (by decide)]
  refine pX_gatherKnowing HJ hJ.2.2.2.1 hJ.2.2.2.2.2.1 hout (fun K hK hX => ?_)
  have kK' : kq J K := ⟨fun q a _ _ => hK q (by omega) (by omega), fun q a b _ _ => hK q (by omega) (by omega), fun k _ => by rw [hK 58 (by decide) (by decide)]⟩
  have HK := kK'.told HJ
  have HFK := kK'.facts HFJ
  have e29 : K 29 = J 29 := hK 29 (by decide) (by decide)
  have e3 : K 3 = J 3 := hK 3 (by decide) (by decide)
  have e2 : K 2 = J 2 := hK 2 (by decide) (by decide)
  have knK : iv_kn K nf np nF := iv_kn_same (fun q hq => hK q (by omega) (by omega)) (hJ.kn (by omega))
  have h12 := gK_le (kS (J 29) (nI np) (nI nf) n n) (kB (J 29) (nI np) (nI nf) n n) (J 3) (J 2) (8 * np)
  have go : ∀ {F : Int32 → st_I → st_L → Prop}, (∀ M : st_I, P M L → mK M (gK (kS (J 29) (nI np) (nI nf) n n) (kB (J 29) (nI np) (nI nf) n n) (J 3) (J 2) (8 * np)) → (if nI k = 0 then F (M 58 71) M L else (if nI k = 1 then F (M 58 73) M L else EI 59 mX12_signSum [.ref 58] M L (fun r4 I4 L4 => F (r4 - (I4 58 73)) I4 L4)))) → EI 60 mX12_knowing [.ref 58, .int (nI n), .int (nI k)] K L F := by
    intro F h
    refine sgX12_knowing_0 (m_isKnown_i HFK (by omega) ?_)
    rw [if_neg (by decide)]
    refine in_in (n := 3) (by decide) hk2 ?_
    rw [if_neg (by decide)]
    refine pM_knowingBy HK HFK (by omega) (fun M hM hXM => h M (hP M ((hJ.kq'.tr kK').tr (hM.kq' (by decide))) (iv_kn_same (fun q hq => hM.1 q (by omega) (by omega)) knK) (by rw [hM.1 57 (by decide) (by decide), hK 57 (by decide) (by decide), hJ.1 57 (by decide)])) ?_)
    rw [e29, e2, e3] at hXM; exact hXM
  rw [hX.1.1, hX.2.1, hX.2.2]
  by_cases z : nI k = 0
  · rw [if_pos z]
    refine go (fun M pk hXM => ?_)
    rw [if_pos z]; exact ⟨hXM.1.1, pk⟩
  · rw [if_neg z]
    refine go (fun M pk hXM => ?_)
    rw [if_neg z]
    by_cases y : nI k = 1
    · rw [if_pos y, if_pos y]; exact ⟨hXM.2, pk⟩
    · rw [if_neg y, if_neg y]
      refine pM_signSum hXM.1 h12 ⟨?_, pk⟩
      rw [hXM.2]
theorem op_knowingWays {lv nf np nb nl npl nF : Nat} {I : st_I} {L : st_L} {P : st_I → st_L → Prop} (H : iv_told I lv nf np nb nl npl) (HF : iv_facts I nF) (hk : iv_kn I nf np nF) (hP : ∀ J, kq I J → iv_kn J nf np nF → J 57 = I 57 → P J L) (c : Int32) :
    EI 60 mX11_knowingWays [.ref 0, .int c] I L (fun r I1 L1 => EI 60 mX12_knowingWays [.ref 58, .int c] I1 L1 (fun r' I2 L2 => r' = r ∧ P I2 L2)) := by
  have no : P I L := hP I kq.rf hk rfl
  have h80 := HF.1
  refine sgX11_knowingWays_0 ?_
  rcases ot_ix c (nF + 1) (by omega) with ho | ⟨n, hn, rfl⟩
  · refine x_knows_o HF ho ?_
    rw [if_pos rfl]
    refine sgX12_knowingWays_0 (m_isKnown_o HF ho ?_)
    rw [if_pos rfl]; exact ⟨rfl, no⟩
  refine x_knows_i H HF hk (by omega) (fun J hJ => ?_)
  have HJ := hJ.kq'.told H
  have HFJ := hJ.kq'.facts HF
  obtain ⟨hlv, b1, b2, -⟩ := id HJ.1
  have hout : ∀ p f, nf ≤ f → f < 8 → kB (J 29) (nI np) (nI nf) n n (8 * p + f) = -1 := fun p f h1 h2 => kB_out HFJ (by omega) b1 b2 h1 h2 n (Nat.le_refl _)
  have hv : okB (kB (J 29) (nI np) (nI nf) n n) := kB_val HFJ (by omega) b1 b2 n (Nat.le_refl _)
  have hs : okB (kS (J 29) (nI np) (nI nf) n n) := kS_val HFJ (by omega) b1 b2 n (Nat.le_refl _)
  rw [if_neg (by decide)]
  refine pX_gatherKnowing HJ hJ.2.2.2.1 hJ.2.2.2.2.2.1 hout (fun K hK hX => ?_)
  have kK' : kq J K := ⟨fun q a _ _ => hK q (by omega) (by omega), fun q a b _ _ => hK q (by omega) (by omega), fun k _ => by rw [hK 58 (by decide) (by decide)]⟩
  have HK := kK'.told HJ
  have HFK := kK'.facts HFJ
  have e29 : K 29 = J 29 := hK 29 (by decide) (by decide)
  have e3 : K 3 = J 3 := hK 3 (by decide) (by decide)
  have e2 : K 2 = J 2 := hK 2 (by decide) (by decide)
  have knK : iv_kn K nf np nF := iv_kn_same (fun q hq => hK q (by omega) (by omega)) (hJ.kn (by omega))
  have h12 : v12 (gK (kS (J 29) (nI np) (nI nf) n n) (kB (J 29) (nI np) (nI nf) n n) (J 3) (J 2) (8 * np)).1 := ⟨gK_le _ _ _ _ _, gK_ok hs hv _⟩
  refine pX_tways hX.1 h12 ?_
  refine sgX12_knowingWays_0 (m_isKnown_i HFK (by omega) ?_)
  rw [if_neg (by decide)]
  refine pM_knowingBy HK HFK (by omega) (fun M hM hXM => ?_)
  rw [e29, e2, e3] at hXM
  exact pM_signWays hXM.1 h12 ⟨rfl, hP M ((hJ.kq'.tr kK').tr (hM.kq' (by decide))) (iv_kn_same (fun q hq => hM.1 q (by omega) (by omega)) knK) (by rw [hM.1 57 (by decide) (by decide), hK 57 (by decide) (by decide), hJ.1 57 (by decide)])⟩
