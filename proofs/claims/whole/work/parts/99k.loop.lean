/-! the law: read, the loop -/
theorem law_read {L j : Nat} {xs : Nat → Int32} {i : Int32} {I : st_I} {M : st_L} {W : Nat → Int64} (hi : i = nI j) (hj : j + 8 ≤ L) (hL : L ≤ 4096) (hW : keyW W) (H : Inv W I M) (k : ∀ I2 M2, Inv W I2 M2 → LT L xs i 2065 [] I2 M2) : LT L xs i 310 [] I M := by
  have cont : ∀ (r : Int32) (J : st_I) (M1 : st_L), EI 60 mX12_read [.ref 58] J M1 (fun r' J2 M2 => r' = r ∧ Inv W J2 M2) → LT L xs i 314 [.int r] J M1 := by
    intro r J M1 hr
    refine LT_m d_law_314 ?_
    refine LT_call (M' := mX12_read) [] [.int r] d_law_315 ml_law_27 mkX12_read rfl shp_58 rfl rfl rfl (Nat.le_of_ble_eq_true rfl) (Ev.mono hr ?_)
    rintro v sh I2 M2 ⟨r2, rfl, rfl, rfl, hI⟩
    refine ⟨rfl, trivial, ?_⟩
    exact LT_same (tgt := 2065) d_law_318 (by decide) (k I2 M2 hI)
  refine LT_x d_law_310 ?_
  refine LT_callX (M' := mX11_read) d_law_311 ml_law_23 mkX11_read shp_0 rfl rfl rfl (inv_read hW H (fun r J M1 h0 hE => ⟨trivial, Or.inl ⟨rfl, cont r J M1 hE⟩⟩) (fun J M1 hk => rd_51 ⟨trivial, Or.inr ⟨rfl, cont 0 _ _ (hk _ _ ?_ ?_ ?_ ?_ ?_)⟩⟩))
  · intro q h1 h2
    have e : sgX q = q + 8 := by unfold sgX; rw [if_pos ⟨h1, h2⟩]
    show f_I (u_I J 30 0 (-1)) 57 81 (-1) (sgX q) = J (q + 8)
    rw [e]
    funext b
    unfold f_I
    rw [if_neg (by omega), u_I_ne _ _ (by omega)]
  · show f_I (u_I J 30 0 (-1)) 57 81 (-1) (sgX 30) 0 = -1
    rw [sgX_hi (by decide)]
    simp [f_I, u_I]
  · intro b hb
    show f_I (u_I J 30 0 (-1)) 57 81 (-1) (sgX 57) b = -1
    rw [sgX_hi (by decide)]
    simp [f_I, hb]
  · intro q h1 h2 h3
    show f_I (u_I J 30 0 (-1)) 57 81 (-1) (sgX q) = J q
    rw [sgX_hi h1]
    funext b
    unfold f_I
    rw [if_neg h3, u_I_ne _ _ h2]
  · show M1 (sgX 65) = M1 65
    rw [sgX_hi (by decide)]
theorem and63 (x : Int32) : ∃ k, k < 64 ∧ x &&& 63 = nI k := by
  refine ⟨(x &&& 63).toBitVec.toNat, ?_, ?_⟩
  · rw [Int32.toBitVec_and, BitVec.toNat_and]
    exact Nat.lt_of_le_of_lt Nat.and_le_right (by decide)
  · apply Int32.toBitVec_inj.mp
    simp [nI]
theorem LT_sw {L k tgt : Nat} {xs : Nat → Int32} {i x : Int32} {off : Int} {I : st_I} {M : st_L} (hx : x = nI k) (ho : (#[191, 254, 277, 290, 303, 336, 369, 412, 515, 568, 621, 674, 765, 819, 898, 957, 980, 1013, 1082, 1151, 1184, 1234, 1284, 1317, 1340, 1373, 1422, 1455, 1478, 1501, 1534, 1557, 1600, 1633, 1666, 1689, 1732, 1755, 1804, 1867, 1920, 1963, 1986, 2009] : Array Int)[k]? = some off) (ht : ((33 : Nat) : Int) + off = (tgt : Int)) (kk : LT L xs i tgt [] I M) : LT L xs i 33 [.int x] I M := by
  intro p l e s m below meth c b D cy ad H locs ls C hP hS hl
  have hk : k < 44 := by
    rcases Nat.lt_or_ge k 44 with z | z
    · exact z
    · rw [Array.getElem?_eq_none (show (#[191, 254, 277, 290, 303, 336, 369, 412, 515, 568, 621, 674, 765, 819, 898, 957, 980, 1013, 1082, 1151, 1184, 1234, 1284, 1317, 1340, 1373, 1422, 1455, 1478, 1501, 1534, 1557, 1600, 1633, 1666, 1689, 1732, 1755, 1804, 1867, 1920, 1963, 1986, 2009] : Array Int).size ≤ k from z)] at ho
      exact absurd ho (by simp)
  have ek := nI_toInt (n := k) (by omega)
  subst hx
  refine lv_tableIn (off := off) (tgt := tgt) C.1.1 C.1.2.1 d_law_33 (by rw [ek]; omega) (by rw [ek]; omega) ?_ ht (kk p l e s m below meth c b D cy ad H locs ls C hP hS hl)
  rw [ek]
  have e2 : ((k : Int) - 0).toNat = k := by omega
  rw [e2]; exact ho
theorem LT_swOut {L k : Nat} {xs : Nat → Int32} {i x : Int32} {I : st_I} {M : st_L} (hx : x = nI k) (h : 44 ≤ k) (h64 : k < 64) (kk : LT L xs i 2065 [] I M) : LT L xs i 33 [.int x] I M := by
  intro p l e s m below meth c b D cy ad H locs ls C hP hS hl
  have ek := nI_toInt (n := k) (by omega)
  subst hx
  exact lv_tableOut (tgt := 2065) C.1.1 C.1.2.1 d_law_33 (by rw [ek]; omega) (by decide) (kk p l e s m below meth c b D cy ad H locs ls C hP hS hl)
/-- one call of the script -/
theorem law_case {L j : Nat} {xs : Nat → Int32} {i x : Int32} {I : st_I} {M : st_L} {W : Nat → Int64} (hi : i = nI j) (hj : j + 8 ≤ L) (hL : L ≤ 4096) (hW : keyW W) (H : Inv W I M) (k : ∀ I2 M2, Inv W I2 M2 → LT L xs i 2065 [] I2 M2) (n : Nat) (hn : n < 64) (hx : x = nI n) : LT L xs i 33 [.int x] I M := by
  by_cases h44 : n < 44
  · match n, h44, hx with
    | 0, _, hx => exact LT_sw hx rfl (by decide) (law_feed hi hj hL H (fun I2 M2 h2 => k I2 M2 h2))
    | 1, _, hx => exact LT_sw hx rfl (by decide) (law_back hi hj hL H (fun I2 M2 h2 => k I2 M2 h2))
    | 2, _, hx => exact LT_sw hx rfl (by decide) (law_read hi hj hL hW H (fun I2 M2 h2 => k I2 M2 h2))
    | 3, _, hx => exact LT_sw hx rfl (by decide) (law_place hi hj hL H (fun I2 M2 h2 => k I2 M2 h2))
    | 4, _, hx => exact LT_sw hx rfl (by decide) (law_fiddle hi hj hL H (fun I2 M2 h2 => k I2 M2 h2))
    | 5, _, hx => exact LT_sw hx rfl (by decide) (law_person hi hj hL H (fun I2 M2 h2 => k I2 M2 h2))
    | 6, _, hx => exact LT_sw hx rfl (by decide) (law_sitting hi hj hL H (fun I2 M2 h2 => k I2 M2 h2))
    | 7, _, hx => exact LT_sw hx rfl (by decide) (law_liking hi hj hL H (fun I2 M2 h2 => k I2 M2 h2))
    | 8, _, hx => exact LT_sw hx rfl (by decide) (law_taken hi hj hL H (fun I2 M2 h2 => k I2 M2 h2))
    | 9, _, hx => exact LT_sw hx rfl (by decide) (law_takes hi hj hL H (fun I2 M2 h2 => k I2 M2 h2))
    | 10, _, hx => exact LT_sw hx rfl (by decide) (law_run hi hj hL H (fun I2 M2 h2 => k I2 M2 h2))
    | 11, _, hx => exact LT_sw hx rfl (by decide) (law_touch hi hj hL H (fun I2 M2 h2 => k I2 M2 h2))
    | 12, _, hx => exact LT_sw hx rfl (by decide) (law_gains hi hj hL H (fun I2 M2 h2 => k I2 M2 h2))
    | 13, _, hx => exact LT_sw hx rfl (by decide) (law_mark hi hj hL H (fun I2 M2 h2 => k I2 M2 h2))
    | 14, _, hx => exact LT_sw hx rfl (by decide) (law_guess hi hj hL H (fun I2 M2 h2 => k I2 M2 h2))
    | 15, _, hx => exact LT_sw hx rfl (by decide) (law_annul hi hj hL H (fun I2 M2 h2 => k I2 M2 h2))
    | 16, _, hx => exact LT_sw hx rfl (by decide) (law_fact hi hj hL H (fun I2 M2 h2 => k I2 M2 h2))
    | 17, _, hx => exact LT_sw hx rfl (by decide) (law_last hi hj hL H (fun I2 M2 h2 => k I2 M2 h2))
    | 18, _, hx => exact LT_sw hx rfl (by decide) (law_mean hi hj hL H (fun I2 M2 h2 => k I2 M2 h2))
    | 19, _, hx => exact LT_sw hx rfl (by decide) (law_guesses hi hj hL H (fun I2 M2 h2 => k I2 M2 h2))
    | 20, _, hx => exact LT_sw hx rfl (by decide) (law_coin hi hj hL H (fun I2 M2 h2 => k I2 M2 h2))
    | 21, _, hx => exact LT_sw hx rfl (by decide) (law_table hi hj hL H (fun I2 M2 h2 => k I2 M2 h2))
    | 22, _, hx => exact LT_sw hx rfl (by decide) (law_steady hi hj hL H (fun I2 M2 h2 => k I2 M2 h2))
    | 23, _, hx => exact LT_sw hx rfl (by decide) (law_steadyWays hi hj hL H (fun I2 M2 h2 => k I2 M2 h2))
    | 24, _, hx => exact LT_sw hx rfl (by decide) (law_kinds hi hj hL H (fun I2 M2 h2 => k I2 M2 h2))
    | 25, _, hx => exact LT_sw hx rfl (by decide) (law_kindWays hi hj hL H (fun I2 M2 h2 => k I2 M2 h2))
    | 26, _, hx => exact LT_sw hx rfl (by decide) (law_flips hi hj hL H (fun I2 M2 h2 => k I2 M2 h2))
    | 27, _, hx => exact LT_sw hx rfl (by decide) (law_flipWays hi hj hL H (fun I2 M2 h2 => k I2 M2 h2))
    | 28, _, hx => exact LT_sw hx rfl (by decide) (law_small hi hj hL H (fun I2 M2 h2 => k I2 M2 h2))
    | 29, _, hx => exact LT_sw hx rfl (by decide) (law_knowing hi hj hL H (fun I2 M2 h2 => k I2 M2 h2))
    | 30, _, hx => exact LT_sw hx rfl (by decide) (law_knowingWays hi hj hL H (fun I2 M2 h2 => k I2 M2 h2))
    | 31, _, hx => exact LT_sw hx rfl (by decide) (law_spot hi hj hL H (fun I2 M2 h2 => k I2 M2 h2))
    | 32, _, hx => exact LT_sw hx rfl (by decide) (law_right hi hj hL H (fun I2 M2 h2 => k I2 M2 h2))
    | 33, _, hx => exact LT_sw hx rfl (by decide) (law_near hi hj hL H (fun I2 M2 h2 => k I2 M2 h2))
    | 34, _, hx => exact LT_sw hx rfl (by decide) (law_nearWays hi hj hL H (fun I2 M2 h2 => k I2 M2 h2))
    | 35, _, hx => exact LT_sw hx rfl (by decide) (law_beats hi hj hL H (fun I2 M2 h2 => k I2 M2 h2))
    | 36, _, hx => exact LT_sw hx rfl (by decide) (law_winner hi hj hL H (fun I2 M2 h2 => k I2 M2 h2))
    | 37, _, hx => exact LT_sw hx rfl (by decide) (law_best hi hj hL H (fun I2 M2 h2 => k I2 M2 h2))
    | 38, _, hx => exact LT_sw hx rfl (by decide) (law_need hi hj hL H (fun I2 M2 h2 => k I2 M2 h2))
    | 39, _, hx => exact LT_sw hx rfl (by decide) (law_parts hi hj hL H (fun I2 M2 h2 => k I2 M2 h2))
    | 40, _, hx => exact LT_sw hx rfl (by decide) (law_next hi hj hL H (fun I2 M2 h2 => k I2 M2 h2))
    | 41, _, hx => exact LT_sw hx rfl (by decide) (law_say hi hj hL H (fun I2 M2 h2 => k I2 M2 h2))
    | 42, _, hx => exact LT_sw hx rfl (by decide) (law_turned hi hj hL H (fun I2 M2 h2 => k I2 M2 h2))
    | 43, _, hx => exact LT_sw hx rfl (by decide) (law_count hi hj hL H (fun I2 M2 h2 => k I2 M2 h2))
    | n + 44, h, _ => exact absurd h (by omega)
  · exact LT_swOut hx (by omega) hn (k I M H)
theorem LT_len {L pc : Nat} {xs : Nat → Int32} {i : Int32} {st : List Value} {I : st_I} {M : st_L} (d0 : decode code pc = .ok (.aload_n 0, 1)) (d1 : decode code (pc + 1) = .ok (.arraylength, 1)) (k : LT L xs i (pc + 2) (.int (nI L) :: st) I M) : LT L xs i pc st I M := by
  intro p l e s m below meth c b D cy ad H locs ls C hP hS hl
  have hbA : ¬ (fun q : Nat => s.heap.size ≤ q) b := Nat.not_le.mpr C.1.2.2.2.2.2.2.2.1
  refine lv_aload_n C.1.1 C.1.2.1 d0 rfl (lv_at hl 0 rfl) ?_
  exact va_slen C.1.1 C.1.2.1 C.1.2.2.2.2.2.2.1 C.1.2.2.2.2.2.2.2.1 hbA hS d1 (k p l e s m below meth c b D cy ad H locs ls C hP hS hl)
theorem LT_isub {L pc : Nat} {xs : Nat → Int32} {i x y : Int32} {st : List Value} {I : st_I} {M : st_L} (hd : decode code pc = .ok (.isub, 1)) (k : LT L xs i (pc + 1) (.int (x - y) :: st) I M) : LT L xs i pc (.int y :: .int x :: st) I M := by
  intro p l e s m below meth c b D cy ad H locs ls C hP hS hl
  exact lv_isub C.1.1 C.1.2.1 hd (k p l e s m below meth c b D cy ad H locs ls C hP hS hl)
theorem LT_iand {L pc : Nat} {xs : Nat → Int32} {i x y : Int32} {st : List Value} {I : st_I} {M : st_L} (hd : decode code pc = .ok (.iand, 1)) (k : LT L xs i (pc + 1) (.int (x &&& y) :: st) I M) : LT L xs i pc (.int y :: .int x :: st) I M := by
  intro p l e s m below meth c b D cy ad H locs ls C hP hS hl
  exact lv_iand C.1.1 C.1.2.1 hd (k p l e s m below meth c b D cy ad H locs ls C hP hS hl)
theorem LT_gt {L pc tgt : Nat} {xs : Nat → Int32} {i x y : Int32} {off : Int} {st : List Value} {I : st_I} {M : st_L} (hd : decode code pc = .ok (.if_icmp .gt off, 3)) (ht : (pc : Int) + off = (tgt : Int)) (k1 : ¬ x ≤ y → LT L xs i tgt st I M) (k2 : x ≤ y → LT L xs i (pc + 3) st I M) : LT L xs i pc (.int y :: .int x :: st) I M := by
  intro p l e s m below meth c b D cy ad H locs ls C hP hS hl
  exact lv_icmp_gt C.1.1 C.1.2.1 hd ht (fun g => k1 (fun q => absurd g (by simpa using q)) p l e s m below meth c b D cy ad H locs ls C hP hS hl) (fun g => k2 (by simpa using g) p l e s m below meth c b D cy ad H locs ls C hP hS hl)
theorem LT_first {L pc j : Nat} {xs : Nat → Int32} {i : Int32} {st : List Value} {I : st_I} {M : st_L} (hi : i = nI j) (hj : j < L) (hL : L ≤ 4096) (d0 : decode code pc = .ok (.aload_n 0, 1)) (d1 : decode code (pc + 1) = .ok (.iload_n 3, 1)) (d4 : decode code (pc + 2) = .ok (.iaload, 1)) (k : LT L xs i (pc + 3) (.int (xs j) :: st) I M) : LT L xs i pc st I M := by
  intro p l e s m below meth c b D cy ad H locs ls C hP hS hl
  have hbA : ¬ (fun q : Nat => s.heap.size ≤ q) b := Nat.not_le.mpr C.1.2.2.2.2.2.2.2.1
  refine lv_aload_n C.1.1 C.1.2.1 d0 rfl (lv_at hl 0 rfl) ?_
  refine lv_iload_n C.1.1 C.1.2.1 d1 rfl (lv_at hl 3 rfl) ?_
  subst hi
  refine va_sld C.1.1 C.1.2.1 C.1.2.2.2.2.2.2.1 C.1.2.2.2.2.2.2.2.1 hbA hS (vp_in_nI hj (by omega)) d4 ?_
  rw [nI_clamp (by omega)]
  exact k p l e s m below meth c b D cy ad H locs ls C hP hS hl
theorem LT_next {L : Nat} {xs : Nat → Int32} {i : Int32} {I : st_I} {M : st_L} (k : LT L xs (i + 8) 18 [] I M) : LT L xs i 2065 [] I M := by
  intro p l e s m below meth c b D cy ad H locs ls C hP hS hl
  refine lv_iinc (k := 3) (v := i + 8) (lv' := [(3, .int (i + 8)), (0, .ref b), (1, .ref (ad 0)), (2, .ref (ad 58))]) C.1.1 C.1.2.1 d_law_2065 hl rfl rfl (by decide) rfl (fun ls hl => ?_)
  exact lv_goto (tgt := 18) C.1.1 C.1.2.1 d_law_2068 (by decide) (k p l e s m below meth c b D cy ad H locs ls C hP hS (lv_sub hl [1, 2, 3, 0] rfl))
theorem LT_end {L : Nat} {xs : Nat → Int32} {i : Int32} {I : st_I} {M : st_L} : LT L xs i 2071 [] I M := by
  intro p l e s m below meth c b D cy ad H locs ls C hP hS hl
  refine lv_iconst (v := 1) C.1.1 C.1.2.1 d_law_2071 rfl ?_
  refine va_forget (fun q hq => hS.2.2 q hq) ?_
  exact lw_ret C.1.1 C.1.2.1 C.1.2.2.1 C.1.2.2.2.2.2.2.2.2.1 d_law_2072
theorem sub8 : ∀ L, L < 8 → nI L - 8 < 0 := by decide +kernel
/-- the loop -/
theorem law_loop {L : Nat} {xs : Nat → Int32} {W : Nat → Int64} (hL : L ≤ 4096) (hW : keyW W) : ∀ (n j : Nat) (i : Int32) (I : st_I) (M : st_L), j ≤ L + 8 → L + 9 ≤ j + 8 * n → i = nI j → Inv W I M → LT L xs i 18 [] I M := by
  intro n
  induction n with
  | zero => intro j i I M h1 h2; omega
  | succ n ih =>
    intro j i I M h1 h2 hi H
    refine LT_iload d_law_18 ?_
    refine LT_len d_law_19 d_law_20 ?_
    refine LT_bipush (v := 8) d_law_21 rfl ?_
    refine LT_isub d_law_23 ?_
    refine LT_gt (tgt := 2071) d_law_24 (by decide) (fun _ => LT_end) (fun hle => ?_)
    have hj : j + 8 ≤ L := by
      rcases Nat.lt_or_ge L (j + 8) with z | z
      · exfalso
        by_cases l8 : L < 8
        · have a := sub8 L l8
          have b : (0 : Int32) ≤ i := by rw [hi]; exact nI_pos' (by omega)
          exact absurd (Int32.le_trans b hle) (Int32.not_le.mpr a)
        · rw [hi, show nI L - 8 = nI (L - 8) from pk_sub (b := 8) (by omega)] at hle
          exact absurd hle (nI_ge (by omega) (by omega))
      · exact z
    refine LT_first hi (by omega) hL d_law_27 d_law_28 d_law_29 ?_
    refine LT_bipush (v := 63) d_law_30 rfl ?_
    refine LT_iand d_law_32 ?_
    obtain ⟨k, hk, e⟩ := and63 (xs j)
    refine law_case hi hj hL hW H (fun I2 M2 H2 => LT_next (ih (j + 8) _ I2 M2 (by omega) (by omega) (by rw [hi]; exact nI_add j 8) H2)) k hk e
