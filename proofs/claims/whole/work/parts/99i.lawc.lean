/-! the law: a call on both sides (printed by wip/whole/law.py) -/
theorem bo_i (x : Int32) : bo (if x = 0 then (0 : Int32) else 1) := by
  split
  · exact Or.inl rfl
  · exact Or.inr rfl
theorem LT_bool {L pc : Nat} {xs : Nat → Int32} {i x : Int32} {st : List Value} {I : st_I} {M : st_L} (d0 : decode code pc = .ok (.ifCond .eq 7, 3)) (d1 : decode code (pc + 3) = .ok (.iconst 1, 1)) (d2 : decode code (pc + 4) = .ok (.goto 4, 3)) (d3 : decode code (pc + 7) = .ok (.iconst 0, 1)) (k : LT L xs i (pc + 8) (.int (if x = 0 then (0 : Int32) else 1) :: st) I M) : LT L xs i pc (.int x :: st) I M := by
  refine LT_if_eq (tgt := pc + 7) d0 (by omega) (fun h => ?_) (fun h => ?_)
  · rw [if_pos h] at k
    exact LT_iconst (v := 0) d3 rfl k
  · rw [if_neg h] at k
    exact LT_iconst (v := 1) d1 rfl (LT_goto (tgt := pc + 8) d2 (by omega) k)
theorem h_feed {W : Nat → Int64} {I : st_I} {L : st_L} (H : Inv W I L) (a b c e f : Int32)  : EI 60 mX11_feed [.ref 0, .int a, .int b, .int c, .int e, .int f] I L (fun r I1 L1 => EI 60 mX12_feed [.ref 58, .int a, .int b, .int c, .int e, .int f] I1 L1 (fun r' I2 L2 => r' = r ∧ Inv W I2 L2)) := inv_feed H a b c e f
theorem h_back {W : Nat → Int64} {I : st_I} {L : st_L} (H : Inv W I L) (a : Int32)  : EI 60 mX11_back [.ref 0, .int a] I L (fun r I1 L1 => EI 60 mX12_back [.ref 58, .int a] I1 L1 (fun r' I2 L2 => r' = r ∧ Inv W I2 L2)) := inv_back H a
theorem h_place {W : Nat → Int64} {I : st_I} {L : st_L} (H : Inv W I L)  : EI 60 mX11_place [.ref 0] I L (fun r I1 L1 => EI 60 mX12_place [.ref 58] I1 L1 (fun r' I2 L2 => r' = r ∧ Inv W I2 L2)) := inv_place H 
theorem h_fiddle {W : Nat → Int64} {I : st_I} {L : st_L} (H : Inv W I L) (a b : Int32)  : EI 60 mX11_fiddle [.ref 0, .int a, .int b] I L (fun r I1 L1 => EI 60 mX12_fiddle [.ref 58, .int a, .int b] I1 L1 (fun r' I2 L2 => r' = r ∧ Inv W I2 L2)) := inv_fiddle H a b
theorem h_person {W : Nat → Int64} {I : st_I} {L : st_L} (H : Inv W I L) (a b : Int32)  : EI 60 mX11_person [.ref 0, .int a, .int b] I L (fun r I1 L1 => EI 60 mX12_person [.ref 58, .int a, .int b] I1 L1 (fun r' I2 L2 => r' = r ∧ Inv W I2 L2)) := inv_person H a b
theorem h_sitting {W : Nat → Int64} {I : st_I} {L : st_L} (H : Inv W I L) (a b c : Int32)  : EI 60 mX11_sitting [.ref 0, .int a, .int b, .int c] I L (fun r I1 L1 => EI 60 mX12_sitting [.ref 58, .int a, .int b, .int c] I1 L1 (fun r' I2 L2 => r' = r ∧ Inv W I2 L2)) := inv_sitting H a b c
theorem h_liking {W : Nat → Int64} {I : st_I} {L : st_L} (H : Inv W I L) (a b c e se sp no : Int32) (h_se : bo se) : EI 60 mX11_liking [.ref 0, .int a, .int b, .int c, .int e, .int se, .int sp, .int no] I L (fun r I1 L1 => EI 60 mX12_liking [.ref 58, .int a, .int b, .int c, .int e, .int se, .int sp, .int no] I1 L1 (fun r' I2 L2 => r' = r ∧ Inv W I2 L2)) := inv_liking H a b c e se sp no (h_se)
theorem h_taken {W : Nat → Int64} {I : st_I} {L : st_L} (H : Inv W I L) (a b s c : Int32)  : EI 60 mX11_taken [.ref 0, .int a, .int b, .int s, .int c] I L (fun r I1 L1 => EI 60 mX12_taken [.ref 58, .int a, .int b, .int s, .int c] I1 L1 (fun r' I2 L2 => r' = r ∧ Inv W I2 L2)) := inv_taken H a b s c
theorem h_takes {W : Nat → Int64} {I : st_I} {L : st_L} (H : Inv W I L) (a b s c : Int32)  : EI 60 mX11_takes [.ref 0, .int a, .int b, .int s, .int c] I L (fun r I1 L1 => EI 60 mX12_takes [.ref 58, .int a, .int b, .int s, .int c] I1 L1 (fun r' I2 L2 => r' = r ∧ Inv W I2 L2)) := inv_takes H a b s c
theorem h_run {W : Nat → Int64} {I : st_I} {L : st_L} (H : Inv W I L) (a b c s : Int32)  : EI 60 mX11_run [.ref 0, .int a, .int b, .int c, .int s] I L (fun r I1 L1 => EI 60 mX12_run [.ref 58, .int a, .int b, .int c, .int s] I1 L1 (fun r' I2 L2 => r' = r ∧ Inv W I2 L2)) := inv_run H a b c s
theorem h_touch {W : Nat → Int64} {I : st_I} {L : st_L} (H : Inv W I L) (a b c e t m : Int32)  : EI 60 mX11_touch [.ref 0, .int a, .int b, .int c, .int e, .int t, .int m] I L (fun r I1 L1 => EI 60 mX12_touch [.ref 58, .int a, .int b, .int c, .int e, .int t, .int m] I1 L1 (fun r' I2 L2 => r' = r ∧ Inv W I2 L2)) := inv_touch H a b c e t m
theorem h_gains {W : Nat → Int64} {I : st_I} {L : st_L} (H : Inv W I L) (a b t c : Int32)  : EL 60 mX11_gains [.ref 0, .int a, .int b, .int t, .int c] I L (fun r I1 L1 => EL 60 mX12_gains [.ref 58, .int a, .int b, .int t, .int c] I1 L1 (fun r' I2 L2 => r' = r ∧ Inv W I2 L2)) := inv_gains H a b t c
theorem h_mark {W : Nat → Int64} {I : st_I} {L : st_L} (H : Inv W I L) (a b c e g : Int32) (h_g : bo g) : EI 60 mX11_mark [.ref 0, .int a, .int b, .int c, .int e, .int g] I L (fun r I1 L1 => EI 60 mX12_mark [.ref 58, .int a, .int b, .int c, .int e, .int g] I1 L1 (fun r' I2 L2 => r' = r ∧ Inv W I2 L2)) := inv_mark H a b c e (h_g)
theorem h_guess {W : Nat → Int64} {I : st_I} {L : st_L} (H : Inv W I L) (a b g : Int32) (h_g : bo g) : EI 60 mX11_guess [.ref 0, .int a, .int b, .int g] I L (fun r I1 L1 => EI 60 mX12_guess [.ref 58, .int a, .int b, .int g] I1 L1 (fun r' I2 L2 => r' = r ∧ Inv W I2 L2)) := inv_guess H a b (h_g)
theorem h_annul {W : Nat → Int64} {I : st_I} {L : st_L} (H : Inv W I L) (a : Int32)  : EI 60 mX11_annul [.ref 0, .int a] I L (fun r I1 L1 => EI 60 mX12_annul [.ref 58, .int a] I1 L1 (fun r' I2 L2 => r' = r ∧ Inv W I2 L2)) := inv_annul H a
theorem h_fact {W : Nat → Int64} {I : st_I} {L : st_L} (H : Inv W I L) (a b : Int32)  : EI 60 mX11_fact [.ref 0, .int a, .int b] I L (fun r I1 L1 => EI 60 mX12_fact [.ref 58, .int a, .int b] I1 L1 (fun r' I2 L2 => r' = r ∧ Inv W I2 L2)) := inv_fact H a b
theorem h_last {W : Nat → Int64} {I : st_I} {L : st_L} (H : Inv W I L) (a b s c : Int32)  : EI 60 mX11_last [.ref 0, .int a, .int b, .int s, .int c] I L (fun r I1 L1 => EI 60 mX12_last [.ref 58, .int a, .int b, .int s, .int c] I1 L1 (fun r' I2 L2 => r' = r ∧ Inv W I2 L2)) := inv_last H a b s c
theorem h_mean {W : Nat → Int64} {I : st_I} {L : st_L} (H : Inv W I L) (a s c e : Int32) (h_s : bo s) : EI 60 mX11_mean [.ref 0, .int a, .int s, .int c, .int e] I L (fun r I1 L1 => EI 60 mX12_mean [.ref 58, .int a, .int s, .int c, .int e] I1 L1 (fun r' I2 L2 => r' = r ∧ Inv W I2 L2)) := inv_mean H a c e (h_s)
theorem h_guesses {W : Nat → Int64} {I : st_I} {L : st_L} (H : Inv W I L) (c e : Int32)  : EI 60 mX11_guesses [.ref 0, .int c, .int e] I L (fun r I1 L1 => EI 60 mX12_guesses [.ref 58, .int c, .int e] I1 L1 (fun r' I2 L2 => r' = r ∧ Inv W I2 L2)) := inv_guesses H c e
theorem h_coin {W : Nat → Int64} {I : st_I} {L : st_L} (H : Inv W I L) (c s : Int32)  : EL 60 mX11_coin [.ref 0, .int c, .int s] I L (fun r I1 L1 => EL 60 mX12_coin [.ref 58, .int c, .int s] I1 L1 (fun r' I2 L2 => r' = r ∧ Inv W I2 L2)) := inv_coin H c s
theorem h_table {W : Nat → Int64} {I : st_I} {L : st_L} (H : Inv W I L) (c s : Int32)  : EL 60 mX11_table [.ref 0, .int c, .int s] I L (fun r I1 L1 => EL 60 mX12_table [.ref 58, .int c, .int s] I1 L1 (fun r' I2 L2 => r' = r ∧ Inv W I2 L2)) := inv_table H c s
theorem h_steady {W : Nat → Int64} {I : st_I} {L : st_L} (H : Inv W I L) (c e : Int32)  : EI 60 mX11_steady [.ref 0, .int c, .int e] I L (fun r I1 L1 => EI 60 mX12_steady [.ref 58, .int c, .int e] I1 L1 (fun r' I2 L2 => r' = r ∧ Inv W I2 L2)) := inv_steady H c e
theorem h_steadyWays {W : Nat → Int64} {I : st_I} {L : st_L} (H : Inv W I L) (c : Int32)  : EI 60 mX11_steadyWays [.ref 0, .int c] I L (fun r I1 L1 => EI 60 mX12_steadyWays [.ref 58, .int c] I1 L1 (fun r' I2 L2 => r' = r ∧ Inv W I2 L2)) := inv_steadyWays H c
theorem h_kinds {W : Nat → Int64} {I : st_I} {L : st_L} (H : Inv W I L) (c e : Int32)  : EI 60 mX11_kinds [.ref 0, .int c, .int e] I L (fun r I1 L1 => EI 60 mX12_kinds [.ref 58, .int c, .int e] I1 L1 (fun r' I2 L2 => r' = r ∧ Inv W I2 L2)) := inv_kinds H c e
theorem h_kindWays {W : Nat → Int64} {I : st_I} {L : st_L} (H : Inv W I L) (c s : Int32)  : EI 60 mX11_kindWays [.ref 0, .int c, .int s] I L (fun r I1 L1 => EI 60 mX12_kindWays [.ref 58, .int c, .int s] I1 L1 (fun r' I2 L2 => r' = r ∧ Inv W I2 L2)) := inv_kindWays H c s
theorem h_flips {W : Nat → Int64} {I : st_I} {L : st_L} (H : Inv W I L) (c e : Int32)  : EI 60 mX11_flips [.ref 0, .int c, .int e] I L (fun r I1 L1 => EI 60 mX12_flips [.ref 58, .int c, .int e] I1 L1 (fun r' I2 L2 => r' = r ∧ Inv W I2 L2)) := inv_flips H c e
theorem h_flipWays {W : Nat → Int64} {I : st_I} {L : st_L} (H : Inv W I L) (c : Int32)  : EI 60 mX11_flipWays [.ref 0, .int c] I L (fun r I1 L1 => EI 60 mX12_flipWays [.ref 58, .int c] I1 L1 (fun r' I2 L2 => r' = r ∧ Inv W I2 L2)) := inv_flipWays H c
theorem h_small {W : Nat → Int64} {I : st_I} {L : st_L} (H : Inv W I L) (c : Int32)  : EI 60 mX11_small [.ref 0, .int c] I L (fun r I1 L1 => EI 60 mX12_small [.ref 58, .int c] I1 L1 (fun r' I2 L2 => r' = r ∧ Inv W I2 L2)) := inv_small H c
theorem h_knowing {W : Nat → Int64} {I : st_I} {L : st_L} (H : Inv W I L) (c e : Int32)  : EI 60 mX11_knowing [.ref 0, .int c, .int e] I L (fun r I1 L1 => EI 60 mX12_knowing [.ref 58, .int c, .int e] I1 L1 (fun r' I2 L2 => r' = r ∧ Inv W I2 L2)) := inv_knowing H c e
theorem h_knowingWays {W : Nat → Int64} {I : st_I} {L : st_L} (H : Inv W I L) (c : Int32)  : EI 60 mX11_knowingWays [.ref 0, .int c] I L (fun r I1 L1 => EI 60 mX12_knowingWays [.ref 58, .int c] I1 L1 (fun r' I2 L2 => r' = r ∧ Inv W I2 L2)) := inv_knowingWays H c
theorem h_spot {W : Nat → Int64} {I : st_I} {L : st_L} (H : Inv W I L) (c b e : Int32)  : EI 60 mX11_spot [.ref 0, .int c, .int b, .int e] I L (fun r I1 L1 => EI 60 mX12_spot [.ref 58, .int c, .int b, .int e] I1 L1 (fun r' I2 L2 => r' = r ∧ Inv W I2 L2)) := inv_spot H c b e
theorem h_right {W : Nat → Int64} {I : st_I} {L : st_L} (H : Inv W I L) (c b : Int32)  : EI 60 mX11_right [.ref 0, .int c, .int b] I L (fun r I1 L1 => EI 60 mX12_right [.ref 58, .int c, .int b] I1 L1 (fun r' I2 L2 => r' = r ∧ Inv W I2 L2)) := inv_right H c b
theorem h_near {W : Nat → Int64} {I : st_I} {L : st_L} (H : Inv W I L) (c e : Int32)  : EI 60 mX11_near [.ref 0, .int c, .int e] I L (fun r I1 L1 => EI 60 mX12_near [.ref 58, .int c, .int e] I1 L1 (fun r' I2 L2 => r' = r ∧ Inv W I2 L2)) := inv_near H c e
theorem h_nearWays {W : Nat → Int64} {I : st_I} {L : st_L} (H : Inv W I L) (c : Int32)  : EI 60 mX11_nearWays [.ref 0, .int c] I L (fun r I1 L1 => EI 60 mX12_nearWays [.ref 58, .int c] I1 L1 (fun r' I2 L2 => r' = r ∧ Inv W I2 L2)) := inv_nearWays H c
theorem h_beats {W : Nat → Int64} {I : st_I} {L : st_L} (H : Inv W I L) (c a b : Int32)  : EI 60 mX11_beats [.ref 0, .int c, .int a, .int b] I L (fun r I1 L1 => EI 60 mX12_beats [.ref 58, .int c, .int a, .int b] I1 L1 (fun r' I2 L2 => r' = r ∧ Inv W I2 L2)) := inv_beats H c a b
theorem h_winner {W : Nat → Int64} {I : st_I} {L : st_L} (H : Inv W I L) (c : Int32)  : EI 60 mX11_winner [.ref 0, .int c] I L (fun r I1 L1 => EI 60 mX12_winner [.ref 58, .int c] I1 L1 (fun r' I2 L2 => r' = r ∧ Inv W I2 L2)) := inv_winner H c
theorem h_best {W : Nat → Int64} {I : st_I} {L : st_L} (H : Inv W I L) (c s : Int32)  : EI 60 mX11_best [.ref 0, .int c, .int s] I L (fun r I1 L1 => EI 60 mX12_best [.ref 58, .int c, .int s] I1 L1 (fun r' I2 L2 => r' = r ∧ Inv W I2 L2)) := inv_best H c s
theorem h_need {W : Nat → Int64} {I : st_I} {L : st_L} (H : Inv W I L) (u v a b w : Int32)  : EI 60 mX11_need [.ref 0, .int u, .int v, .int a, .int b, .int w] I L (fun r I1 L1 => EI 60 mX12_need [.ref 58, .int u, .int v, .int a, .int b, .int w] I1 L1 (fun r' I2 L2 => r' = r ∧ Inv W I2 L2)) := inv_need H u v a b w
theorem h_parts {W : Nat → Int64} {I : st_I} {L : st_L} (H : Inv W I L) (a b c s : Int32)  : EI 60 mX11_parts [.ref 0, .int a, .int b, .int c, .int s] I L (fun r I1 L1 => EI 60 mX12_parts [.ref 58, .int a, .int b, .int c, .int s] I1 L1 (fun r' I2 L2 => r' = r ∧ Inv W I2 L2)) := inv_parts H a b c s
theorem h_next {W : Nat → Int64} {I : st_I} {L : st_L} (H : Inv W I L) (b c s : Int32)  : EI 60 mX11_next [.ref 0, .int b, .int c, .int s] I L (fun r I1 L1 => EI 60 mX12_next [.ref 58, .int b, .int c, .int s] I1 L1 (fun r' I2 L2 => r' = r ∧ Inv W I2 L2)) := inv_next H b c s
theorem h_say {W : Nat → Int64} {I : st_I} {L : st_L} (H : Inv W I L) (c : Int32)  : EI 60 mX11_say [.ref 0, .int c] I L (fun r I1 L1 => EI 60 mX12_say [.ref 58, .int c] I1 L1 (fun r' I2 L2 => r' = r ∧ Inv W I2 L2)) := inv_say H c
theorem h_turned {W : Nat → Int64} {I : st_I} {L : st_L} (H : Inv W I L) (c : Int32)  : EI 60 mX11_turned [.ref 0, .int c] I L (fun r I1 L1 => EI 60 mX12_turned [.ref 58, .int c] I1 L1 (fun r' I2 L2 => r' = r ∧ Inv W I2 L2)) := inv_turned H c
theorem h_count {W : Nat → Int64} {I : st_I} {L : st_L} (H : Inv W I L) (a : Int32)  : EI 60 mX11_count [.ref 0, .int a] I L (fun r I1 L1 => EI 60 mX12_count [.ref 58, .int a] I1 L1 (fun r' I2 L2 => r' = r ∧ Inv W I2 L2)) := inv_count H a
theorem law_feed {L j : Nat} {xs : Nat → Int32} {i : Int32} {I : st_I} {M : st_L} {W : Nat → Int64} (hi : i = nI j) (hj : j + 8 ≤ L) (hL : L ≤ 4096) (H : Inv W I M) (k : ∀ I2 M2, Inv W I2 M2 → LT L xs i 2065 [] I2 M2) : LT L xs i 224 [] I M := by
  refine LT_x d_law_224 ?_
  refine LT_arg 1 hi (by omega) hL d_law_225 d_law_226 d_law_227 d_law_228 d_law_229 ?_
  refine LT_arg 2 hi (by omega) hL d_law_230 d_law_231 d_law_232 d_law_233 d_law_234 ?_
  refine LT_arg 3 hi (by omega) hL d_law_235 d_law_236 d_law_237 d_law_238 d_law_239 ?_
  refine LT_arg 4 hi (by omega) hL d_law_240 d_law_241 d_law_242 d_law_243 d_law_244 ?_
  refine LT_arg 5 hi (by omega) hL d_law_245 d_law_246 d_law_247 d_law_248 d_law_249 ?_
  refine LT_call (M' := mX11_feed) [.int (xs (j + 1)), .int (xs (j + 2)), .int (xs (j + 3)), .int (xs (j + 4)), .int (xs (j + 5))] [] d_law_250 ml_law_13 mkX11_feed rfl shp_0 rfl rfl rfl (Nat.zero_le _) (Ev.mono (h_feed H (xs (j + 1)) (xs (j + 2)) (xs (j + 3)) (xs (j + 4)) (xs (j + 5))) ?_)
  rintro v sh I1 M1 ⟨r, rfl, rfl, hr⟩
  refine ⟨rfl, trivial, ?_⟩
  refine LT_m d_law_253 ?_
  refine LT_arg 1 hi (by omega) hL d_law_254 d_law_255 d_law_256 d_law_257 d_law_258 ?_
  refine LT_arg 2 hi (by omega) hL d_law_259 d_law_260 d_law_261 d_law_262 d_law_263 ?_
  refine LT_arg 3 hi (by omega) hL d_law_264 d_law_265 d_law_266 d_law_267 d_law_268 ?_
  refine LT_arg 4 hi (by omega) hL d_law_269 d_law_270 d_law_271 d_law_272 d_law_273 ?_
  refine LT_arg 5 hi (by omega) hL d_law_274 d_law_275 d_law_276 d_law_277 d_law_278 ?_
  refine LT_call (M' := mX12_feed) [.int (xs (j + 1)), .int (xs (j + 2)), .int (xs (j + 3)), .int (xs (j + 4)), .int (xs (j + 5))] [.int r] d_law_279 ml_law_17 mkX12_feed rfl shp_58 rfl rfl rfl (Nat.le_of_ble_eq_true rfl) (Ev.mono hr ?_)
  rintro v sh I2 M2 ⟨r2, rfl, rfl, rfl, hI⟩
  refine ⟨rfl, trivial, ?_⟩
  exact LT_same (tgt := 2065) d_law_282 (by decide) (k I2 M2 hI)
theorem law_back {L j : Nat} {xs : Nat → Int32} {i : Int32} {I : st_I} {M : st_L} {W : Nat → Int64} (hi : i = nI j) (hj : j + 8 ≤ L) (hL : L ≤ 4096) (H : Inv W I M) (k : ∀ I2 M2, Inv W I2 M2 → LT L xs i 2065 [] I2 M2) : LT L xs i 287 [] I M := by
  refine LT_x d_law_287 ?_
  refine LT_arg 1 hi (by omega) hL d_law_288 d_law_289 d_law_290 d_law_291 d_law_292 ?_
  refine LT_call (M' := mX11_back) [.int (xs (j + 1))] [] d_law_293 ml_law_18 mkX11_back rfl shp_0 rfl rfl rfl (Nat.zero_le _) (Ev.mono (h_back H (xs (j + 1))) ?_)
  rintro v sh I1 M1 ⟨r, rfl, rfl, hr⟩
  refine ⟨rfl, trivial, ?_⟩
  refine LT_m d_law_296 ?_
  refine LT_arg 1 hi (by omega) hL d_law_297 d_law_298 d_law_299 d_law_300 d_law_301 ?_
  refine LT_call (M' := mX12_back) [.int (xs (j + 1))] [.int r] d_law_302 ml_law_22 mkX12_back rfl shp_58 rfl rfl rfl (Nat.le_of_ble_eq_true rfl) (Ev.mono hr ?_)
  rintro v sh I2 M2 ⟨r2, rfl, rfl, rfl, hI⟩
  refine ⟨rfl, trivial, ?_⟩
  exact LT_same (tgt := 2065) d_law_305 (by decide) (k I2 M2 hI)
theorem law_place {L j : Nat} {xs : Nat → Int32} {i : Int32} {I : st_I} {M : st_L} {W : Nat → Int64} (hi : i = nI j) (hj : j + 8 ≤ L) (hL : L ≤ 4096) (H : Inv W I M) (k : ∀ I2 M2, Inv W I2 M2 → LT L xs i 2065 [] I2 M2) : LT L xs i 323 [] I M := by
  refine LT_x d_law_323 ?_
  refine LT_call (M' := mX11_place) [] [] d_law_324 ml_law_28 mkX11_place rfl shp_0 rfl rfl rfl (Nat.zero_le _) (Ev.mono (h_place H ) ?_)
  rintro v sh I1 M1 ⟨r, rfl, rfl, hr⟩
  refine ⟨rfl, trivial, ?_⟩
  refine LT_m d_law_327 ?_
  refine LT_call (M' := mX12_place) [] [.int r] d_law_328 ml_law_31 mkX12_place rfl shp_58 rfl rfl rfl (Nat.le_of_ble_eq_true rfl) (Ev.mono hr ?_)
  rintro v sh I2 M2 ⟨r2, rfl, rfl, rfl, hI⟩
  refine ⟨rfl, trivial, ?_⟩
  exact LT_same (tgt := 2065) d_law_331 (by decide) (k I2 M2 hI)
theorem law_fiddle {L j : Nat} {xs : Nat → Int32} {i : Int32} {I : st_I} {M : st_L} {W : Nat → Int64} (hi : i = nI j) (hj : j + 8 ≤ L) (hL : L ≤ 4096) (H : Inv W I M) (k : ∀ I2 M2, Inv W I2 M2 → LT L xs i 2065 [] I2 M2) : LT L xs i 336 [] I M := by
  refine LT_x d_law_336 ?_
  refine LT_arg 1 hi (by omega) hL d_law_337 d_law_338 d_law_339 d_law_340 d_law_341 ?_
  refine LT_arg 2 hi (by omega) hL d_law_342 d_law_343 d_law_344 d_law_345 d_law_346 ?_
  refine LT_call (M' := mX11_fiddle) [.int (xs (j + 1)), .int (xs (j + 2))] [] d_law_347 ml_law_32 mkX11_fiddle rfl shp_0 rfl rfl rfl (Nat.zero_le _) (Ev.mono (h_fiddle H (xs (j + 1)) (xs (j + 2))) ?_)
  rintro v sh I1 M1 ⟨r, rfl, rfl, hr⟩
  refine ⟨rfl, trivial, ?_⟩
  refine LT_m d_law_350 ?_
  refine LT_arg 1 hi (by omega) hL d_law_351 d_law_352 d_law_353 d_law_354 d_law_355 ?_
  refine LT_arg 2 hi (by omega) hL d_law_356 d_law_357 d_law_358 d_law_359 d_law_360 ?_
  refine LT_call (M' := mX12_fiddle) [.int (xs (j + 1)), .int (xs (j + 2))] [.int r] d_law_361 ml_law_36 mkX12_fiddle rfl shp_58 rfl rfl rfl (Nat.le_of_ble_eq_true rfl) (Ev.mono hr ?_)
  rintro v sh I2 M2 ⟨r2, rfl, rfl, rfl, hI⟩
  refine ⟨rfl, trivial, ?_⟩
  exact LT_same (tgt := 2065) d_law_364 (by decide) (k I2 M2 hI)
theorem law_person {L j : Nat} {xs : Nat → Int32} {i : Int32} {I : st_I} {M : st_L} {W : Nat → Int64} (hi : i = nI j) (hj : j + 8 ≤ L) (hL : L ≤ 4096) (H : Inv W I M) (k : ∀ I2 M2, Inv W I2 M2 → LT L xs i 2065 [] I2 M2) : LT L xs i 369 [] I M := by
  refine LT_x d_law_369 ?_
  refine LT_arg 1 hi (by omega) hL d_law_370 d_law_371 d_law_372 d_law_373 d_law_374 ?_
  refine LT_arg 2 hi (by omega) hL d_law_375 d_law_376 d_law_377 d_law_378 d_law_379 ?_
  refine LT_call (M' := mX11_person) [.int (xs (j + 1)), .int (xs (j + 2))] [] d_law_380 ml_law_37 mkX11_person rfl shp_0 rfl rfl rfl (Nat.zero_le _) (Ev.mono (h_person H (xs (j + 1)) (xs (j + 2))) ?_)
  rintro v sh I1 M1 ⟨r, rfl, rfl, hr⟩
  refine ⟨rfl, trivial, ?_⟩
  refine LT_m d_law_383 ?_
  refine LT_arg 1 hi (by omega) hL d_law_384 d_law_385 d_law_386 d_law_387 d_law_388 ?_
  refine LT_arg 2 hi (by omega) hL d_law_389 d_law_390 d_law_391 d_law_392 d_law_393 ?_
  refine LT_call (M' := mX12_person) [.int (xs (j + 1)), .int (xs (j + 2))] [.int r] d_law_394 ml_law_40 mkX12_person rfl shp_58 rfl rfl rfl (Nat.le_of_ble_eq_true rfl) (Ev.mono hr ?_)
  rintro v sh I2 M2 ⟨r2, rfl, rfl, rfl, hI⟩
  refine ⟨rfl, trivial, ?_⟩
  exact LT_same (tgt := 2065) d_law_397 (by decide) (k I2 M2 hI)
theorem law_sitting {L j : Nat} {xs : Nat → Int32} {i : Int32} {I : st_I} {M : st_L} {W : Nat → Int64} (hi : i = nI j) (hj : j + 8 ≤ L) (hL : L ≤ 4096) (H : Inv W I M) (k : ∀ I2 M2, Inv W I2 M2 → LT L xs i 2065 [] I2 M2) : LT L xs i 402 [] I M := by
  refine LT_x d_law_402 ?_
  refine LT_arg 1 hi (by omega) hL d_law_403 d_law_404 d_law_405 d_law_406 d_law_407 ?_
  refine LT_arg 2 hi (by omega) hL d_law_408 d_law_409 d_law_410 d_law_411 d_law_412 ?_
  refine LT_arg 3 hi (by omega) hL d_law_413 d_law_414 d_law_415 d_law_416 d_law_417 ?_
  refine LT_call (M' := mX11_sitting) [.int (xs (j + 1)), .int (xs (j + 2)), .int (xs (j + 3))] [] d_law_418 ml_law_41 mkX11_sitting rfl shp_0 rfl rfl rfl (Nat.zero_le _) (Ev.mono (h_sitting H (xs (j + 1)) (xs (j + 2)) (xs (j + 3))) ?_)
  rintro v sh I1 M1 ⟨r, rfl, rfl, hr⟩
  refine ⟨rfl, trivial, ?_⟩
  refine LT_m d_law_421 ?_
  refine LT_arg 1 hi (by omega) hL d_law_422 d_law_423 d_law_424 d_law_425 d_law_426 ?_
  refine LT_arg 2 hi (by omega) hL d_law_427 d_law_428 d_law_429 d_law_430 d_law_431 ?_
  refine LT_arg 3 hi (by omega) hL d_law_432 d_law_433 d_law_434 d_law_435 d_law_436 ?_
  refine LT_call (M' := mX12_sitting) [.int (xs (j + 1)), .int (xs (j + 2)), .int (xs (j + 3))] [.int r] d_law_437 ml_law_45 mkX12_sitting rfl shp_58 rfl rfl rfl (Nat.le_of_ble_eq_true rfl) (Ev.mono hr ?_)
  rintro v sh I2 M2 ⟨r2, rfl, rfl, rfl, hI⟩
  refine ⟨rfl, trivial, ?_⟩
  exact LT_same (tgt := 2065) d_law_440 (by decide) (k I2 M2 hI)
theorem law_liking {L j : Nat} {xs : Nat → Int32} {i : Int32} {I : st_I} {M : st_L} {W : Nat → Int64} (hi : i = nI j) (hj : j + 8 ≤ L) (hL : L ≤ 4096) (H : Inv W I M) (k : ∀ I2 M2, Inv W I2 M2 → LT L xs i 2065 [] I2 M2) : LT L xs i 445 [] I M := by
  refine LT_x d_law_445 ?_
  refine LT_arg 1 hi (by omega) hL d_law_446 d_law_447 d_law_448 d_law_449 d_law_450 ?_
  refine LT_arg 2 hi (by omega) hL d_law_451 d_law_452 d_law_453 d_law_454 d_law_455 ?_
  refine LT_arg 3 hi (by omega) hL d_law_456 d_law_457 d_law_458 d_law_459 d_law_460 ?_
  refine LT_arg 4 hi (by omega) hL d_law_461 d_law_462 d_law_463 d_law_464 d_law_465 ?_
  refine LT_arg 5 hi (by omega) hL d_law_466 d_law_467 d_law_468 d_law_469 d_law_470 ?_
  refine LT_bool d_law_471 d_law_474 d_law_475 d_law_478 ?_
  refine LT_argb 6 hi (by omega) hL (by decide) d_law_479 d_law_480 d_law_481 d_law_483 d_law_484 ?_
  refine LT_argb 7 hi (by omega) hL (by decide) d_law_485 d_law_486 d_law_487 d_law_489 d_law_490 ?_
  refine LT_call (M' := mX11_liking) [.int (xs (j + 1)), .int (xs (j + 2)), .int (xs (j + 3)), .int (xs (j + 4)), .int ((if xs (j + 5) = 0 then (0 : Int32) else 1)), .int (xs (j + 6)), .int (xs (j + 7))] [] d_law_491 ml_law_46 mkX11_liking rfl shp_0 rfl rfl rfl (Nat.zero_le _) (Ev.mono (h_liking H (xs (j + 1)) (xs (j + 2)) (xs (j + 3)) (xs (j + 4)) ((if xs (j + 5) = 0 then (0 : Int32) else 1)) (xs (j + 6)) (xs (j + 7)) (bo_i _)) ?_)
  rintro v sh I1 M1 ⟨r, rfl, rfl, hr⟩
  refine ⟨rfl, trivial, ?_⟩
  refine LT_m d_law_494 ?_
  refine LT_arg 1 hi (by omega) hL d_law_495 d_law_496 d_law_497 d_law_498 d_law_499 ?_
  refine LT_arg 2 hi (by omega) hL d_law_500 d_law_501 d_law_502 d_law_503 d_law_504 ?_
  refine LT_arg 3 hi (by omega) hL d_law_505 d_law_506 d_law_507 d_law_508 d_law_509 ?_
  refine LT_arg 4 hi (by omega) hL d_law_510 d_law_511 d_law_512 d_law_513 d_law_514 ?_
  refine LT_arg 5 hi (by omega) hL d_law_515 d_law_516 d_law_517 d_law_518 d_law_519 ?_
  refine LT_bool d_law_520 d_law_523 d_law_524 d_law_527 ?_
  refine LT_argb 6 hi (by omega) hL (by decide) d_law_528 d_law_529 d_law_530 d_law_532 d_law_533 ?_
  refine LT_argb 7 hi (by omega) hL (by decide) d_law_534 d_law_535 d_law_536 d_law_538 d_law_539 ?_
  refine LT_call (M' := mX12_liking) [.int (xs (j + 1)), .int (xs (j + 2)), .int (xs (j + 3)), .int (xs (j + 4)), .int ((if xs (j + 5) = 0 then (0 : Int32) else 1)), .int (xs (j + 6)), .int (xs (j + 7))] [.int r] d_law_540 ml_law_50 mkX12_liking rfl shp_58 rfl rfl rfl (Nat.le_of_ble_eq_true rfl) (Ev.mono hr ?_)
  rintro v sh I2 M2 ⟨r2, rfl, rfl, rfl, hI⟩
  refine ⟨rfl, trivial, ?_⟩
  exact LT_same (tgt := 2065) d_law_543 (by decide) (k I2 M2 hI)
theorem law_taken {L j : Nat} {xs : Nat → Int32} {i : Int32} {I : st_I} {M : st_L} {W : Nat → Int64} (hi : i = nI j) (hj : j + 8 ≤ L) (hL : L ≤ 4096) (H : Inv W I M) (k : ∀ I2 M2, Inv W I2 M2 → LT L xs i 2065 [] I2 M2) : LT L xs i 548 [] I M := by
  refine LT_x d_law_548 ?_
  refine LT_arg 1 hi (by omega) hL d_law_549 d_law_550 d_law_551 d_law_552 d_law_553 ?_
  refine LT_arg 2 hi (by omega) hL d_law_554 d_law_555 d_law_556 d_law_557 d_law_558 ?_
  refine LT_arg 3 hi (by omega) hL d_law_559 d_law_560 d_law_561 d_law_562 d_law_563 ?_
  refine LT_arg 4 hi (by omega) hL d_law_564 d_law_565 d_law_566 d_law_567 d_law_568 ?_
  refine LT_call (M' := mX11_taken) [.int (xs (j + 1)), .int (xs (j + 2)), .int (xs (j + 3)), .int (xs (j + 4))] [] d_law_569 ml_law_51 mkX11_taken rfl shp_0 rfl rfl rfl (Nat.zero_le _) (Ev.mono (h_taken H (xs (j + 1)) (xs (j + 2)) (xs (j + 3)) (xs (j + 4))) ?_)
  rintro v sh I1 M1 ⟨r, rfl, rfl, hr⟩
  refine ⟨rfl, trivial, ?_⟩
  refine LT_m d_law_572 ?_
  refine LT_arg 1 hi (by omega) hL d_law_573 d_law_574 d_law_575 d_law_576 d_law_577 ?_
  refine LT_arg 2 hi (by omega) hL d_law_578 d_law_579 d_law_580 d_law_581 d_law_582 ?_
  refine LT_arg 3 hi (by omega) hL d_law_583 d_law_584 d_law_585 d_law_586 d_law_587 ?_
  refine LT_arg 4 hi (by omega) hL d_law_588 d_law_589 d_law_590 d_law_591 d_law_592 ?_
  refine LT_call (M' := mX12_taken) [.int (xs (j + 1)), .int (xs (j + 2)), .int (xs (j + 3)), .int (xs (j + 4))] [.int r] d_law_593 ml_law_55 mkX12_taken rfl shp_58 rfl rfl rfl (Nat.le_of_ble_eq_true rfl) (Ev.mono hr ?_)
  rintro v sh I2 M2 ⟨r2, rfl, rfl, rfl, hI⟩
  refine ⟨rfl, trivial, ?_⟩
  exact LT_same (tgt := 2065) d_law_596 (by decide) (k I2 M2 hI)
theorem law_takes {L j : Nat} {xs : Nat → Int32} {i : Int32} {I : st_I} {M : st_L} {W : Nat → Int64} (hi : i = nI j) (hj : j + 8 ≤ L) (hL : L ≤ 4096) (H : Inv W I M) (k : ∀ I2 M2, Inv W I2 M2 → LT L xs i 2065 [] I2 M2) : LT L xs i 601 [] I M := by
  refine LT_x d_law_601 ?_
  refine LT_arg 1 hi (by omega) hL d_law_602 d_law_603 d_law_604 d_law_605 d_law_606 ?_
  refine LT_arg 2 hi (by omega) hL d_law_607 d_law_608 d_law_609 d_law_610 d_law_611 ?_
  refine LT_arg 3 hi (by omega) hL d_law_612 d_law_613 d_law_614 d_law_615 d_law_616 ?_
  refine LT_arg 4 hi (by omega) hL d_law_617 d_law_618 d_law_619 d_law_620 d_law_621 ?_
  refine LT_call (M' := mX11_takes) [.int (xs (j + 1)), .int (xs (j + 2)), .int (xs (j + 3)), .int (xs (j + 4))] [] d_law_622 ml_law_56 mkX11_takes rfl shp_0 rfl rfl rfl (Nat.zero_le _) (Ev.mono (h_takes H (xs (j + 1)) (xs (j + 2)) (xs (j + 3)) (xs (j + 4))) ?_)
  rintro v sh I1 M1 ⟨r, rfl, rfl, hr⟩
  refine ⟨rfl, trivial, ?_⟩
  refine LT_m d_law_625 ?_
  refine LT_arg 1 hi (by omega) hL d_law_626 d_law_627 d_law_628 d_law_629 d_law_630 ?_
  refine LT_arg 2 hi (by omega) hL d_law_631 d_law_632 d_law_633 d_law_634 d_law_635 ?_
  refine LT_arg 3 hi (by omega) hL d_law_636 d_law_637 d_law_638 d_law_639 d_law_640 ?_
  refine LT_arg 4 hi (by omega) hL d_law_641 d_law_642 d_law_643 d_law_644 d_law_645 ?_
  refine LT_call (M' := mX12_takes) [.int (xs (j + 1)), .int (xs (j + 2)), .int (xs (j + 3)), .int (xs (j + 4))] [.int r] d_law_646 ml_law_59 mkX12_takes rfl shp_58 rfl rfl rfl (Nat.le_of_ble_eq_true rfl) (Ev.mono hr ?_)
  rintro v sh I2 M2 ⟨r2, rfl, rfl, rfl, hI⟩
  refine ⟨rfl, trivial, ?_⟩
  exact LT_same (tgt := 2065) d_law_649 (by decide) (k I2 M2 hI)
theorem law_run {L j : Nat} {xs : Nat → Int32} {i : Int32} {I : st_I} {M : st_L} {W : Nat → Int64} (hi : i = nI j) (hj : j + 8 ≤ L) (hL : L ≤ 4096) (H : Inv W I M) (k : ∀ I2 M2, Inv W I2 M2 → LT L xs i 2065 [] I2 M2) : LT L xs i 654 [] I M := by
  refine LT_x d_law_654 ?_
  refine LT_arg 1 hi (by omega) hL d_law_655 d_law_656 d_law_657 d_law_658 d_law_659 ?_
  refine LT_arg 2 hi (by omega) hL d_law_660 d_law_661 d_law_662 d_law_663 d_law_664 ?_
  refine LT_arg 3 hi (by omega) hL d_law_665 d_law_666 d_law_667 d_law_668 d_law_669 ?_
  refine LT_arg 4 hi (by omega) hL d_law_670 d_law_671 d_law_672 d_law_673 d_law_674 ?_
  refine LT_call (M' := mX11_run) [.int (xs (j + 1)), .int (xs (j + 2)), .int (xs (j + 3)), .int (xs (j + 4))] [] d_law_675 ml_law_60 mkX11_run rfl shp_0 rfl rfl rfl (Nat.zero_le _) (Ev.mono (h_run H (xs (j + 1)) (xs (j + 2)) (xs (j + 3)) (xs (j + 4))) ?_)
  rintro v sh I1 M1 ⟨r, rfl, rfl, hr⟩
  refine ⟨rfl, trivial, ?_⟩
  refine LT_m d_law_678 ?_
  refine LT_arg 1 hi (by omega) hL d_law_679 d_law_680 d_law_681 d_law_682 d_law_683 ?_
  refine LT_arg 2 hi (by omega) hL d_law_684 d_law_685 d_law_686 d_law_687 d_law_688 ?_
  refine LT_arg 3 hi (by omega) hL d_law_689 d_law_690 d_law_691 d_law_692 d_law_693 ?_
  refine LT_arg 4 hi (by omega) hL d_law_694 d_law_695 d_law_696 d_law_697 d_law_698 ?_
  refine LT_call (M' := mX12_run) [.int (xs (j + 1)), .int (xs (j + 2)), .int (xs (j + 3)), .int (xs (j + 4))] [.int r] d_law_699 ml_law_63 mkX12_run rfl shp_58 rfl rfl rfl (Nat.le_of_ble_eq_true rfl) (Ev.mono hr ?_)
  rintro v sh I2 M2 ⟨r2, rfl, rfl, rfl, hI⟩
  refine ⟨rfl, trivial, ?_⟩
  exact LT_same (tgt := 2065) d_law_702 (by decide) (k I2 M2 hI)
theorem law_touch {L j : Nat} {xs : Nat → Int32} {i : Int32} {I : st_I} {M : st_L} {W : Nat → Int64} (hi : i = nI j) (hj : j + 8 ≤ L) (hL : L ≤ 4096) (H : Inv W I M) (k : ∀ I2 M2, Inv W I2 M2 → LT L xs i 2065 [] I2 M2) : LT L xs i 707 [] I M := by
  refine LT_x d_law_707 ?_
  refine LT_arg 1 hi (by omega) hL d_law_708 d_law_709 d_law_710 d_law_711 d_law_712 ?_
  refine LT_arg 2 hi (by omega) hL d_law_713 d_law_714 d_law_715 d_law_716 d_law_717 ?_
  refine LT_arg 3 hi (by omega) hL d_law_718 d_law_719 d_law_720 d_law_721 d_law_722 ?_
  refine LT_arg 4 hi (by omega) hL d_law_723 d_law_724 d_law_725 d_law_726 d_law_727 ?_
  refine LT_arg 5 hi (by omega) hL d_law_728 d_law_729 d_law_730 d_law_731 d_law_732 ?_
  refine LT_argb 6 hi (by omega) hL (by decide) d_law_733 d_law_734 d_law_735 d_law_737 d_law_738 ?_
  refine LT_bool d_law_739 d_law_742 d_law_743 d_law_746 ?_
  refine LT_call (M' := mX11_touch) [.int (xs (j + 1)), .int (xs (j + 2)), .int (xs (j + 3)), .int (xs (j + 4)), .int (xs (j + 5)), .int ((if xs (j + 6) = 0 then (0 : Int32) else 1))] [] d_law_747 ml_law_64 mkX11_touch rfl shp_0 rfl rfl rfl (Nat.zero_le _) (Ev.mono (h_touch H (xs (j + 1)) (xs (j + 2)) (xs (j + 3)) (xs (j + 4)) (xs (j + 5)) ((if xs (j + 6) = 0 then (0 : Int32) else 1))) ?_)
  rintro v sh I1 M1 ⟨r, rfl, rfl, hr⟩
  refine ⟨rfl, trivial, ?_⟩
  refine LT_m d_law_750 ?_
  refine LT_arg 1 hi (by omega) hL d_law_751 d_law_752 d_law_753 d_law_754 d_law_755 ?_
  refine LT_arg 2 hi (by omega) hL d_law_756 d_law_757 d_law_758 d_law_759 d_law_760 ?_
  refine LT_arg 3 hi (by omega) hL d_law_761 d_law_762 d_law_763 d_law_764 d_law_765 ?_
  refine LT_arg 4 hi (by omega) hL d_law_766 d_law_767 d_law_768 d_law_769 d_law_770 ?_
  refine LT_arg 5 hi (by omega) hL d_law_771 d_law_772 d_law_773 d_law_774 d_law_775 ?_
  refine LT_argb 6 hi (by omega) hL (by decide) d_law_776 d_law_777 d_law_778 d_law_780 d_law_781 ?_
  refine LT_bool d_law_782 d_law_785 d_law_786 d_law_789 ?_
  refine LT_call (M' := mX12_touch) [.int (xs (j + 1)), .int (xs (j + 2)), .int (xs (j + 3)), .int (xs (j + 4)), .int (xs (j + 5)), .int ((if xs (j + 6) = 0 then (0 : Int32) else 1))] [.int r] d_law_790 ml_law_68 mkX12_touch rfl shp_58 rfl rfl rfl (Nat.le_of_ble_eq_true rfl) (Ev.mono hr ?_)
  rintro v sh I2 M2 ⟨r2, rfl, rfl, rfl, hI⟩
  refine ⟨rfl, trivial, ?_⟩
  exact LT_same (tgt := 2065) d_law_793 (by decide) (k I2 M2 hI)
theorem law_gains {L j : Nat} {xs : Nat → Int32} {i : Int32} {I : st_I} {M : st_L} {W : Nat → Int64} (hi : i = nI j) (hj : j + 8 ≤ L) (hL : L ≤ 4096) (H : Inv W I M) (k : ∀ I2 M2, Inv W I2 M2 → LT L xs i 2065 [] I2 M2) : LT L xs i 798 [] I M := by
  refine LT_x d_law_798 ?_
  refine LT_arg 1 hi (by omega) hL d_law_799 d_law_800 d_law_801 d_law_802 d_law_803 ?_
  refine LT_arg 2 hi (by omega) hL d_law_804 d_law_805 d_law_806 d_law_807 d_law_808 ?_
  refine LT_arg 3 hi (by omega) hL d_law_809 d_law_810 d_law_811 d_law_812 d_law_813 ?_
  refine LT_arg 4 hi (by omega) hL d_law_814 d_law_815 d_law_816 d_law_817 d_law_818 ?_
  refine LT_call (M' := mX11_gains) [.int (xs (j + 1)), .int (xs (j + 2)), .int (xs (j + 3)), .int (xs (j + 4))] [] d_law_819 ml_law_69 mkX11_gains rfl shp_0 rfl rfl rfl (Nat.zero_le _) (Ev.mono (h_gains H (xs (j + 1)) (xs (j + 2)) (xs (j + 3)) (xs (j + 4))) ?_)
  rintro v sh I1 M1 ⟨r, rfl, rfl, hr⟩
  refine ⟨rfl, trivial, ?_⟩
  refine LT_m d_law_822 ?_
  refine LT_arg 1 hi (by omega) hL d_law_823 d_law_824 d_law_825 d_law_826 d_law_827 ?_
  refine LT_arg 2 hi (by omega) hL d_law_828 d_law_829 d_law_830 d_law_831 d_law_832 ?_
  refine LT_arg 3 hi (by omega) hL d_law_833 d_law_834 d_law_835 d_law_836 d_law_837 ?_
  refine LT_arg 4 hi (by omega) hL d_law_838 d_law_839 d_law_840 d_law_841 d_law_842 ?_
  refine LT_call (M' := mX12_gains) [.int (xs (j + 1)), .int (xs (j + 2)), .int (xs (j + 3)), .int (xs (j + 4))] [.long r] d_law_843 ml_law_73 mkX12_gains rfl shp_58 rfl rfl rfl (Nat.le_of_ble_eq_true rfl) (Ev.mono hr ?_)
  rintro v sh I2 M2 ⟨r2, rfl, rfl, rfl, hI⟩
  refine ⟨rfl, trivial, ?_⟩
  exact LT_sameL (tgt := 2065) d_law_846 d_law_847 (by decide) (k I2 M2 hI)
theorem law_mark {L j : Nat} {xs : Nat → Int32} {i : Int32} {I : st_I} {M : st_L} {W : Nat → Int64} (hi : i = nI j) (hj : j + 8 ≤ L) (hL : L ≤ 4096) (H : Inv W I M) (k : ∀ I2 M2, Inv W I2 M2 → LT L xs i 2065 [] I2 M2) : LT L xs i 852 [] I M := by
  refine LT_x d_law_852 ?_
  refine LT_arg 1 hi (by omega) hL d_law_853 d_law_854 d_law_855 d_law_856 d_law_857 ?_
  refine LT_arg 2 hi (by omega) hL d_law_858 d_law_859 d_law_860 d_law_861 d_law_862 ?_
  refine LT_arg 3 hi (by omega) hL d_law_863 d_law_864 d_law_865 d_law_866 d_law_867 ?_
  refine LT_arg 4 hi (by omega) hL d_law_868 d_law_869 d_law_870 d_law_871 d_law_872 ?_
  refine LT_arg 5 hi (by omega) hL d_law_873 d_law_874 d_law_875 d_law_876 d_law_877 ?_
  refine LT_bool d_law_878 d_law_881 d_law_882 d_law_885 ?_
  refine LT_call (M' := mX11_mark) [.int (xs (j + 1)), .int (xs (j + 2)), .int (xs (j + 3)), .int (xs (j + 4)), .int ((if xs (j + 5) = 0 then (0 : Int32) else 1))] [] d_law_886 ml_law_74 mkX11_mark rfl shp_0 rfl rfl rfl (Nat.zero_le _) (Ev.mono (h_mark H (xs (j + 1)) (xs (j + 2)) (xs (j + 3)) (xs (j + 4)) ((if xs (j + 5) = 0 then (0 : Int32) else 1)) (bo_i _)) ?_)
  rintro v sh I1 M1 ⟨r, rfl, rfl, hr⟩
  refine ⟨rfl, trivial, ?_⟩
  refine LT_m d_law_889 ?_
  refine LT_arg 1 hi (by omega) hL d_law_890 d_law_891 d_law_892 d_law_893 d_law_894 ?_
  refine LT_arg 2 hi (by omega) hL d_law_895 d_law_896 d_law_897 d_law_898 d_law_899 ?_
  refine LT_arg 3 hi (by omega) hL d_law_900 d_law_901 d_law_902 d_law_903 d_law_904 ?_
  refine LT_arg 4 hi (by omega) hL d_law_905 d_law_906 d_law_907 d_law_908 d_law_909 ?_
  refine LT_arg 5 hi (by omega) hL d_law_910 d_law_911 d_law_912 d_law_913 d_law_914 ?_
  refine LT_bool d_law_915 d_law_918 d_law_919 d_law_922 ?_
  refine LT_call (M' := mX12_mark) [.int (xs (j + 1)), .int (xs (j + 2)), .int (xs (j + 3)), .int (xs (j + 4)), .int ((if xs (j + 5) = 0 then (0 : Int32) else 1))] [.int r] d_law_923 ml_law_78 mkX12_mark rfl shp_58 rfl rfl rfl (Nat.le_of_ble_eq_true rfl) (Ev.mono hr ?_)
  rintro v sh I2 M2 ⟨r2, rfl, rfl, rfl, hI⟩
  refine ⟨rfl, trivial, ?_⟩
  exact LT_same (tgt := 2065) d_law_926 (by decide) (k I2 M2 hI)
theorem law_guess {L j : Nat} {xs : Nat → Int32} {i : Int32} {I : st_I} {M : st_L} {W : Nat → Int64} (hi : i = nI j) (hj : j + 8 ≤ L) (hL : L ≤ 4096) (H : Inv W I M) (k : ∀ I2 M2, Inv W I2 M2 → LT L xs i 2065 [] I2 M2) : LT L xs i 931 [] I M := by
  refine LT_x d_law_931 ?_
  refine LT_arg 1 hi (by omega) hL d_law_932 d_law_933 d_law_934 d_law_935 d_law_936 ?_
  refine LT_arg 2 hi (by omega) hL d_law_937 d_law_938 d_law_939 d_law_940 d_law_941 ?_
  refine LT_arg 3 hi (by omega) hL d_law_942 d_law_943 d_law_944 d_law_945 d_law_946 ?_
  refine LT_bool d_law_947 d_law_950 d_law_951 d_law_954 ?_
  refine LT_call (M' := mX11_guess) [.int (xs (j + 1)), .int (xs (j + 2)), .int ((if xs (j + 3) = 0 then (0 : Int32) else 1))] [] d_law_955 ml_law_79 mkX11_guess rfl shp_0 rfl rfl rfl (Nat.zero_le _) (Ev.mono (h_guess H (xs (j + 1)) (xs (j + 2)) ((if xs (j + 3) = 0 then (0 : Int32) else 1)) (bo_i _)) ?_)
  rintro v sh I1 M1 ⟨r, rfl, rfl, hr⟩
  refine ⟨rfl, trivial, ?_⟩
  refine LT_m d_law_958 ?_
  refine LT_arg 1 hi (by omega) hL d_law_959 d_law_960 d_law_961 d_law_962 d_law_963 ?_
  refine LT_arg 2 hi (by omega) hL d_law_964 d_law_965 d_law_966 d_law_967 d_law_968 ?_
  refine LT_arg 3 hi (by omega) hL d_law_969 d_law_970 d_law_971 d_law_972 d_law_973 ?_
  refine LT_bool d_law_974 d_law_977 d_law_978 d_law_981 ?_
  refine LT_call (M' := mX12_guess) [.int (xs (j + 1)), .int (xs (j + 2)), .int ((if xs (j + 3) = 0 then (0 : Int32) else 1))] [.int r] d_law_982 ml_law_83 mkX12_guess rfl shp_58 rfl rfl rfl (Nat.le_of_ble_eq_true rfl) (Ev.mono hr ?_)
  rintro v sh I2 M2 ⟨r2, rfl, rfl, rfl, hI⟩
  refine ⟨rfl, trivial, ?_⟩
  exact LT_same (tgt := 2065) d_law_985 (by decide) (k I2 M2 hI)
theorem law_annul {L j : Nat} {xs : Nat → Int32} {i : Int32} {I : st_I} {M : st_L} {W : Nat → Int64} (hi : i = nI j) (hj : j + 8 ≤ L) (hL : L ≤ 4096) (H : Inv W I M) (k : ∀ I2 M2, Inv W I2 M2 → LT L xs i 2065 [] I2 M2) : LT L xs i 990 [] I M := by
  refine LT_x d_law_990 ?_
  refine LT_arg 1 hi (by omega) hL d_law_991 d_law_992 d_law_993 d_law_994 d_law_995 ?_
  refine LT_call (M' := mX11_annul) [.int (xs (j + 1))] [] d_law_996 ml_law_84 mkX11_annul rfl shp_0 rfl rfl rfl (Nat.zero_le _) (Ev.mono (h_annul H (xs (j + 1))) ?_)
  rintro v sh I1 M1 ⟨r, rfl, rfl, hr⟩
  refine ⟨rfl, trivial, ?_⟩
  refine LT_m d_law_999 ?_
  refine LT_arg 1 hi (by omega) hL d_law_1000 d_law_1001 d_law_1002 d_law_1003 d_law_1004 ?_
  refine LT_call (M' := mX12_annul) [.int (xs (j + 1))] [.int r] d_law_1005 ml_law_87 mkX12_annul rfl shp_58 rfl rfl rfl (Nat.le_of_ble_eq_true rfl) (Ev.mono hr ?_)
  rintro v sh I2 M2 ⟨r2, rfl, rfl, rfl, hI⟩
  refine ⟨rfl, trivial, ?_⟩
  exact LT_same (tgt := 2065) d_law_1008 (by decide) (k I2 M2 hI)
theorem law_fact {L j : Nat} {xs : Nat → Int32} {i : Int32} {I : st_I} {M : st_L} {W : Nat → Int64} (hi : i = nI j) (hj : j + 8 ≤ L) (hL : L ≤ 4096) (H : Inv W I M) (k : ∀ I2 M2, Inv W I2 M2 → LT L xs i 2065 [] I2 M2) : LT L xs i 1013 [] I M := by
  refine LT_x d_law_1013 ?_
  refine LT_arg 1 hi (by omega) hL d_law_1014 d_law_1015 d_law_1016 d_law_1017 d_law_1018 ?_
  refine LT_arg 2 hi (by omega) hL d_law_1019 d_law_1020 d_law_1021 d_law_1022 d_law_1023 ?_
  refine LT_call (M' := mX11_fact) [.int (xs (j + 1)), .int (xs (j + 2))] [] d_law_1024 ml_law_88 mkX11_fact rfl shp_0 rfl rfl rfl (Nat.zero_le _) (Ev.mono (h_fact H (xs (j + 1)) (xs (j + 2))) ?_)
  rintro v sh I1 M1 ⟨r, rfl, rfl, hr⟩
  refine ⟨rfl, trivial, ?_⟩
  refine LT_m d_law_1027 ?_
  refine LT_arg 1 hi (by omega) hL d_law_1028 d_law_1029 d_law_1030 d_law_1031 d_law_1032 ?_
  refine LT_arg 2 hi (by omega) hL d_law_1033 d_law_1034 d_law_1035 d_law_1036 d_law_1037 ?_
  refine LT_call (M' := mX12_fact) [.int (xs (j + 1)), .int (xs (j + 2))] [.int r] d_law_1038 ml_law_91 mkX12_fact rfl shp_58 rfl rfl rfl (Nat.le_of_ble_eq_true rfl) (Ev.mono hr ?_)
  rintro v sh I2 M2 ⟨r2, rfl, rfl, rfl, hI⟩
  refine ⟨rfl, trivial, ?_⟩
  exact LT_same (tgt := 2065) d_law_1041 (by decide) (k I2 M2 hI)
