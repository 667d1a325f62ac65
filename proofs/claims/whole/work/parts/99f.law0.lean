/-! THE CLAIM OUT OF ONE WALK OF THE LAW'S BODY. Your part is whole_start (and what it stands on); all else here is the same for every law, but numbers. -/
def R_law : String := "BlindFiddlesLaw"
def lw_P (b : Addr) (xs : List Int32) (args : Array Value) (s : State) : Prop := args = #[.ref b] ∧ s.IntsAt b xs ∧ xs.length ≤ 4096 ∧ (Jvm.Cond.and given_1 narrow_1).before args s = true
def lw_Q (_ : Array Value) (s : State) (o : Outcome) (t : State) : Prop := o = .returned (some (.int 1)) ∧ Framed s o t [] 600000 7302250
def lw_Z (below : List Frame) (a : Array Value) (s : State) : State → Prop := fun t => ∃ o, t.status = .running ∧ Ended t below o ∧ lw_Q a s o t
/-- the law's own end, with 1 on the stack, nothing written that was there before, its room as the claim has it -/
theorem lw_ret {p : Program} {l : Launch} {e : Env} {s : State} {m : MethodId} {below : List Frame} {meth : Method} {c : Code} {b : Nat} (hx : p.tables.exec = Jvm.exec) (hb : c.code = code) (hr : meth.sig.returnType = ret) (hlocks : meth.locks = false) {pc : Nat} {H : Heap} {ls : Array Slot} (hdg : decode code pc = .ok (.ireturn, 1)) : W p l e room_1 s m #[Value.ref b] below meth c H [] 600000 7302250 (lw_Z below #[Value.ref b] s) (F0 m pc ls [.int 1]) := by
  intro T hT X
  obtain ⟨fs, hret, hrun, hended, hW, hframe⟩ := X.leave (v := some (.int 1)) (hlocks := hlocks) (fun h => by rw [hr] at h; cases h)
  have hmeth' : T.vm.method? m = some meth := X.method'
  refine ⟨T.setFrames fs, ?_, .returned (some (.int 1)), hrun, hended, rfl, ⟨_, rfl⟩, hW, hframe⟩
  jvm_step X.here [X.here.top, hx, hb, hdg, hmeth', hr, ret, narrow_b1]
  (try refine ⟨rfl, ?_⟩); (try refine ⟨rfl, ?_⟩)
  first | (intro acts; rw [hret _ acts rfl rfl rfl]) | rw [hret _ _ rfl rfl rfl]
  exact Steps.refl _
/-- what holds at the law's entry: the machine, the code, the tables' words (any of lw_tbl by 'hts w (by decide +kernel)'), the script of L ints xs at the cell b, what the Statement gives of the start (any of its parts by flat_of_before) -/
def lw_At (p : Program) (s : State) (m : MethodId) (meth : Method) (c : Code) (b L : Nat) (xs : Nat → Int32) : Prop :=
  p.tables.exec = Jvm.exec ∧ c.code = code ∧ meth.sig.returnType = ret ∧ c.maxLocals = 4 ∧ s.vm.findClass R_law = some m.cls ∧ (∀ w ∈ lw_tbl, w.before #[Value.ref b] s = true) ∧ va_X b L xs s s.heap ∧ b < s.heap.size ∧ meth.locks = false ∧ (Jvm.Cond.and given_1 narrow_1).before #[Value.ref b] s = true
/-! the same world, called otherwise; the law's rows -/
def adX (ad : Nat → Nat) : Nat → Nat := fun q => ad (sgX q)
theorem w_P_re {D : va_G} {cy : Nat → ClassId} {ad : Nat → Nat} {I : st_I} {M : st_L} {H : Heap} (h : va_P D tq_cl (w_D cy ad shq I M) H) : va_P D tq_cl (w_D cy (adX ad) shp (fun q => I (sgX q)) (fun q => M (sgX q))) H := by
  refine h.by sgX (fun k q hk => ?_)
  rw [w_go_at] at hk ⊢
  rw [Nat.zero_add] at hk ⊢
  have hk114 : k < 114 := by
    rcases Nat.lt_or_ge k 114 with z | z
    · exact z
    · rw [List.getElem?_eq_none (show shp.length ≤ k from z)] at hk
      exact absurd hk (by simp)
  rw [shq_re hk114]
  cases hs : shp[k]? with
  | none => rw [hs] at hk; exact absurd hk (by simp)
  | some x =>
    rw [hs] at hk
    rw [Option.map_some, Option.map_some]
    rw [Option.map_some] at hk
    rw [← Option.some.inj hk, c_of_re]
    rfl
theorem adX_inj {ad : Nat → Nat} (h : tq_inj ad 114) : tq_inj (adX ad) 114 := by
  intro i j hi hj e
  have := h _ _ ((sgX_lt (by decide)).mpr hi) ((sgX_lt (by decide)).mpr hj) e
  have := congrArg sgX this
  rwa [sgX_sgX, sgX_sgX] at this
theorem adX_A {ad : Nat → Nat} : tq_A (adX ad) 114 = tq_A ad 114 := by
  funext q
  refine propext ⟨fun ⟨k, hk, e⟩ => ⟨sgX k, (sgX_lt (by decide)).mpr hk, e⟩, fun ⟨k, hk, e⟩ => ⟨sgX k, (sgX_lt (by decide)).mpr hk, by unfold adX; rw [sgX_sgX]; exact e⟩⟩
theorem adX_str {ad : Nat → Nat} {A : Nat → Prop} {U : State} (h : tq_str ad A U) : tq_str (adX ad) A U := by
  have e : ∀ i, 16 < i → adX ad i = ad i := fun i hi => by unfold adX; rw [sgX_hi hi]
  unfold tq_str at h ⊢
  rw [show (fun i => adX ad (1000 + i)) = (fun i => ad (1000 + i)) from funext (fun i => e _ (by omega)), show (fun i => adX ad (1010 + i)) = (fun i => ad (1010 + i)) from funext (fun i => e _ (by omega)), e 1000 (by decide), e 1001 (by decide)]
  exact h
def LC (p : Program) (s : State) (m : MethodId) (meth : Method) (c : Code) (b L : Nat) (xs : Nat → Int32) (D : va_G) (cy : Nat → ClassId) (ad : Nat → Nat) : Prop := lw_At p s m meth c b L xs ∧ va_K D tq_cl (tq_ty cy) s ∧ tq_inj ad 114 ∧ tq_str ad (fun q => s.heap.size ≤ q) s ∧ ∀ k, k < 114 → s.heap.size ≤ ad k
theorem LC.re {p : Program} {s : State} {m : MethodId} {meth : Method} {c : Code} {b L : Nat} {xs : Nat → Int32} {D : va_G} {cy : Nat → ClassId} {ad : Nat → Nat} (C : LC p s m meth c b L xs D cy ad) : LC p s m meth c b L xs D cy (adX ad) := ⟨C.1, C.2.1, adX_inj C.2.2.1, adX_str C.2.2.2.1, fun k hk => C.2.2.2.2 _ ((sgX_lt (by decide)).mpr hk)⟩
/-- the law stands at pc, with the int i of its loop -/
def LT (L : Nat) (xs : Nat → Int32) (i : Int32) (pc : Nat) (st : List Value) (I : st_I) (M : st_L) : Prop := ∀ (p : Program) (l : Launch) (e : Env) (s : State) (m : MethodId) (below : List Frame) (meth : Method) (c : Code) (b : Nat) (D : va_G) (cy : Nat → ClassId) (ad : Nat → Nat) (H : Heap) (locs : List Loc) (ls : Array Slot), LC p s m meth c b L xs D cy ad → va_P D tq_cl (w_D cy ad shp I M) H → va_S (fun q => s.heap.size ≤ q) s.heap H locs → lv_has ls 4 [(0, .ref b), (1, .ref (ad 0)), (2, .ref (ad 58)), (3, .int i)] → W p l e room_1 s m #[Value.ref b] below meth c H locs 600000 7302250 (lw_Z below #[Value.ref b] s) (F0 m pc ls (st.map (tq_v ad)))
theorem LT_iload {L pc : Nat} {xs : Nat → Int32} {i : Int32} {st : List Value} {I : st_I} {M : st_L} (hd : decode code pc = .ok (.iload_n 3, 1)) (k : LT L xs i (pc + 1) (.int i :: st) I M) : LT L xs i pc st I M := by
  intro p l e s m below meth c b D cy ad H locs ls C hP hS hl
  exact lv_iload_n C.1.1 C.1.2.1 hd rfl (lv_at hl 3 rfl) (k p l e s m below meth c b D cy ad H locs ls C hP hS hl)
theorem LT_x {L pc : Nat} {xs : Nat → Int32} {i : Int32} {st : List Value} {I : st_I} {M : st_L} (hd : decode code pc = .ok (.aload_n 1, 1)) (k : LT L xs i (pc + 1) (.ref 0 :: st) I M) : LT L xs i pc st I M := by
  intro p l e s m below meth c b D cy ad H locs ls C hP hS hl
  exact lv_aload_n C.1.1 C.1.2.1 hd rfl (lv_at hl 1 rfl) (k p l e s m below meth c b D cy ad H locs ls C hP hS hl)
theorem LT_m {L pc : Nat} {xs : Nat → Int32} {i : Int32} {st : List Value} {I : st_I} {M : st_L} (hd : decode code pc = .ok (.aload_n 2, 1)) (k : LT L xs i (pc + 1) (.ref 58 :: st) I M) : LT L xs i pc st I M := by
  intro p l e s m below meth c b D cy ad H locs ls C hP hS hl
  exact lv_aload_n C.1.1 C.1.2.1 hd rfl (lv_at hl 2 rfl) (k p l e s m below meth c b D cy ad H locs ls C hP hS hl)
theorem LT_iconst {L pc : Nat} {xs : Nat → Int32} {i v : Int32} {n : Int} {st : List Value} {I : st_I} {M : st_L} (hd : decode code pc = .ok (.iconst n, 1)) (hv : Int32.ofInt n = v) (k : LT L xs i (pc + 1) (.int v :: st) I M) : LT L xs i pc st I M := by
  intro p l e s m below meth c b D cy ad H locs ls C hP hS hl
  exact lv_iconst C.1.1 C.1.2.1 hd hv (k p l e s m below meth c b D cy ad H locs ls C hP hS hl)
theorem LT_bipush {L pc : Nat} {xs : Nat → Int32} {i v : Int32} {n : Int} {st : List Value} {I : st_I} {M : st_L} (hd : decode code pc = .ok (.bipush n, 2)) (hv : (Int8.ofInt n).toInt32 = v) (k : LT L xs i (pc + 2) (.int v :: st) I M) : LT L xs i pc st I M := by
  intro p l e s m below meth c b D cy ad H locs ls C hP hS hl
  exact lv_bipush C.1.1 C.1.2.1 hd hv (k p l e s m below meth c b D cy ad H locs ls C hP hS hl)
theorem LT_goto {L pc tgt : Nat} {xs : Nat → Int32} {i : Int32} {off : Int} {st : List Value} {I : st_I} {M : st_L} (hd : decode code pc = .ok (.goto off, 3)) (ht : (pc : Int) + off = (tgt : Int)) (k : LT L xs i tgt st I M) : LT L xs i pc st I M := by
  intro p l e s m below meth c b D cy ad H locs ls C hP hS hl
  exact lv_goto C.1.1 C.1.2.1 hd ht (k p l e s m below meth c b D cy ad H locs ls C hP hS hl)
theorem LT_if_eq {L pc tgt : Nat} {xs : Nat → Int32} {i x : Int32} {off : Int} {st : List Value} {I : st_I} {M : st_L} (hd : decode code pc = .ok (.ifCond .eq off, 3)) (ht : (pc : Int) + off = (tgt : Int)) (k1 : x = 0 → LT L xs i tgt st I M) (k2 : ¬ x = 0 → LT L xs i (pc + 3) st I M) : LT L xs i pc (.int x :: st) I M := by
  intro p l e s m below meth c b D cy ad H locs ls C hP hS hl
  exact lv_if_eq C.1.1 C.1.2.1 hd ht (fun g => k1 g p l e s m below meth c b D cy ad H locs ls C hP hS hl) (fun g => k2 g p l e s m below meth c b D cy ad H locs ls C hP hS hl)
/-- the two answers are alike -/
theorem LT_same {L pc tgt : Nat} {xs : Nat → Int32} {i x : Int32} {off : Int} {st : List Value} {I : st_I} {M : st_L} (hd : decode code pc = .ok (.if_icmp .eq off, 3)) (ht : (pc : Int) + off = (tgt : Int)) (k : LT L xs i tgt st I M) : LT L xs i pc (.int x :: .int x :: st) I M := by
  intro p l e s m below meth c b D cy ad H locs ls C hP hS hl
  exact lv_icmp_eq C.1.1 C.1.2.1 hd ht (fun g => k p l e s m below meth c b D cy ad H locs ls C hP hS hl) (fun g => absurd rfl g)
theorem LT_sameL {L pc tgt : Nat} {xs : Nat → Int32} {i : Int32} {x : Int64} {off : Int} {st : List Value} {I : st_I} {M : st_L} (hd1 : decode code pc = .ok (.lcmp, 1)) (hd : decode code (pc + 1) = .ok (.ifCond .eq off, 3)) (ht : ((pc + 1 : Nat) : Int) + off = (tgt : Int)) (k : LT L xs i tgt st I M) : LT L xs i pc (.long x :: .long x :: st) I M := by
  intro p l e s m below meth c b D cy ad H locs ls C hP hS hl
  refine W.lcmp C.1.1 C.1.2.1 hd1 ?_
  have h0 : lg_cmp x x = 0 := (lg_cmp_eq _ _).mpr rfl
  rw [h0]
  exact lv_if_eq C.1.1 C.1.2.1 hd ht (fun g => k p l e s m below meth c b D cy ad H locs ls C hP hS hl) (fun g => absurd rfl g)
theorem LT_iadd {L pc : Nat} {xs : Nat → Int32} {i x y : Int32} {st : List Value} {I : st_I} {M : st_L} (hd : decode code pc = .ok (.iadd, 1)) (k : LT L xs i (pc + 1) (.int (x + y) :: st) I M) : LT L xs i pc (.int y :: .int x :: st) I M := by
  intro p l e s m below meth c b D cy ad H locs ls C hP hS hl
  exact lv_iadd C.1.1 C.1.2.1 hd (k p l e s m below meth c b D cy ad H locs ls C hP hS hl)
/-- an int of the script -/
theorem LT_arg {L pc j : Nat} {xs : Nat → Int32} {i : Int32} {st : List Value} {I : st_I} {M : st_L} (n : Nat) (hi : i = nI j) (hj : j + n < L) (hL : L ≤ 4096) (d0 : decode code pc = .ok (.aload_n 0, 1)) (d1 : decode code (pc + 1) = .ok (.iload_n 3, 1)) (d2 : decode code (pc + 2) = .ok (.iconst n, 1)) (d3 : decode code (pc + 3) = .ok (.iadd, 1)) (d4 : decode code (pc + 4) = .ok (.iaload, 1)) (k : LT L xs i (pc + 5) (.int (xs (j + n)) :: st) I M) : LT L xs i pc st I M := by
  intro p l e s m below meth c b D cy ad H locs ls C hP hS hl
  have hbA : ¬ (fun q : Nat => s.heap.size ≤ q) b := Nat.not_le.mpr C.1.2.2.2.2.2.2.2.1
  refine lv_aload_n C.1.1 C.1.2.1 d0 rfl (lv_at hl 0 rfl) ?_
  refine lv_iload_n C.1.1 C.1.2.1 d1 rfl (lv_at hl 3 rfl) ?_
  refine lv_iconst (v := nI n) C.1.1 C.1.2.1 d2 rfl ?_
  refine lv_iadd C.1.1 C.1.2.1 d3 ?_
  rw [hi, nI_add]
  refine va_sld C.1.1 C.1.2.1 C.1.2.2.2.2.2.2.1 C.1.2.2.2.2.2.2.2.1 hbA hS (vp_in_nI hj (by omega)) d4 ?_
  rw [nI_clamp (by omega)]
  subst hi
  exact k p l e s m below meth c b D cy ad H locs ls C hP hS hl
theorem LT_argb {L pc j : Nat} {xs : Nat → Int32} {i : Int32} {st : List Value} {I : st_I} {M : st_L} (n : Nat) (hi : i = nI j) (hj : j + n < L) (hL : L ≤ 4096) (hn : (Int8.ofInt n).toInt32 = nI n) (d0 : decode code pc = .ok (.aload_n 0, 1)) (d1 : decode code (pc + 1) = .ok (.iload_n 3, 1)) (d2 : decode code (pc + 2) = .ok (.bipush n, 2)) (d3 : decode code (pc + 4) = .ok (.iadd, 1)) (d4 : decode code (pc + 5) = .ok (.iaload, 1)) (k : LT L xs i (pc + 6) (.int (xs (j + n)) :: st) I M) : LT L xs i pc st I M := by
  intro p l e s m below meth c b D cy ad H locs ls C hP hS hl
  have hbA : ¬ (fun q : Nat => s.heap.size ≤ q) b := Nat.not_le.mpr C.1.2.2.2.2.2.2.2.1
  refine lv_aload_n C.1.1 C.1.2.1 d0 rfl (lv_at hl 0 rfl) ?_
  refine lv_iload_n C.1.1 C.1.2.1 d1 rfl (lv_at hl 3 rfl) ?_
  refine lv_bipush (v := nI n) C.1.1 C.1.2.1 d2 hn ?_
  refine lv_iadd C.1.1 C.1.2.1 d3 ?_
  rw [hi, nI_add]
  refine va_sld C.1.1 C.1.2.1 C.1.2.2.2.2.2.2.1 C.1.2.2.2.2.2.2.2.1 hbA hS (vp_in_nI hj (by omega)) d4 ?_
  rw [nI_clamp (by omega)]
  subst hi
  exact k p l e s m below meth c b D cy ad H locs ls C hP hS hl
