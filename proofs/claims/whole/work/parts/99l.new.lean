/-! constructors: rows over a world that grows. h0 is the object's cell, fs its fields, ws what else it holds -/
def NC (M : mi_T) (p : Program) (s : State) (m : MethodId) (args : Array Value) (meth : Method) (c : Code) (D : va_G) (cy : Nat → ClassId) (A : Nat → Prop) : Prop := p.tables.exec = Jvm.exec ∧ c.code = M.2.1 ∧ c.maxLocals = M.2.2.1 ∧ meth.sig.returnType = none ∧ meth.locks = false ∧ s.vm.findClass M.1.cls = some m.cls ∧ (∀ w ∈ tq_ws M, w.before args s = true) ∧ va_K D tq_cl (tq_ty cy) s ∧ meth.name = "<init>" ∧ ∀ q, s.heap.size ≤ q → A q
def NW (p : Program) (l : Launch) (e : Env) (R : Room) (s : State) (m : MethodId) (args : Array Value) (below : List Frame) (meth : Method) (c : Code) (D : va_G) (A : Nat → Prop) (Q : State → Prop) (ls : Array Slot) (h0 ci cells slots pc : Nat) (fs : List Value) (ws : va_W) (st : List Value) : Prop := ∀ (H : Heap) (locs : List Loc), va_P D tq_cl ((h0, .inr (ci, fs)) :: ws) H → va_D A ((h0, .inr (ci, fs)) :: ws) → va_S A s.heap H locs → W p l e R s m args below meth c H locs cells slots Q (F0 m pc ls st)
section NR
variable {M : mi_T} {p : Program} {l : Launch} {e : Env} {R : Room} {s : State} {m : MethodId} {args : Array Value} {below : List Frame} {meth : Method} {c : Code} {D : va_G} {cy : Nat → ClassId} {A : Nat → Prop} {Q : State → Prop} {ls : Array Slot} {h0 ci cells slots pc : Nat} {fs : List Value} {ws : va_W} {st : List Value}
theorem NW_ld {nL : Nat} (C : NC M p s m args meth c D cy A) (hl : lv_has ls nL [(0, .ref h0)]) (hd : decode M.2.1 pc = .ok (.aload_n 0, 1)) (k : NW p l e R s m args below meth c D A Q ls h0 ci cells slots (pc + 1) fs ws (.ref h0 :: st)) : NW p l e R s m args below meth c D A Q ls h0 ci cells slots pc fs ws st := by
  intro H locs hP hD hS
  exact lv_aload_n C.1 C.2.1 hd rfl (lv_at hl 0 rfl) (k H locs hP hD hS)
theorem NW_sipush {n : Int} {v : Int32} (C : NC M p s m args meth c D cy A) (hd : decode M.2.1 pc = .ok (.sipush n, 3)) (hv : (Int16.ofInt n).toInt32 = v) (k : NW p l e R s m args below meth c D A Q ls h0 ci cells slots (pc + 3) fs ws (.int v :: st)) : NW p l e R s m args below meth c D A Q ls h0 ci cells slots pc fs ws st := by
  intro H locs hP hD hS
  exact lv_sipush C.1 C.2.1 hd hv (k H locs hP hD hS)
theorem NW_bipush {n : Int} {v : Int32} (C : NC M p s m args meth c D cy A) (hd : decode M.2.1 pc = .ok (.bipush n, 2)) (hv : (Int8.ofInt n).toInt32 = v) (k : NW p l e R s m args below meth c D A Q ls h0 ci cells slots (pc + 2) fs ws (.int v :: st)) : NW p l e R s m args below meth c D A Q ls h0 ci cells slots pc fs ws st := by
  intro H locs hP hD hS
  exact lv_bipush C.1 C.2.1 hd hv (k H locs hP hD hS)
theorem NW_iconst {n : Int} {v : Int32} (C : NC M p s m args meth c D cy A) (hd : decode M.2.1 pc = .ok (.iconst n, 1)) (hv : Int32.ofInt n = v) (k : NW p l e R s m args below meth c D A Q ls h0 ci cells slots (pc + 1) fs ws (.int v :: st)) : NW p l e R s m args below meth c D A Q ls h0 ci cells slots pc fs ws st := by
  intro H locs hP hD hS
  exact lv_iconst C.1 C.2.1 hd hv (k H locs hP hD hS)
theorem NW_dup {v : Value} (C : NC M p s m args meth c D cy A) (hd : decode M.2.1 pc = .ok (.dup, 1)) (hv : v.category = 1) (k : NW p l e R s m args below meth c D A Q ls h0 ci cells slots (pc + 1) fs ws (v :: v :: st)) : NW p l e R s m args below meth c D A Q ls h0 ci cells slots pc fs ws (v :: st) := by
  intro H locs hP hD hS
  exact lv_dup C.1 C.2.1 hd hv (k H locs hP hD hS)
theorem NW_obj {idx : Nat} (C : NC M p s m args meth c D cy A) (hl : lv_has ls M.2.2.1 [(0, .ref h0)]) (h1 : Cond.methodLink M.1.cls idx objectInit ∈ tq_tbl) (h2 : Cond.instanceMethod objectInit ∈ tq_tbl) (h3 : Cond.code objectInit ⟨#[0xb1]⟩ 1 none ∈ tq_tbl) (hd : decode M.2.1 pc = .ok (.invokespecial idx, 3)) (hR1 : 1 ≤ R.frames) (hR2 : 12 ≤ R.locals) (k : NW p l e R s m args below meth c D A Q ls h0 ci cells slots (pc + 3) fs ws []) : NW p l e R s m args below meth c D A Q ls h0 ci cells slots pc fs ws [.ref h0] := by
  intro H locs hP hD hS
  refine W.objInit C.1 C.2.1 C.2.2.2.2.2.1 (tq_wd C.2.2.2.2.2.2.1 h1) (tq_wd C.2.2.2.2.2.2.1 h2) (tq_wd C.2.2.2.2.2.2.1 h3) rfl (by rw [C.2.2.1]; exact hl.1) rfl hd ?_ ?_ (W.eq (g2 := F0 m (pc + 3) ls []) rfl (k H locs hP hD hS))
  · exact hR1
  · exact Nat.le_trans (m := 12) (Nat.le_of_ble_eq_true rfl) hR2
theorem NW_arr {atype : ArrayType} {ty : FieldType} {k0 : Nat} {n : Int32} {N : Nat} {a0 : vp_A} (C : NC M p s m args meth c D cy A) (hty : newarray.typeOf atype = ty) (hw : Cond.arrayClass ty ∈ tq_tbl) (hk : ∀ x, s.vm.findClass ("[" ++ ty.toString) = some x → x = cy k0) (ha : ∀ cA : ClassId, vp_cell cA a0 = arrV cA N (fun _ => defaultValue ty)) (hn : ¬ n < 0) (hN : n.toNatClampNeg = N) (hb : N * componentBytes ty ≤ 536870912) (hc : cells + 1 ≤ R.cells) (hs : slots + N ≤ R.slots) (hd : decode M.2.1 pc = .ok (.newarray atype, 2)) (k : ∀ q, NW p l e R s m args below meth c D A Q ls h0 ci (cells + 1) (slots + N) (pc + 2) fs (ws ++ [(q, .inl (cy k0, a0))]) (.ref q :: st)) : NW p l e R s m args below meth c D A Q ls h0 ci cells slots pc fs ws (.int n :: st) := by
  intro H locs hP hD hS
  subst hty
  refine va_newaK C.1 C.2.1 (tq_wd C.2.2.2.2.2.2.1 hw) rfl hd rfl hn hN hb hc hs rfl fun H1 cA e1 z1 o1 hAr hNm => ?_
  have ec := hk cA hNm
  subst ec
  have hkk : ∀ (k : Nat) (x : Nat × va_E), ((h0, Sum.inr (ci, fs)) :: ws : va_W)[k]? = some x → H1[x.1]? = H[x.1]? := fun k x hx => o1 x.1 ((hP k x hx).lt)
  refine k H.size H1 locs ((hP.kept hkk).app (fun k x hx => ?_)) (hD.push hP rfl (C.2.2.2.2.2.2.2.2.2 _ hS.1)) ⟨Nat.le_trans hS.1 (by omega), fun x h1 h2 => (o1 x (Nat.lt_of_lt_of_le h1 hS.1)).trans (hS.2.1 x h1 h2), hS.2.2⟩
  have hz : k < 1 := (List.getElem?_eq_some_iff.mp hx).1
  rw [show k = 0 by omega] at hx
  cases hx
  show H1[H.size]? = some (vp_cell _ _)
  rw [ha]
  exact e1
theorem NC.arr {k : Nat} {ty : FieldType} (C : NC M p s m args meth c D cy A) (hk : (tq_ty cy)[k]? = some (cy k, ty)) (hr : va_RA s (cy k) ty = (s.vm.findClass ("[" ++ ty.toString) = some (cy k))) : ∀ x, s.vm.findClass ("[" ++ ty.toString) = some x → x = cy k := by
  intro x hx
  have := (C.2.2.2.2.2.2.2.1.2 k _ hk).2
  rw [hr] at this
  rw [hx] at this
  exact Option.some.inj this
theorem NW_arrI {n : Int32} (N : Nat) (C : NC M p s m args meth c D cy A) (hw : Cond.arrayClass .int ∈ tq_tbl) (hn : ¬ n < 0) (hN : n.toNatClampNeg = N) (hb : N * 4 ≤ 536870912) (hc : cells + 1 ≤ R.cells) (hs : slots + N ≤ R.slots) (hd : decode M.2.1 pc = .ok (.newarray .int, 2)) (k : ∀ q, NW p l e R s m args below meth c D A Q ls h0 ci (cells + 1) (slots + N) (pc + 2) fs (ws ++ [(q, .inl (cy 0, N, .inl (fun _ => 0)))]) (.ref q :: st)) : NW p l e R s m args below meth c D A Q ls h0 ci cells slots pc fs ws (.int n :: st) :=
  NW_arr (ty := .int) (k0 := 0) (a0 := (N, .inl (fun _ => 0))) C rfl hw (C.arr rfl rfl) (fun _ => rfl) hn hN hb hc hs hd k
theorem NW_arrB {n : Int32} (N : Nat) (C : NC M p s m args meth c D cy A) (hw : Cond.arrayClass .byte ∈ tq_tbl) (hn : ¬ n < 0) (hN : n.toNatClampNeg = N) (hb : N * 1 ≤ 536870912) (hc : cells + 1 ≤ R.cells) (hs : slots + N ≤ R.slots) (hd : decode M.2.1 pc = .ok (.newarray .byte, 2)) (k : ∀ q, NW p l e R s m args below meth c D A Q ls h0 ci (cells + 1) (slots + N) (pc + 2) fs (ws ++ [(q, .inl (cy 1, N, .inl (fun _ => 0)))]) (.ref q :: st)) : NW p l e R s m args below meth c D A Q ls h0 ci cells slots pc fs ws (.int n :: st) :=
  NW_arr (ty := .byte) (k0 := 1) (a0 := (N, .inl (fun _ => 0))) C rfl hw (C.arr rfl rfl) (fun _ => rfl) hn hN hb hc hs hd k
theorem NW_arrZ {n : Int32} (N : Nat) (C : NC M p s m args meth c D cy A) (hw : Cond.arrayClass .boolean ∈ tq_tbl) (hn : ¬ n < 0) (hN : n.toNatClampNeg = N) (hb : N * 1 ≤ 536870912) (hc : cells + 1 ≤ R.cells) (hs : slots + N ≤ R.slots) (hd : decode M.2.1 pc = .ok (.newarray .boolean, 2)) (k : ∀ q, NW p l e R s m args below meth c D A Q ls h0 ci (cells + 1) (slots + N) (pc + 2) fs (ws ++ [(q, .inl (cy 2, N, .inl (fun _ => 0)))]) (.ref q :: st)) : NW p l e R s m args below meth c D A Q ls h0 ci cells slots pc fs ws (.int n :: st) :=
  NW_arr (ty := .boolean) (k0 := 2) (a0 := (N, .inl (fun _ => 0))) C rfl hw (C.arr rfl rfl) (fun _ => rfl) hn hN hb hc hs hd k
theorem NW_arrJ {n : Int32} (N : Nat) (C : NC M p s m args meth c D cy A) (hw : Cond.arrayClass .long ∈ tq_tbl) (hn : ¬ n < 0) (hN : n.toNatClampNeg = N) (hb : N * 8 ≤ 536870912) (hc : cells + 1 ≤ R.cells) (hs : slots + N ≤ R.slots) (hd : decode M.2.1 pc = .ok (.newarray .long, 2)) (k : ∀ q, NW p l e R s m args below meth c D A Q ls h0 ci (cells + 1) (slots + N) (pc + 2) fs (ws ++ [(q, .inl (cy 3, N, .inr (.inl (fun _ => 0))))]) (.ref q :: st)) : NW p l e R s m args below meth c D A Q ls h0 ci cells slots pc fs ws (.int n :: st) :=
  NW_arr (ty := .long) (k0 := 3) (a0 := (N, .inr (.inl (fun _ => 0)))) C rfl hw (C.arr rfl rfl) (fun _ => rfl) hn hN hb hc hs hd k
/-- a field of the object itself -/
def tq_pg (own : String) (ci k : Nat) (fin : Bool) (ty : FieldType) : Prop := ∃ r : vw_C, tq_cl[ci]? = some r ∧ (r.2.1 k).2.2.2 = fin ∧ parseFieldDescriptor (r.2.1 k).2.2.1 = some ty ∧ r.1 = own
theorem NW_put {idx k0 : Nat} {ty : FieldType} {v : Value} {fin : Bool} (C : NC M p s m args meth c D cy A) (hf : tq_fl M.1.cls idx ci k0) (hp : tq_pg M.1.cls ci k0 fin ty) (hn : narrow ty v = v) (hfit : fits ty v = true) (hl : k0 < fs.length) (hd : decode M.2.1 pc = .ok (.putfield idx, 3)) (k : NW p l e R s m args below meth c D A Q ls h0 ci cells slots (pc + 3) (fs.set k0 v) ws st) : NW p l e R s m args below meth c D A Q ls h0 ci cells slots pc fs ws (v :: .ref h0 :: st) := by
  intro H locs hP hD hS
  obtain ⟨r, h1, h2, h3, h4⟩ := hf
  obtain ⟨r', g1, g2, g3, g4⟩ := hp
  obtain rfl : r = r' := Option.some.inj (h1.symm.trans g1)
  obtain ⟨ty0, hty, hnm⟩ := tq_cl_ok ci r h1
  cases fin with
  | true => exact va_putF C.1 C.2.1 C.2.2.2.2.2.2.1 (fun w hw => List.mem_cons_of_mem _ (tq_ws_in ci r h1 w hw)) ty0 hty hnm C.2.2.2.2.2.1 C.2.2.2.2.2.2.2.1 hP hD hS 0 rfl h1 k0 h2 (tq_wd C.2.2.2.2.2.2.1 h4) (fun _ h9 => by rw [h3] at h9; exact h9) g2 C.2.2.2.2.2.2.2.2.1 (h3.trans g4) g3 hn hfit hl hd (fun H1 locs1 hP1 hD1 hS1 => k H1 locs1 hP1 hD1 hS1)
  | false => exact va_put C.1 C.2.1 C.2.2.2.2.2.2.1 (fun w hw => List.mem_cons_of_mem _ (tq_ws_in ci r h1 w hw)) ty0 hty hnm C.2.2.2.2.2.1 C.2.2.2.2.2.2.2.1 hP hD hS 0 rfl h1 k0 h2 (tq_wd C.2.2.2.2.2.2.1 h4) (fun _ h9 => by rw [h3] at h9; exact h9) g2 g3 hn hfit hl hd (fun H1 locs1 hP1 hD1 hS1 => k H1 locs1 hP1 hD1 hS1)
end NR
/-- a constructor's contract: B says what the world is behind it -/
def NEv (M : mi_T) (rm : Room) (ci : Nat) (fs0 : List Value) (G : (Nat → Prop) → State → Prop) (B : Nat → (Nat → ClassId) → va_W → Prop) : Prop := ∀ (l : Launch) (D : va_G) (cy : Nat → ClassId) (h0 sz : Nat), Met l M.1 (tq_ws M) rm (va_Pc [.ref h0] (fun U => U.heap.size = sz ∧ va_P D tq_cl [(h0, .inr (ci, fs0))] U.heap ∧ va_K D tq_cl (tq_ty cy) U ∧ va_D (fun _ => True) [(h0, (.inr (ci, fs0) : va_E))] ∧ G (va_A [(h0, .inr (ci, fs0))] sz) U)) (va_Qv (fun ws : va_W => B h0 cy ws) (fun ws t => va_P D tq_cl ws t.heap ∧ va_D (va_A [(h0, .inr (ci, fs0))] sz) ws) (va_A [(h0, .inr (ci, fs0))] sz)) rm.cells rm.slots (va_A [(h0, .inr (ci, fs0))] sz)
theorem NEv_of {M : mi_T} {rm : Room} {ci : Nat} {fs0 : List Value} {G : (Nat → Prop) → State → Prop} {B : Nat → (Nat → ClassId) → va_W → Prop} (hp : plainName M.1.cls = true) (hn : M.1.name = "<init>") (hr : M.2.2.2 = none) (hm : 1 ≤ M.2.2.1) (h : ∀ (p : Program) (l : Launch) (e : Env) (s : State) (m : MethodId) (args : Array Value) (below : List Frame) (meth : Method) (c : Code) (D : va_G) (cy : Nat → ClassId) (A : Nat → Prop) (ls : Array Slot) (h0 : Nat), NC M p s m args meth c D cy A → G A s → lv_has ls M.2.2.1 [(0, .ref h0)] → NW p l e rm s m args below meth c D A (MQ below (va_Qv (fun ws : va_W => B h0 cy ws) (fun ws t => va_P D tq_cl ws t.heap ∧ va_D A ws) A) args s rm.cells rm.slots A) ls h0 ci 0 0 0 fs0 [] []) : NEv M rm ci fs0 G B := by
  intro l D cy h0 sz
  refine Met.ofW (cc := M.2.1) (maxL := M.2.2.1) (ret := M.2.2.2) hp rfl ?_
  intro p e s m args below meth c s₁ Bd hml hv
  obtain ⟨rfl, hsz, hP, hK, hD0, hG⟩ := hv
  subst hsz
  have hD := hD0.self (sz := s.heap.size)
  generalize hAe : va_A [(h0, .inr (ci, fs0))] s.heap.size = A at hD hG ⊢
  have hA : ∀ q : Nat, s.heap.size ≤ q → A q := fun q h => by rw [← hAe]; exact Or.inr h
  have hl := lv_entry ([.ref h0]) (n := M.2.2.1) hm
  rw [lg_entry_eq]
  have hin : meth.name = "<init>" := ((name_of_methodNamed Bd.named Bd.method).1).trans hn
  have hret := Bd.returns
  rw [hr] at hret
  exact h p l e s m _ below meth c D cy A _ h0 ⟨Bd.exec, Bd.bytes, hml, hret, Bd.notSynchronized, findClass_of_methodNamed Bd.named, atoms_spec (ws := tq_ws M) Bd.pre, hK, hin, hA⟩ hG hl s.heap [] hP hD va_S.rf
theorem NW_ret {M : mi_T} {p : Program} {l : Launch} {e : Env} {R : Room} {s : State} {m : MethodId} {args : Array Value} {below : List Frame} {meth : Method} {c : Code} {D : va_G} {cy : Nat → ClassId} {A : Nat → Prop} {ls : Array Slot} {h0 ci cells slots pc : Nat} {fs : List Value} {ws : va_W} {B : Nat → (Nat → ClassId) → va_W → Prop} (C : NC M p s m args meth c D cy A) (hd : decode M.2.1 pc = .ok (.return_, 1)) (hB : B h0 cy ((h0, .inr (ci, fs)) :: ws)) : NW p l e R s m args below meth c D A (MQ below (va_Qv (fun ws : va_W => B h0 cy ws) (fun ws t => va_P D tq_cl ws t.heap ∧ va_D A ws) A) args s cells slots A) ls h0 ci cells slots pc fs ws [] := by
  intro H locs hP hD hS
  have hlocks := C.2.2.2.2.1
  exact W.vret C.1 C.2.1 C.2.2.2.1 (fun t ht hW => ⟨⟨_, rfl, hB, by rw [ht]; exact hP, hD⟩, hS.F ht⟩) hS.2.2 hd
