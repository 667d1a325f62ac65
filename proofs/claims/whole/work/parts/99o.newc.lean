/-! constructors: calls of static methods -/
def adQ (ad : Nat → Nat) (q : Nat) : Nat → Nat := fun k => if k = 0 then q else ad k
theorem adQ_str {ad : Nat → Nat} {q : Nat} {A : Nat → Prop} {U : State} (h : tq_str ad A U) : tq_str (adQ ad q) A U := by
  have e : ∀ i, 0 < i → adQ ad q i = ad i := fun i hi => by unfold adQ; rw [if_neg (by omega)]
  unfold tq_str at h ⊢
  rw [show (fun i => adQ ad q (1000 + i)) = (fun i => ad (1000 + i)) from funext (fun i => e _ (by omega)), show (fun i => adQ ad q (1010 + i)) = (fun i => ad (1010 + i)) from funext (fun i => e _ (by omega)), e 1000 (by decide), e 1001 (by decide)]
  exact h
theorem tq_str_nar {ad : Nat → Nat} {A B : Nat → Prop} {U : State} (h : tq_str ad A U) (nar : ∀ q, B q → A q) : tq_str ad B U := ⟨h.1.narrow nar, h.2.1, h.2.2.1, h.2.2.2.1.narrow nar, h.2.2.2.2.narrow nar⟩
section NR3
variable {M : mi_T} {p : Program} {l : Launch} {e : Env} {R : Room} {s : State} {m : MethodId} {args : Array Value} {below : List Frame} {meth : Method} {c : Code} {D : va_G} {cy : Nat → ClassId} {A : Nat → Prop} {Q : State → Prop} {ls : Array Slot} {h0 ci cells slots pc : Nat} {fs : List Value} {ws : va_W} {st : List Value}
theorem NW_get {idx k0 : Nat} {v : Value} (C : NC M p s m args meth c D cy A) (hf : tq_fl M.1.cls idx ci k0) (hv : fs[k0]? = some v) (hd : decode M.2.1 pc = .ok (.getfield idx, 3)) (k : NW p l e R s m args below meth c D A Q ls h0 ci cells slots (pc + 3) fs ws (v :: st)) : NW p l e R s m args below meth c D A Q ls h0 ci cells slots pc fs ws (.ref h0 :: st) := by
  intro H locs hP hD hS
  obtain ⟨r, h1, h2, h3, h4⟩ := hf
  exact va_get C.1 C.2.1 C.2.2.2.2.2.2.1 (fun w hw => List.mem_cons_of_mem _ (tq_ws_in ci r h1 w hw)) C.2.2.2.2.2.1 C.2.2.2.2.2.2.2.1 hP 0 rfl h1 k0 h2 (tq_wd C.2.2.2.2.2.2.1 h4) (fun _ h9 => by rw [h3] at h9; exact h9) hv hd (k H locs hP hD hS)
theorem nw_callB {M' : mi_T} {idx n d : Nat} (C : NC M p s m args meth c D cy A) (hl : Cond.methodLink M.1.cls idx M'.1 ∈ tq_tbl) (hm : tq_mB M' n) (hR : d + 1 ≤ R.frames ∧ 8 + (29 + 11) + 48 * d ≤ R.locals) : CallB R s args M.1.cls idx M'.1 M'.2.1 M'.2.2.1 M'.2.2.2 (tq_ws M') (tq_room d) 0 0 n :=
  callB_of n C.2.2.2.2.2.2.1 (tq_goodIn hm) rfl rfl rfl (tq_wd C.2.2.2.2.2.2.1 hm.1) (tq_wd C.2.2.2.2.2.2.1 hl) hm.2.2.1 ⟨hR.1, by
    have := hm.2.2.2
    show 8 + (M'.2.2.1 + 11) + 48 * d ≤ R.locals
    omega⟩
theorem NW_fill {idx q n : Nat} {v : Int32} {f : Nat → Int32} {ad : Nat → Nat} (C : NC M p s m args meth c D cy A) (hl : lv_has ls M.2.2.1 [(0, .ref h0)]) (hE : tq_str ad A s) (hlk : Cond.methodLink M.1.cls idx mJ7_fill_53178.1 ∈ tq_tbl) (hn : n < 2 ^ 31) (hR : 1 + 1 ≤ R.frames ∧ 8 + (29 + 11) + 48 * 1 ≤ R.locals) (hc : cells + 0 ≤ R.cells) (hs : slots + 0 ≤ R.slots) (hw : (st.map fun v => v.category).sum ≤ 8) (hd : decode M.2.1 pc = .ok (.invokestatic idx, 3)) (k : NW p l e R s m args below meth c D A Q ls h0 ci cells slots (pc + 3) fs (ws ++ [(q, .inl (cy 0, n, .inl (fun j => if j < n then v else f j)))]) st) : NW p l e R s m args below meth c D A Q ls h0 ci cells slots pc fs (ws ++ [(q, .inl (cy 0, n, .inl f))]) (.int v :: .ref q :: st) := by
  intro H locs hP hD hS
  have hP0 : va_P D tq_cl (((h0, .inr (ci, fs)) :: ws) ++ [(q, .inl (cy 0, n, .inl f))]) H := hP
  have hD0 : va_D A (((h0, .inr (ci, fs)) :: ws) ++ [(q, (.inl (cy 0, n, .inl f) : va_E))]) := hD
  have hx : ((((h0, (.inr (ci, fs) : va_E)) :: ws) ++ [(q, (.inl (cy 0, n, .inl f) : va_E))])[((h0, (.inr (ci, fs) : va_E)) :: ws).length]?) = some (q, (.inl (cy 0, n, .inl f) : va_E)) := by simp
  have hPc : va_P D tq_cl (w_D cy (adQ ad q) [.inl (0, n)] (fun _ => f) (fun _ _ => 0)) H := hP0.by (fun _ => ((h0, (.inr (ci, fs) : va_E)) :: ws).length) (fun k x hk => by
    have hz : k < 1 := (List.getElem?_eq_some_iff.mp hk).1
    rw [show k = 0 by omega] at hk
    rw [hx, ← hk]; rfl)
  have hAq : A q := hD0.2 _ _ hx
  have hA1 : ∀ x, tq_A (adQ ad q) 1 x → x = q := fun x ⟨k, hk, e⟩ => by
    rw [show k = 0 by omega] at e; exact e
  have hj : tq_inj (adQ ad q) 1 := fun i j hi hj _ => by omega
  have hfill := js_fill (d := 1) (sh := [.inl (0, n)]) (q := 0) (I := fun _ => f) (L := fun _ _ => 0) (v := v) (Q := fun v' sh' I' L' => v' = none ∧ sh' = [.inl (0, n)] ∧ I' = f_I (fun _ => f) 0 n v ∧ L' = fun _ _ => 0) rfl hn ⟨rfl, rfl, rfl, rfl⟩
  have hr := va_runS (l := l) (e := e) (below := below) (meth := meth) (locs := locs) (cells := cells) (slots := slots) (As := [.ref q, .int v]) (rest := st) ⟨C.1, C.2.1, C.2.2.1, C.2.2.2.2.2.1, C.2.2.2.2.2.2.1⟩ (hfill l D cy (adQ ad q)) ⟨nw_callB (R := R) C hlk mkJ7_fill_53178.2 hR, tq_wd C.2.2.2.2.2.2.1 mkJ7_fill_53178.1⟩ ⟨tq_P_blind, fun U hU hW => ⟨rfl, by rw [hU]; exact hPc, va_K.moved hW.alike C.2.2.2.2.2.2.2.1, hj, tq_str_nar (adQ_str (tq_str_to hE hS hU hW)) (fun x hx => by rw [hA1 x hx]; exact hAq)⟩⟩ (g := F0 m pc ls (.int v :: .ref q :: st)) rfl rfl hl.1 rfl (lv_room hw) hd ⟨hc, hs⟩
  intro T hT X
  obtain ⟨v', st₀, t, T', L0, h00, X', hL, e1, e2, ⟨⟨v2, sh, I, L, hv, hq, hn', hP1, hK1⟩, hz, hk⟩, stp⟩ := hr T hT X
  cases hv
  obtain ⟨rfl, rfl, rfl, rfl⟩ := hq
  rw [h00] at hz hk
  have hFc : ∀ x, va_A [(q, (.inl (cy 0, n, .inl f) : va_E))] H.size x → A x := fun x hx2 => by
    rcases hx2 with ⟨j, e, he⟩ | hx2
    · have hz2 : j < 1 := (List.getElem?_eq_some_iff.mp he).1
      rw [show j = 0 by omega] at he
      have := congrArg Prod.fst (Option.some.inj he)
      have h3 : q = x := this
      rw [← h3]; exact hAq
    · exact C.2.2.2.2.2.2.2.2.2 x (Nat.le_trans hS.1 hx2)
  have hk' : ∀ x : Nat, x < H.size → ¬ va_A [(q, (.inl (cy 0, n, .inl f) : va_E))] H.size x → t.heap[x]? = H[x]? := fun x h1 h2 => hk x h1 (fun hc2 => h2 (Or.inl ⟨0, (.inl (cy 0, n, .inl f) : va_E), by rw [hA1 x hc2]; rfl⟩))
  have hD1 : va_D (va_A [(q, (.inl (cy 0, n, .inl f) : va_E))] H.size) [(q, (.inl (cy 0, n, .inl (fun j => if j < n then v else f j)) : va_E))] := ⟨fun i j x y hi hj2 _ => by
    have h1 : i < 1 := (List.getElem?_eq_some_iff.mp hi).1
    have h2 : j < 1 := (List.getElem?_eq_some_iff.mp hj2).1
    omega, fun i x hi => by
    have h1 : i < 1 := (List.getElem?_eq_some_iff.mp hi).1
    rw [show i = 0 by omega] at hi
    exact Or.inl ⟨0, (.inl (cy 0, n, .inl f) : va_E), by rw [← Option.some.inj hi]; rfl⟩⟩
  obtain ⟨hP2, hD2⟩ := va_joinL hP0 hD0 hk' hFc (w1 := [(q, .inl (cy 0, n, .inl (fun j => if j < n then v else f j)))]) hP1 hD1
  have hS' : va_S A s.heap T'.heap (locs ++ L0) := ⟨Nat.le_trans hS.1 (by rw [e1]; exact hz), fun x h1 h2 => by rw [e1, hk x (Nat.lt_of_lt_of_le h1 hS.1) (fun c2 => h2 (by rw [hA1 x c2]; exact hAq))]; exact hS.2.1 x h1 h2, fun x hx2 => by
      rcases List.mem_append.mp hx2 with h | h
      · exact hS.2.2 x h
      · rw [hA1 _ (hL x h)]; exact hAq⟩
  obtain ⟨t2, a1, b1⟩ := k T'.heap (locs ++ L0) (by rw [e1]; exact hP2) hD2 hS' T' rfl X'
  exact ⟨t2, stp t2 a1, b1⟩
end NR3
