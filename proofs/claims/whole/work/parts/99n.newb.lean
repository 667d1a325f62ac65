/-! constructors: a new object inside a constructor, and its own constructor -/
theorem nd_of : ∀ {l : List Nat}, l.Nodup → va_nd l = true
  | [], _ => rfl
  | a :: l, h => by
    have h2 := List.nodup_cons.mp h
    show (decide (a ∉ l) && va_nd l) = true
    rw [decide_eq_true h2.1, nd_of h2.2]; rfl
theorem map_range (X : va_W) (y : Nat × va_E) : (List.range X.length).map (fun i => (X ++ [y])[i]?) = X.map some := by
  apply List.ext_getElem?
  intro k
  rw [List.getElem?_map, List.getElem?_map]
  rcases Nat.lt_or_ge k X.length with h | h
  · rw [List.getElem?_range h, Option.map_some, List.getElem?_append_left h, List.getElem?_eq_getElem h]
    rfl
  · rw [List.getElem?_eq_none (by rw [List.length_range]; exact h), List.getElem?_eq_none h]
    rfl
theorem va_joinL {A0 : Nat → Prop} {D : va_G} {X w1 : va_W} {q : Nat} {E : va_E} {H H1 : Heap} (hP : va_P D tq_cl (X ++ [(q, E)]) H) (hD : va_D A0 (X ++ [(q, E)])) (hk : ∀ x : Nat, x < H.size → ¬ va_A [(q, E)] H.size x → H1[x]? = H[x]?) (hF : ∀ x, va_A [(q, E)] H.size x → A0 x) (hP1 : va_P D tq_cl w1 H1) (hD1 : va_D (va_A [(q, E)] H.size) w1) : va_P D tq_cl (X ++ w1) H1 ∧ va_D A0 (X ++ w1) := by
  refine va_join (wc := [(q, E)]) hP hD [X.length] (List.range X.length) ?_ (map_range X (q, E)) (nd_of List.nodup_range) (fun i hi h => ?_) hk hF hP1 hD1
  · simp
  · have h1 := List.mem_range.mp hi
    have h2 := List.mem_singleton.mp h
    omega
section NR2
variable {M : mi_T} {p : Program} {l : Launch} {e : Env} {R : Room} {s : State} {m : MethodId} {args : Array Value} {below : List Frame} {meth : Method} {c : Code} {D : va_G} {cy : Nat → ClassId} {A : Nat → Prop} {Q : State → Prop} {ls : Array Slot} {h0 ci cells slots pc : Nat} {fs : List Value} {ws : va_W} {st : List Value}
theorem NW_new {idx ci2 : Nat} {r : vw_C} {fs2 : List Value} (ty : Nat → FieldType) (C : NC M p s m args meth c D cy A) (hc2 : tq_cl[ci2]? = some r) (hty : ∀ k, k < r.2.2 → parseFieldDescriptor (r.2.1 k).2.2.1 = some (ty k)) (hcl : Cond.classLink M.1.cls idx r.1 ∈ tq_tbl) (hin : Cond.instantiable r.1 r.2.2 ∈ tq_tbl) (hini : Cond.initialized r.1 ∈ tq_tbl) (hfs : ∀ j, j < r.2.2 → defaultValue (ty j) = vp_V fs2 j) (hc : cells + 1 ≤ R.cells) (hs : slots + r.2.2 ≤ R.slots) (hd : decode M.2.1 pc = .ok (.new idx, 3)) (k : ∀ q, NW p l e R s m args below meth c D A Q ls h0 ci (cells + 1) (slots + r.2.2) (pc + 3) fs (ws ++ [(q, .inr (ci2, fs2))]) (.ref q :: st)) : NW p l e R s m args below meth c D A Q ls h0 ci cells slots pc fs ws st := by
  intro H locs hP hD hS
  exact va_new C.1 C.2.1 C.2.2.2.2.2.2.1 (fun w hw => List.mem_cons_of_mem _ (tq_ws_in ci2 r hc2 w hw)) ty hty C.2.2.2.2.2.1 (tq_wd C.2.2.2.2.2.2.1 hcl) (tq_wd C.2.2.2.2.2.2.1 hin) (tq_wd C.2.2.2.2.2.2.1 hini) C.2.2.2.2.2.2.2.1 hP hD hS C.2.2.2.2.2.2.2.2.2 hc2 hfs hc hs hd (fun q H1 hP1 hD1 hS1 => k q H1 locs hP1 hD1 hS1)
theorem NW_initN {Y : mi_T} {idx ci2 q : Nat} {host : String} {fs2 : List Value} {rm2 : Room} {G2 : (Nat → Prop) → State → Prop} {B2 : Nat → (Nat → ClassId) → va_W → Prop} (C : NC M p s m args meth c D cy A) (hl : lv_has ls M.2.2.1 [(0, .ref h0)]) (hE : NEv Y rm2 ci2 fs2 G2 B2) (hn : Y.1.name = "<init>") (hr : Y.2.2.2 = none) (hm : tq_mB Y 0) (hi : Cond.instanceMethod Y.1 ∈ tq_tbl) (hnest : va_Nw (.methodLinkNest M.1.cls idx Y.1 host) s) (hGb : ∀ (A' : Nat → Prop) (U : State) (g : JFrame) (mk : MethodId) (a : Array Value), G2 A' U → G2 A' (U.calling g mk a)) (hG : ∀ (A' : Nat → Prop) (U : State), s.WarmedH U.vm → G2 A' U) (hR : rm2.frames + 1 ≤ R.frames ∧ 8 + (Y.2.2.1 + 11) + rm2.locals ≤ R.locals) (hc : cells + rm2.cells ≤ R.cells) (hs : slots + rm2.slots ≤ R.slots) (hw : (st.map fun v => v.category).sum ≤ 8) (hd : decode M.2.1 pc = .ok (.invokespecial idx, 3)) (k : ∀ W1, B2 q cy W1 → NW p l e R s m args below meth c D A Q ls h0 ci (cells + rm2.cells) (slots + rm2.slots) (pc + 3) fs (ws ++ W1) st) : NW p l e R s m args below meth c D A Q ls h0 ci cells slots pc fs (ws ++ [(q, .inr (ci2, fs2))]) (.ref q :: st) := by
  intro H locs hP hD hS
  have hP0 : va_P D tq_cl (((h0, .inr (ci, fs)) :: ws) ++ [(q, .inr (ci2, fs2))]) H := hP
  have hD0 : va_D A (((h0, .inr (ci, fs)) :: ws) ++ [(q, (.inr (ci2, fs2) : va_E))]) := hD
  have hx : ([((h0, .inr (ci, fs)) :: ws).length].map (fun i => (((h0, (.inr (ci, fs) : va_E)) :: ws) ++ [(q, (.inr (ci2, fs2) : va_E))])[i]?)) = [(q, (.inr (ci2, fs2) : va_E))].map some := by simp
  have hPc : va_P D tq_cl [(q, .inr (ci2, fs2))] H := hP0.by (fun _ => ((h0, (.inr (ci, fs) : va_E)) :: ws).length) (fun k x hk => by
    have hz : k < 1 := (List.getElem?_eq_some_iff.mp hk).1
    rw [show k = 0 by omega] at hk
    rw [← hk]; simp)
  have hFc := va_free (wc := [(q, (.inr (ci2, fs2) : va_E))]) hD0 hS C.2.2.2.2.2.2.2.2.2 [((h0, (.inr (ci, fs) : va_E)) :: ws).length] hx
  have hDc : va_D (fun _ => True) [(q, (.inr (ci2, fs2) : va_E))] := ⟨fun i j x y hi hj _ => by
    have h1 : i < 1 := (List.getElem?_eq_some_iff.mp hi).1
    have h2 : j < 1 := (List.getElem?_eq_some_iff.mp hj).1
    omega, fun _ _ _ => trivial⟩
  have hK := C.2.2.2.2.2.2.2.1
  have hcw : va_CN R s args M.1.cls idx Y.1 host Y.2.1 Y.2.2.1 none (tq_ws Y) rm2 rm2.cells rm2.slots 0 := va_cnB 0 C.2.2.2.2.2.2.1 (tq_goodIn hm) (by unfold tq_ws; rw [hr]) rfl rfl hnest (tq_wd C.2.2.2.2.2.2.1 hm.1) hm.2.2.1 hR
  refine va_callv (va_runIN (As := []) (rest := st) ⟨C.1, C.2.1, C.2.2.1, C.2.2.2.2.2.1, C.2.2.2.2.2.2.1⟩ (hE l D cy q H.size) ⟨hcw, hn, tq_wd C.2.2.2.2.2.2.1 hi⟩ ⟨fun a U g mk x => by
    obtain ⟨q0, q1, qP, qK, qD, qG⟩ := x
    exact ⟨q0, q1, qP, va_K.moved (u := U) (U := U.calling g mk a) (Vm.Alike.refl U.vm) qK, qD, hGb _ _ _ _ _ qG⟩, fun U hU hW => ⟨rfl, by rw [hU], by rw [hU]; exact hPc, va_K.moved hW.alike hK, hDc, hG _ U hW⟩⟩ rfl rfl hl.1 rfl (lv_room hw) hd ⟨hc, hs⟩) hS (fun q _ h => hFc q h) hFc (fun u t H1 locs1 ht hvm hw1 hB hz1 hk1 hS1 => ?_)
  obtain ⟨hP1, hD1⟩ := hB
  rw [ht] at hP1
  obtain ⟨hP2, hD2⟩ := va_joinL hP0 hD0 hk1 hFc hP1 hD1
  exact k u hw1 H1 locs1 hP2 hD2 hS1
end NR2
