/-! the entry: the law makes its two objects -/
def LV (p : Program) (l : Launch) (e : Env) (s : State) (m : MethodId) (b : Nat) (below : List Frame) (meth : Method) (c : Code) (D : va_G) (Q : State → Prop) (ls : Array Slot) (cells slots pc : Nat) (ws : va_W) (st : List Value) : Prop := ∀ (H : Heap) (locs : List Loc), va_P D tq_cl ws H → va_D (fun q => s.heap.size ≤ q) ws → va_S (fun q => s.heap.size ≤ q) s.heap H locs → W p l e room_1 s m #[Value.ref b] below meth c H locs cells slots Q (F0 m pc ls st)
section LVR
variable {p : Program} {l : Launch} {e : Env} {s : State} {m : MethodId} {b L : Nat} {xs : Nat → Int32} {below : List Frame} {meth : Method} {c : Code} {D : va_G} {cy : Nat → ClassId} {Q : State → Prop} {ls : Array Slot} {cells slots pc : Nat} {ws : va_W} {st : List Value}
theorem LV_new {idx ci2 : Nat} {r : vw_C} {fs2 : List Value} (ty : Nat → FieldType) (C : lw_At p s m meth c b L xs) (hK : va_K D tq_cl (tq_ty cy) s) (hc2 : tq_cl[ci2]? = some r) (hty : ∀ k, k < r.2.2 → parseFieldDescriptor (r.2.1 k).2.2.1 = some (ty k)) (hcl : Cond.classLink R_law idx r.1 ∈ tq_tbl) (hin : Cond.instantiable r.1 r.2.2 ∈ tq_tbl) (hini : Cond.initialized r.1 ∈ tq_tbl) (hfs : ∀ j, j < r.2.2 → defaultValue (ty j) = vp_V fs2 j) (hc : cells + 1 ≤ room_1.cells) (hs : slots + r.2.2 ≤ room_1.slots) (hd : decode code pc = .ok (.new idx, 3)) (k : ∀ q, LV p l e s m b below meth c D Q ls (cells + 1) (slots + r.2.2) (pc + 3) (ws ++ [(q, .inr (ci2, fs2))]) (.ref q :: st)) : LV p l e s m b below meth c D Q ls cells slots pc ws st := by
  intro H locs hP hD hS
  have hts := C.2.2.2.2.2.1
  exact va_new C.1 C.2.1 hts (fun w hw => tq_in (tq_ws_in ci2 r hc2 w hw)) ty hty C.2.2.2.2.1 (hts _ (tq_in hcl)) (hts _ (tq_in hin)) (hts _ (tq_in hini)) hK hP hD hS (fun _ h => h) hc2 hfs hc hs hd (fun q H1 hP1 hD1 hS1 => k q H1 locs hP1 hD1 hS1)
theorem LV_dup {q : Nat} (C : lw_At p s m meth c b L xs) (hd : decode code pc = .ok (.dup, 1)) (k : LV p l e s m b below meth c D Q ls cells slots (pc + 1) ws (.ref q :: .ref q :: st)) : LV p l e s m b below meth c D Q ls cells slots pc ws (.ref q :: st) := by
  intro H locs hP hD hS
  exact lv_dup C.1 C.2.1 hd rfl (k H locs hP hD hS)
theorem LV_init {Y : mi_T} {idx ci2 q : Nat} {fs2 : List Value} {rm2 : Room} {G2 : (Nat → Prop) → State → Prop} {B2 : Nat → (Nat → ClassId) → va_W → Prop} (C : lw_At p s m meth c b L xs) (hK : va_K D tq_cl (tq_ty cy) s) (hl : ls.size = 4) (hE : NEv Y rm2 ci2 fs2 G2 B2) (hn : Y.1.name = "<init>") (hr : Y.2.2.2 = none) (hm : tq_mB Y 0) (hi : Cond.instanceMethod Y.1 ∈ tq_tbl) (hlk : Cond.methodLink R_law idx Y.1 ∈ tq_tbl) (hGb : ∀ (A' : Nat → Prop) (U : State) (g : JFrame) (mk : MethodId) (a : Array Value), G2 A' U → G2 A' (U.calling g mk a)) (hG : ∀ (A' : Nat → Prop) (H : Heap) (locs : List Loc) (U : State), (∀ x, A' x → s.heap.size ≤ x) → va_S (fun q => s.heap.size ≤ q) s.heap H locs → U.heap = H → s.WarmedH U.vm → G2 A' U) (hR : rm2.frames + 1 ≤ 2048 ∧ 8 + (Y.2.2.1 + 11) + rm2.locals ≤ 84000) (hc : cells + rm2.cells ≤ room_1.cells) (hs : slots + rm2.slots ≤ room_1.slots) (hw : (st.map fun v => v.category).sum ≤ 8) (hd : decode code pc = .ok (.invokespecial idx, 3)) (k : ∀ W1, B2 q cy W1 → LV p l e s m b below meth c D Q ls (cells + rm2.cells) (slots + rm2.slots) (pc + 3) (ws ++ W1) st) : LV p l e s m b below meth c D Q ls cells slots pc (ws ++ [(q, .inr (ci2, fs2))]) (.ref q :: st) := by
  intro H locs hP hD hS
  have hts := C.2.2.2.2.2.1
  have hx : ([ws.length].map (fun i => (ws ++ [(q, (.inr (ci2, fs2) : va_E))])[i]?)) = [(q, (.inr (ci2, fs2) : va_E))].map some := by simp
  have hPc : va_P D tq_cl [(q, .inr (ci2, fs2))] H := hP.by (fun _ => ws.length) (fun k x hk => by
    have hz : k < 1 := (List.getElem?_eq_some_iff.mp hk).1
    rw [show k = 0 by omega] at hk
    rw [← hk]; simp)
  have hFc := va_free (wc := [(q, (.inr (ci2, fs2) : va_E))]) hD hS (fun _ h => h) [ws.length] hx
  have hDc : va_D (fun _ => True) [(q, (.inr (ci2, fs2) : va_E))] := ⟨fun i j x y hi hj _ => by
    have h1 : i < 1 := (List.getElem?_eq_some_iff.mp hi).1
    have h2 : j < 1 := (List.getElem?_eq_some_iff.mp hj).1
    omega, fun _ _ _ => trivial⟩
  have hcw : CallB room_1 s #[Value.ref b] R_law idx Y.1 Y.2.1 Y.2.2.1 none (tq_ws Y) rm2 rm2.cells rm2.slots 0 := callB_of 0 hts (tl_goodIn hm) (by unfold tq_ws; rw [hr]) rfl rfl (hts _ (tq_in hm.1)) (hts _ (tq_in hlk)) hm.2.2.1 hR
  refine va_callv (va_runI (As := []) (rest := st) ⟨C.1, C.2.1, C.2.2.2.1, C.2.2.2.2.1, hts⟩ (hE l D cy q H.size) ⟨hcw, hn, hts _ (tq_in hi)⟩ ⟨fun a U g mk x => by
    obtain ⟨q0, q1, qP, qK, qD, qG⟩ := x
    exact ⟨q0, q1, qP, va_K.moved (u := U) (U := U.calling g mk a) (Vm.Alike.refl U.vm) qK, qD, hGb _ _ _ _ _ qG⟩, fun U hU hW => ⟨rfl, by rw [hU], by rw [hU]; exact hPc, va_K.moved hW.alike hK, hDc, hG _ H locs U (fun x hx => hFc x hx) hS hU hW⟩⟩ rfl rfl hl rfl (lv_room hw) hd ⟨hc, hs⟩) hS (fun q _ h => hFc q h) hFc (fun u t H1 locs1 ht hvm hw1 hB hz1 hk1 hS1 => ?_)
  obtain ⟨hP1, hD1⟩ := hB
  rw [ht] at hP1
  obtain ⟨hP2, hD2⟩ := va_joinL hP hD hk1 hFc hP1 hD1
  exact k u hw1 H1 locs1 hP2 hD2 hS1
end LVR
theorem cl_law_7 : Cond.classLink R_law 7 RX11 ∈ tq_tbl := tq_m1 21 rfl rfl
theorem cl_law_10 : Cond.classLink R_law 10 RX12 ∈ tq_tbl := tq_m6 26 rfl rfl
theorem mkN11 : tq_mB nX11 0 := ⟨tq_m1 1 rfl rfl, tq_m1 25 rfl rfl, ⟨by decide +kernel, by decide +kernel, by decide +kernel⟩, by decide⟩
theorem inN11 : Cond.instanceMethod nX11.1 ∈ tq_tbl := tq_m1 24 rfl rfl
theorem iz_RX11 : Cond.initialized RX11 ∈ tq_tbl := tq_m1 1 rfl rfl
theorem dfX11 : ∀ j, j < 11 → defaultValue (tyX11 j) = vp_V [.null, .null, .null, .null, .null, .null, .null, .null, .null, .null, .null] j := fun j hj => match j, hj with
  | 0, _ => rfl
  | 1, _ => rfl
  | 2, _ => rfl
  | 3, _ => rfl
  | 4, _ => rfl
  | 5, _ => rfl
  | 6, _ => rfl
  | 7, _ => rfl
  | 8, _ => rfl
  | 9, _ => rfl
  | 10, _ => rfl
  | k + 11, h => absurd h (Nat.not_lt.mpr (Nat.le_add_left 11 k))
theorem mkN12 : tq_mB nX12 0 := ⟨tq_m1 13 rfl rfl, tq_m6 30 rfl rfl, ⟨by decide +kernel, by decide +kernel, by decide +kernel⟩, by decide⟩
theorem inN12 : Cond.instanceMethod nX12.1 ∈ tq_tbl := tq_m6 29 rfl rfl
theorem iz_RX12 : Cond.initialized RX12 ∈ tq_tbl := tq_m1 13 rfl rfl
theorem dfX12 : ∀ j, j < 79 → defaultValue (tyX12 j) = vp_V [.int 0, .null, .int 0, .null, .int 0, .null, .null, .null, .null, .null, .int 0, .int 0, .int 0, .int 0, .int 0, .int 0, .int 0, .int 0, .int 0, .int 0, .int 0, .null, .null, .null, .null, .null, .null, .null, .null, .null, .null, .null, .null, .null, .null, .null, .null, .null, .null, .null, .null, .null, .null, .null, .int 0, .null, .null, .null, .int 0, .null, .null, .null, .int 0, .null, .null, .null, .null, .null, .null, .null, .null, .int 0, .null, .null, .null, .null, .int 0, .int 0, .int 0, .null, .null, .int 0, .null, .int 0, .int 0, .null, .null, .null, .null] j := fun j hj => match j, hj with
  | 0, _ => rfl
  | 1, _ => rfl
  | 2, _ => rfl
  | 3, _ => rfl
  | 4, _ => rfl
  | 5, _ => rfl
  | 6, _ => rfl
  | 7, _ => rfl
  | 8, _ => rfl
  | 9, _ => rfl
  | 10, _ => rfl
  | 11, _ => rfl
  | 12, _ => rfl
  | 13, _ => rfl
  | 14, _ => rfl
  | 15, _ => rfl
  | 16, _ => rfl
  | 17, _ => rfl
  | 18, _ => rfl
  | 19, _ => rfl
  | 20, _ => rfl
  | 21, _ => rfl
  | 22, _ => rfl
  | 23, _ => rfl
  | 24, _ => rfl
  | 25, _ => rfl
  | 26, _ => rfl
  | 27, _ => rfl
  | 28, _ => rfl
  | 29, _ => rfl
  | 30, _ => rfl
  | 31, _ => rfl
  | 32, _ => rfl
  | 33, _ => rfl
  | 34, _ => rfl
  | 35, _ => rfl
  | 36, _ => rfl
  | 37, _ => rfl
  | 38, _ => rfl
  | 39, _ => rfl
  | 40, _ => rfl
  | 41, _ => rfl
  | 42, _ => rfl
  | 43, _ => rfl
  | 44, _ => rfl
  | 45, _ => rfl
  | 46, _ => rfl
  | 47, _ => rfl
  | 48, _ => rfl
  | 49, _ => rfl
  | 50, _ => rfl
  | 51, _ => rfl
  | 52, _ => rfl
  | 53, _ => rfl
  | 54, _ => rfl
  | 55, _ => rfl
  | 56, _ => rfl
  | 57, _ => rfl
  | 58, _ => rfl
  | 59, _ => rfl
  | 60, _ => rfl
  | 61, _ => rfl
  | 62, _ => rfl
  | 63, _ => rfl
  | 64, _ => rfl
  | 65, _ => rfl
  | 66, _ => rfl
  | 67, _ => rfl
  | 68, _ => rfl
  | 69, _ => rfl
  | 70, _ => rfl
  | 71, _ => rfl
  | 72, _ => rfl
  | 73, _ => rfl
  | 74, _ => rfl
  | 75, _ => rfl
  | 76, _ => rfl
  | 77, _ => rfl
  | 78, _ => rfl
  | k + 79, h => absurd h (Nat.not_lt.mpr (Nat.le_add_left 79 k))
