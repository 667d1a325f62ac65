/-! the law: a call -/
theorem tq_backL {p : Program} {l : Launch} {e : Env} {R : Room} {s : State} {m : MethodId} {args : Array Value} {below : List Frame} {meth : Method} {c : Code} {H : Heap} {locs : List Loc} {Qw : State → Prop} {D : va_G} {cy : Nat → ClassId} {ad : Nat → Nat} {n pc cells slots : Nat} {Q : st_Q} {ls : Array Slot} {st0 rest : List Value} {a : Array Value}
    (hr : va_Run p l e R s m args below meth c H locs cells slots 0 0 (F0 m pc ls st0) rest (tq_Q D cy ad n Q a) (tq_A ad n)) (hA : ∀ q, tq_A ad n q → s.heap.size ≤ q) (hS : va_S (fun q => s.heap.size ≤ q) s.heap H locs)
    (kk : ∀ (v : Option Value) (sh : sh_T) (I : st_I) (L : st_L) (H1 : Heap) (locs1 : List Loc), Q v sh I L → sh.length = n → va_P D tq_cl (w_D cy ad sh I L) H1 → va_S (fun q => s.heap.size ≤ q) s.heap H1 locs1 → W p l e R s m args below meth c H1 locs1 cells slots Qw (F0 m (pc + 3) ls (v.toList ++ rest))) : W p l e R s m args below meth c H locs cells slots Qw (F0 m pc ls st0) := by
  intro T hT X
  obtain ⟨v, st₀, t, T', L0, h0, X', hL, e1, e2, ⟨⟨v', sh, I, L, hv, hq, hn, hP, hK⟩, hz, hk⟩, st⟩ := hr T hT X
  cases hv
  rw [h0] at hz hk
  have hS' : va_S (fun q => s.heap.size ≤ q) s.heap T'.heap (locs ++ L0) := ⟨Nat.le_trans hS.1 (by rw [e1]; exact hz), fun q h1 h2 => by rw [e1, hk q (Nat.lt_of_lt_of_le h1 hS.1) (fun c => h2 (hA q c))]; exact hS.2.1 q h1 h2, fun q hq => by
      rcases List.mem_append.mp hq with h | h
      · exact hS.2.2 q h
      · exact hA _ (hL q h)⟩
  obtain ⟨t2, a1, b1⟩ := kk v sh I L T'.heap (locs ++ L0) hq hn (by rw [e1]; exact hP) hS' T' rfl X'
  exact ⟨t2, st t2 a1, b1⟩
theorem tl_goodIn {M' : mi_T} {n : Nat} (h : tq_mB M' n) : GoodIn lw_tbl (tq_ws M') := by
  intro w hw
  rcases List.mem_cons.mp hw with e | e
  · subst e; exact ⟨tq_in h.2.1, tq_good h.2.1⟩
  · exact ⟨tq_in e, tq_good e⟩
theorem tl_callB {M' : mi_T} {s : State} {args : Array Value} {idx n : Nat} (hts : ∀ w ∈ lw_tbl, w.before args s = true) (hl : Cond.methodLink R_law idx M'.1 ∈ tq_tbl) (hm : tq_mB M' n) : CallB room_1 s args R_law idx M'.1 M'.2.1 M'.2.2.1 M'.2.2.2 (tq_ws M') (tq_room 60) 0 0 n :=
  callB_of n hts (tl_goodIn hm) rfl rfl rfl (hts _ (tq_in hm.1)) (hts _ (tq_in hl)) hm.2.2.1 ⟨by show 60 + 1 ≤ 2048; omega, by
    have := hm.2.2.2
    show 8 + (M'.2.2.1 + 11) + 48 * 60 ≤ 84000
    omega⟩
/-- the world for a call out of the law -/
theorem tl_P {p : Program} {s U : State} {m : MethodId} {meth : Method} {c : Code} {b L : Nat} {xs : Nat → Int32} {D : va_G} {cy : Nat → ClassId} {ad : Nat → Nat} {I : st_I} {M : st_L} {H : Heap} {locs : List Loc} {av : List Value} (C : LC p s m meth c b L xs D cy ad) (hP : va_P D tq_cl (w_D cy ad shp I M) H) (hS : va_S (fun q => s.heap.size ≤ q) s.heap H locs) (hU : U.heap = H) (hW : s.WarmedH U.vm) : tq_P D cy ad shp I M av (av.map (tq_v ad)).toArray U := by
  have hE2 := tq_str_to C.2.2.2.1 hS hU hW
  exact ⟨rfl, by rw [hU]; exact hP, va_K.moved hW.alike C.2.1, C.2.2.1, by
    have nar : ∀ q, tq_A ad shp.length q → s.heap.size ≤ q := fun q ⟨k, hk, e⟩ => by rw [e]; exact C.2.2.2.2 k hk
    exact ⟨hE2.1.narrow nar, hE2.2.1, hE2.2.2.1, hE2.2.2.2.1.narrow nar, hE2.2.2.2.2.narrow nar⟩⟩
theorem LT_callG {L pc idx b n ci : Nat} {xs : Nat → Int32} {i : Int32} {M' : mi_T} {fs : List (Option Nat)} {stk : List Value} {I : st_I} {M : st_L} (As : List Value) (st : List Value) {r : vw_C} {Q : st_Q} (hd : decode code pc = .ok (.invokevirtual idx, 3)) (hlk : Cond.methodLink R_law idx M'.1 ∈ tq_tbl) (hm : tq_mV M' n) (hst : stk = As.reverse ++ .ref b :: st) (hb : shp[b]? = some (.inr (ci, fs))) (hc : tq_cl[ci]? = some r) (hr : r.1 = M'.1.cls) (hn : As.length = n) (hw : (st.map fun v => v.category).sum ≤ 8) (h : Ev shp 60 M' (.ref b :: As) I M Q)
    (kk : ∀ (v : Option Value) (sh : sh_T) (I1 : st_I) (M1 : st_L), Q v sh I1 M1 → ∀ (p : Program) (l : Launch) (e : Env) (s : State) (m : MethodId) (below : List Frame) (meth : Method) (c : Code) (b : Nat) (D : va_G) (cy : Nat → ClassId) (ad : Nat → Nat) (H : Heap) (locs : List Loc) (ls : Array Slot), LC p s m meth c b L xs D cy ad → va_P D tq_cl (w_D cy ad sh I1 M1) H → va_S (fun q => s.heap.size ≤ q) s.heap H locs → lv_has ls 4 [(0, .ref b), (1, .ref (ad 0)), (2, .ref (ad 58)), (3, .int i)] → W p l e room_1 s m #[Value.ref b] below meth c H locs 600000 7302250 (lw_Z below #[Value.ref b] s) (F0 m (pc + 3) ls (v.toList ++ st.map (tq_v ad)))) : LT L xs i pc stk I M := by
  intro p l e s m below meth c b0 D cy ad H locs ls C hP hS hl
  subst hst
  have hx := C.1.1
  have hcb := C.1.2.1
  have hml := C.1.2.2.2.1
  have hown := C.1.2.2.2.2.1
  have hts := C.1.2.2.2.2.2.1
  rw [tq_rev]
  have hcell := va_recv C.2.1 hP hc (w_at (cy := cy) (ad := ad) (I := I) (L := M) hb)
  rw [hr] at hcell
  refine tq_backL (va_runV (As := As.map (tq_v ad)) (rest := st.map (tq_v ad)) (C := M'.1.cls) (b := ad b) ⟨hx, hcb, hml, hown, hts⟩ (h l D cy ad) ⟨tl_callB hts hlk hm.2.2, hts _ (tq_in hm.1), hts _ (tq_in hm.2.1)⟩ ⟨tq_P_blind, hcell, fun U hU hW => tl_P C hP hS hU hW⟩ rfl (by rw [List.length_map]; exact hn) hl.1 rfl (lv_room (by rw [tq_cats]; exact hw)) hd ⟨Nat.le_refl _, Nat.le_refl _⟩) (fun q ⟨k, hk, e⟩ => by rw [e]; exact C.2.2.2.2 k hk) hS ?_
  intro v sh' I' L' H1 locs1 hq hn' hP1 hS1
  exact kk v sh' I' L' hq p l e s m below meth c b0 D cy ad H1 locs1 ls C hP1 hS1 hl
theorem LT_call {L pc idx b n ci : Nat} {xs : Nat → Int32} {i : Int32} {M' : mi_T} {fs : List (Option Nat)} {stk : List Value} {I : st_I} {M : st_L} (As : List Value) (st : List Value) {r : vw_C} (hd : decode code pc = .ok (.invokevirtual idx, 3)) (hlk : Cond.methodLink R_law idx M'.1 ∈ tq_tbl) (hm : tq_mV M' n) (hst : stk = As.reverse ++ .ref b :: st) (hb : shp[b]? = some (.inr (ci, fs))) (hc : tq_cl[ci]? = some r) (hr : r.1 = M'.1.cls) (hn : As.length = n) (hw : (st.map fun v => v.category).sum ≤ 8) (h : Ev shp 60 M' (.ref b :: As) I M (fun v sh I1 M1 => sh = shp ∧ tq_plain v ∧ LT L xs i (pc + 3) (v.toList ++ st) I1 M1)) : LT L xs i pc stk I M := by
  refine LT_callG As st hd hlk hm hst hb hc hr hn hw h ?_
  intro v sh I1 M1 hq p l e s m below meth c b D cy ad H locs ls C hP hS hl
  obtain ⟨rfl, hp, hk⟩ := hq
  have := hk p l e s m below meth c b D cy ad H locs ls C hP hS hl
  rw [tq_vl ad st hp] at this
  exact this
/-- a call that may exchange what is told -/
theorem LT_callX {L pc idx b n ci : Nat} {xs : Nat → Int32} {i : Int32} {M' : mi_T} {fs : List (Option Nat)} {I : st_I} {M : st_L} {r : vw_C} (hd : decode code pc = .ok (.invokevirtual idx, 3)) (hlk : Cond.methodLink R_law idx M'.1 ∈ tq_tbl) (hm : tq_mV M' n) (hb : shp[b]? = some (.inr (ci, fs))) (hc : tq_cl[ci]? = some r) (hr : r.1 = M'.1.cls) (hn : 0 = n) (h : Ev shp 60 M' [.ref b] I M (fun v sh I1 M1 => tq_plain v ∧ ((sh = shp ∧ LT L xs i (pc + 3) (v.toList ++ []) I1 M1) ∨ (sh = shq ∧ LT L xs i (pc + 3) (v.toList ++ []) (fun q => I1 (sgX q)) (fun q => M1 (sgX q)))))) : LT L xs i pc [.ref b] I M := by
  refine LT_callG [] [] hd hlk hm rfl hb hc hr hn (Nat.zero_le _) h ?_
  intro v sh I1 M1 hq p l e s m below meth c b D cy ad H locs ls C hP hS hl
  obtain ⟨hp, hk⟩ := hq
  rcases hk with ⟨rfl, hk⟩ | ⟨rfl, hk⟩
  · have := hk p l e s m below meth c b D cy ad H locs ls C hP hS hl
    rw [tq_vl ad [] hp] at this
    exact this
  · have := hk p l e s m below meth c b D cy (adX ad) H locs ls C.re (w_P_re hP) hS hl
    rw [tq_vl (adX ad) [] hp] at this
    exact this
