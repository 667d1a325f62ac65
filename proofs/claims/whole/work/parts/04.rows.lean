/-! answers in the world shp -/
def kI (F : Int32 → st_I → st_L → Prop) : st_Q := fun v sh I L => ∃ r, v = some (.int r) ∧ sh = shp ∧ F r I L
def kL (F : Int64 → st_I → st_L → Prop) : st_Q := fun v sh I L => ∃ r, v = some (.long r) ∧ sh = shp ∧ F r I L
def kV (F : st_I → st_L → Prop) : st_Q := fun v sh I L => v = none ∧ sh = shp ∧ F I L
abbrev EI (d : Nat) (M : mi_T) (av : List Value) (I : st_I) (L : st_L) (F : Int32 → st_I → st_L → Prop) : Prop := Ev shp d M av I L (kI F)
abbrev EL (d : Nat) (M : mi_T) (av : List Value) (I : st_I) (L : st_L) (F : Int64 → st_I → st_L → Prop) : Prop := Ev shp d M av I L (kL F)
abbrev EV (d : Nat) (M : mi_T) (av : List Value) (I : st_I) (L : st_L) (F : st_I → st_L → Prop) : Prop := Ev shp d M av I L (kV F)
abbrev TI (d : Nat) (M : mi_T) (pc : Nat) (lv st : List Value) (I : st_I) (L : st_L) (F : Int32 → st_I → st_L → Prop) : Prop := T shp d M pc lv st I L (kI F)
abbrev TL (d : Nat) (M : mi_T) (pc : Nat) (lv st : List Value) (I : st_I) (L : st_L) (F : Int64 → st_I → st_L → Prop) : Prop := T shp d M pc lv st I L (kL F)
abbrev TV (d : Nat) (M : mi_T) (pc : Nat) (lv st : List Value) (I : st_I) (L : st_L) (F : st_I → st_L → Prop) : Prop := T shp d M pc lv st I L (kV F)
theorem EI_mono {d : Nat} {M : mi_T} {av : List Value} {I : st_I} {L : st_L} {F G : Int32 → st_I → st_L → Prop} (h : EI d M av I L F) (g : ∀ r I' L', F r I' L' → G r I' L') : EI d M av I L G := Ev.mono h (fun _ _ _ _ ⟨r, e1, e2, q⟩ => ⟨r, e1, e2, g _ _ _ q⟩)
theorem EL_mono {d : Nat} {M : mi_T} {av : List Value} {I : st_I} {L : st_L} {F G : Int64 → st_I → st_L → Prop} (h : EL d M av I L F) (g : ∀ r I' L', F r I' L' → G r I' L') : EL d M av I L G := Ev.mono h (fun _ _ _ _ ⟨r, e1, e2, q⟩ => ⟨r, e1, e2, g _ _ _ q⟩)
theorem EV_mono {d : Nat} {M : mi_T} {av : List Value} {I : st_I} {L : st_L} {F G : st_I → st_L → Prop} (h : EV d M av I L F) (g : ∀ I' L', F I' L' → G I' L') : EV d M av I L G := Ev.mono h (fun _ _ _ _ ⟨e1, e2, q⟩ => ⟨e1, e2, g _ _ q⟩)
theorem tq_ite {c A B A' B' : Prop} {dc : Decidable c} (h : @ite Prop c dc A B) (f : A → A') (g : B → B') : @ite Prop c dc A' B' := by
  by_cases hc : c
  · rw [if_pos hc] at h ⊢; exact f h
  · rw [if_neg hc] at h ⊢; exact g h
theorem tq_itv {c A B : Prop} {dc : Decidable c} (P : Int32 → Prop) (a b : Int32) (f : P a → A) (g : P b → B) (h : P (@ite Int32 c dc a b)) : @ite Prop c dc A B := by
  by_cases hc : c
  · rw [if_pos hc] at h ⊢; exact f h
  · rw [if_neg hc] at h ⊢; exact g h
theorem tq_inl {i : Int32} {n : Nat} (h : (decide (0 ≤ i.toInt) && decide (i.toInt < n)) = true) : vp_in i n := by
  rw [vp_in_iff]
  simpa using h
def tq_wk : List Value → List Value → Prop
  | [], [] => True
  | a :: t, b :: u => (b = .null ∨ b = a) ∧ tq_wk t u
  | _, _ => False
theorem tq_wk_at : ∀ (lv lv' : List Value), tq_wk lv lv' → ∀ (j : Nat) (v : Value), lv'[j]? = some v → v ≠ .null → lv[j]? = some v
  | [], [], _, j, v, h, _ => by simp at h
  | a :: t, b :: u, hw, 0, v, h, hv => by
    simp at h; subst h
    rcases hw.1 with e | e
    · exact absurd e hv
    · simp [e]
  | a :: t, b :: u, hw, j + 1, v, h, hv => by
    simp only [List.getElem?_cons_succ] at h ⊢
    exact tq_wk_at t u hw.2 j v h hv
section SR
variable {sh : sh_T} {d : Nat} {M : mi_T} {pc : Nat} {lv st : List Value} {I : st_I} {L : st_L} {Q : st_Q}
theorem T_wk {lv' : List Value} (hw : tq_wk lv lv') (k : T sh d M pc lv' st I L Q) : T sh d M pc lv st I L Q := by
  intro p l e s m args below meth c D cy ad H locs ls C hP hS hl
  refine k p l e s m args below meth c D cy ad H locs ls C hP hS ⟨hl.1, hl.2.1, fun q hq => hl.2.2 q ?_⟩
  obtain ⟨j, v, h1, h2, h3⟩ := (tq_asc_mem ad lv' 0 q).mp hq
  exact (tq_asc_mem ad lv 0 q).mpr ⟨j, v, tq_wk_at lv lv' hw j v h1 h2, h2, h3⟩
theorem T_getv {idx q ci k0 : Nat} {fs : List (Option Nat)} {v : Int32} (hd : decode M.2.1 pc = .ok (.getfield idx, 3)) (hf : tq_fl M.1.cls idx ci k0) (hq : sh[q]? = some (.inr (ci, fs))) (hk : fs[k0]? = some none) (hv : I q k0 = v) (k : T sh d M (pc + 3) lv (.int v :: st) I L Q) : T sh d M pc lv (.ref q :: st) I L Q := by
  subst hv; exact T_geti hd hf hq hk k
theorem T_ialdv {q n j : Nat} {i v : Int32} (hd : decode M.2.1 pc = .ok (.iaload, 1)) (hq : sh[q]? = some (.inl (0, n))) (hi : vp_in i n) (hj : i.toNatClampNeg = j) (hv : I q j = v) (k : T sh d M (pc + 1) lv (.int v :: st) I L Q) : T sh d M pc lv (.int i :: .ref q :: st) I L Q := by
  subst hj; subst hv; exact T_iald hd hq hi k
theorem T_baldv {q n j : Nat} {i v : Int32} (hd : decode M.2.1 pc = .ok (.baload, 1)) (hq : sh[q]? = some (.inl (1, n))) (hi : vp_in i n) (hj : i.toNatClampNeg = j) (hv : I q j = v) (k : T sh d M (pc + 1) lv (.int v :: st) I L Q) : T sh d M pc lv (.int i :: .ref q :: st) I L Q := by
  subst hj; subst hv; exact T_bald hd hq hi k
theorem T_zaldv {q n j : Nat} {i v : Int32} (hd : decode M.2.1 pc = .ok (.baload, 1)) (hq : sh[q]? = some (.inl (2, n))) (hi : vp_in i n) (hj : i.toNatClampNeg = j) (hv : I q j = v) (k : T sh d M (pc + 1) lv (.int v :: st) I L Q) : T sh d M pc lv (.int i :: .ref q :: st) I L Q := by
  subst hj; subst hv; exact T_zald hd hq hi k
theorem T_laldv {q n j : Nat} {i : Int32} {v : Int64} (hd : decode M.2.1 pc = .ok (.laload, 1)) (hq : sh[q]? = some (.inl (3, n))) (hi : vp_in i n) (hj : i.toNatClampNeg = j) (hv : L q j = v) (k : T sh d M (pc + 1) lv (.long v :: st) I L Q) : T sh d M pc lv (.int i :: .ref q :: st) I L Q := by
  subst hj; subst hv; exact T_lald hd hq hi k
theorem T_iastv {q n j : Nat} {i x : Int32} (hd : decode M.2.1 pc = .ok (.iastore, 1)) (hq : sh[q]? = some (.inl (0, n))) (hi : vp_in i n) (hj : i.toNatClampNeg = j) (k : T sh d M (pc + 1) lv st (u_I I q j x) L Q) : T sh d M pc lv (.int x :: .int i :: .ref q :: st) I L Q := by
  subst hj; exact T_iast hd hq hi k
theorem T_bastv {q n j : Nat} {i x y : Int32} (hd : decode M.2.1 pc = .ok (.bastore, 1)) (hq : sh[q]? = some (.inl (1, n))) (hi : vp_in i n) (hj : i.toNatClampNeg = j) (hy : vp_nar .byte x = y) (k : T sh d M (pc + 1) lv st (u_I I q j y) L Q) : T sh d M pc lv (.int x :: .int i :: .ref q :: st) I L Q := by
  subst hj; subst hy; exact T_bast hd hq hi k
theorem T_zastv {q n j : Nat} {i x y : Int32} (hd : decode M.2.1 pc = .ok (.bastore, 1)) (hq : sh[q]? = some (.inl (2, n))) (hi : vp_in i n) (hj : i.toNatClampNeg = j) (hy : vp_nar .boolean x = y) (k : T sh d M (pc + 1) lv st (u_I I q j y) L Q) : T sh d M pc lv (.int x :: .int i :: .ref q :: st) I L Q := by
  subst hj; subst hy; exact T_zast hd hq hi k
theorem T_lastv {q n j : Nat} {i : Int32} {x : Int64} (hd : decode M.2.1 pc = .ok (.lastore, 1)) (hq : sh[q]? = some (.inl (3, n))) (hi : vp_in i n) (hj : i.toNatClampNeg = j) (k : T sh d M (pc + 1) lv st I (u_L L q j x) Q) : T sh d M pc lv (.long x :: .int i :: .ref q :: st) I L Q := by
  subst hj; exact T_last hd hq hi k
theorem w_max : Cond.code Lib.Math.max.name Lib.Math.max.code 2 (some .int) ∈ tq_tbl := mkJ9_max_7cf53.2.2.1
theorem w_min : Cond.code Lib.Math.min.name Lib.Math.min.code 2 (some .int) ∈ tq_tbl := mkJ9_min_7cf53.2.2.1
theorem w_abs : Cond.code Lib.Math.abs.name Lib.Math.abs.code 1 (some .int) ∈ tq_tbl := mkJ9_abs_0f7a4.2.2.1
theorem w_maxs : Cond.static Lib.Math.max.name ∈ tq_tbl := mkJ9_max_7cf53.1
theorem w_mins : Cond.static Lib.Math.min.name ∈ tq_tbl := mkJ9_min_7cf53.1
theorem w_abss : Cond.static Lib.Math.abs.name ∈ tq_tbl := mkJ9_abs_0f7a4.1
theorem w_mi : Cond.initialized "java/lang/Math" ∈ tq_tbl := mkJ9_abs_0f7a4.2.1
theorem T_mmax {idx : Nat} {x y : Int32} (hd : decode M.2.1 pc = .ok (.invokestatic idx, 3)) (hlk : Cond.methodLink M.1.cls idx Lib.Math.max.name ∈ tq_tbl) (hw : (st.map fun v => v.category).sum ≤ 8) (k : T sh (d + 1) M (pc + 3) lv (.int (if x < y then y else x) :: st) I L Q) : T sh (d + 1) M pc lv (.int y :: .int x :: st) I L Q := by
  intro p l e s m args below meth c D cy ad H locs ls C hP hS hl
  exact va_mmax C.1 C.2.1 (by rw [C.2.2.1]; exact hl.1.symm) C.2.2.2.2.2.1 (tq_wd C.2.2.2.2.2.2.1 hlk) (tq_wd C.2.2.2.2.2.2.1 w_maxs) (tq_wd C.2.2.2.2.2.2.1 w_mi) (tq_wd C.2.2.2.2.2.2.1 w_max) (Nat.le_add_left 1 d) (by rw [tq_cats]; show _ + 13 ≤ 48 * (d + 1); omega) (Nat.le_refl 0) (Nat.le_refl 0) hd (k p l e s m args below meth c D cy ad H locs ls C hP hS hl)
theorem T_mmin {idx : Nat} {x y : Int32} (hd : decode M.2.1 pc = .ok (.invokestatic idx, 3)) (hlk : Cond.methodLink M.1.cls idx Lib.Math.min.name ∈ tq_tbl) (hw : (st.map fun v => v.category).sum ≤ 8) (k : T sh (d + 1) M (pc + 3) lv (.int (if y < x then y else x) :: st) I L Q) : T sh (d + 1) M pc lv (.int y :: .int x :: st) I L Q := by
  intro p l e s m args below meth c D cy ad H locs ls C hP hS hl
  exact va_mmin C.1 C.2.1 (by rw [C.2.2.1]; exact hl.1.symm) C.2.2.2.2.2.1 (tq_wd C.2.2.2.2.2.2.1 hlk) (tq_wd C.2.2.2.2.2.2.1 w_mins) (tq_wd C.2.2.2.2.2.2.1 w_mi) (tq_wd C.2.2.2.2.2.2.1 w_min) (Nat.le_add_left 1 d) (by rw [tq_cats]; show _ + 13 ≤ 48 * (d + 1); omega) (Nat.le_refl 0) (Nat.le_refl 0) hd (k p l e s m args below meth c D cy ad H locs ls C hP hS hl)
theorem T_mabs {idx : Nat} {x : Int32} (hd : decode M.2.1 pc = .ok (.invokestatic idx, 3)) (hlk : Cond.methodLink M.1.cls idx Lib.Math.abs.name ∈ tq_tbl) (hw : (st.map fun v => v.category).sum ≤ 8) (k : T sh (d + 1) M (pc + 3) lv (.int (if 0 ≤ x then x else 0 - x) :: st) I L Q) : T sh (d + 1) M pc lv (.int x :: st) I L Q := by
  intro p l e s m args below meth c D cy ad H locs ls C hP hS hl
  exact va_mabs C.1 C.2.1 (by rw [C.2.2.1]; exact hl.1.symm) C.2.2.2.2.2.1 (tq_wd C.2.2.2.2.2.2.1 hlk) (tq_wd C.2.2.2.2.2.2.1 w_abss) (tq_wd C.2.2.2.2.2.2.1 w_mi) (tq_wd C.2.2.2.2.2.2.1 w_abs) (Nat.le_add_left 1 d) (by rw [tq_cats]; show _ + 13 ≤ 48 * (d + 1); omega) (Nat.le_refl 0) (Nat.le_refl 0) hd (k p l e s m args below meth c D cy ad H locs ls C hP hS hl)
theorem S_callVI {M' : mi_T} {idx b ci n : Nat} {fs : List (Option Nat)} {stk : List Value} {G : Int32 → st_I → st_L → Prop} (As : List Value) (st : List Value) {r : vw_C} (hd : decode M.2.1 pc = .ok (.invokevirtual idx, 3)) (hlk : Cond.methodLink M.1.cls idx M'.1 ∈ tq_tbl) (hm : tq_mV M' n) (hst : stk = As.reverse ++ .ref b :: st) (hb : shp[b]? = some (.inr (ci, fs))) (hc : tq_cl[ci]? = some r) (hr : r.1 = M'.1.cls) (hn : As.length = n) (hw : (st.map fun v => v.category).sum ≤ 8)
    (h : EI d M' (.ref b :: As) I L G) (k : ∀ r I' L', G r I' L' → T shp (d + 1) M (pc + 3) lv (.int r :: st) I' L' Q) : T shp (d + 1) M pc lv stk I L Q :=
  T_callV As st hd hlk hm hst hb hc hr hn hw (Ev.mono h (fun v sh' I' L' ⟨x, e1, e2, g⟩ => by subst e1; subst e2; exact ⟨trivial, k _ _ _ g⟩))
theorem S_callVL {M' : mi_T} {idx b ci n : Nat} {fs : List (Option Nat)} {stk : List Value} {G : Int64 → st_I → st_L → Prop} (As : List Value) (st : List Value) {r : vw_C} (hd : decode M.2.1 pc = .ok (.invokevirtual idx, 3)) (hlk : Cond.methodLink M.1.cls idx M'.1 ∈ tq_tbl) (hm : tq_mV M' n) (hst : stk = As.reverse ++ .ref b :: st) (hb : shp[b]? = some (.inr (ci, fs))) (hc : tq_cl[ci]? = some r) (hr : r.1 = M'.1.cls) (hn : As.length = n) (hw : (st.map fun v => v.category).sum ≤ 8)
    (h : EL d M' (.ref b :: As) I L G) (k : ∀ r I' L', G r I' L' → T shp (d + 1) M (pc + 3) lv (.long r :: st) I' L' Q) : T shp (d + 1) M pc lv stk I L Q :=
  T_callV As st hd hlk hm hst hb hc hr hn hw (Ev.mono h (fun v sh' I' L' ⟨x, e1, e2, g⟩ => by subst e1; subst e2; exact ⟨trivial, k _ _ _ g⟩))
theorem S_callVV {M' : mi_T} {idx b ci n : Nat} {fs : List (Option Nat)} {stk : List Value} {G : st_I → st_L → Prop} (As : List Value) (st : List Value) {r : vw_C} (hd : decode M.2.1 pc = .ok (.invokevirtual idx, 3)) (hlk : Cond.methodLink M.1.cls idx M'.1 ∈ tq_tbl) (hm : tq_mV M' n) (hst : stk = As.reverse ++ .ref b :: st) (hb : shp[b]? = some (.inr (ci, fs))) (hc : tq_cl[ci]? = some r) (hr : r.1 = M'.1.cls) (hn : As.length = n) (hw : (st.map fun v => v.category).sum ≤ 8)
    (h : EV d M' (.ref b :: As) I L G) (k : ∀ I' L', G I' L' → T shp (d + 1) M (pc + 3) lv st I' L' Q) : T shp (d + 1) M pc lv stk I L Q :=
  T_callV As st hd hlk hm hst hb hc hr hn hw (Ev.mono h (fun v sh' I' L' ⟨e1, e2, g⟩ => by subst e1; subst e2; exact ⟨trivial, k _ _ g⟩))
theorem S_callSI {M' : mi_T} {idx n : Nat} {stk : List Value} {G : Int32 → st_I → st_L → Prop} (As : List Value) (st : List Value) (hd : decode M.2.1 pc = .ok (.invokestatic idx, 3)) (hlk : Cond.methodLink M.1.cls idx M'.1 ∈ tq_tbl) (hm : tq_mS M' n) (hst : stk = As.reverse ++ st) (hn : As.length = n) (hw : (st.map fun v => v.category).sum ≤ 8)
    (h : EI d M' As I L G) (k : ∀ r I' L', G r I' L' → T shp (d + 1) M (pc + 3) lv (.int r :: st) I' L' Q) : T shp (d + 1) M pc lv stk I L Q :=
  T_callS As st hd hlk hm hst hn hw (Ev.mono h (fun v sh' I' L' ⟨x, e1, e2, g⟩ => by subst e1; subst e2; exact ⟨trivial, k _ _ _ g⟩))
theorem S_callSL {M' : mi_T} {idx n : Nat} {stk : List Value} {G : Int64 → st_I → st_L → Prop} (As : List Value) (st : List Value) (hd : decode M.2.1 pc = .ok (.invokestatic idx, 3)) (hlk : Cond.methodLink M.1.cls idx M'.1 ∈ tq_tbl) (hm : tq_mS M' n) (hst : stk = As.reverse ++ st) (hn : As.length = n) (hw : (st.map fun v => v.category).sum ≤ 8)
    (h : EL d M' As I L G) (k : ∀ r I' L', G r I' L' → T shp (d + 1) M (pc + 3) lv (.long r :: st) I' L' Q) : T shp (d + 1) M pc lv stk I L Q :=
  T_callS As st hd hlk hm hst hn hw (Ev.mono h (fun v sh' I' L' ⟨x, e1, e2, g⟩ => by subst e1; subst e2; exact ⟨trivial, k _ _ _ g⟩))
theorem S_callSV {M' : mi_T} {idx n : Nat} {stk : List Value} {G : st_I → st_L → Prop} (As : List Value) (st : List Value) (hd : decode M.2.1 pc = .ok (.invokestatic idx, 3)) (hlk : Cond.methodLink M.1.cls idx M'.1 ∈ tq_tbl) (hm : tq_mS M' n) (hst : stk = As.reverse ++ st) (hn : As.length = n) (hw : (st.map fun v => v.category).sum ≤ 8)
    (h : EV d M' As I L G) (k : ∀ I' L', G I' L' → T shp (d + 1) M (pc + 3) lv st I' L' Q) : T shp (d + 1) M pc lv stk I L Q :=
  T_callS As st hd hlk hm hst hn hw (Ev.mono h (fun v sh' I' L' ⟨e1, e2, g⟩ => by subst e1; subst e2; exact ⟨trivial, k _ _ g⟩))
theorem S_iret {x : Int32} {F : Int32 → st_I → st_L → Prop} (hr : M.2.2.2 = some .int) (hd : decode M.2.1 pc = .ok (.ireturn, 1)) (h : F x I L) : T shp d M pc lv [.int x] I L (kI F) := T_iret hr hd ⟨x, rfl, rfl, h⟩
theorem S_zret {x : Int32} {F : Int32 → st_I → st_L → Prop} (hr : M.2.2.2 = some .boolean) (hd : decode M.2.1 pc = .ok (.ireturn, 1)) (hx : x = 0 ∨ x = 1) (h : F x I L) : T shp d M pc lv [.int x] I L (kI F) := T_zret hr hd hx ⟨x, rfl, rfl, h⟩
theorem S_lret {x : Int64} {F : Int64 → st_I → st_L → Prop} (hr : M.2.2.2 = some .long) (hd : decode M.2.1 pc = .ok (.lreturn, 1)) (h : F x I L) : T shp d M pc lv [.long x] I L (kL F) := T_lret hr hd ⟨x, rfl, rfl, h⟩
theorem S_vret {F : st_I → st_L → Prop} (hr : M.2.2.2 = none) (hd : decode M.2.1 pc = .ok (.return_, 1)) (h : F I L) : T shp d M pc lv [] I L (kV F) := T_vret hr hd ⟨rfl, rfl, h⟩
end SR
