/-! constructors: a word's number, by the reference's own method -/
def apF (w : Int64) (c : Int32) : Int64 := if c = 0 then w else (27 * w) + ((((c - 97) + 1) : Int32).toInt64)
theorem js_appends {sh : sh_T} {d : Nat} {I : st_I} {L : st_L} {Q : st_Q} {a1 : Int64} {a2 : Int32} (h : Q (some (.long (apF a1 a2))) sh I L) : Ev sh d mX12_appends [.long a1, .int a2] I L Q := by
  refine Ev_of (ls0 := 0) (by decide +kernel) rfl rfl rfl ?_
  refine T_iload_n dX12_appends_0 rfl ?_
  refine T_if_ne (tgt := 8) dX12_appends_1 (by decide) (tq_ite (show (if a2 = 0 then Q (some (.long a1)) sh I L else Q (some (.long ((27 * a1) + ((((a2 - 97) + 1) : Int32).toInt64)))) sh I L) by
    by_cases z : a2 = 0
    · rw [if_pos z]; unfold apF at h; rw [if_pos z] at h; exact h
    · rw [if_neg z]; unfold apF at h; rw [if_neg z] at h; exact h) (fun h => ?_) (fun h => ?_))
  ·
    refine T_lload_n dX12_appends_4 rfl ?_
    refine T_goto (tgt := 21) dX12_appends_5 (by decide) ?_
    exact T_lret rfl dX12_appends_21 h
  ·
    refine T_ldc2 (v := 27) dX12_appends_8 ki_RX12_199 ?_
    refine T_lload_n dX12_appends_11 rfl ?_
    refine T_lmul dX12_appends_12 ?_
    refine T_iload_n dX12_appends_13 rfl ?_
    refine T_bipush (v := 97) dX12_appends_14 (by decide +kernel) ?_
    refine T_isub dX12_appends_16 ?_
    refine T_iconst (v := 1) dX12_appends_17 (by decide +kernel) ?_
    refine T_iadd dX12_appends_18 ?_
    refine T_i2l dX12_appends_19 ?_
    refine T_ladd dX12_appends_20 ?_
    exact T_lret rfl dX12_appends_21 h
def wd7 (a1 a2 a3 a4 a5 a6 a7 : Int32) : Int64 := apF (apF (apF (apF (apF (apF (apF 0 a1) a2) a3) a4) a5) a6) a7
theorem js_word {sh : sh_T} {d : Nat} {I : st_I} {L : st_L} {Q : st_Q} {a1 a2 a3 a4 a5 a6 a7 : Int32} (h : Q (some (.long (wd7 a1 a2 a3 a4 a5 a6 a7))) sh I L) : Ev sh (d + 1) mX12_word [.int a1, .int a2, .int a3, .int a4, .int a5, .int a6, .int a7] I L Q := by
  refine Ev_of (ls0 := 0) (by decide +kernel) rfl rfl rfl ?_
  refine T_lconst (v := 0) dX12_word_0 (by decide +kernel) ?_
  refine T_iload_n dX12_word_1 rfl ?_
  refine T_callS (M' := mX12_appends) [.long 0, .int a1] [] dX12_word_2 ml_RX12_201 mkX12_appends rfl rfl (Nat.le_of_ble_eq_true rfl) (js_appends ⟨trivial, ?_⟩)
  refine T_iload_n dX12_word_5 rfl ?_
  refine T_callS (M' := mX12_appends) [.long _, .int a2] [] dX12_word_6 ml_RX12_201 mkX12_appends rfl rfl (Nat.le_of_ble_eq_true rfl) (js_appends ⟨trivial, ?_⟩)
  refine T_iload_n dX12_word_9 rfl ?_
  refine T_callS (M' := mX12_appends) [.long _, .int a3] [] dX12_word_10 ml_RX12_201 mkX12_appends rfl rfl (Nat.le_of_ble_eq_true rfl) (js_appends ⟨trivial, ?_⟩)
  refine T_iload_n dX12_word_13 rfl ?_
  refine T_callS (M' := mX12_appends) [.long _, .int a4] [] dX12_word_14 ml_RX12_201 mkX12_appends rfl rfl (Nat.le_of_ble_eq_true rfl) (js_appends ⟨trivial, ?_⟩)
  refine T_iload dX12_word_17 rfl ?_
  refine T_callS (M' := mX12_appends) [.long _, .int a5] [] dX12_word_19 ml_RX12_201 mkX12_appends rfl rfl (Nat.le_of_ble_eq_true rfl) (js_appends ⟨trivial, ?_⟩)
  refine T_iload dX12_word_22 rfl ?_
  refine T_callS (M' := mX12_appends) [.long _, .int a6] [] dX12_word_24 ml_RX12_201 mkX12_appends rfl rfl (Nat.le_of_ble_eq_true rfl) (js_appends ⟨trivial, ?_⟩)
  refine T_iload dX12_word_27 rfl ?_
  refine T_callS (M' := mX12_appends) [.long _, .int a7] [] dX12_word_29 ml_RX12_201 mkX12_appends rfl rfl (Nat.le_of_ble_eq_true rfl) (js_appends ⟨trivial, ?_⟩)
  exact T_lret rfl dX12_word_32 h
section NR4
variable {M : mi_T} {p : Program} {l : Launch} {e : Env} {R : Room} {s : State} {m : MethodId} {args : Array Value} {below : List Frame} {meth : Method} {c : Code} {D : va_G} {cy : Nat → ClassId} {A : Nat → Prop} {Q : State → Prop} {ls : Array Slot} {h0 ci cells slots pc : Nat} {fs : List Value} {ws : va_W} {st : List Value}
theorem NW_word {idx : Nat} {a1 a2 a3 a4 a5 a6 a7 : Int32} {ad : Nat → Nat} (C : NC M p s m args meth c D cy A) (hl : lv_has ls M.2.2.1 [(0, .ref h0)]) (hE : tq_str ad A s) (hlk : Cond.methodLink M.1.cls idx mX12_word.1 ∈ tq_tbl) (hR : 1 + 1 ≤ R.frames ∧ 8 + (29 + 11) + 48 * 1 ≤ R.locals) (hc : cells + 0 ≤ R.cells) (hs : slots + 0 ≤ R.slots) (hw : (st.map fun v => v.category).sum ≤ 8) (hd : decode M.2.1 pc = .ok (.invokestatic idx, 3)) (k : NW p l e R s m args below meth c D A Q ls h0 ci cells slots (pc + 3) fs ws (.long (wd7 a1 a2 a3 a4 a5 a6 a7) :: st)) : NW p l e R s m args below meth c D A Q ls h0 ci cells slots pc fs ws (.int a7 :: .int a6 :: .int a5 :: .int a4 :: .int a3 :: .int a2 :: .int a1 :: st) := by
  intro H locs hP hD hS
  have hA1 : ∀ x, ¬ tq_A ad 0 x := fun x ⟨k, hk, _⟩ => Nat.not_lt_zero _ hk
  have hPc : va_P D tq_cl (w_D cy ad [] (fun _ _ => 0) (fun _ _ => 0)) H := fun k x hk => by cases hk
  have hword := js_word (d := 0) (sh := []) (I := fun _ _ => 0) (L := fun _ _ => 0) (a1 := a1) (a2 := a2) (a3 := a3) (a4 := a4) (a5 := a5) (a6 := a6) (a7 := a7) (Q := fun v' _ _ _ => v' = some (.long (wd7 a1 a2 a3 a4 a5 a6 a7))) rfl
  have hr := va_runS (l := l) (e := e) (below := below) (meth := meth) (locs := locs) (cells := cells) (slots := slots) (As := [.int a1, .int a2, .int a3, .int a4, .int a5, .int a6, .int a7]) (rest := st) ⟨C.1, C.2.1, C.2.2.1, C.2.2.2.2.2.1, C.2.2.2.2.2.2.1⟩ (hword l D cy ad) ⟨nw_callB (R := R) C hlk mkX12_word.2 hR, tq_wd C.2.2.2.2.2.2.1 mkX12_word.1⟩ ⟨tq_P_blind, fun U hU hW => ⟨rfl, by rw [hU]; exact hPc, va_K.moved hW.alike C.2.2.2.2.2.2.2.1, fun i j hi => absurd hi (Nat.not_lt_zero _), tq_str_nar (tq_str_to hE hS hU hW) (fun x hx => absurd hx (hA1 x))⟩⟩ (g := F0 m pc ls (.int a7 :: .int a6 :: .int a5 :: .int a4 :: .int a3 :: .int a2 :: .int a1 :: st)) rfl rfl hl.1 rfl (lv_room hw) hd ⟨hc, hs⟩
  intro T hT X
  obtain ⟨v', st₀, t, T', L0, h00, X', hL, e1, e2, ⟨⟨v2, sh, I, L, hv, hq, hn', hP1, hK1⟩, hz, hk⟩, stp⟩ := hr T hT X
  cases hv
  obtain rfl := hq
  rw [h00] at hz hk
  have hsame : ∀ x : Nat, x < H.size → t.heap[x]? = H[x]? := fun x h1 => hk x h1 (hA1 x)
  have hkk : ∀ (k : Nat) (x : Nat × va_E), ((h0, Sum.inr (ci, fs)) :: ws : va_W)[k]? = some x → T'.heap[x.1]? = H[x.1]? := fun k x hx => by rw [e1]; exact hsame x.1 ((hP k x hx).lt)
  have hS' : va_S A s.heap T'.heap (locs ++ L0) := ⟨Nat.le_trans hS.1 (by rw [e1]; exact hz), fun x h1 h2 => by rw [e1, hsame x (Nat.lt_of_lt_of_le h1 hS.1)]; exact hS.2.1 x h1 h2, fun x hx2 => by
      rcases List.mem_append.mp hx2 with h | h
      · exact hS.2.2 x h
      · exact absurd (hL x h) (hA1 _)⟩
  obtain ⟨t2, a, b⟩ := k T'.heap (locs ++ L0) (hP.kept hkk) hD hS' T' rfl X'
  exact ⟨t2, stp t2 a, b⟩
theorem NW_last {qk n k0 : Nat} {i : Int32} {x : Int64} {f : Nat → Int64} (wsO : (Nat → Int64) → va_W) (C : NC M p s m args meth c D cy A) (h1 : ∀ f, (wsO f)[k0]? = some (qk, .inl (cy 3, n, .inr (.inl f)))) (h2 : ∀ f g, (wsO f).set k0 (qk, .inl (cy 3, n, .inr (.inl g))) = wsO g) (hin : vp_in i n) (hd : decode M.2.1 pc = .ok (.lastore, 1)) (k : NW p l e R s m args below meth c D A Q ls h0 ci cells slots (pc + 1) fs (wsO (vp_updL f i.toNatClampNeg x)) st) : NW p l e R s m args below meth c D A Q ls h0 ci cells slots pc fs (wsO f) (.long x :: .int i :: .ref qk :: st) := by
  intro H locs hP hD hS
  have hx : (((h0, .inr (ci, fs)) :: wsO f : va_W))[k0 + 1]? = some (qk, .inl (cy 3, n, .inr (.inl f))) := by rw [List.getElem?_cons_succ]; exact h1 f
  refine va_last C.1 C.2.1 C.2.2.2.2.2.2.2.1 hP hD hS (k0 + 1) 3 hx rfl hin hd (fun H1 locs1 hP1 hD1 hS1 => ?_)
  rw [List.set_cons_succ, h2] at hP1 hD1
  exact k H1 locs1 hP1 hD1 hS1
theorem NW_eqw {ws' : va_W} (h : ws = ws') (k : NW p l e R s m args below meth c D A Q ls h0 ci cells slots pc fs ws' st) : NW p l e R s m args below meth c D A Q ls h0 ci cells slots pc fs ws st := by rw [h]; exact k
end NR4
theorem NW_putE {M : mi_T} {p : Program} {l : Launch} {e : Env} {R : Room} {s : State} {m : MethodId} {args : Array Value} {below : List Frame} {meth : Method} {c : Code} {D : va_G} {cy : Nat → ClassId} {A : Nat → Prop} {Q : State → Prop} {ls : Array Slot} {h0 ci cells slots pc : Nat} {fs fs2 : List Value} {ws : va_W} {st : List Value} {idx k0 : Nat} {ty : FieldType} {v v0 : Value} {fin : Bool} (C : NC M p s m args meth c D cy A) (hf : tq_fl M.1.cls idx ci k0) (hp : tq_pg M.1.cls ci k0 fin ty) (hn : narrow ty v = v) (hfit : fits ty v = true) (hl : fs[k0]? = some v0) (h2 : fs.set k0 v = fs2) (hd : decode M.2.1 pc = .ok (.putfield idx, 3)) (k : NW p l e R s m args below meth c D A Q ls h0 ci cells slots (pc + 3) fs2 ws st) : NW p l e R s m args below meth c D A Q ls h0 ci cells slots pc fs ws (v :: .ref h0 :: st) := by
  subst h2
  exact NW_put C hf hp hn hfit (List.getElem?_eq_some_iff.mp hl).1 hd k
/-- the newest first -/
theorem rot_at {h x p : Nat × va_E} {ws : va_W} {k : Nat} (hk : ((h :: x :: ws : va_W))[k]? = some p) : k < ws.length + 2 ∧ ((h :: (ws ++ [x]) : va_W))[(if k = 0 then 0 else if k = 1 then ws.length + 1 else k - 1)]? = some p := by
  refine ⟨(List.getElem?_eq_some_iff.mp hk).1, ?_⟩
  match k, hk with
  | 0, hk => exact hk
  | 1, hk =>
    rw [if_neg (by decide), if_pos rfl, List.getElem?_cons_succ, List.getElem?_append_right (Nat.le_refl _), Nat.sub_self]
    exact hk
  | k + 2, hk =>
    rw [if_neg (by omega), if_neg (by omega), show k + 2 - 1 = k + 1 from rfl, List.getElem?_cons_succ]
    have h2 : ws[k]? = some p := hk
    rw [List.getElem?_append_left (List.getElem?_eq_some_iff.mp h2).1]
    exact h2
theorem NW_rot {p : Program} {l : Launch} {e : Env} {R : Room} {s : State} {m : MethodId} {args : Array Value} {below : List Frame} {meth : Method} {c : Code} {D : va_G} {A : Nat → Prop} {Q : State → Prop} {ls : Array Slot} {h0 ci cells slots pc : Nat} {fs : List Value} {ws : va_W} {st : List Value} {x : Nat × va_E} (k : NW p l e R s m args below meth c D A Q ls h0 ci cells slots pc fs (x :: ws) st) : NW p l e R s m args below meth c D A Q ls h0 ci cells slots pc fs (ws ++ [x]) st := by
  intro H locs hP hD hS
  refine k H locs (fun i y hi => hP _ y (rot_at hi).2) ⟨fun i j y z hi hj hyz => ?_, fun i y hi => hD.2 _ y (rot_at hi).2⟩ hS
  obtain ⟨a1, a2⟩ := rot_at hi
  obtain ⟨b1, b2⟩ := rot_at hj
  have := hD.1 _ _ _ _ a2 b2 hyz
  split at this <;> split at this <;> (try split at this) <;> (try split at this) <;> omega
