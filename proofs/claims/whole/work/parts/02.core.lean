abbrev sh_E : Type := (Nat × Nat) ⊕ (Nat × List (Option Nat))
abbrev sh_T : Type := List sh_E
abbrev st_I : Type := Nat → Nat → Int32
abbrev st_L : Type := Nat → Nat → Int64
abbrev st_Q : Type := Option Value → sh_T → st_I → st_L → Prop
abbrev mi_T : Type := MethodName × ByteArray × Nat × Option FieldType
/-- the classes whose objects the world holds, by the numbers of the printed names -/
def tq_cl : List vw_C := [(RX0, TX0, 2), (RX1, TX1, 7), (RX2, TX2, 10), (RX3, TX3, 7), (RX4, TX4, 4), (RX5, TX5, 19), (RX6, TX6, 4), (RX7, TX7, 2), (RX8, TX8, 12), (RX9, TX9, 4), (RX0, TX0, 2), (RX11, TX11, 11), (RX12, TX12, 79)]
def tq_ty (cy : Nat → ClassId) : List (ClassId × FieldType) := [(cy 0, .int), (cy 1, .byte), (cy 2, .boolean), (cy 3, .long)]
def f_go (ad : Nat → Nat) (v : Nat → Int32) : Nat → List (Option Nat) → List Value
  | _, [] => []
  | k, none :: t => .int (v k) :: f_go ad v (k + 1) t
  | k, some r :: t => .ref (ad r) :: f_go ad v (k + 1) t
def c_of (cy : Nat → ClassId) (ad : Nat → Nat) (I : st_I) (L : st_L) (p : Nat) : sh_E → va_E
  | .inl a => .inl (cy a.1, a.2, if a.1 = 3 then .inr (.inl (L p)) else .inl (I p))
  | .inr o => .inr (o.1, f_go ad (I p) 0 o.2)
def w_go (cy : Nat → ClassId) (ad : Nat → Nat) (I : st_I) (L : st_L) : Nat → sh_T → va_W
  | _, [] => []
  | p, x :: t => (ad p, c_of cy ad I L p x) :: w_go cy ad I L (p + 1) t
abbrev w_D (cy : Nat → ClassId) (ad : Nat → Nat) (sh : sh_T) (I : st_I) (L : st_L) : va_W := w_go cy ad I L 0 sh
def f_val (ad : Nat → Nat) (x : Int32) : Option Nat → Value
  | none => .int x
  | some r => .ref (ad r)
theorem f_go_at (ad : Nat → Nat) (v : Nat → Int32) (fs : List (Option Nat)) : ∀ (k j : Nat), (f_go ad v k fs)[j]? = fs[j]?.map (f_val ad (v (k + j))) := by
  induction fs with
  | nil => intro k j; simp [f_go]
  | cons a t ih =>
    intro k j
    cases a <;> cases j <;> simp [f_go, f_val, ih, Nat.add_assoc, Nat.add_comm 1]
theorem w_go_at (cy : Nat → ClassId) (ad : Nat → Nat) (I : st_I) (L : st_L) (sh : sh_T) : ∀ (k j : Nat), (w_go cy ad I L k sh)[j]? = sh[j]?.map (fun x => (ad (k + j), c_of cy ad I L (k + j) x)) := by
  induction sh with
  | nil => intro k j; simp [w_go]
  | cons a t ih =>
    intro k j
    cases j <;> simp [w_go, ih, Nat.add_assoc, Nat.add_comm 1]
theorem w_at {cy : Nat → ClassId} {ad : Nat → Nat} {I : st_I} {L : st_L} {sh : sh_T} {q : Nat} {x : sh_E} (h : sh[q]? = some x) : (w_D cy ad sh I L)[q]? = some (ad q, c_of cy ad I L q x) := by
  rw [w_go_at, h]; simp
def u_I (I : st_I) (q k : Nat) (x : Int32) : st_I := fun a b => if a = q then (if b = k then x else I a b) else I a b
def u_L (L : st_L) (q k : Nat) (x : Int64) : st_L := fun a b => if a = q then (if b = k then x else L a b) else L a b
theorem u_I_self (I : st_I) (q k : Nat) (x : Int32) : u_I I q k x q = upd (I q) k x := by funext b; simp [u_I, upd]
theorem u_L_self (L : st_L) (q k : Nat) (x : Int64) : u_L L q k x q = vp_updL (L q) k x := by funext b; simp [u_L, vp_updL]
theorem u_I_ne {I : st_I} {q a : Nat} (k : Nat) (x : Int32) (h : a ≠ q) : u_I I q k x a = I a := by funext b; simp [u_I, h]
theorem u_L_ne {L : st_L} {q a : Nat} (k : Nat) (x : Int64) (h : a ≠ q) : u_L L q k x a = L a := by funext b; simp [u_L, h]
theorem c_of_congr {cy : Nat → ClassId} {ad : Nat → Nat} {I I' : st_I} {L L' : st_L} {a : Nat} (h1 : I' a = I a) (h2 : L' a = L a) (x : sh_E) : c_of cy ad I' L' a x = c_of cy ad I L a x := by
  cases x <;> simp [c_of, h1, h2]
theorem w_set {cy : Nat → ClassId} {ad : Nat → Nat} {I I' : st_I} {L L' : st_L} {sh : sh_T} {q : Nat} {x x' : sh_E} (h : sh[q]? = some x) (h1 : ∀ a, a ≠ q → I' a = I a) (h2 : ∀ a, a ≠ q → L' a = L a) : (w_D cy ad sh I L).set q (ad q, c_of cy ad I' L' q x') = w_D cy ad (sh.set q x') I' L' := by
  apply List.ext_getElem?
  intro j
  rw [List.getElem?_set, w_go_at, w_go_at, List.getElem?_set]
  have hlt : q < sh.length := (List.getElem?_eq_some_iff.mp h).1
  have hlen : q < (w_go cy ad I L 0 sh).length := by
    have h0 := w_at (cy := cy) (ad := ad) (I := I) (L := L) h
    exact (List.getElem?_eq_some_iff.mp h0).1
  by_cases hj : q = j
  · subst hj; simp [hlt, hlen]
  · have hj' : j ≠ q := fun e => hj e.symm
    simp only [if_neg hj, Nat.zero_add]
    congr 1
    funext y
    rw [c_of_congr (h1 j hj') (h2 j hj')]
theorem w_same {sh : sh_T} {q : Nat} {x : sh_E} (h : sh[q]? = some x) : sh.set q x = sh := by
  apply List.ext_getElem?
  intro j
  rw [List.getElem?_set]
  by_cases hj : q = j
  · subst hj; rw [if_pos rfl, h]; simp [(List.getElem?_eq_some_iff.mp h).1]
  · rw [if_neg hj]
theorem f_set {ad : Nat → Nat} {v : Nat → Int32} {fs : List (Option Nat)} {k : Nat} (x : Int32) (h : fs[k]? = some none) : (f_go ad v 0 fs).set k (.int x) = f_go ad (upd v k x) 0 fs := by
  apply List.ext_getElem?
  intro j
  have hk : k < (f_go ad v 0 fs).length := by
    have h0 : (f_go ad v 0 fs)[k]? = some (.int (v (0 + k))) := by rw [f_go_at, h]; rfl
    exact (List.getElem?_eq_some_iff.mp h0).1
  rw [List.getElem?_set, f_go_at, f_go_at]
  by_cases hj : k = j
  · subst hj; simp [hk, h, f_val, upd]
  · have hj' : j ≠ k := fun e => hj e.symm
    rw [if_neg hj]
    simp [upd, hj']
theorem f_setr {ad : Nat → Nat} {v : Nat → Int32} {fs : List (Option Nat)} {k r0 : Nat} (r : Nat) (h : fs[k]? = some (some r0)) : (f_go ad v 0 fs).set k (.ref (ad r)) = f_go ad v 0 (fs.set k (some r)) := by
  apply List.ext_getElem?
  intro j
  have hk : k < (f_go ad v 0 fs).length := by
    have h0 : (f_go ad v 0 fs)[k]? = some (.ref (ad r0)) := by rw [f_go_at, h]; rfl
    exact (List.getElem?_eq_some_iff.mp h0).1
  have hk2 : k < fs.length := (List.getElem?_eq_some_iff.mp h).1
  rw [List.getElem?_set, f_go_at, f_go_at, List.getElem?_set]
  by_cases hj : k = j
  · subst hj; simp [hk, hk2, f_val]
  · simp [hj]
/-- references are positions -/
def tq_v (ad : Nat → Nat) : Value → Value
  | .ref q => .ref (ad q)
  | .int x => .int x
  | .long x => .long x
  | .float x => .float x
  | .double x => .double x
  | .null => .null
  | .retAddr x => .retAddr x
theorem tq_v_cat (ad : Nat → Nat) (v : Value) : (tq_v ad v).category = v.category := by cases v <;> rfl
def tq_A (ad : Nat → Nat) (n : Nat) : Nat → Prop := fun q => ∃ k, k < n ∧ q = ad k
def tq_inj (ad : Nat → Nat) (n : Nat) : Prop := ∀ i j, i < n → j < n → ad i = ad j → i = j
theorem tq_D {cy : Nat → ClassId} {ad : Nat → Nat} {I : st_I} {L : st_L} {sh : sh_T} (h : tq_inj ad sh.length) : va_D (tq_A ad sh.length) (w_D cy ad sh I L) := by
  refine ⟨fun i j p q hi hj hpq => ?_, fun k q hk => ?_⟩
  · rw [w_go_at] at hi hj
    obtain ⟨a, ha, e1⟩ := Option.map_eq_some_iff.mp hi
    obtain ⟨b, hb, e2⟩ := Option.map_eq_some_iff.mp hj
    subst e1; subst e2
    exact h i j (List.getElem?_eq_some_iff.mp ha).1 (List.getElem?_eq_some_iff.mp hb).1 (by simpa using hpq)
  · rw [w_go_at] at hk
    obtain ⟨a, ha, e1⟩ := Option.map_eq_some_iff.mp hk
    subst e1
    exact ⟨k, (List.getElem?_eq_some_iff.mp ha).1, by simp⟩
/-- the locals: a list by place, .null: nothing is said of it -/
def tq_asc (ad : Nat → Nat) : Nat → List Value → List (Nat × Value)
  | _, [] => []
  | k, .null :: t => tq_asc ad (k + 1) t
  | k, v :: t => (k, tq_v ad v) :: tq_asc ad (k + 1) t
theorem tq_asc_mem (ad : Nat → Nat) (lv : List Value) : ∀ (k : Nat) (q : Nat × Value), q ∈ tq_asc ad k lv ↔ ∃ (j : Nat) (v : Value), lv[j]? = some v ∧ v ≠ .null ∧ q = (k + j, tq_v ad v) := by
  induction lv with
  | nil => intro k q; simp [tq_asc]
  | cons a t ih =>
    intro k q
    have hs : (∃ (j : Nat) (v : Value), t[j]? = some v ∧ v ≠ .null ∧ q = (k + 1 + j, tq_v ad v)) ↔ ∃ (j : Nat) (v : Value), (a :: t)[j + 1]? = some v ∧ v ≠ .null ∧ q = (k + (j + 1), tq_v ad v) := by
      simp only [List.getElem?_cons_succ, Nat.add_assoc, Nat.add_comm 1]
    have split : (∃ (j : Nat) (v : Value), (a :: t)[j]? = some v ∧ v ≠ .null ∧ q = (k + j, tq_v ad v)) ↔ (a ≠ .null ∧ q = (k, tq_v ad a)) ∨ ∃ (j : Nat) (v : Value), (a :: t)[j + 1]? = some v ∧ v ≠ .null ∧ q = (k + (j + 1), tq_v ad v) := by
      constructor
      · rintro ⟨j, v, h1, h2, h3⟩
        cases j with
        | zero => simp at h1; subst h1; exact Or.inl ⟨h2, by simpa using h3⟩
        | succ j => exact Or.inr ⟨j, v, h1, h2, h3⟩
      · rintro (⟨h1, h2⟩ | ⟨j, v, h1, h2, h3⟩)
        · exact ⟨0, a, rfl, h1, by simpa using h2⟩
        · exact ⟨j + 1, v, h1, h2, h3⟩
    rw [split, ← hs, ← ih]
    cases a <;> simp [tq_asc]
def tq_has (ls : Array Slot) (nL : Nat) (ad : Nat → Nat) (lv : List Value) : Prop := lv_has ls nL (tq_asc ad 0 lv)
theorem tq_ld {ls : Array Slot} {nL : Nat} {ad : Nat → Nat} {lv : List Value} {i : Nat} {v : Value} (h : tq_has ls nL ad lv) (hi : lv[i]? = some v) (hv : v ≠ .null) : ls[i]? = some (.val (tq_v ad v)) :=
  h.2.2 (i, tq_v ad v) ((tq_asc_mem ad lv 0 _).mpr ⟨i, v, hi, hv, by simp⟩)
def tq_kill : Value → Value
  | .long _ => .null
  | .double _ => .null
  | v => v
def tq_sto : List Value → Nat → Value → List Value
  | [], _, _ => []
  | _ :: t, 0, v => v :: t
  | w :: t, 1, v => tq_kill w :: tq_sto t 0 v
  | w :: t, n + 2, v => w :: tq_sto t (n + 1) v
theorem tq_sto_at (v : Value) (lv : List Value) : ∀ (i j : Nat) (w : Value), (tq_sto lv i v)[j]? = some w → (j = i ∧ w = v) ∨ (j ≠ i ∧ ∃ w0, lv[j]? = some w0 ∧ ((j + 1 = i ∧ w = tq_kill w0) ∨ (j + 1 ≠ i ∧ w = w0))) := by
  induction lv with
  | nil => intro i j w h; simp [tq_sto] at h
  | cons a t ih =>
    intro i j w h
    match i, j with
    | 0, 0 => simp [tq_sto] at h; exact Or.inl ⟨rfl, h.symm⟩
    | 0, j + 1 => simp [tq_sto] at h; exact Or.inr ⟨by omega, w, by simpa using h, Or.inr ⟨by omega, rfl⟩⟩
    | 1, 0 => simp [tq_sto] at h; exact Or.inr ⟨by omega, a, rfl, Or.inl ⟨rfl, h.symm⟩⟩
    | 1, j + 1 =>
      simp only [tq_sto, List.getElem?_cons_succ] at h
      rcases ih 0 j w h with ⟨h1, h2⟩ | ⟨h1, w0, h2, h3⟩
      · exact Or.inl ⟨by omega, h2⟩
      · refine Or.inr ⟨by omega, w0, by simpa using h2, ?_⟩
        rcases h3 with ⟨h4, h5⟩ | ⟨h4, h5⟩
        · omega
        · exact Or.inr ⟨by omega, h5⟩
    | i + 2, 0 => simp [tq_sto] at h; exact Or.inr ⟨by omega, a, rfl, Or.inr ⟨by omega, h.symm⟩⟩
    | i + 2, j + 1 =>
      simp only [tq_sto, List.getElem?_cons_succ] at h
      rcases ih (i + 1) j w h with ⟨h1, h2⟩ | ⟨h1, w0, h2, h3⟩
      · exact Or.inl ⟨by omega, h2⟩
      · refine Or.inr ⟨by omega, w0, by simpa using h2, ?_⟩
        rcases h3 with ⟨h4, h5⟩ | ⟨h4, h5⟩
        · exact Or.inl ⟨by omega, h5⟩
        · exact Or.inr ⟨by omega, h5⟩
theorem tq_kill_spec {w : Value} (h : tq_kill w ≠ .null) : tq_kill w = w ∧ w ≠ .null ∧ w.category = 1 := by
  cases w <;> simp_all [tq_kill, Value.category]
theorem tq_st1 {ls : Array Slot} {nL : Nat} {ad : Nat → Nat} {lv : List Value} {i : Nat} {v : Value} (h : lv_has ls nL ((i, tq_v ad v) :: (tq_asc ad 0 lv).filter (fun q => !(q.1 == i) && !(q.1 + 1 == i && q.2.category == 2)))) : tq_has ls nL ad (tq_sto lv i v) := by
  refine ⟨h.1, h.2.1, fun q hq => h.2.2 q ?_⟩
  obtain ⟨j, w, h1, h2, h3⟩ := (tq_asc_mem ad _ 0 q).mp hq
  subst h3
  rw [Nat.zero_add]
  rcases tq_sto_at v lv i j w h1 with ⟨h4, h5⟩ | ⟨h4, w0, h5, h6⟩
  · subst h4; subst h5; exact List.mem_cons_self
  · refine List.mem_cons_of_mem _ (List.mem_filter.mpr ?_)
    rcases h6 with ⟨h7, h8⟩ | ⟨h7, h8⟩
    · subst h8
      obtain ⟨e1, e2, e3⟩ := tq_kill_spec h2
      rw [e1]
      refine ⟨(tq_asc_mem ad lv 0 _).mpr ⟨j, w0, h5, e2, by simp⟩, ?_⟩
      simp [h4, tq_v_cat, e3]
    · subst h8
      refine ⟨(tq_asc_mem ad lv 0 _).mpr ⟨j, w, h5, h2, by simp⟩, ?_⟩
      simp [h4, h7]
def tq_sto2 (lv : List Value) (i : Nat) (v : Value) : List Value := tq_sto ((lv.set (i + 1) .null)) i v
theorem tq_st2 {ls : Array Slot} {nL : Nat} {ad : Nat → Nat} {lv : List Value} {i : Nat} {v : Value} (h : lv_has ls nL ((i, tq_v ad v) :: (tq_asc ad 0 lv).filter (fun q => !(q.1 == i) && (!(q.1 == i + 1) && !(q.1 + 1 == i && q.2.category == 2))))) : tq_has ls nL ad (tq_sto2 lv i v) := by
  refine ⟨h.1, h.2.1, fun q hq => h.2.2 q ?_⟩
  obtain ⟨j, w, h1, h2, h3⟩ := (tq_asc_mem ad _ 0 q).mp hq
  subst h3
  rw [Nat.zero_add]
  rcases tq_sto_at v _ i j w h1 with ⟨h4, h5⟩ | ⟨h4, w0, h5, h6⟩
  · subst h4; subst h5; exact List.mem_cons_self
  · refine List.mem_cons_of_mem _ (List.mem_filter.mpr ?_)
    have hne : w0 ≠ .null := by
      rcases h6 with ⟨h7, h8⟩ | ⟨h7, h8⟩
      · subst h8; exact (tq_kill_spec h2).2.1
      · subst h8; exact h2
    rw [List.getElem?_set] at h5
    by_cases hji : i + 1 = j
    · rw [if_pos hji] at h5
      split at h5
      · exact absurd (Option.some.inj h5).symm hne
      · cases h5
    · rw [if_neg hji] at h5
      rcases h6 with ⟨h7, h8⟩ | ⟨h7, h8⟩
      · subst h8
        obtain ⟨e1, e2, e3⟩ := tq_kill_spec h2
        rw [e1]
        refine ⟨(tq_asc_mem ad lv 0 _).mpr ⟨j, w0, h5, e2, by simp⟩, ?_⟩
        simp [h4, tq_v_cat, e3, Ne.symm hji]
      · subst h8
        refine ⟨(tq_asc_mem ad lv 0 _).mpr ⟨j, w, h5, h2, by simp⟩, ?_⟩
        simp [h4, h7, Ne.symm hji]
/-- the two String constants of the Reader -/
def tq_len : List Nat := [14, 176]
def tq_byt : List (List Int32) := [[59, 58, 44, 61, 43, 45, 42, 60, 40, 41, 91, 93, 123, 125], [98, 114, 105, 103, 104, 116, 32, 32, 108, 111, 117, 100, 32, 32, 32, 32, 113, 117, 105, 99, 107, 32, 32, 32, 119, 97, 114, 109, 32, 32, 32, 32, 115, 116, 114, 111, 110, 103, 32, 32, 108, 105, 103, 104, 116, 32, 32, 32, 104, 97, 98, 105, 116, 32, 32, 32, 111, 108, 100, 32, 32, 32, 32, 32, 115, 101, 101, 110, 32, 32, 32, 32, 115, 112, 111, 116, 32, 32, 32, 32, 102, 97, 114, 32, 32, 32, 32, 32, 110, 111, 105, 115, 101, 32, 32, 32, 102, 105, 100, 100, 108, 101, 32, 32, 110, 101, 119, 32, 32, 32, 32, 32, 98, 97, 114, 114, 101, 100, 32, 32, 112, 108, 97, 121, 101, 114, 32, 32, 104, 101, 97, 114, 101, 114, 32, 32, 98, 111, 119, 32, 32, 32, 32, 32, 108, 97, 119, 32, 32, 32, 32, 32, 112, 108, 97, 110, 32, 32, 32, 32, 115, 105, 116, 32, 32, 32, 32, 32, 119, 105, 116, 104, 32, 32, 32, 32]]
def tq_str (ad : Nat → Nat) (A : Nat → Prop) (U : State) : Prop := vk_S 2 tq_len tq_byt (fun i => ad (1000 + i)) (fun i => ad (1010 + i)) A U U.heap ∧ vk_R RX5 94 ";:,=+-*<()[]{}" (ad 1000) U ∧ vk_R RX5 105 "bright  loud    quick   warm    strong  light   habit   old     seen    spot    far     noise   fiddle  new     barred  player  hearer  bow     law     plan    sit     with    " (ad 1001) U ∧ va_Z "java/lang/String" "COMPACT_STRINGS" "Z" (.int 1) A U U.heap ∧ va_Zq "jdk/internal/util/Preconditions" "SIOOBE_FORMATTER" "Ljava/util/function/BiFunction;" A U U.heap
def tq_room (d : Nat) : Room := { frames := d, cells := 0, slots := 0, locals := 48 * d }
def tq_ws (M : mi_T) : List Cond := .code M.1 M.2.1 M.2.2.1 M.2.2.2 :: tq_tbl
def tq_Q (D : va_G) (cy : Nat → ClassId) (ad : Nat → Nat) (n : Nat) (Q : st_Q) : Array Value → State → Outcome → State → Prop := fun _ st oc t => (∃ (v : Option Value) (sh : sh_T) (I : st_I) (L : st_L), oc = .returned v ∧ Q v sh I L ∧ sh.length = n ∧ va_P D tq_cl (w_D cy ad sh I L) t.heap ∧ va_K D tq_cl (tq_ty cy) t) ∧ va_F (tq_A ad n) st t
def tq_P (D : va_G) (cy : Nat → ClassId) (ad : Nat → Nat) (sh : sh_T) (I : st_I) (L : st_L) (av : List Value) : Array Value → State → Prop := fun v U => v = (av.map (tq_v ad)).toArray ∧ va_P D tq_cl (w_D cy ad sh I L) U.heap ∧ va_K D tq_cl (tq_ty cy) U ∧ tq_inj ad sh.length ∧ tq_str ad (tq_A ad sh.length) U
def Ev (sh : sh_T) (d : Nat) (M : mi_T) (av : List Value) (I : st_I) (L : st_L) (Q : st_Q) : Prop :=
  ∀ (l : Launch) (D : va_G) (cy : Nat → ClassId) (ad : Nat → Nat), Met l M.1 (tq_ws M) (tq_room d) (tq_P D cy ad sh I L av) (tq_Q D cy ad sh.length Q) 0 0 (tq_A ad sh.length)
def tq_C (M : mi_T) (n : Nat) (p : Program) (s : State) (m : MethodId) (args : Array Value) (meth : Method) (c : Code) (D : va_G) (cy : Nat → ClassId) (ad : Nat → Nat) : Prop :=
  p.tables.exec = Jvm.exec ∧ c.code = M.2.1 ∧ c.maxLocals = M.2.2.1 ∧ meth.sig.returnType = M.2.2.2 ∧ meth.locks = false ∧ s.vm.findClass M.1.cls = some m.cls ∧ (∀ w ∈ tq_ws M, w.before args s = true) ∧ va_K D tq_cl (tq_ty cy) s ∧ tq_inj ad n ∧ tq_str ad (tq_A ad n) s
def T (sh : sh_T) (d : Nat) (M : mi_T) (pc : Nat) (lv st : List Value) (I : st_I) (L : st_L) (Q : st_Q) : Prop :=
  ∀ (p : Program) (l : Launch) (e : Env) (s : State) (m : MethodId) (args : Array Value) (below : List Frame) (meth : Method) (c : Code) (D : va_G) (cy : Nat → ClassId) (ad : Nat → Nat) (H : Heap) (locs : List Loc) (ls : Array Slot), tq_C M sh.length p s m args meth c D cy ad → va_P D tq_cl (w_D cy ad sh I L) H → va_S (tq_A ad sh.length) s.heap H locs → tq_has ls M.2.2.1 ad lv →
    W p l e (tq_room d) s m args below meth c H locs 0 0 (MQ below (tq_Q D cy ad sh.length Q) args s 0 0 (tq_A ad sh.length)) (F0 m pc ls (st.map (tq_v ad)))
theorem tq_str_calling {ad : Nat → Nat} {A : Nat → Prop} {U : State} {g : JFrame} {mk : MethodId} {a : Array Value} (h : tq_str ad A U) : tq_str ad A (U.calling g mk a) :=
  ⟨vk_S.moved (u := U) (U := U.calling g mk a) (Vm.Alike.refl U.vm) h.1, vk_R.same (u := U) (U := U.calling g mk a) rfl h.2.1, vk_R.same (u := U) (U := U.calling g mk a) rfl h.2.2.1, va_Z.moved (u := U) (U := U.calling g mk a) (Vm.Alike.refl U.vm) h.2.2.2.1, va_Zq.moved (u := U) (U := U.calling g mk a) (Vm.Alike.refl U.vm) h.2.2.2.2⟩
theorem tq_P_blind {D : va_G} {cy : Nat → ClassId} {ad : Nat → Nat} {sh : sh_T} {I : st_I} {L : st_L} {av : List Value} : FrameBlind (tq_P D cy ad sh I L av) :=
  fun a U g mk q => ⟨q.1, q.2.1, va_K.moved (u := U) (U := U.calling g mk a) (Vm.Alike.refl U.vm) q.2.2.1, q.2.2.2.1, tq_str_calling q.2.2.2.2⟩
theorem tq_str_to {ad : Nat → Nat} {A : Nat → Prop} {s U : State} {H : Heap} {locs : List Loc} (h : tq_str ad A s) (hS : va_S A s.heap H locs) (hU : U.heap = H) (hW : s.WarmedH U.vm) : tq_str ad A U :=
  ⟨by rw [hU]; exact vk_S.moved hW.alike (h.1.kept (fun a h1 h2 => hS.2.1 a h1 h2)), vk_R.warm hW h.2.1, vk_R.warm hW h.2.2.1, by rw [hU]; exact va_Z.moved hW.alike (h.2.2.2.1.kept (fun a h1 h2 => hS.2.1 a h1 h2)), by rw [hU]; exact va_Zq.moved hW.alike (h.2.2.2.2.kept (fun a h1 h2 => hS.2.1 a h1 h2))⟩
theorem tq_P_at {M : mi_T} {p : Program} {s U : State} {m : MethodId} {args : Array Value} {meth : Method} {c : Code} {D : va_G} {cy : Nat → ClassId} {ad : Nat → Nat} {sh : sh_T} {I : st_I} {L : st_L} {H : Heap} {locs : List Loc} {av : List Value}
    (C : tq_C M sh.length p s m args meth c D cy ad) (hP : va_P D tq_cl (w_D cy ad sh I L) H) (hS : va_S (tq_A ad sh.length) s.heap H locs) (hU : U.heap = H) (hW : s.WarmedH U.vm) : tq_P D cy ad sh I L av (av.map (tq_v ad)).toArray U :=
  ⟨rfl, by rw [hU]; exact hP, va_K.moved hW.alike C.2.2.2.2.2.2.2.1, C.2.2.2.2.2.2.2.2.1, tq_str_to C.2.2.2.2.2.2.2.2.2 hS hU hW⟩
/-- behind a call -/
theorem tq_back {p : Program} {l : Launch} {e : Env} {R : Room} {s : State} {m : MethodId} {args : Array Value} {below : List Frame} {meth : Method} {c : Code} {H : Heap} {locs : List Loc} {Qw : State → Prop} {D : va_G} {cy : Nat → ClassId} {ad : Nat → Nat} {n pc : Nat} {Q : st_Q} {ls : Array Slot} {st0 rest : List Value} {a : Array Value}
    (hr : va_Run p l e R s m args below meth c H locs 0 0 0 0 (F0 m pc ls st0) rest (tq_Q D cy ad n Q a) (tq_A ad n)) (hS : va_S (tq_A ad n) s.heap H locs)
    (kk : ∀ (v : Option Value) (sh : sh_T) (I : st_I) (L : st_L) (H1 : Heap) (locs1 : List Loc), Q v sh I L → sh.length = n → va_P D tq_cl (w_D cy ad sh I L) H1 → va_S (tq_A ad n) s.heap H1 locs1 → W p l e R s m args below meth c H1 locs1 0 0 Qw (F0 m (pc + 3) ls (v.toList ++ rest))) : W p l e R s m args below meth c H locs 0 0 Qw (F0 m pc ls st0) := by
  intro T hT X
  obtain ⟨v, st₀, t, T', L0, h0, X', hL, e1, e2, ⟨⟨v', sh, I, L, hv, hq, hn, hP, hK⟩, hz, hk⟩, st⟩ := hr T hT X
  cases hv
  rw [h0] at hz hk
  have hS' : va_S (tq_A ad n) s.heap T'.heap (locs ++ L0) := ⟨Nat.le_trans hS.1 (by rw [e1]; exact hz), fun q h1 h2 => by rw [e1, hk q (Nat.lt_of_lt_of_le h1 hS.1) h2]; exact hS.2.1 q h1 h2, fun q hq => by
      rcases List.mem_append.mp hq with h | h
      · exact hS.2.2 q h
      · exact hL q h⟩
  obtain ⟨t2, a1, b1⟩ := kk v sh I L T'.heap (locs ++ L0) hq hn (by rw [e1]; exact hP) hS' T' rfl X'
  exact ⟨t2, st t2 a1, b1⟩
def tq_mB (M : mi_T) (n : Nat) : Prop := Cond.initialized M.1.cls ∈ tq_tbl ∧ Cond.code M.1 M.2.1 M.2.2.1 M.2.2.2 ∈ tq_tbl ∧ (M.1.cls ≠ "java/lang/invoke/MethodHandle" ∧ M.1.cls ≠ "java/lang/invoke/VarHandle" ∧ (parseMethodDescriptor M.1.desc).map (fun d => d.parameters.length) = some n) ∧ M.2.2.1 ≤ 29
def tq_mV (M : mi_T) (n : Nat) : Prop := Cond.instanceMethod M.1 ∈ tq_tbl ∧ Cond.selects M.1.cls M.1 M.1 ∈ tq_tbl ∧ tq_mB M n
def tq_mS (M : mi_T) (n : Nat) : Prop := Cond.static M.1 ∈ tq_tbl ∧ tq_mB M n
theorem tq_goodIn {M M' : mi_T} {n : Nat} (h : tq_mB M' n) : GoodIn (tq_ws M) (tq_ws M') := by
  intro w hw
  rcases List.mem_cons.mp hw with e | e
  · subst e; exact ⟨List.mem_cons_of_mem _ h.2.1, tq_good h.2.1⟩
  · exact ⟨List.mem_cons_of_mem _ e, tq_good e⟩
theorem tq_wd {M : mi_T} {s : State} {args : Array Value} (hts : ∀ w ∈ tq_ws M, w.before args s = true) {w : Cond} (h : w ∈ tq_tbl) : w.before args s = true := hts w (List.mem_cons_of_mem _ h)
theorem tq_callB {M M' : mi_T} {s : State} {args : Array Value} {d idx n : Nat} (hts : ∀ w ∈ tq_ws M, w.before args s = true) (hl : Cond.methodLink M.1.cls idx M'.1 ∈ tq_tbl) (hm : tq_mB M' n) : CallB (tq_room (d + 1)) s args M.1.cls idx M'.1 M'.2.1 M'.2.2.1 M'.2.2.2 (tq_ws M') (tq_room d) 0 0 n :=
  callB_of n hts (tq_goodIn hm) rfl rfl rfl (tq_wd hts hm.1) (tq_wd hts hl) hm.2.2.1 ⟨Nat.le_refl _, by
    have := hm.2.2.2
    show 8 + (M'.2.2.1 + 11) + 48 * d ≤ 48 * (d + 1)
    omega⟩
theorem tq_rev (ad : Nat → Nat) (As st : List Value) (b : Nat) : (As.reverse ++ .ref b :: st).map (tq_v ad) = (As.map (tq_v ad)).reverse ++ .ref (ad b) :: st.map (tq_v ad) := by simp [tq_v]
theorem tq_revS (ad : Nat → Nat) (As st : List Value) : (As.reverse ++ st).map (tq_v ad) = (As.map (tq_v ad)).reverse ++ st.map (tq_v ad) := by simp
theorem tq_cats (ad : Nat → Nat) (st : List Value) : ((st.map (tq_v ad)).map fun v => v.category).sum = (st.map fun v => v.category).sum := by
  rw [List.map_map]; congr 1; apply List.map_congr_left; intro v _; exact tq_v_cat ad v
def tq_plain (v : Option Value) : Prop := match v with
  | none => True
  | some (.int _) => True
  | some (.long _) => True
  | _ => False
theorem tq_vl {v : Option Value} (ad : Nat → Nat) (st : List Value) (h : tq_plain v) : (v.toList ++ st).map (tq_v ad) = v.toList ++ st.map (tq_v ad) := by
  match v, h with
  | none, _ => rfl
  | some (.int _), _ => rfl
  | some (.long _), _ => rfl
theorem tq_wp0 : ∀ k, k < 2 → lw_tbl[([322, 324] : List Nat).getD k 0]? = some (u_lay RX0 TX0 k) ∧ goodWord (u_lay RX0 TX0 k) = true := by decide +kernel
theorem tq_wi0 : ∀ w ∈ u_ws RX0 TX0 2, w ∈ tq_tbl := by
  intro w hw
  obtain ⟨k, hk, e⟩ := List.mem_map.mp hw
  subst e
  have h := tq_wp0 k (List.mem_range.mp hk)
  exact tq_mem _ h.1 h.2
theorem tq_wp1 : ∀ k, k < 7 → lw_tbl[([415, 417, 419, 421, 423, 425, 427] : List Nat).getD k 0]? = some (u_lay RX1 TX1 k) ∧ goodWord (u_lay RX1 TX1 k) = true := by decide +kernel
theorem tq_wi1 : ∀ w ∈ u_ws RX1 TX1 7, w ∈ tq_tbl := by
  intro w hw
  obtain ⟨k, hk, e⟩ := List.mem_map.mp hw
  subst e
  have h := tq_wp1 k (List.mem_range.mp hk)
  exact tq_mem _ h.1 h.2
theorem tq_wp2 : ∀ k, k < 10 → lw_tbl[([357, 359, 361, 363, 365, 367, 369, 371, 373, 375] : List Nat).getD k 0]? = some (u_lay RX2 TX2 k) ∧ goodWord (u_lay RX2 TX2 k) = true := by decide +kernel
theorem tq_wi2 : ∀ w ∈ u_ws RX2 TX2 10, w ∈ tq_tbl := by
  intro w hw
  obtain ⟨k, hk, e⟩ := List.mem_map.mp hw
  subst e
  have h := tq_wp2 k (List.mem_range.mp hk)
  exact tq_mem _ h.1 h.2
theorem tq_wp3 : ∀ k, k < 7 → lw_tbl[([468, 470, 472, 474, 476, 478, 480] : List Nat).getD k 0]? = some (u_lay RX3 TX3 k) ∧ goodWord (u_lay RX3 TX3 k) = true := by decide +kernel
theorem tq_wi3 : ∀ w ∈ u_ws RX3 TX3 7, w ∈ tq_tbl := by
  intro w hw
  obtain ⟨k, hk, e⟩ := List.mem_map.mp hw
  subst e
  have h := tq_wp3 k (List.mem_range.mp hk)
  exact tq_mem _ h.1 h.2
theorem tq_wp4 : ∀ k, k < 4 → lw_tbl[([495, 497, 499, 501] : List Nat).getD k 0]? = some (u_lay RX4 TX4 k) ∧ goodWord (u_lay RX4 TX4 k) = true := by decide +kernel
theorem tq_wi4 : ∀ w ∈ u_ws RX4 TX4 4, w ∈ tq_tbl := by
  intro w hw
  obtain ⟨k, hk, e⟩ := List.mem_map.mp hw
  subst e
  have h := tq_wp4 k (List.mem_range.mp hk)
  exact tq_mem _ h.1 h.2
theorem tq_wp5 : ∀ k, k < 19 → lw_tbl[([256, 258, 260, 262, 264, 266, 268, 270, 272, 274, 276, 278, 280, 282, 284, 286, 288, 290, 292] : List Nat).getD k 0]? = some (u_lay RX5 TX5 k) ∧ goodWord (u_lay RX5 TX5 k) = true := by decide +kernel
theorem tq_wi5 : ∀ w ∈ u_ws RX5 TX5 19, w ∈ tq_tbl := by
  intro w hw
  obtain ⟨k, hk, e⟩ := List.mem_map.mp hw
  subst e
  have h := tq_wp5 k (List.mem_range.mp hk)
  exact tq_mem _ h.1 h.2
theorem tq_wp6 : ∀ k, k < 4 → lw_tbl[([390, 392, 394, 396] : List Nat).getD k 0]? = some (u_lay RX6 TX6 k) ∧ goodWord (u_lay RX6 TX6 k) = true := by decide +kernel
theorem tq_wi6 : ∀ w ∈ u_ws RX6 TX6 4, w ∈ tq_tbl := by
  intro w hw
  obtain ⟨k, hk, e⟩ := List.mem_map.mp hw
  subst e
  have h := tq_wp6 k (List.mem_range.mp hk)
  exact tq_mem _ h.1 h.2
theorem tq_wp7 : ∀ k, k < 2 → lw_tbl[([307, 309] : List Nat).getD k 0]? = some (u_lay RX7 TX7 k) ∧ goodWord (u_lay RX7 TX7 k) = true := by decide +kernel
theorem tq_wi7 : ∀ w ∈ u_ws RX7 TX7 2, w ∈ tq_tbl := by
  intro w hw
  obtain ⟨k, hk, e⟩ := List.mem_map.mp hw
  subst e
  have h := tq_wp7 k (List.mem_range.mp hk)
  exact tq_mem _ h.1 h.2
theorem tq_wp8 : ∀ k, k < 12 → lw_tbl[([208, 210, 212, 214, 216, 218, 220, 222, 224, 226, 228, 230] : List Nat).getD k 0]? = some (u_lay RX8 TX8 k) ∧ goodWord (u_lay RX8 TX8 k) = true := by decide +kernel
theorem tq_wi8 : ∀ w ∈ u_ws RX8 TX8 12, w ∈ tq_tbl := by
  intro w hw
  obtain ⟨k, hk, e⟩ := List.mem_map.mp hw
  subst e
  have h := tq_wp8 k (List.mem_range.mp hk)
  exact tq_mem _ h.1 h.2
theorem tq_wp9 : ∀ k, k < 4 → lw_tbl[([443, 445, 447, 449] : List Nat).getD k 0]? = some (u_lay RX9 TX9 k) ∧ goodWord (u_lay RX9 TX9 k) = true := by decide +kernel
theorem tq_wi9 : ∀ w ∈ u_ws RX9 TX9 4, w ∈ tq_tbl := by
  intro w hw
  obtain ⟨k, hk, e⟩ := List.mem_map.mp hw
  subst e
  have h := tq_wp9 k (List.mem_range.mp hk)
  exact tq_mem _ h.1 h.2
theorem tq_wp11 : ∀ k, k < 11 → lw_tbl[([518, 520, 522, 524, 526, 528, 530, 532, 534, 536, 538] : List Nat).getD k 0]? = some (u_lay RX11 TX11 k) ∧ goodWord (u_lay RX11 TX11 k) = true := by decide +kernel
theorem tq_wi11 : ∀ w ∈ u_ws RX11 TX11 11, w ∈ tq_tbl := by
  intro w hw
  obtain ⟨k, hk, e⟩ := List.mem_map.mp hw
  subst e
  have h := tq_wp11 k (List.mem_range.mp hk)
  exact tq_mem _ h.1 h.2
theorem tq_wp12 : ∀ k, k < 79 → lw_tbl[([1442, 1444, 1446, 1448, 1450, 1452, 1454, 1456, 1458, 1460, 1462, 1464, 1466, 1468, 1470, 1472, 1474, 1476, 1478, 1480, 1482, 1484, 1486, 1488, 1490, 1492, 1494, 1496, 1498, 1500, 1502, 1504, 1506, 1508, 1510, 1512, 1514, 1516, 1518, 1520, 1522, 1524, 1526, 1528, 1530, 1532, 1534, 1536, 1538, 1540, 1542, 1544, 1546, 1548, 1550, 1552, 1554, 1556, 1558, 1560, 1562, 1564, 1566, 1568, 1570, 1572, 1574, 1576, 1578, 1580, 1582, 1584, 1586, 1588, 1590, 1592, 1594, 1596, 1598] : List Nat).getD k 0]? = some (u_lay RX12 TX12 k) ∧ goodWord (u_lay RX12 TX12 k) = true := by decide +kernel
theorem tq_wi12 : ∀ w ∈ u_ws RX12 TX12 79, w ∈ tq_tbl := by
  intro w hw
  obtain ⟨k, hk, e⟩ := List.mem_map.mp hw
  subst e
  have h := tq_wp12 k (List.mem_range.mp hk)
  exact tq_mem _ h.1 h.2
theorem tq_ws_in0 : ∀ (ci : Nat) (r : vw_C), tq_cl[ci]? = some r → ∀ w ∈ u_ws r.1 r.2.1 r.2.2, w ∈ tq_tbl := by
  intro ci r h
  match ci, h with
  | 0, h => cases h; exact tq_wi0
  | 1, h => cases h; exact tq_wi1
  | 2, h => cases h; exact tq_wi2
  | 3, h => cases h; exact tq_wi3
  | 4, h => cases h; exact tq_wi4
  | 5, h => cases h; exact tq_wi5
  | 6, h => cases h; exact tq_wi6
  | 7, h => cases h; exact tq_wi7
  | 8, h => cases h; exact tq_wi8
  | 9, h => cases h; exact tq_wi9
  | 10, h => cases h; exact tq_wi0
  | 11, h => cases h; exact tq_wi11
  | 12, h => cases h; exact tq_wi12
  | n + 13, h => simp [tq_cl] at h
theorem tq_cl_ok : ∀ (ci : Nat) (r : vw_C), tq_cl[ci]? = some r → ∃ ty0 : Nat → FieldType, (∀ k, k < r.2.2 → parseFieldDescriptor (r.2.1 k).2.2.1 = some (ty0 k)) ∧ ∀ a, a < r.2.2 → ∀ b, b < r.2.2 → a ≠ b → (r.2.1 a).2.1 ≠ (r.2.1 b).2.1 := by
  intro ci r h
  match ci, h with
  | 0, h => cases h; exact ⟨tyX0, tyX0_ok, nmX0⟩
  | 1, h => cases h; exact ⟨tyX1, tyX1_ok, nmX1⟩
  | 2, h => cases h; exact ⟨tyX2, tyX2_ok, nmX2⟩
  | 3, h => cases h; exact ⟨tyX3, tyX3_ok, nmX3⟩
  | 4, h => cases h; exact ⟨tyX4, tyX4_ok, nmX4⟩
  | 5, h => cases h; exact ⟨tyX5, tyX5_ok, nmX5⟩
  | 6, h => cases h; exact ⟨tyX6, tyX6_ok, nmX6⟩
  | 7, h => cases h; exact ⟨tyX7, tyX7_ok, nmX7⟩
  | 8, h => cases h; exact ⟨tyX8, tyX8_ok, nmX8⟩
  | 9, h => cases h; exact ⟨tyX9, tyX9_ok, nmX9⟩
  | 10, h => cases h; exact ⟨tyX0, tyX0_ok, nmX0⟩
  | 11, h => cases h; exact ⟨tyX11, tyX11_ok, nmX11⟩
  | 12, h => cases h; exact ⟨tyX12, tyX12_ok, nmX12⟩
  | n + 13, h => simp [tq_cl] at h
section TR
variable {sh : sh_T} {d : Nat} {M : mi_T} {pc : Nat} {lv st : List Value} {I : st_I} {L : st_L} {Q : st_Q}
theorem T_callV {M' : mi_T} {idx b ci n : Nat} {fs : List (Option Nat)} {stk : List Value} (As : List Value) (st : List Value) {r : vw_C} (hd : decode M.2.1 pc = .ok (.invokevirtual idx, 3)) (hlk : Cond.methodLink M.1.cls idx M'.1 ∈ tq_tbl) (hm : tq_mV M' n) (hst : stk = As.reverse ++ .ref b :: st) (hb : sh[b]? = some (.inr (ci, fs))) (hc : tq_cl[ci]? = some r) (hr : r.1 = M'.1.cls) (hn : As.length = n) (hw : (st.map fun v => v.category).sum ≤ 8)
    (h : Ev sh d M' (.ref b :: As) I L (fun v sh' I' L' => tq_plain v ∧ T sh' (d + 1) M (pc + 3) lv (v.toList ++ st) I' L' Q)) : T sh (d + 1) M pc lv stk I L Q := by
  intro p l e s m args below meth c D cy ad H locs ls C hP hS hl
  subst hst
  obtain ⟨hx, hcb, hml, hret, hloc, hown, hts, hK, hj, hE⟩ := id C
  rw [tq_rev]
  have hcell := va_recv hK hP hc (w_at (cy := cy) (ad := ad) (I := I) (L := L) hb)
  rw [hr] at hcell
  refine tq_back (va_runV (As := As.map (tq_v ad)) (rest := st.map (tq_v ad)) (C := M'.1.cls) (b := ad b) ⟨hx, hcb, hml, hown, hts⟩ (h l D cy ad) ⟨tq_callB hts hlk hm.2.2, tq_wd hts hm.1, tq_wd hts hm.2.1⟩ ⟨tq_P_blind, hcell, fun U hU hW => tq_P_at C hP hS hU hW⟩ rfl (by rw [List.length_map]; exact hn) hl.1 rfl (lv_room (by rw [tq_cats]; exact hw)) hd ⟨Nat.le_refl _, Nat.le_refl _⟩) hS ?_
  intro v sh' I' L' H1 locs1 hq hn' hP1 hS1
  have hk := hq.2 p l e s m args below meth c D cy ad H1 locs1 ls
  rw [hn', tq_vl ad st hq.1] at hk
  exact hk C hP1 hS1 hl
theorem T_callS {M' : mi_T} {idx n : Nat} {stk : List Value} (As : List Value) (st : List Value) (hd : decode M.2.1 pc = .ok (.invokestatic idx, 3)) (hlk : Cond.methodLink M.1.cls idx M'.1 ∈ tq_tbl) (hm : tq_mS M' n) (hst : stk = As.reverse ++ st) (hn : As.length = n) (hw : (st.map fun v => v.category).sum ≤ 8)
    (h : Ev sh d M' As I L (fun v sh' I' L' => tq_plain v ∧ T sh' (d + 1) M (pc + 3) lv (v.toList ++ st) I' L' Q)) : T sh (d + 1) M pc lv stk I L Q := by
  intro p l e s m args below meth c D cy ad H locs ls C hP hS hl
  subst hst
  obtain ⟨hx, hcb, hml, hret, hloc, hown, hts, hK, hj, hE⟩ := id C
  rw [tq_revS]
  refine tq_back (va_runS (As := As.map (tq_v ad)) (rest := st.map (tq_v ad)) ⟨hx, hcb, hml, hown, hts⟩ (h l D cy ad) ⟨tq_callB hts hlk hm.2, tq_wd hts hm.1⟩ ⟨tq_P_blind, fun U hU hW => tq_P_at C hP hS hU hW⟩ rfl (by rw [List.length_map]; exact hn) hl.1 rfl (lv_room (by rw [tq_cats]; exact hw)) hd ⟨Nat.le_refl _, Nat.le_refl _⟩) hS ?_
  intro v sh' I' L' H1 locs1 hq hn' hP1 hS1
  have hk := hq.2 p l e s m args below meth c D cy ad H1 locs1 ls
  rw [hn', tq_vl ad st hq.1] at hk
  exact hk C hP1 hS1 hl
theorem T_iadd {x y : Int32} (hd : decode M.2.1 pc = .ok (.iadd, 1)) (k : T sh d M (pc + 1) lv (.int (x + y) :: st) I L Q) : T sh d M pc lv (.int y :: .int x :: st) I L Q := by
  intro p l e s m args below meth c D cy ad H locs ls C hP hS hl
  exact lv_iadd C.1 C.2.1 hd (k p l e s m args below meth c D cy ad H locs ls C hP hS hl)
theorem T_isub {x y : Int32} (hd : decode M.2.1 pc = .ok (.isub, 1)) (k : T sh d M (pc + 1) lv (.int (x - y) :: st) I L Q) : T sh d M pc lv (.int y :: .int x :: st) I L Q := by
  intro p l e s m args below meth c D cy ad H locs ls C hP hS hl
  exact lv_isub C.1 C.2.1 hd (k p l e s m args below meth c D cy ad H locs ls C hP hS hl)
theorem T_imul {x y : Int32} (hd : decode M.2.1 pc = .ok (.imul, 1)) (k : T sh d M (pc + 1) lv (.int (x * y) :: st) I L Q) : T sh d M pc lv (.int y :: .int x :: st) I L Q := by
  intro p l e s m args below meth c D cy ad H locs ls C hP hS hl
  exact lv_imul C.1 C.2.1 hd (k p l e s m args below meth c D cy ad H locs ls C hP hS hl)
theorem T_iand {x y : Int32} (hd : decode M.2.1 pc = .ok (.iand, 1)) (k : T sh d M (pc + 1) lv (.int (x &&& y) :: st) I L Q) : T sh d M pc lv (.int y :: .int x :: st) I L Q := by
  intro p l e s m args below meth c D cy ad H locs ls C hP hS hl
  exact lv_iand C.1 C.2.1 hd (k p l e s m args below meth c D cy ad H locs ls C hP hS hl)
theorem T_ior {x y : Int32} (hd : decode M.2.1 pc = .ok (.ior, 1)) (k : T sh d M (pc + 1) lv (.int (x ||| y) :: st) I L Q) : T sh d M pc lv (.int y :: .int x :: st) I L Q := by
  intro p l e s m args below meth c D cy ad H locs ls C hP hS hl
  exact lv_ior C.1 C.2.1 hd (k p l e s m args below meth c D cy ad H locs ls C hP hS hl)
theorem T_ixor {x y : Int32} (hd : decode M.2.1 pc = .ok (.ixor, 1)) (k : T sh d M (pc + 1) lv (.int (x ^^^ y) :: st) I L Q) : T sh d M pc lv (.int y :: .int x :: st) I L Q := by
  intro p l e s m args below meth c D cy ad H locs ls C hP hS hl
  exact lv_ixor C.1 C.2.1 hd (k p l e s m args below meth c D cy ad H locs ls C hP hS hl)
theorem T_ishl {x y : Int32} (hd : decode M.2.1 pc = .ok (.ishl, 1)) (k : T sh d M (pc + 1) lv (.int (x <<< (y &&& 31)) :: st) I L Q) : T sh d M pc lv (.int y :: .int x :: st) I L Q := by
  intro p l e s m args below meth c D cy ad H locs ls C hP hS hl
  exact lv_ishl C.1 C.2.1 hd (k p l e s m args below meth c D cy ad H locs ls C hP hS hl)
theorem T_ishr {x y : Int32} (hd : decode M.2.1 pc = .ok (.ishr, 1)) (k : T sh d M (pc + 1) lv (.int (x >>> (y &&& 31)) :: st) I L Q) : T sh d M pc lv (.int y :: .int x :: st) I L Q := by
  intro p l e s m args below meth c D cy ad H locs ls C hP hS hl
  exact lv_ishr C.1 C.2.1 hd (k p l e s m args below meth c D cy ad H locs ls C hP hS hl)
theorem T_idiv {x y : Int32} (hd : decode M.2.1 pc = .ok (.idiv, 1)) (h0 : ¬ y = 0) (k : T sh d M (pc + 1) lv (.int (x / y) :: st) I L Q) : T sh d M pc lv (.int y :: .int x :: st) I L Q := by
  intro p l e s m args below meth c D cy ad H locs ls C hP hS hl
  exact lv_idiv C.1 C.2.1 hd h0 (k p l e s m args below meth c D cy ad H locs ls C hP hS hl)
theorem T_irem {x y : Int32} (hd : decode M.2.1 pc = .ok (.irem, 1)) (h0 : ¬ y = 0) (k : T sh d M (pc + 1) lv (.int (x - x / y * y) :: st) I L Q) : T sh d M pc lv (.int y :: .int x :: st) I L Q := by
  intro p l e s m args below meth c D cy ad H locs ls C hP hS hl
  exact lv_irem C.1 C.2.1 hd h0 (k p l e s m args below meth c D cy ad H locs ls C hP hS hl)
theorem T_ineg {x : Int32} (hd : decode M.2.1 pc = .ok (.ineg, 1)) (k : T sh d M (pc + 1) lv (.int (-x) :: st) I L Q) : T sh d M pc lv (.int x :: st) I L Q := by
  intro p l e s m args below meth c D cy ad H locs ls C hP hS hl
  exact lv_ineg C.1 C.2.1 hd (k p l e s m args below meth c D cy ad H locs ls C hP hS hl)
theorem T_iushr {x y : Int32} (hd : decode M.2.1 pc = .ok (.iushr, 1)) (k : T sh d M (pc + 1) lv (.int ((x.toUInt32 >>> (y.toUInt32 &&& Int32.toUInt32 31)).toInt32) :: st) I L Q) : T sh d M pc lv (.int y :: .int x :: st) I L Q := by
  intro p l e s m args below meth c D cy ad H locs ls C hP hS hl
  exact lv_iushr C.1 C.2.1 hd rfl (k p l e s m args below meth c D cy ad H locs ls C hP hS hl)
theorem T_ladd {x y : Int64} (hd : decode M.2.1 pc = .ok (.ladd, 1)) (k : T sh d M (pc + 1) lv (.long (x + y) :: st) I L Q) : T sh d M pc lv (.long y :: .long x :: st) I L Q := by
  intro p l e s m args below meth c D cy ad H locs ls C hP hS hl
  exact lv_ladd C.1 C.2.1 hd (k p l e s m args below meth c D cy ad H locs ls C hP hS hl)
theorem T_lsub {x y : Int64} (hd : decode M.2.1 pc = .ok (.lsub, 1)) (k : T sh d M (pc + 1) lv (.long (x - y) :: st) I L Q) : T sh d M pc lv (.long y :: .long x :: st) I L Q := by
  intro p l e s m args below meth c D cy ad H locs ls C hP hS hl
  exact lv_lsub C.1 C.2.1 hd (k p l e s m args below meth c D cy ad H locs ls C hP hS hl)
theorem T_lmul {x y : Int64} (hd : decode M.2.1 pc = .ok (.lmul, 1)) (k : T sh d M (pc + 1) lv (.long (x * y) :: st) I L Q) : T sh d M pc lv (.long y :: .long x :: st) I L Q := by
  intro p l e s m args below meth c D cy ad H locs ls C hP hS hl
  exact lv_lmul C.1 C.2.1 hd (k p l e s m args below meth c D cy ad H locs ls C hP hS hl)
theorem T_ldiv {x y : Int64} (hd : decode M.2.1 pc = .ok (.ldiv, 1)) (h0 : ¬ y = 0) (k : T sh d M (pc + 1) lv (.long (x / y) :: st) I L Q) : T sh d M pc lv (.long y :: .long x :: st) I L Q := by
  intro p l e s m args below meth c D cy ad H locs ls C hP hS hl
  exact lv_ldiv C.1 C.2.1 hd h0 (k p l e s m args below meth c D cy ad H locs ls C hP hS hl)
theorem T_lshl {x : Int64} {y : Int32} (hd : decode M.2.1 pc = .ok (.lshl, 1)) (k : T sh d M (pc + 1) lv (.long (x <<< (y.toInt64 &&& 63)) :: st) I L Q) : T sh d M pc lv (.int y :: .long x :: st) I L Q := by
  intro p l e s m args below meth c D cy ad H locs ls C hP hS hl
  exact lv_lshl C.1 C.2.1 hd rfl (k p l e s m args below meth c D cy ad H locs ls C hP hS hl)
theorem T_lcmp {x y : Int64} (hd : decode M.2.1 pc = .ok (.lcmp, 1)) (k : T sh d M (pc + 1) lv (.int (lg_cmp x y) :: st) I L Q) : T sh d M pc lv (.long y :: .long x :: st) I L Q := by
  intro p l e s m args below meth c D cy ad H locs ls C hP hS hl
  exact W.lcmp C.1 C.2.1 hd (k p l e s m args below meth c D cy ad H locs ls C hP hS hl)
theorem T_i2l {x : Int32} (hd : decode M.2.1 pc = .ok (.i2l, 1)) (k : T sh d M (pc + 1) lv (.long x.toInt64 :: st) I L Q) : T sh d M pc lv (.int x :: st) I L Q := by
  intro p l e s m args below meth c D cy ad H locs ls C hP hS hl
  exact lv_i2l C.1 C.2.1 hd rfl (k p l e s m args below meth c D cy ad H locs ls C hP hS hl)
theorem T_l2i {x : Int64} (hd : decode M.2.1 pc = .ok (.l2i, 1)) (k : T sh d M (pc + 1) lv (.int x.toInt32 :: st) I L Q) : T sh d M pc lv (.long x :: st) I L Q := by
  intro p l e s m args below meth c D cy ad H locs ls C hP hS hl
  exact lv_l2i C.1 C.2.1 hd rfl (k p l e s m args below meth c D cy ad H locs ls C hP hS hl)
theorem T_i2b {x : Int32} (hd : decode M.2.1 pc = .ok (.i2b, 1)) (k : T sh d M (pc + 1) lv (.int x.toInt8.toInt32 :: st) I L Q) : T sh d M pc lv (.int x :: st) I L Q := by
  intro p l e s m args below meth c D cy ad H locs ls C hP hS hl
  exact lv_i2b C.1 C.2.1 hd rfl (k p l e s m args below meth c D cy ad H locs ls C hP hS hl)
theorem T_i2c {x : Int32} (hd : decode M.2.1 pc = .ok (.i2c, 1)) (k : T sh d M (pc + 1) lv (.int (x.toUInt32 % 65536).toInt32 :: st) I L Q) : T sh d M pc lv (.int x :: st) I L Q := by
  intro p l e s m args below meth c D cy ad H locs ls C hP hS hl
  exact lv_i2c C.1 C.2.1 hd rfl (k p l e s m args below meth c D cy ad H locs ls C hP hS hl)
theorem T_iconst {n : Int} {v : Int32} (hd : decode M.2.1 pc = .ok (.iconst n, 1)) (hv : Int32.ofInt n = v) (k : T sh d M (pc + 1) lv (.int v :: st) I L Q) : T sh d M pc lv (st) I L Q := by
  intro p l e s m args below meth c D cy ad H locs ls C hP hS hl
  exact lv_iconst C.1 C.2.1 hd hv (k p l e s m args below meth c D cy ad H locs ls C hP hS hl)
theorem T_bipush {n : Int} {v : Int32} (hd : decode M.2.1 pc = .ok (.bipush n, 2)) (hv : (Int8.ofInt n).toInt32 = v) (k : T sh d M (pc + 2) lv (.int v :: st) I L Q) : T sh d M pc lv (st) I L Q := by
  intro p l e s m args below meth c D cy ad H locs ls C hP hS hl
  exact lv_bipush C.1 C.2.1 hd hv (k p l e s m args below meth c D cy ad H locs ls C hP hS hl)
theorem T_sipush {n : Int} {v : Int32} (hd : decode M.2.1 pc = .ok (.sipush n, 3)) (hv : (Int16.ofInt n).toInt32 = v) (k : T sh d M (pc + 3) lv (.int v :: st) I L Q) : T sh d M pc lv (st) I L Q := by
  intro p l e s m args below meth c D cy ad H locs ls C hP hS hl
  exact lv_sipush C.1 C.2.1 hd hv (k p l e s m args below meth c D cy ad H locs ls C hP hS hl)
theorem T_lconst {n : Fin 2} {v : Int64} (hd : decode M.2.1 pc = .ok (.lconst n, 1)) (hv : Int64.ofNat (n : Nat) = v) (k : T sh d M (pc + 1) lv (.long v :: st) I L Q) : T sh d M pc lv (st) I L Q := by
  intro p l e s m args below meth c D cy ad H locs ls C hP hS hl
  exact lv_lconst C.1 C.2.1 hd hv (k p l e s m args below meth c D cy ad H locs ls C hP hS hl)
theorem T_ldc {idx : Nat} {v : Int32} (hd : decode M.2.1 pc = .ok (.ldc idx, 2)) (hw : Cond.constant M.1.cls idx v ∈ tq_tbl) (k : T sh d M (pc + 2) lv (.int v :: st) I L Q) : T sh d M pc lv (st) I L Q := by
  intro p l e s m args below meth c D cy ad H locs ls C hP hS hl
  exact lv_ldc C.1 C.2.1 C.2.2.2.2.2.1 (tq_wd C.2.2.2.2.2.2.1 hw) hd (k p l e s m args below meth c D cy ad H locs ls C hP hS hl)
theorem T_ldcw {idx : Nat} {v : Int32} (hd : decode M.2.1 pc = .ok (.ldc_w idx, 3)) (hw : Cond.constant M.1.cls idx v ∈ tq_tbl) (k : T sh d M (pc + 3) lv (.int v :: st) I L Q) : T sh d M pc lv (st) I L Q := by
  intro p l e s m args below meth c D cy ad H locs ls C hP hS hl
  exact lv_ldcw C.1 C.2.1 C.2.2.2.2.2.1 (tq_wd C.2.2.2.2.2.2.1 hw) hd (k p l e s m args below meth c D cy ad H locs ls C hP hS hl)
theorem T_ldc2 {idx : Nat} {v : Int64} (hd : decode M.2.1 pc = .ok (.ldc2_w idx, 3)) (hw : Cond.constantLong M.1.cls idx v ∈ tq_tbl) (k : T sh d M (pc + 3) lv (.long v :: st) I L Q) : T sh d M pc lv (st) I L Q := by
  intro p l e s m args below meth c D cy ad H locs ls C hP hS hl
  exact lv_ldc2 C.1 C.2.1 C.2.2.2.2.2.1 (tq_wd C.2.2.2.2.2.2.1 hw) hd (k p l e s m args below meth c D cy ad H locs ls C hP hS hl)
theorem T_pop {v : Value} (hd : decode M.2.1 pc = .ok (.pop, 1)) (hv : v.category = 1) (k : T sh d M (pc + 1) lv (st) I L Q) : T sh d M pc lv (v :: st) I L Q := by
  intro p l e s m args below meth c D cy ad H locs ls C hP hS hl
  exact lv_pop C.1 C.2.1 hd (by rw [tq_v_cat]; exact hv) (k p l e s m args below meth c D cy ad H locs ls C hP hS hl)
theorem T_dup {v : Value} (hd : decode M.2.1 pc = .ok (.dup, 1)) (hv : v.category = 1) (k : T sh d M (pc + 1) lv (v :: v :: st) I L Q) : T sh d M pc lv (v :: st) I L Q := by
  intro p l e s m args below meth c D cy ad H locs ls C hP hS hl
  exact lv_dup C.1 C.2.1 hd (by rw [tq_v_cat]; exact hv) (k p l e s m args below meth c D cy ad H locs ls C hP hS hl)
theorem T_dup2 {v u : Value} (hd : decode M.2.1 pc = .ok (.dup2, 1)) (hv : v.category = 1) (hu : u.category = 1) (k : T sh d M (pc + 1) lv (v :: u :: v :: u :: st) I L Q) : T sh d M pc lv (v :: u :: st) I L Q := by
  intro p l e s m args below meth c D cy ad H locs ls C hP hS hl
  exact lv_dup2_11 C.1 C.2.1 hd (by rw [tq_v_cat]; exact hv) (by rw [tq_v_cat]; exact hu) (k p l e s m args below meth c D cy ad H locs ls C hP hS hl)
theorem T_iload_n {k0 : Fin 4} {x : Int32} (hd : decode M.2.1 pc = .ok (.iload_n k0, 1)) (hi : lv[(k0 : Nat)]? = some (.int x)) (k : T sh d M (pc + 1) lv (.int x :: st) I L Q) : T sh d M pc lv (st) I L Q := by
  intro p l e s m args below meth c D cy ad H locs ls C hP hS hl
  exact lv_iload_n C.1 C.2.1 hd rfl (tq_ld hl hi (by simp)) (k p l e s m args below meth c D cy ad H locs ls C hP hS hl)
theorem T_iload {i : Nat} {x : Int32} (hd : decode M.2.1 pc = .ok (.iload i, 2)) (hi : lv[i]? = some (.int x)) (k : T sh d M (pc + 2) lv (.int x :: st) I L Q) : T sh d M pc lv (st) I L Q := by
  intro p l e s m args below meth c D cy ad H locs ls C hP hS hl
  exact lv_iload C.1 C.2.1 hd (tq_ld hl hi (by simp)) (k p l e s m args below meth c D cy ad H locs ls C hP hS hl)
theorem T_istore_n {k0 : Fin 4} {i : Nat} {x : Int32} {lv' : List Value} (hd : decode M.2.1 pc = .ok (.istore_n k0, 1)) (hk : (k0 : Nat) = i) (hb : i < M.2.2.1) (hl' : tq_sto lv i (.int x) = lv') (k : T sh d M (pc + 1) lv' st I L Q) : T sh d M pc lv (.int x :: st) I L Q := by
  intro p l e s m args below meth c D cy ad H locs ls C hP hS hl
  exact lv_istore_n C.1 C.2.1 hd hk hl hb rfl (fun ls' h' => k p l e s m args below meth c D cy ad H locs ls' C hP hS (hl' ▸ tq_st1 h'))
theorem T_istore {i : Nat} {x : Int32} {lv' : List Value} (hd : decode M.2.1 pc = .ok (.istore i, 2)) (hb : i < M.2.2.1) (hl' : tq_sto lv i (.int x) = lv') (k : T sh d M (pc + 2) lv' st I L Q) : T sh d M pc lv (.int x :: st) I L Q := by
  intro p l e s m args below meth c D cy ad H locs ls C hP hS hl
  exact lv_istore C.1 C.2.1 hd hl hb rfl (fun ls' h' => k p l e s m args below meth c D cy ad H locs ls' C hP hS (hl' ▸ tq_st1 h'))
theorem T_lload_n {k0 : Fin 4} {x : Int64} (hd : decode M.2.1 pc = .ok (.lload_n k0, 1)) (hi : lv[(k0 : Nat)]? = some (.long x)) (k : T sh d M (pc + 1) lv (.long x :: st) I L Q) : T sh d M pc lv (st) I L Q := by
  intro p l e s m args below meth c D cy ad H locs ls C hP hS hl
  exact lv_lload_n C.1 C.2.1 hd rfl (tq_ld hl hi (by simp)) (k p l e s m args below meth c D cy ad H locs ls C hP hS hl)
theorem T_lload {i : Nat} {x : Int64} (hd : decode M.2.1 pc = .ok (.lload i, 2)) (hi : lv[i]? = some (.long x)) (k : T sh d M (pc + 2) lv (.long x :: st) I L Q) : T sh d M pc lv (st) I L Q := by
  intro p l e s m args below meth c D cy ad H locs ls C hP hS hl
  exact lv_lload C.1 C.2.1 hd (tq_ld hl hi (by simp)) (k p l e s m args below meth c D cy ad H locs ls C hP hS hl)
theorem T_lstore_n {k0 : Fin 4} {i : Nat} {x : Int64} {lv' : List Value} (hd : decode M.2.1 pc = .ok (.lstore_n k0, 1)) (hk : (k0 : Nat) = i) (hb : i + 1 < M.2.2.1) (hl' : tq_sto2 lv i (.long x) = lv') (k : T sh d M (pc + 1) lv' st I L Q) : T sh d M pc lv (.long x :: st) I L Q := by
  intro p l e s m args below meth c D cy ad H locs ls C hP hS hl
  exact lv_lstore_n C.1 C.2.1 hd hk hl hb rfl (fun ls' h' => k p l e s m args below meth c D cy ad H locs ls' C hP hS (hl' ▸ tq_st2 h'))
theorem T_lstore {i : Nat} {x : Int64} {lv' : List Value} (hd : decode M.2.1 pc = .ok (.lstore i, 2)) (hb : i + 1 < M.2.2.1) (hl' : tq_sto2 lv i (.long x) = lv') (k : T sh d M (pc + 2) lv' st I L Q) : T sh d M pc lv (.long x :: st) I L Q := by
  intro p l e s m args below meth c D cy ad H locs ls C hP hS hl
  exact lv_lstore C.1 C.2.1 hd hl hb rfl (fun ls' h' => k p l e s m args below meth c D cy ad H locs ls' C hP hS (hl' ▸ tq_st2 h'))
theorem T_aload_n {k0 : Fin 4} {x : Nat} (hd : decode M.2.1 pc = .ok (.aload_n k0, 1)) (hi : lv[(k0 : Nat)]? = some (.ref x)) (k : T sh d M (pc + 1) lv (.ref x :: st) I L Q) : T sh d M pc lv (st) I L Q := by
  intro p l e s m args below meth c D cy ad H locs ls C hP hS hl
  exact lv_aload_n C.1 C.2.1 hd rfl (tq_ld hl hi (by simp)) (k p l e s m args below meth c D cy ad H locs ls C hP hS hl)
theorem T_aload {i : Nat} {x : Nat} (hd : decode M.2.1 pc = .ok (.aload i, 2)) (hi : lv[i]? = some (.ref x)) (k : T sh d M (pc + 2) lv (.ref x :: st) I L Q) : T sh d M pc lv (st) I L Q := by
  intro p l e s m args below meth c D cy ad H locs ls C hP hS hl
  exact lv_aload C.1 C.2.1 hd (tq_ld hl hi (by simp)) (k p l e s m args below meth c D cy ad H locs ls C hP hS hl)
theorem T_astore_n {k0 : Fin 4} {i : Nat} {x : Nat} {lv' : List Value} (hd : decode M.2.1 pc = .ok (.astore_n k0, 1)) (hk : (k0 : Nat) = i) (hb : i < M.2.2.1) (hl' : tq_sto lv i (.ref x) = lv') (k : T sh d M (pc + 1) lv' st I L Q) : T sh d M pc lv (.ref x :: st) I L Q := by
  intro p l e s m args below meth c D cy ad H locs ls C hP hS hl
  exact lv_astore_n C.1 C.2.1 hd hk hl hb rfl (fun ls' h' => k p l e s m args below meth c D cy ad H locs ls' C hP hS (hl' ▸ tq_st1 h'))
theorem T_astore {i : Nat} {x : Nat} {lv' : List Value} (hd : decode M.2.1 pc = .ok (.astore i, 2)) (hb : i < M.2.2.1) (hl' : tq_sto lv i (.ref x) = lv') (k : T sh d M (pc + 2) lv' st I L Q) : T sh d M pc lv (.ref x :: st) I L Q := by
  intro p l e s m args below meth c D cy ad H locs ls C hP hS hl
  exact lv_astore C.1 C.2.1 hd hl hb rfl (fun ls' h' => k p l e s m args below meth c D cy ad H locs ls' C hP hS (hl' ▸ tq_st1 h'))
theorem tq_at_asc {ad : Nat → Nat} {lv : List Value} {i : Nat} {x : Int32} (h : lv[i]? = some (.int x)) : ∃ k : Nat, (tq_asc ad 0 lv)[k]? = some (i, Value.int x) := List.getElem?_of_mem (a := ((i, Value.int x) : Nat × Value)) ((tq_asc_mem ad lv 0 (i, Value.int x)).mpr ⟨i, Value.int x, h, by simp, by simp [tq_v]⟩)
theorem T_iinc {i : Nat} {n : Int} {x : Int32} {lv' : List Value} (hd : decode M.2.1 pc = .ok (.iinc i n, 3)) (hi : lv[i]? = some (.int x)) (hb : i < M.2.2.1) (hl' : tq_sto lv i (.int (x + Int32.ofInt n)) = lv') (k : T sh d M (pc + 3) lv' st I L Q) : T sh d M pc lv st I L Q := by
  intro p l e s m args below meth c D cy ad H locs ls C hP hS hl
  obtain ⟨k0, hk0⟩ := tq_at_asc (ad := ad) hi
  exact lv_iinc C.1 C.2.1 hd hl hk0 rfl hb rfl (fun ls' h' => k p l e s m args below meth c D cy ad H locs ls' C hP hS (hl' ▸ tq_st1 h'))
theorem T_goto {off : Int} {tgt : Nat} (hd : decode M.2.1 pc = .ok (.goto off, 3)) (ht : (pc : Int) + off = (tgt : Int)) (k : T sh d M tgt lv st I L Q) : T sh d M pc lv st I L Q := by
  intro p l e s m args below meth c D cy ad H locs ls C hP hS hl
  exact lv_goto C.1 C.2.1 hd ht (k p l e s m args below meth c D cy ad H locs ls C hP hS hl)
theorem T_if_eq {x : Int32} {off : Int} {tgt : Nat} (hd : decode M.2.1 pc = .ok (.ifCond .eq off, 3)) (ht : (pc : Int) + off = (tgt : Int)) (k : if x = 0 then T sh d M tgt lv st I L Q else T sh d M (pc + 3) lv st I L Q) : T sh d M pc lv (.int x :: st) I L Q := by
  intro p l e s m args below meth c D cy ad H locs ls C hP hS hl
  by_cases hc : x = 0
  · rw [if_pos hc] at k
    exact lv_if_eq C.1 C.2.1 hd ht (fun g => by first | exact absurd hc g | exact k p l e s m args below meth c D cy ad H locs ls C hP hS hl) (fun g => by first | exact absurd hc g | exact k p l e s m args below meth c D cy ad H locs ls C hP hS hl)
  · rw [if_neg hc] at k
    exact lv_if_eq C.1 C.2.1 hd ht (fun g => by first | exact absurd g hc | exact k p l e s m args below meth c D cy ad H locs ls C hP hS hl) (fun g => by first | exact absurd g hc | exact k p l e s m args below meth c D cy ad H locs ls C hP hS hl)
theorem T_icmp_eq {x y : Int32} {off : Int} {tgt : Nat} (hd : decode M.2.1 pc = .ok (.if_icmp .eq off, 3)) (ht : (pc : Int) + off = (tgt : Int)) (k : if x = y then T sh d M tgt lv st I L Q else T sh d M (pc + 3) lv st I L Q) : T sh d M pc lv (.int y :: .int x :: st) I L Q := by
  intro p l e s m args below meth c D cy ad H locs ls C hP hS hl
  by_cases hc : x = y
  · rw [if_pos hc] at k
    exact lv_icmp_eq C.1 C.2.1 hd ht (fun g => by first | exact absurd hc g | exact k p l e s m args below meth c D cy ad H locs ls C hP hS hl) (fun g => by first | exact absurd hc g | exact k p l e s m args below meth c D cy ad H locs ls C hP hS hl)
  · rw [if_neg hc] at k
    exact lv_icmp_eq C.1 C.2.1 hd ht (fun g => by first | exact absurd g hc | exact k p l e s m args below meth c D cy ad H locs ls C hP hS hl) (fun g => by first | exact absurd g hc | exact k p l e s m args below meth c D cy ad H locs ls C hP hS hl)
theorem T_if_ne {x : Int32} {off : Int} {tgt : Nat} (hd : decode M.2.1 pc = .ok (.ifCond .ne off, 3)) (ht : (pc : Int) + off = (tgt : Int)) (k : if x = 0 then T sh d M (pc + 3) lv st I L Q else T sh d M tgt lv st I L Q) : T sh d M pc lv (.int x :: st) I L Q := by
  intro p l e s m args below meth c D cy ad H locs ls C hP hS hl
  by_cases hc : x = 0
  · rw [if_pos hc] at k
    exact lv_if_ne C.1 C.2.1 hd ht (fun g => by first | exact absurd hc g | exact k p l e s m args below meth c D cy ad H locs ls C hP hS hl) (fun g => by first | exact absurd hc g | exact k p l e s m args below meth c D cy ad H locs ls C hP hS hl)
  · rw [if_neg hc] at k
    exact lv_if_ne C.1 C.2.1 hd ht (fun g => by first | exact absurd g hc | exact k p l e s m args below meth c D cy ad H locs ls C hP hS hl) (fun g => by first | exact absurd g hc | exact k p l e s m args below meth c D cy ad H locs ls C hP hS hl)
theorem T_icmp_ne {x y : Int32} {off : Int} {tgt : Nat} (hd : decode M.2.1 pc = .ok (.if_icmp .ne off, 3)) (ht : (pc : Int) + off = (tgt : Int)) (k : if x = y then T sh d M (pc + 3) lv st I L Q else T sh d M tgt lv st I L Q) : T sh d M pc lv (.int y :: .int x :: st) I L Q := by
  intro p l e s m args below meth c D cy ad H locs ls C hP hS hl
  by_cases hc : x = y
  · rw [if_pos hc] at k
    exact lv_icmp_ne C.1 C.2.1 hd ht (fun g => by first | exact absurd hc g | exact k p l e s m args below meth c D cy ad H locs ls C hP hS hl) (fun g => by first | exact absurd hc g | exact k p l e s m args below meth c D cy ad H locs ls C hP hS hl)
  · rw [if_neg hc] at k
    exact lv_icmp_ne C.1 C.2.1 hd ht (fun g => by first | exact absurd g hc | exact k p l e s m args below meth c D cy ad H locs ls C hP hS hl) (fun g => by first | exact absurd g hc | exact k p l e s m args below meth c D cy ad H locs ls C hP hS hl)
theorem T_if_lt {x : Int32} {off : Int} {tgt : Nat} (hd : decode M.2.1 pc = .ok (.ifCond .lt off, 3)) (ht : (pc : Int) + off = (tgt : Int)) (k : if x < 0 then T sh d M tgt lv st I L Q else T sh d M (pc + 3) lv st I L Q) : T sh d M pc lv (.int x :: st) I L Q := by
  intro p l e s m args below meth c D cy ad H locs ls C hP hS hl
  by_cases hc : x < 0
  · rw [if_pos hc] at k
    exact lv_if_lt C.1 C.2.1 hd ht (fun g => by first | exact absurd hc g | exact k p l e s m args below meth c D cy ad H locs ls C hP hS hl) (fun g => by first | exact absurd hc g | exact k p l e s m args below meth c D cy ad H locs ls C hP hS hl)
  · rw [if_neg hc] at k
    exact lv_if_lt C.1 C.2.1 hd ht (fun g => by first | exact absurd g hc | exact k p l e s m args below meth c D cy ad H locs ls C hP hS hl) (fun g => by first | exact absurd g hc | exact k p l e s m args below meth c D cy ad H locs ls C hP hS hl)
theorem T_icmp_lt {x y : Int32} {off : Int} {tgt : Nat} (hd : decode M.2.1 pc = .ok (.if_icmp .lt off, 3)) (ht : (pc : Int) + off = (tgt : Int)) (k : if x < y then T sh d M tgt lv st I L Q else T sh d M (pc + 3) lv st I L Q) : T sh d M pc lv (.int y :: .int x :: st) I L Q := by
  intro p l e s m args below meth c D cy ad H locs ls C hP hS hl
  by_cases hc : x < y
  · rw [if_pos hc] at k
    exact lv_icmp_lt C.1 C.2.1 hd ht (fun g => by first | exact absurd hc g | exact k p l e s m args below meth c D cy ad H locs ls C hP hS hl) (fun g => by first | exact absurd hc g | exact k p l e s m args below meth c D cy ad H locs ls C hP hS hl)
  · rw [if_neg hc] at k
    exact lv_icmp_lt C.1 C.2.1 hd ht (fun g => by first | exact absurd g hc | exact k p l e s m args below meth c D cy ad H locs ls C hP hS hl) (fun g => by first | exact absurd g hc | exact k p l e s m args below meth c D cy ad H locs ls C hP hS hl)
theorem T_if_ge {x : Int32} {off : Int} {tgt : Nat} (hd : decode M.2.1 pc = .ok (.ifCond .ge off, 3)) (ht : (pc : Int) + off = (tgt : Int)) (k : if 0 ≤ x then T sh d M tgt lv st I L Q else T sh d M (pc + 3) lv st I L Q) : T sh d M pc lv (.int x :: st) I L Q := by
  intro p l e s m args below meth c D cy ad H locs ls C hP hS hl
  by_cases hc : 0 ≤ x
  · rw [if_pos hc] at k
    exact lv_if_ge C.1 C.2.1 hd ht (fun g => by first | exact absurd hc g | exact k p l e s m args below meth c D cy ad H locs ls C hP hS hl) (fun g => by first | exact absurd hc g | exact k p l e s m args below meth c D cy ad H locs ls C hP hS hl)
  · rw [if_neg hc] at k
    exact lv_if_ge C.1 C.2.1 hd ht (fun g => by first | exact absurd g hc | exact k p l e s m args below meth c D cy ad H locs ls C hP hS hl) (fun g => by first | exact absurd g hc | exact k p l e s m args below meth c D cy ad H locs ls C hP hS hl)
theorem T_icmp_ge {x y : Int32} {off : Int} {tgt : Nat} (hd : decode M.2.1 pc = .ok (.if_icmp .ge off, 3)) (ht : (pc : Int) + off = (tgt : Int)) (k : if y ≤ x then T sh d M tgt lv st I L Q else T sh d M (pc + 3) lv st I L Q) : T sh d M pc lv (.int y :: .int x :: st) I L Q := by
  intro p l e s m args below meth c D cy ad H locs ls C hP hS hl
  by_cases hc : y ≤ x
  · rw [if_pos hc] at k
    exact lv_icmp_ge C.1 C.2.1 hd ht (fun g => by first | exact absurd hc g | exact k p l e s m args below meth c D cy ad H locs ls C hP hS hl) (fun g => by first | exact absurd hc g | exact k p l e s m args below meth c D cy ad H locs ls C hP hS hl)
  · rw [if_neg hc] at k
    exact lv_icmp_ge C.1 C.2.1 hd ht (fun g => by first | exact absurd g hc | exact k p l e s m args below meth c D cy ad H locs ls C hP hS hl) (fun g => by first | exact absurd g hc | exact k p l e s m args below meth c D cy ad H locs ls C hP hS hl)
theorem T_if_gt {x : Int32} {off : Int} {tgt : Nat} (hd : decode M.2.1 pc = .ok (.ifCond .gt off, 3)) (ht : (pc : Int) + off = (tgt : Int)) (k : if 0 < x then T sh d M tgt lv st I L Q else T sh d M (pc + 3) lv st I L Q) : T sh d M pc lv (.int x :: st) I L Q := by
  intro p l e s m args below meth c D cy ad H locs ls C hP hS hl
  by_cases hc : 0 < x
  · rw [if_pos hc] at k
    exact lv_if_gt C.1 C.2.1 hd ht (fun g => by first | exact absurd hc g | exact k p l e s m args below meth c D cy ad H locs ls C hP hS hl) (fun g => by first | exact absurd hc g | exact k p l e s m args below meth c D cy ad H locs ls C hP hS hl)
  · rw [if_neg hc] at k
    exact lv_if_gt C.1 C.2.1 hd ht (fun g => by first | exact absurd g hc | exact k p l e s m args below meth c D cy ad H locs ls C hP hS hl) (fun g => by first | exact absurd g hc | exact k p l e s m args below meth c D cy ad H locs ls C hP hS hl)
theorem T_icmp_gt {x y : Int32} {off : Int} {tgt : Nat} (hd : decode M.2.1 pc = .ok (.if_icmp .gt off, 3)) (ht : (pc : Int) + off = (tgt : Int)) (k : if y < x then T sh d M tgt lv st I L Q else T sh d M (pc + 3) lv st I L Q) : T sh d M pc lv (.int y :: .int x :: st) I L Q := by
  intro p l e s m args below meth c D cy ad H locs ls C hP hS hl
  by_cases hc : y < x
  · rw [if_pos hc] at k
    exact lv_icmp_gt C.1 C.2.1 hd ht (fun g => by first | exact absurd hc g | exact k p l e s m args below meth c D cy ad H locs ls C hP hS hl) (fun g => by first | exact absurd hc g | exact k p l e s m args below meth c D cy ad H locs ls C hP hS hl)
  · rw [if_neg hc] at k
    exact lv_icmp_gt C.1 C.2.1 hd ht (fun g => by first | exact absurd g hc | exact k p l e s m args below meth c D cy ad H locs ls C hP hS hl) (fun g => by first | exact absurd g hc | exact k p l e s m args below meth c D cy ad H locs ls C hP hS hl)
theorem T_if_le {x : Int32} {off : Int} {tgt : Nat} (hd : decode M.2.1 pc = .ok (.ifCond .le off, 3)) (ht : (pc : Int) + off = (tgt : Int)) (k : if x ≤ 0 then T sh d M tgt lv st I L Q else T sh d M (pc + 3) lv st I L Q) : T sh d M pc lv (.int x :: st) I L Q := by
  intro p l e s m args below meth c D cy ad H locs ls C hP hS hl
  by_cases hc : x ≤ 0
  · rw [if_pos hc] at k
    exact lv_if_le C.1 C.2.1 hd ht (fun g => by first | exact absurd hc g | exact k p l e s m args below meth c D cy ad H locs ls C hP hS hl) (fun g => by first | exact absurd hc g | exact k p l e s m args below meth c D cy ad H locs ls C hP hS hl)
  · rw [if_neg hc] at k
    exact lv_if_le C.1 C.2.1 hd ht (fun g => by first | exact absurd g hc | exact k p l e s m args below meth c D cy ad H locs ls C hP hS hl) (fun g => by first | exact absurd g hc | exact k p l e s m args below meth c D cy ad H locs ls C hP hS hl)
theorem T_icmp_le {x y : Int32} {off : Int} {tgt : Nat} (hd : decode M.2.1 pc = .ok (.if_icmp .le off, 3)) (ht : (pc : Int) + off = (tgt : Int)) (k : if x ≤ y then T sh d M tgt lv st I L Q else T sh d M (pc + 3) lv st I L Q) : T sh d M pc lv (.int y :: .int x :: st) I L Q := by
  intro p l e s m args below meth c D cy ad H locs ls C hP hS hl
  by_cases hc : x ≤ y
  · rw [if_pos hc] at k
    exact lv_icmp_le C.1 C.2.1 hd ht (fun g => by first | exact absurd hc g | exact k p l e s m args below meth c D cy ad H locs ls C hP hS hl) (fun g => by first | exact absurd hc g | exact k p l e s m args below meth c D cy ad H locs ls C hP hS hl)
  · rw [if_neg hc] at k
    exact lv_icmp_le C.1 C.2.1 hd ht (fun g => by first | exact absurd g hc | exact k p l e s m args below meth c D cy ad H locs ls C hP hS hl) (fun g => by first | exact absurd g hc | exact k p l e s m args below meth c D cy ad H locs ls C hP hS hl)
theorem T_tableIn {dflt lo hi : Int} {offs : Array Int} {len : Nat} {x : Int32} {off : Int} {tgt : Nat} (hd : decode M.2.1 pc = .ok (.tableswitch dflt lo hi offs, len)) (h1 : ¬ x.toInt < lo) (h2 : ¬ hi < x.toInt) (ho : offs[(x.toInt - lo).toNat]? = some off) (ht : (pc : Int) + off = (tgt : Int)) (k : T sh d M tgt lv st I L Q) : T sh d M pc lv (.int x :: st) I L Q := by
  intro p l e s m args below meth c D cy ad H locs ls C hP hS hl
  exact lv_tableIn C.1 C.2.1 hd h1 h2 ho ht (k p l e s m args below meth c D cy ad H locs ls C hP hS hl)
theorem T_tableOut {dflt lo hi : Int} {offs : Array Int} {len : Nat} {x : Int32} {tgt : Nat} (hd : decode M.2.1 pc = .ok (.tableswitch dflt lo hi offs, len)) (h : x.toInt < lo ∨ hi < x.toInt) (ht : (pc : Int) + dflt = (tgt : Int)) (k : T sh d M tgt lv st I L Q) : T sh d M pc lv (.int x :: st) I L Q := by
  intro p l e s m args below meth c D cy ad H locs ls C hP hS hl
  exact lv_tableOut C.1 C.2.1 hd h ht (k p l e s m args below meth c D cy ad H locs ls C hP hS hl)
theorem T_lookup {dflt : Int} {ps : Array (Int × Int)} {len : Nat} {x : Int32} {off : Int} {tgt : Nat} (hd : decode M.2.1 pc = .ok (.lookupswitch dflt ps, len)) (hp : (ps.toList.zip (ps.toList.drop 1)).all (fun (a, next) => a.1 < next.1) = true) (ho : Op.lookupswitch.offset ps.toList dflt x.toInt = off) (ht : (pc : Int) + off = (tgt : Int)) (k : T sh d M tgt lv st I L Q) : T sh d M pc lv (.int x :: st) I L Q := by
  intro p l e s m args below meth c D cy ad H locs ls C hP hS hl
  exact lv_lookup C.1 C.2.1 hd hp ho ht (k p l e s m args below meth c D cy ad H locs ls C hP hS hl)
def tq_fl (own : String) (idx ci k : Nat) : Prop := ∃ r : vw_C, tq_cl[ci]? = some r ∧ k < r.2.2 ∧ (r.2.1 k).1 = r.1 ∧ Cond.fieldLink own idx r.1 (r.2.1 k).2.1 (r.2.1 k).2.2.1 ∈ tq_tbl
theorem tq_ws_in : ∀ (ci : Nat) (r : vw_C), tq_cl[ci]? = some r → ∀ w ∈ u_ws r.1 r.2.1 r.2.2, w ∈ tq_tbl := tq_ws_in0
theorem T_geti {idx q ci k0 : Nat} {fs : List (Option Nat)} (hd : decode M.2.1 pc = .ok (.getfield idx, 3)) (hf : tq_fl M.1.cls idx ci k0) (hq : sh[q]? = some (.inr (ci, fs))) (hk : fs[k0]? = some none) (k : T sh d M (pc + 3) lv (.int (I q k0) :: st) I L Q) : T sh d M pc lv (.ref q :: st) I L Q := by
  intro p l e s m args below meth c D cy ad H locs ls C hP hS hl
  obtain ⟨r, h1, h2, h3, h4⟩ := hf
  exact va_get C.1 C.2.1 C.2.2.2.2.2.2.1 (fun w hw => List.mem_cons_of_mem _ (tq_ws_in ci r h1 w hw)) C.2.2.2.2.2.1 C.2.2.2.2.2.2.2.1 hP q (w_at hq) h1 k0 h2 (tq_wd C.2.2.2.2.2.2.1 h4) (fun _ h9 => by rw [h3] at h9; exact h9) (v := .int (I q k0)) (by rw [f_go_at, hk]; simp [f_val]) hd (k p l e s m args below meth c D cy ad H locs ls C hP hS hl)
theorem T_getr {idx q ci k0 q2 : Nat} {fs : List (Option Nat)} (hd : decode M.2.1 pc = .ok (.getfield idx, 3)) (hf : tq_fl M.1.cls idx ci k0) (hq : sh[q]? = some (.inr (ci, fs))) (hk : fs[k0]? = some (some q2)) (k : T sh d M (pc + 3) lv (.ref q2 :: st) I L Q) : T sh d M pc lv (.ref q :: st) I L Q := by
  intro p l e s m args below meth c D cy ad H locs ls C hP hS hl
  obtain ⟨r, h1, h2, h3, h4⟩ := hf
  exact va_get C.1 C.2.1 C.2.2.2.2.2.2.1 (fun w hw => List.mem_cons_of_mem _ (tq_ws_in ci r h1 w hw)) C.2.2.2.2.2.1 C.2.2.2.2.2.2.2.1 hP q (w_at hq) h1 k0 h2 (tq_wd C.2.2.2.2.2.2.1 h4) (fun _ h9 => by rw [h3] at h9; exact h9) (v := .ref (ad q2)) (by rw [f_go_at, hk]; simp [f_val]) hd (k p l e s m args below meth c D cy ad H locs ls C hP hS hl)
def tq_pf (ci k : Nat) (ty : FieldType) : Prop := ∃ r : vw_C, tq_cl[ci]? = some r ∧ (r.2.1 k).2.2.2 = false ∧ parseFieldDescriptor (r.2.1 k).2.2.1 = some ty
theorem T_puti {idx q ci k0 : Nat} {fs : List (Option Nat)} {x : Int32} {ty : FieldType} (hd : decode M.2.1 pc = .ok (.putfield idx, 3)) (hf : tq_fl M.1.cls idx ci k0) (hp : tq_pf ci k0 ty) (hq : sh[q]? = some (.inr (ci, fs))) (hk : fs[k0]? = some none) (hn : narrow ty (.int x) = .int x) (hfit : fits ty (.int x) = true) (k : T sh d M (pc + 3) lv st (u_I I q k0 x) L Q) : T sh d M pc lv (.int x :: .ref q :: st) I L Q := by
  intro p l e s m args below meth c D cy ad H locs ls C hP hS hl
  obtain ⟨r, h1, h2, h3, h4⟩ := hf
  obtain ⟨r', g1, g2, g3⟩ := hp
  obtain rfl : r = r' := Option.some.inj (h1.symm.trans g1)
  obtain ⟨ty0, hty, hnm⟩ := tq_cl_ok ci r h1
  refine va_put (v := .int x) C.1 C.2.1 C.2.2.2.2.2.2.1 (fun w hw => List.mem_cons_of_mem _ (tq_ws_in ci r h1 w hw)) ty0 hty hnm C.2.2.2.2.2.1 C.2.2.2.2.2.2.2.1 hP (tq_D C.2.2.2.2.2.2.2.2.1) hS q (w_at hq) h1 k0 h2 (tq_wd C.2.2.2.2.2.2.1 h4) (fun _ h9 => by rw [h3] at h9; exact h9) g2 g3 hn hfit ?_ hd ?_
  · have h0 : (f_go ad (I q) 0 fs)[k0]? = some (.int (I q (0 + k0))) := by rw [f_go_at, hk]; rfl
    exact (List.getElem?_eq_some_iff.mp h0).1
  · intro H1 locs1 hP1 hD1 hS1
    rw [f_set x hk] at hP1
    have e1 : (ad q, (Sum.inr (ci, f_go ad (upd (I q) k0 x) 0 fs) : va_E)) = (ad q, c_of cy ad (u_I I q k0 x) L q (.inr (ci, fs))) := by simp only [c_of, u_I_self]
    rw [e1, w_set hq (fun a ha => u_I_ne k0 x ha) (fun a ha => rfl), w_same hq] at hP1
    exact k p l e s m args below meth c D cy ad H1 locs1 ls C hP1 hS1 hl
theorem T_putr {idx q ci k0 r0 q2 : Nat} {fs : List (Option Nat)} {ty : FieldType} (hd : decode M.2.1 pc = .ok (.putfield idx, 3)) (hf : tq_fl M.1.cls idx ci k0) (hp : tq_pf ci k0 ty) (hq : sh[q]? = some (.inr (ci, fs))) (hk : fs[k0]? = some (some r0)) (hn : ∀ a, narrow ty (.ref a) = .ref a ∧ fits ty (.ref a) = true) (k : T (sh.set q (.inr (ci, fs.set k0 (some q2)))) d M (pc + 3) lv st I L Q) : T sh d M pc lv (.ref q2 :: .ref q :: st) I L Q := by
  intro p l e s m args below meth c D cy ad H locs ls C hP hS hl
  obtain ⟨r, h1, h2, h3, h4⟩ := hf
  obtain ⟨r', g1, g2, g3⟩ := hp
  obtain rfl : r = r' := Option.some.inj (h1.symm.trans g1)
  obtain ⟨ty0, hty, hnm⟩ := tq_cl_ok ci r h1
  refine va_put (v := .ref (ad q2)) C.1 C.2.1 C.2.2.2.2.2.2.1 (fun w hw => List.mem_cons_of_mem _ (tq_ws_in ci r h1 w hw)) ty0 hty hnm C.2.2.2.2.2.1 C.2.2.2.2.2.2.2.1 hP (tq_D C.2.2.2.2.2.2.2.2.1) hS q (w_at hq) h1 k0 h2 (tq_wd C.2.2.2.2.2.2.1 h4) (fun _ h9 => by rw [h3] at h9; exact h9) g2 g3 (hn _).1 (hn _).2 ?_ hd ?_
  · have h0 : (f_go ad (I q) 0 fs)[k0]? = some (.ref (ad r0)) := by rw [f_go_at, hk]; rfl
    exact (List.getElem?_eq_some_iff.mp h0).1
  · intro H1 locs1 hP1 hD1 hS1
    rw [f_setr q2 hk] at hP1
    have e1 : (ad q, (Sum.inr (ci, f_go ad (I q) 0 (fs.set k0 (some q2))) : va_E)) = (ad q, c_of cy ad I L q (.inr (ci, fs.set k0 (some q2)))) := by simp only [c_of]
    rw [e1, w_set hq (fun a ha => rfl) (fun a ha => rfl)] at hP1
    have hk' := k p l e s m args below meth c D cy ad H1 locs1 ls
    rw [List.length_set] at hk'
    exact hk' C hP1 hS1 hl
theorem T_iald {q n : Nat} {i : Int32} (hd : decode M.2.1 pc = .ok (.iaload, 1)) (hq : sh[q]? = some (.inl (0, n))) (hi : vp_in i n) (k : T sh d M (pc + 1) lv (.int (I q i.toNatClampNeg) :: st) I L Q) : T sh d M pc lv (.int i :: .ref q :: st) I L Q := by
  intro p l e s m args below meth c D cy ad H locs ls C hP hS hl
  exact va_iald C.1 C.2.1 C.2.2.2.2.2.2.2.1 hP q 0 (f := I q) (w_at hq) rfl hi hd (k p l e s m args below meth c D cy ad H locs ls C hP hS hl)
theorem T_bald {q n : Nat} {i : Int32} (hd : decode M.2.1 pc = .ok (.baload, 1)) (hq : sh[q]? = some (.inl (1, n))) (hi : vp_in i n) (k : T sh d M (pc + 1) lv (.int (I q i.toNatClampNeg) :: st) I L Q) : T sh d M pc lv (.int i :: .ref q :: st) I L Q := by
  intro p l e s m args below meth c D cy ad H locs ls C hP hS hl
  exact va_bald C.1 C.2.1 C.2.2.2.2.2.2.2.1 hP q 1 (f := I q) (w_at hq) rfl hi hd (k p l e s m args below meth c D cy ad H locs ls C hP hS hl)
theorem T_zald {q n : Nat} {i : Int32} (hd : decode M.2.1 pc = .ok (.baload, 1)) (hq : sh[q]? = some (.inl (2, n))) (hi : vp_in i n) (k : T sh d M (pc + 1) lv (.int (I q i.toNatClampNeg) :: st) I L Q) : T sh d M pc lv (.int i :: .ref q :: st) I L Q := by
  intro p l e s m args below meth c D cy ad H locs ls C hP hS hl
  exact va_zald C.1 C.2.1 C.2.2.2.2.2.2.2.1 hP q 2 (f := I q) (w_at hq) rfl hi hd (k p l e s m args below meth c D cy ad H locs ls C hP hS hl)
theorem T_lald {q n : Nat} {i : Int32} (hd : decode M.2.1 pc = .ok (.laload, 1)) (hq : sh[q]? = some (.inl (3, n))) (hi : vp_in i n) (k : T sh d M (pc + 1) lv (.long (L q i.toNatClampNeg) :: st) I L Q) : T sh d M pc lv (.int i :: .ref q :: st) I L Q := by
  intro p l e s m args below meth c D cy ad H locs ls C hP hS hl
  exact va_lald C.1 C.2.1 C.2.2.2.2.2.2.2.1 hP q 3 (f := L q) (w_at hq) rfl hi hd (k p l e s m args below meth c D cy ad H locs ls C hP hS hl)
theorem T_iast {q n : Nat} {i x : Int32} (hd : decode M.2.1 pc = .ok (.iastore, 1)) (hq : sh[q]? = some (.inl (0, n))) (hi : vp_in i n) (k : T sh d M (pc + 1) lv st (u_I I q i.toNatClampNeg x) L Q) : T sh d M pc lv (.int x :: .int i :: .ref q :: st) I L Q := by
  intro p l e s m args below meth c D cy ad H locs ls C hP hS hl
  refine va_iast C.1 C.2.1 C.2.2.2.2.2.2.2.1 hP (tq_D C.2.2.2.2.2.2.2.2.1) hS q 0 (f := I q) (w_at hq) rfl hi hd (fun H1 locs1 hP1 hD1 hS1 => ?_)
  have e1 : (ad q, (Sum.inl (cy 0, n, .inl (upd (I q) i.toNatClampNeg x)) : va_E)) = (ad q, c_of cy ad (u_I I q i.toNatClampNeg x) L q (.inl (0, n))) := by simp [c_of, u_I_self]
  rw [e1, w_set hq (fun a ha => u_I_ne _ _ ha) (fun a ha => rfl), w_same hq] at hP1
  exact k p l e s m args below meth c D cy ad H1 locs1 ls C hP1 hS1 hl
theorem T_bast {q n : Nat} {i x : Int32} (hd : decode M.2.1 pc = .ok (.bastore, 1)) (hq : sh[q]? = some (.inl (1, n))) (hi : vp_in i n) (k : T sh d M (pc + 1) lv st (u_I I q i.toNatClampNeg (vp_nar .byte x)) L Q) : T sh d M pc lv (.int x :: .int i :: .ref q :: st) I L Q := by
  intro p l e s m args below meth c D cy ad H locs ls C hP hS hl
  refine va_bast C.1 C.2.1 C.2.2.2.2.2.2.2.1 hP (tq_D C.2.2.2.2.2.2.2.2.1) hS q 1 (f := I q) (w_at hq) rfl hi hd (fun H1 locs1 hP1 hD1 hS1 => ?_)
  have e1 : (ad q, (Sum.inl (cy 1, n, .inl (upd (I q) i.toNatClampNeg (vp_nar .byte x))) : va_E)) = (ad q, c_of cy ad (u_I I q i.toNatClampNeg (vp_nar .byte x)) L q (.inl (1, n))) := by simp [c_of, u_I_self]
  rw [e1, w_set hq (fun a ha => u_I_ne _ _ ha) (fun a ha => rfl), w_same hq] at hP1
  exact k p l e s m args below meth c D cy ad H1 locs1 ls C hP1 hS1 hl
theorem T_zast {q n : Nat} {i x : Int32} (hd : decode M.2.1 pc = .ok (.bastore, 1)) (hq : sh[q]? = some (.inl (2, n))) (hi : vp_in i n) (k : T sh d M (pc + 1) lv st (u_I I q i.toNatClampNeg (vp_nar .boolean x)) L Q) : T sh d M pc lv (.int x :: .int i :: .ref q :: st) I L Q := by
  intro p l e s m args below meth c D cy ad H locs ls C hP hS hl
  refine va_zast C.1 C.2.1 C.2.2.2.2.2.2.2.1 hP (tq_D C.2.2.2.2.2.2.2.2.1) hS q 2 (f := I q) (w_at hq) rfl hi hd (fun H1 locs1 hP1 hD1 hS1 => ?_)
  have e1 : (ad q, (Sum.inl (cy 2, n, .inl (upd (I q) i.toNatClampNeg (vp_nar .boolean x))) : va_E)) = (ad q, c_of cy ad (u_I I q i.toNatClampNeg (vp_nar .boolean x)) L q (.inl (2, n))) := by simp [c_of, u_I_self]
  rw [e1, w_set hq (fun a ha => u_I_ne _ _ ha) (fun a ha => rfl), w_same hq] at hP1
  exact k p l e s m args below meth c D cy ad H1 locs1 ls C hP1 hS1 hl
theorem T_last {q n : Nat} {i : Int32} {x : Int64} (hd : decode M.2.1 pc = .ok (.lastore, 1)) (hq : sh[q]? = some (.inl (3, n))) (hi : vp_in i n) (k : T sh d M (pc + 1) lv st I (u_L L q i.toNatClampNeg x) Q) : T sh d M pc lv (.long x :: .int i :: .ref q :: st) I L Q := by
  intro p l e s m args below meth c D cy ad H locs ls C hP hS hl
  refine va_last C.1 C.2.1 C.2.2.2.2.2.2.2.1 hP (tq_D C.2.2.2.2.2.2.2.2.1) hS q 3 (f := L q) (w_at hq) rfl hi hd (fun H1 locs1 hP1 hD1 hS1 => ?_)
  have e1 : (ad q, (Sum.inl (cy 3, n, .inr (.inl (vp_updL (L q) i.toNatClampNeg x))) : va_E)) = (ad q, c_of cy ad I (u_L L q i.toNatClampNeg x) q (.inl (3, n))) := by simp [c_of, u_L_self]
  rw [e1, w_set hq (fun a ha => rfl) (fun a ha => u_L_ne _ _ ha), w_same hq] at hP1
  exact k p l e s m args below meth c D cy ad H1 locs1 ls C hP1 hS1 hl
theorem T_alen {q n kd : Nat} {v : Int32} (hd : decode M.2.1 pc = .ok (.arraylength, 1)) (hq : sh[q]? = some (.inl (kd, n))) (hk : kd < 4) (hv : Int32.ofNat n = v) (k : T sh d M (pc + 1) lv (.int v :: st) I L Q) : T sh d M pc lv (.ref q :: st) I L Q := by
  intro p l e s m args below meth c D cy ad H locs ls C hP hS hl
  have ht : ∃ ty, (tq_ty cy)[kd]? = some (cy kd, ty) := by
    match kd, hk with
    | 0, _ => exact ⟨_, rfl⟩
    | 1, _ => exact ⟨_, rfl⟩
    | 2, _ => exact ⟨_, rfl⟩
    | 3, _ => exact ⟨_, rfl⟩
  obtain ⟨ty, ht⟩ := ht
  exact va_alen C.1 C.2.1 C.2.2.2.2.2.2.2.1 hP q kd (w_at hq) ht hv hd (k p l e s m args below meth c D cy ad H locs ls C hP hS hl)
theorem T_iret {x : Int32} (hr : M.2.2.2 = some .int) (hd : decode M.2.1 pc = .ok (.ireturn, 1)) (h : Q (some (.int x)) sh I L) : T sh d M pc lv [.int x] I L Q := by
  intro p l e s m args below meth c D cy ad H locs ls C hP hS hl
  exact W.iret C.1 C.2.1 (by rw [C.2.2.2.1]; exact hr) (fun t ht hW => ⟨⟨some (.int x), sh, I, L, rfl, h, rfl, by rw [ht]; exact hP, va_K.moved hW.alike C.2.2.2.2.2.2.2.1⟩, hS.F ht⟩) hS.2.2 hd C.2.2.2.2.1
theorem T_lret {x : Int64} (hr : M.2.2.2 = some .long) (hd : decode M.2.1 pc = .ok (.lreturn, 1)) (h : Q (some (.long x)) sh I L) : T sh d M pc lv [.long x] I L Q := by
  intro p l e s m args below meth c D cy ad H locs ls C hP hS hl
  exact W.lret C.1 C.2.1 (by rw [C.2.2.2.1]; exact hr) (fun t ht hW => ⟨⟨some (.long x), sh, I, L, rfl, h, rfl, by rw [ht]; exact hP, va_K.moved hW.alike C.2.2.2.2.2.2.2.1⟩, hS.F ht⟩) hS.2.2 hd C.2.2.2.2.1
theorem tq_nb {x : Int32} (hx : x = 0 ∨ x = 1) : narrow .boolean (.int x) = .int x := by rcases hx with rfl | rfl <;> decide +kernel
theorem T_zret {x : Int32} (hr : M.2.2.2 = some .boolean) (hd : decode M.2.1 pc = .ok (.ireturn, 1)) (hx : x = 0 ∨ x = 1) (h : Q (some (.int x)) sh I L) : T sh d M pc lv [.int x] I L Q := by
  intro p l e s m args below meth c D cy ad H locs ls C hP hS hl
  exact W.zret C.1 C.2.1 (by rw [C.2.2.2.1]; exact hr) (tq_nb hx) (fun t ht hW => ⟨⟨some (.int x), sh, I, L, rfl, h, rfl, by rw [ht]; exact hP, va_K.moved hW.alike C.2.2.2.2.2.2.2.1⟩, hS.F ht⟩) hS.2.2 hd C.2.2.2.2.1
theorem T_vret (hr : M.2.2.2 = none) (hd : decode M.2.1 pc = .ok (.return_, 1)) (h : Q none sh I L) : T sh d M pc lv [] I L Q := by
  intro p l e s m args below meth c D cy ad H locs ls C hP hS hl
  exact W.vret C.1 C.2.1 (by rw [C.2.2.2.1]; exact hr) (fun t ht hW => ⟨⟨none, sh, I, L, rfl, h, rfl, by rw [ht]; exact hP, va_K.moved hW.alike C.2.2.2.2.2.2.2.1⟩, hS.F ht⟩) hS.2.2 hd C.2.2.2.2.1
/-- the locals with which a method begins -/
def tq_ent : List Value → List Value
  | [] => []
  | .long x :: t => .long x :: .null :: tq_ent t
  | v :: t => v :: tq_ent t
theorem tq_ent_mem (ad : Nat → Nat) (av : List Value) (hv : ∀ v ∈ av, tq_plain (some v) ∨ ∃ q, v = .ref q) : ∀ (k : Nat) (q : Nat × Value), q ∈ tq_asc ad k (tq_ent av) → q ∈ lv_args k (av.map (tq_v ad)) := by
  induction av with
  | nil => intro k q h; simp [tq_ent, tq_asc] at h
  | cons a t ih =>
    intro k q h
    have iht := ih (fun v hv' => hv v (List.mem_cons_of_mem _ hv'))
    rcases hv a List.mem_cons_self with h1 | ⟨r, rfl⟩
    · match a, h1 with
      | .int x, _ =>
        simp only [tq_ent, tq_asc, List.mem_cons] at h
        simp only [List.map_cons, lv_args, List.mem_cons]
        rcases h with h | h
        · exact Or.inl h
        · exact Or.inr (iht _ _ h)
      | .long x, _ =>
        simp only [tq_ent, tq_asc, List.mem_cons] at h
        simp only [List.map_cons, lv_args, List.mem_cons]
        rcases h with h | h
        · exact Or.inl h
        · exact Or.inr (iht _ _ h)
    · simp only [tq_ent, tq_asc, List.mem_cons] at h
      simp only [List.map_cons, lv_args, List.mem_cons]
      rcases h with h | h
      · exact Or.inl h
      · exact Or.inr (iht _ _ h)
theorem tq_asc_app (ad : Nat → Nat) (k0 : Nat) (lv : List Value) : ∀ k, tq_asc ad k (lv ++ List.replicate k0 .null) = tq_asc ad k lv := by
  induction lv with
  | nil =>
    intro k
    simp only [List.nil_append]
    induction k0 generalizing k with
    | zero => rfl
    | succ n ih => rw [List.replicate_succ]; simp only [tq_asc]; rw [ih]; rfl
  | cons a t ih => intro k; cases a <;> simp [tq_asc, ih]
def tq_okv : Value → Bool
  | .int _ => true
  | .long _ => true
  | .ref _ => true
  | _ => false
theorem tq_sl (ad : Nat → Nat) {av : List Value} (hv : av.all tq_okv = true) : (lg_sl (av.map (tq_v ad))).length = (tq_ent av).length := by
  induction av with
  | nil => rfl
  | cons a t ih =>
    simp only [List.all_cons, Bool.and_eq_true] at hv
    have iht := ih hv.2
    have : lg_sl (tq_v ad a :: t.map (tq_v ad)) = (if (tq_v ad a).category = 2 then [Slot.val (tq_v ad a), Slot.second] else [Slot.val (tq_v ad a)]) ++ lg_sl (t.map (tq_v ad)) := rfl
    rw [List.map_cons, this, List.length_append, iht]
    cases a <;> simp_all [tq_ent, tq_v, Value.category, tq_okv] <;> omega
theorem Ev_of {av : List Value} {ls0 : Nat} (hp : plainName M.1.cls = true) (hv : av.all tq_okv = true) (hz : (tq_ent av).length + ls0 = M.2.2.1) (hlv : tq_ent av ++ List.replicate ls0 .null = lv) (h : T sh d M 0 lv [] I L Q) : Ev sh d M av I L Q := by
  intro l D cy ad
  refine Met.ofW (cc := M.2.1) (maxL := M.2.2.1) (ret := M.2.2.2) hp rfl ?_
  intro p e s m args below meth c s₁ B hml hv'
  obtain ⟨rfl, hP, hK, hj, hE⟩ := hv'
  have hpl : ∀ v ∈ av, tq_plain (some v) ∨ ∃ q, v = .ref q := by
    intro v hv1
    have := List.all_eq_true.mp hv v hv1
    cases v <;> simp_all [tq_okv, tq_plain]
  have hsl := tq_sl ad hv
  have hl0 := lv_entry (av.map (tq_v ad)) (n := M.2.2.1) (by rw [hsl]; omega)
  rw [lg_entry_eq]
  have hh : tq_has (lg_sl (av.map (tq_v ad)) ++ List.replicate (M.2.2.1 - (lg_sl (av.map (tq_v ad))).length) Slot.unset).toArray M.2.2.1 ad lv := by
    refine ⟨hl0.1, hl0.2.1, fun q hq => hl0.2.2 q ?_⟩
    rw [← hlv, tq_asc_app] at hq
    exact tq_ent_mem ad av hpl 0 q hq
  exact h p l e s m _ below meth c D cy ad s.heap [] _ ⟨B.exec, B.bytes, hml, B.returns, B.notSynchronized, findClass_of_methodNamed B.named, atoms_spec (ws := tq_ws M) B.pre, hK, hj, hE⟩ hP va_S.rf hh
theorem Ev.mono {av : List Value} {Q' : st_Q} (h : Ev sh d M av I L Q) (hq : ∀ v sh' I' L', Q v sh' I' L' → Q' v sh' I' L') : Ev sh d M av I L Q' := by
  intro l D cy ad p e ha hc hk s m args below hf hs hP hK
  obtain ⟨k, o, h1, h2, h3, hQ, hL⟩ := h l D cy ad p e ha hc hk s m args below hf hs hP hK
  obtain ⟨⟨v, sh', I', L', e1, e2, e3⟩, e4⟩ := hQ
  exact ⟨k, o, h1, h2, h3, ⟨⟨v, sh', I', L', e1, hq _ _ _ _ e2, e3⟩, e4⟩, hL⟩
end TR
