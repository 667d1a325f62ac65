/-! read: the exchange of what is told -/
def shq1 : sh_T := shp.set 0 (.inr (11, [some 17, some 9, some 25, some 28, some 30, some 40, some 43, some 47, some 49, some 54, some 57]))
def shq : sh_T := shq1.set 17 (.inr (5, [none, none, some 1, some 18, some 19, some 20, none, none, none, none, some 21, some 22, some 23, none, some 24, none, none, none, none]))
set_option maxRecDepth 100000 in
theorem shq1_0 : shq1[0]? = some (.inr (11, [some 17, some 9, some 25, some 28, some 30, some 40, some 43, some 47, some 49, some 54, some 57])) := by decide +kernel
set_option maxRecDepth 100000 in
theorem shq1_17 : shq1[17]? = some (.inr (5, [none, none, some 9, some 18, some 19, some 20, none, none, none, none, some 21, some 22, some 23, none, some 24, none, none, none, none])) := by decide +kernel
set_option maxRecDepth 100000 in
theorem shq_0 : shq[0]? = some (.inr (11, [some 17, some 9, some 25, some 28, some 30, some 40, some 43, some 47, some 49, some 54, some 57])) := by decide +kernel
set_option maxRecDepth 100000 in
theorem shq_30 : shq[30]? = some (.inr (2, [none, some 31, some 32, some 33, some 34, some 35, some 36, some 37, some 38, some 39])) := by decide +kernel
set_option maxRecDepth 100000 in
theorem shq_57 : shq[57]? = some (.inl (0, 81)) := by decide +kernel
set_option maxRecDepth 100000 in
theorem rd_51 {J : st_I} {M : st_L} {Q : st_Q} (h : Q (some (.int 0)) shq (f_I (u_I J 30 0 (-1)) 57 81 (-1)) M) : T shp 60 mX11_read 51 [.ref 0, .int 0, .null] [] J M Q := by
  refine T_aload_n dX11_read_51 rfl ?_
  refine T_getr dX11_read_52 fl_RX11_19 shp_0 rfl ?_
  refine T_astore_n (lv' := [.ref 0, .int 0, .ref 1]) dX11_read_55 rfl (by decide) rfl ?_
  refine T_aload_n dX11_read_56 rfl ?_
  refine T_aload_n dX11_read_57 rfl ?_
  refine T_getr dX11_read_58 fl_RX11_12 shp_0 rfl ?_
  refine T_getr dX11_read_61 fl_RX11_111 shp_17 rfl ?_
  refine T_putr dX11_read_64 fl_RX11_19 pf_11_1 shp_0 rfl (fun a => ⟨rfl, rfl⟩) ?_
  show T shq1 60 mX11_read 67 [.ref 0, .int 0, .ref 1] [] J M Q
  refine T_aload_n dX11_read_67 rfl ?_
  refine T_getr dX11_read_68 fl_RX11_12 shq1_0 rfl ?_
  refine T_aload_n dX11_read_71 rfl ?_
  refine T_putr dX11_read_72 fl_RX11_111 pf_5_2 shq1_17 rfl (fun a => ⟨rfl, rfl⟩) ?_
  show T shq 60 mX11_read 75 [.ref 0, .int 0, .ref 1] [] J M Q
  refine T_aload_n dX11_read_75 rfl ?_
  refine T_getr dX11_read_76 fl_RX11_40 shq_0 rfl ?_
  refine T_iconst (v := -1) dX11_read_79 rfl ?_
  refine T_puti dX11_read_80 fl_RX11_112 pf_2_0 shq_30 rfl rfl rfl ?_
  refine T_aload_n dX11_read_83 rfl ?_
  refine T_getr dX11_read_84 fl_RX11_79 shq_0 rfl ?_
  refine T_iconst (v := -1) dX11_read_87 rfl ?_
  refine T_callS (M' := mJ7_fill_53178) [.ref 57, .int (-1)] [] dX11_read_88 ml_RX11_83 mkJ7_fill_53178 rfl rfl (Nat.le_of_ble_eq_true rfl) ?_
  refine js_fill shq_57 (by decide) ⟨trivial, ?_⟩
  refine T_iload_n dX11_read_91 rfl ?_
  exact T_iret rfl dX11_read_92 h
/-! the same world, called otherwise -/
def sgX (q : Nat) : Nat := if 1 ≤ q ∧ q ≤ 8 then q + 8 else if 9 ≤ q ∧ q ≤ 16 then q - 8 else q
theorem sgX_sgX (q : Nat) : sgX (sgX q) = q := by
  unfold sgX
  by_cases a : 1 ≤ q ∧ q ≤ 8
  · rw [if_pos a, if_neg (by omega), if_pos (by omega)]; omega
  · rw [if_neg a]
    by_cases b : 9 ≤ q ∧ q ≤ 16
    · rw [if_pos b, if_pos (by omega)]; omega
    · rw [if_neg b, if_neg a, if_neg b]
theorem sgX_hi {q : Nat} (h : 16 < q) : sgX q = q := by unfold sgX; rw [if_neg (by omega), if_neg (by omega)]
theorem sgX_lt {q n : Nat} (hn : 16 < n) : sgX q < n ↔ q < n := by
  unfold sgX
  by_cases a : 1 ≤ q ∧ q ≤ 8
  · rw [if_pos a]; omega
  · rw [if_neg a]
    by_cases b : 9 ≤ q ∧ q ≤ 16
    · rw [if_pos b]; omega
    · rw [if_neg b]
/-- references called otherwise -/
def reE : sh_E → sh_E
  | .inl a => .inl a
  | .inr o => .inr (o.1, o.2.map (fun r => r.map sgX))
set_option maxRecDepth 100000 in
theorem shq_re0 : (List.range 114).map (fun p => shq[sgX p]?) = (List.range 114).map (fun p => (shp[p]?).map reE) := by decide +kernel
theorem shq_re {p : Nat} (h : p < 114) : shq[sgX p]? = (shp[p]?).map reE := by
  have q := congrArg (fun l => l[p]?) shq_re0
  simp only [List.getElem?_map, List.getElem?_range h, Option.map_some] at q
  exact Option.some.inj q
theorem f_go_re (ad : Nat → Nat) (v : Nat → Int32) : ∀ (fs : List (Option Nat)) (k : Nat), f_go ad v k (fs.map (fun r => r.map sgX)) = f_go (fun q => ad (sgX q)) v k fs
  | [], _ => rfl
  | none :: t, k => by
    show Value.int (v k) :: f_go ad v (k + 1) (t.map (fun r => r.map sgX)) = Value.int (v k) :: f_go (fun q => ad (sgX q)) v (k + 1) t
    rw [f_go_re ad v t (k + 1)]
  | some r :: t, k => by
    show Value.ref (ad (sgX r)) :: f_go ad v (k + 1) (t.map (fun r => r.map sgX)) = Value.ref (ad (sgX r)) :: f_go (fun q => ad (sgX q)) v (k + 1) t
    rw [f_go_re ad v t (k + 1)]
theorem c_of_re (cy : Nat → ClassId) (ad : Nat → Nat) (I : st_I) (L : st_L) (p : Nat) (x : sh_E) : c_of cy ad I L (sgX p) (reE x) = c_of cy (fun q => ad (sgX q)) (fun q => I (sgX q)) (fun q => L (sgX q)) p x := by
  cases x with
  | inl a => rfl
  | inr o => simp only [reE, c_of, f_go_re]
