/-! the entry: what the tables and the precondition say -/
theorem ltm1 {w : Cond} (i : Nat) (h : tables_1_1[i]? = some w) : w ∈ lw_tbl := List.mem_append_right _ (List.mem_append_left _ (List.mem_of_getElem? h))
theorem ltm2 {w : Cond} (i : Nat) (h : tables_1_2[i]? = some w) : w ∈ lw_tbl := List.mem_append_right _ (List.mem_append_right _ (List.mem_append_left _ (List.mem_of_getElem? h)))
theorem ltm3 {w : Cond} (i : Nat) (h : tables_1_3[i]? = some w) : w ∈ lw_tbl := List.mem_append_right _ (List.mem_append_right _ (List.mem_append_right _ (List.mem_append_left _ (List.mem_of_getElem? h))))
theorem ia_RX11 : Cond.instantiable RX11 11 ∈ tq_tbl := tq_m1 22 rfl rfl
theorem ia_RX12 : Cond.instantiable RX12 79 ∈ tq_tbl := tq_m6 27 rfl rfl
theorem ia_all : ∀ (c : Nat) (r : vw_C), tq_cl[c]? = some r → Cond.instantiable r.1 r.2.2 ∈ tq_tbl := by
  intro c r h
  match c, h with
  | 0, h => cases h; exact ia_RX0
  | 1, h => cases h; exact ia_RX1
  | 2, h => cases h; exact ia_RX2
  | 3, h => cases h; exact ia_RX3
  | 4, h => cases h; exact ia_RX4
  | 5, h => cases h; exact ia_RX5
  | 6, h => cases h; exact ia_RX6
  | 7, h => cases h; exact ia_RX7
  | 8, h => cases h; exact ia_RX8
  | 9, h => cases h; exact ia_RX9
  | 10, h => cases h; exact ia_RX0
  | 11, h => cases h; exact ia_RX11
  | 12, h => cases h; exact ia_RX12
  | n + 13, h => simp [tq_cl] at h
theorem st_arr {args : Array Value} {s : State} {ty : FieldType} (h : (Cond.arrayClass ty).before args s = true) : ∃ cA : ClassId, ArrOfT s cA ty ∧ s.vm.findClass ("[" ++ ty.toString) = some cA := by
  obtain ⟨cA, k, comp, h1, h2, h3⟩ := Cond.arrayClass_spec h
  exact ⟨cA, fun N z => ⟨(fun k h => by cases h), k, h2, comp, h3⟩, h1⟩
theorem st_K {args : Array Value} {s : State} (hts : ∀ w ∈ tq_tbl, w.before args s = true) : ∃ (D : va_G) (cy : Nat → ClassId), va_K D tq_cl (tq_ty cy) s := by
  have h0 : ∀ c : Nat, ∃ x : ClassId × (Nat → Nat), ∀ r : vw_C, tq_cl[c]? = some r → u_Kn s r.1 r.2.1 r.2.2 x.1 x.2 := by
    intro c
    cases hc : tq_cl[c]? with
    | none => exact ⟨(0, fun _ => 0), fun r h => by cases h⟩
    | some r =>
      obtain ⟨cC, iS, hK⟩ := u_known (C := r.1) (T := r.2.1) (N := r.2.2) (n := r.2.2) hts (tq_ws_in c r hc) (hts _ (ia_all c r hc))
      exact ⟨(cC, iS), fun r' h' => by cases h'; exact hK⟩
  obtain ⟨x, hx⟩ := Classical.axiomOfChoice h0
  obtain ⟨c0, a0, b0⟩ := st_arr (hts _ aw_int)
  obtain ⟨c1, a1, b1⟩ := st_arr (hts _ aw_byte)
  obtain ⟨c2, a2, b2⟩ := st_arr (hts _ aw_boolean)
  obtain ⟨c3, a3, b3⟩ := st_arr (hts _ aw_long)
  refine ⟨(fun c => (x c).1, fun c => (x c).2), fun k => match k with | 0 => c0 | 1 => c1 | 2 => c2 | _ => c3, fun c r h => hx c r h, fun k q hk => ?_⟩
  match k, hk with
  | 0, hk => cases hk; exact ⟨a0, b0⟩
  | 1, hk => cases hk; exact ⟨a1, b1⟩
  | 2, hk => cases hk; exact ⟨a2, b2⟩
  | 3, hk => cases hk; exact ⟨a3, b3⟩
  | n + 4, hk => simp [tq_ty] at hk
def stm : Nat → Term := fun i => if i = 0 then .string RX5 94 else .string RX5 105
def stb : Nat → Nat := fun i => if i = 0 then 189 else 9
abbrev gvC : List Cond := flatC (Jvm.Cond.and given_1 narrow_1)
theorem gv_ex : ∀ i, i < 2 → gvC[stb i]? = some (Cond.exactly (stm i) "java/lang/String") := by decide +kernel
theorem gv_co : ∀ i, i < 2 → gvC[stb i + 1]? = some (Cond.eq (.field (stm i) "java/lang/String" "coder" "B") (.int 0)) := by decide +kernel
theorem gv_ar : ∀ i, i < 2 → gvC[stb i + 2]? = some (Cond.arrayOf (.field (stm i) "java/lang/String" "value" "[B") .byte) := by decide +kernel
theorem gv_le : ∀ i, i < 2 → gvC[stb i + 3]? = some (Cond.eq (.length (.field (stm i) "java/lang/String" "value" "[B")) (.int (Int32.ofNat (tq_len.getD i 0)))) := by decide +kernel
theorem gv_el0 : ∀ j, j < 14 → gvC[193 + j]? = some (Cond.eq (.elem (.field (stm 0) "java/lang/String" "value" "[B") (.int (Int32.ofNat j))) (.int ((tq_byt.getD 0 []).getD j 0))) := by decide +kernel
theorem gv_el1 : ∀ j, j < 176 → gvC[13 + j]? = some (Cond.eq (.elem (.field (stm 1) "java/lang/String" "value" "[B") (.int (Int32.ofNat j))) (.int ((tq_byt.getD 1 []).getD j 0))) := by decide +kernel
theorem gv_ne : gvC[207]? = some (Cond.not (Cond.eq (stm 1) (stm 0))) := by decide +kernel
theorem gv_cs : gvC[4]? = some (Cond.eq (.static "java/lang/String" "COMPACT_STRINGS" "Z") (.int 1)) := by decide +kernel
theorem gv_sf : gvC[5]? = some (Cond.isRef (.static "jdk/internal/util/Preconditions" "SIOOBE_FORMATTER" "Ljava/util/function/BiFunction;")) := by decide +kernel
theorem st_str {args : Array Value} {s : State} (hts : ∀ w ∈ lw_tbl, w.before args s = true) (hgv : (Jvm.Cond.and given_1 narrow_1).before args s = true) : ∃ adK adV : Nat → Nat, ∀ ad : Nat → Nat, (∀ i, i < 2 → ad (1000 + i) = adK i) → (∀ i, i < 2 → ad (1010 + i) = adV i) → tq_str ad (fun q => s.heap.size ≤ q) s := by
  have hs := flat_of_before _ hgv
  have hg : ∀ {k : Nat} {w : Cond}, gvC[k]? = some w → w.before args s = true := fun h => hs _ (List.mem_of_getElem? h)
  have hA : ∀ a : Nat, a < s.heap.size → ¬ (fun q => s.heap.size ≤ q) a := fun a h1 h2 => Nat.not_lt.mpr h2 h1
  obtain ⟨adK, adV, hS, he⟩ := vk_Sof (args := args) (s := s) (N := 2) (tm := stm) (len := tq_len) (byt := tq_byt) (A := fun q => s.heap.size ≤ q) (by decide) (fun i hi => hg (gv_ex i hi)) (fun i hi => hg (gv_co i hi)) (fun i hi => hg (gv_ar i hi)) (fun i hi => hg (gv_le i hi)) (fun i hi j hj => by
    match i, hi, hj with
    | 0, _, hj => exact hg (gv_el0 j hj)
    | 1, _, hj => exact hg (gv_el1 j hj)) (fun i j hi hj hij => by
    match i, j, hi, hj, hij with
    | 0, 0, _, _, h => exact absurd rfl h
    | 0, 1, _, _, _ => exact Or.inr (hg gv_ne)
    | 1, 0, _, _, _ => exact Or.inl (hg gv_ne)
    | 1, 1, _, _, h => exact absurd rfl h) hA
  refine ⟨adK, adV, fun ad h1 h2 => ⟨?_, ?_, ?_, va_Zof (hts _ (ltm3 1 rfl)) (hts _ (ltm1 14 rfl)) (va_eqi (hg gv_cs)) hA, va_Zqof (hts _ (ltm3 9 rfl)) (hts _ (ltm1 16 rfl)) (hg gv_sf) hA⟩⟩
  · refine ⟨fun i hi => ?_, fun i j hi hj e => hS.2 i j hi hj ?_⟩
    · have := hS.1 i hi
      rw [← h1 i hi, ← h2 i hi] at this
      exact this
    · rw [← h1 i hi, ← h1 j hj]; exact e
  · rw [h1 0 (by decide)]
    exact vk_R.of (hts _ (ltm3 32 rfl)) (he 0 (by decide))
  · rw [h1 1 (by decide)]
    exact vk_R.of (hts _ (ltm2 231 rfl)) (he 1 (by decide))
