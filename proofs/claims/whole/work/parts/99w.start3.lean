/-! the entry: the two objects stand as the rows' world -/
def piX (k : Nat) : Nat := if k = 0 then 0 else if k < 9 then k + 16 else if k < 17 then k - 7 else if k = 17 then 1 else if k < 25 then k - 8 else k
def gX (k : Nat) : Nat := if k < 58 then piX k else 58 + (if k = 58 then 0 else 114 - k)
def adS (f1 f2 aK aV : Nat → Nat) (k : Nat) : Nat := if k < 58 then f1 (piX k) else if k < 114 then f2 (if k = 58 then 0 else 114 - k) else if 1010 ≤ k then aV (k - 1010) else aK (k - 1000)
def I0S : st_I := fun p j => if p = 17 ∧ j = 1 then -1 else if p = 30 ∧ j = 0 then -1 else if p = 57 then (if j < 81 then -1 else 0) else if p = 58 ∧ j = 17 then -1 else 0
def L0S : st_L := fun q => if q = 65 then kX12 else fun _ => 0
theorem st_at1 {cy : Nat → ClassId} {f1 f2 : Nat → Nat} {i : Nat} {y : sh_E} (h : sX11[i]? = some y) : (w_D cy f1 sX11 iX11 lX11 ++ w_D cy f2 sX12 iX12 lX12)[i]? = some (f1 i, c_of cy f1 iX11 lX11 i y) := by
  have h1 := w_at (cy := cy) (ad := f1) (I := iX11) (L := lX11) h
  rw [List.getElem?_append_left (List.getElem?_eq_some_iff.mp h1).1]
  exact h1
theorem st_len1 {cy : Nat → ClassId} {f1 : Nat → Nat} : (w_D cy f1 sX11 iX11 lX11).length = 58 := rfl
theorem st_at2 {cy : Nat → ClassId} {f1 f2 : Nat → Nat} {i : Nat} {y : sh_E} (h : sX12[i]? = some y) : (w_D cy f1 sX11 iX11 lX11 ++ w_D cy f2 sX12 iX12 lX12)[58 + i]? = some (f2 i, c_of cy f2 iX12 lX12 i y) := by
  have h1 := w_at (cy := cy) (ad := f2) (I := iX12) (L := lX12) h
  rw [List.getElem?_append_right (by rw [st_len1]; omega), st_len1, show 58 + i - 58 = i by omega]
  exact h1
set_option maxRecDepth 100000 in
set_option maxHeartbeats 4000000 in
theorem st_perm {cy : Nat → ClassId} {f1 f2 aK aV : Nat → Nat} : ∀ k, k < 114 → ∀ x, (w_D cy (adS f1 f2 aK aV) shp I0S L0S)[k]? = some x → (w_D cy f1 sX11 iX11 lX11 ++ w_D cy f2 sX12 iX12 lX12)[gX k]? = some x := by
  intro k hk x hx
  match k, hk, hx with
  | 0, _, hx => rw [w_at shp_0] at hx; cases hx; exact st_at1 (i := 0) (y := _) rfl
  | 1, _, hx => rw [w_at shp_1] at hx; cases hx; exact st_at1 (i := 17) (y := _) rfl
  | 2, _, hx => rw [w_at shp_2] at hx; cases hx; exact st_at1 (i := 18) (y := _) rfl
  | 3, _, hx => rw [w_at shp_3] at hx; cases hx; exact st_at1 (i := 19) (y := _) rfl
  | 4, _, hx => rw [w_at shp_4] at hx; cases hx; exact st_at1 (i := 20) (y := _) rfl
  | 5, _, hx => rw [w_at shp_5] at hx; cases hx; exact st_at1 (i := 21) (y := _) rfl
  | 6, _, hx => rw [w_at shp_6] at hx; cases hx; exact st_at1 (i := 22) (y := _) rfl
  | 7, _, hx => rw [w_at shp_7] at hx; cases hx; exact st_at1 (i := 23) (y := _) rfl
  | 8, _, hx => rw [w_at shp_8] at hx; cases hx; exact st_at1 (i := 24) (y := _) rfl
  | 9, _, hx => rw [w_at shp_9] at hx; cases hx; exact st_at1 (i := 2) (y := _) rfl
  | 10, _, hx => rw [w_at shp_10] at hx; cases hx; exact st_at1 (i := 3) (y := _) rfl
  | 11, _, hx => rw [w_at shp_11] at hx; cases hx; exact st_at1 (i := 4) (y := _) rfl
  | 12, _, hx => rw [w_at shp_12] at hx; cases hx; exact st_at1 (i := 5) (y := _) rfl
  | 13, _, hx => rw [w_at shp_13] at hx; cases hx; exact st_at1 (i := 6) (y := _) rfl
  | 14, _, hx => rw [w_at shp_14] at hx; cases hx; exact st_at1 (i := 7) (y := _) rfl
  | 15, _, hx => rw [w_at shp_15] at hx; cases hx; exact st_at1 (i := 8) (y := _) rfl
  | 16, _, hx => rw [w_at shp_16] at hx; cases hx; exact st_at1 (i := 9) (y := _) rfl
  | 17, _, hx => rw [w_at shp_17] at hx; cases hx; exact st_at1 (i := 1) (y := _) rfl
  | 18, _, hx => rw [w_at shp_18] at hx; cases hx; exact st_at1 (i := 10) (y := _) rfl
  | 19, _, hx => rw [w_at shp_19] at hx; cases hx; exact st_at1 (i := 11) (y := _) rfl
  | 20, _, hx => rw [w_at shp_20] at hx; cases hx; exact st_at1 (i := 12) (y := _) rfl
  | 21, _, hx => rw [w_at shp_21] at hx; cases hx; exact st_at1 (i := 13) (y := _) rfl
  | 22, _, hx => rw [w_at shp_22] at hx; cases hx; exact st_at1 (i := 14) (y := _) rfl
  | 23, _, hx => rw [w_at shp_23] at hx; cases hx; exact st_at1 (i := 15) (y := _) rfl
  | 24, _, hx => rw [w_at shp_24] at hx; cases hx; exact st_at1 (i := 16) (y := _) rfl
  | 25, _, hx => rw [w_at shp_25] at hx; cases hx; exact st_at1 (i := 25) (y := _) rfl
  | 26, _, hx => rw [w_at shp_26] at hx; cases hx; exact st_at1 (i := 26) (y := _) rfl
  | 27, _, hx => rw [w_at shp_27] at hx; cases hx; exact st_at1 (i := 27) (y := _) rfl
  | 28, _, hx => rw [w_at shp_28] at hx; cases hx; exact st_at1 (i := 28) (y := _) rfl
  | 29, _, hx => rw [w_at shp_29] at hx; cases hx; exact st_at1 (i := 29) (y := _) rfl
  | 30, _, hx => rw [w_at shp_30] at hx; cases hx; exact st_at1 (i := 30) (y := _) rfl
  | 31, _, hx => rw [w_at shp_31] at hx; cases hx; exact st_at1 (i := 31) (y := _) rfl
  | 32, _, hx => rw [w_at shp_32] at hx; cases hx; exact st_at1 (i := 32) (y := _) rfl
  | 33, _, hx => rw [w_at shp_33] at hx; cases hx; exact st_at1 (i := 33) (y := _) rfl
  | 34, _, hx => rw [w_at shp_34] at hx; cases hx; exact st_at1 (i := 34) (y := _) rfl
  | 35, _, hx => rw [w_at shp_35] at hx; cases hx; exact st_at1 (i := 35) (y := _) rfl
  | 36, _, hx => rw [w_at shp_36] at hx; cases hx; exact st_at1 (i := 36) (y := _) rfl
  | 37, _, hx => rw [w_at shp_37] at hx; cases hx; exact st_at1 (i := 37) (y := _) rfl
  | 38, _, hx => rw [w_at shp_38] at hx; cases hx; exact st_at1 (i := 38) (y := _) rfl
  | 39, _, hx => rw [w_at shp_39] at hx; cases hx; exact st_at1 (i := 39) (y := _) rfl
  | 40, _, hx => rw [w_at shp_40] at hx; cases hx; exact st_at1 (i := 40) (y := _) rfl
  | 41, _, hx => rw [w_at shp_41] at hx; cases hx; exact st_at1 (i := 41) (y := _) rfl
  | 42, _, hx => rw [w_at shp_42] at hx; cases hx; exact st_at1 (i := 42) (y := _) rfl
  | 43, _, hx => rw [w_at shp_43] at hx; cases hx; exact st_at1 (i := 43) (y := _) rfl
  | 44, _, hx => rw [w_at shp_44] at hx; cases hx; exact st_at1 (i := 44) (y := _) rfl
  | 45, _, hx => rw [w_at shp_45] at hx; cases hx; exact st_at1 (i := 45) (y := _) rfl
  | 46, _, hx => rw [w_at shp_46] at hx; cases hx; exact st_at1 (i := 46) (y := _) rfl
  | 47, _, hx => rw [w_at shp_47] at hx; cases hx; exact st_at1 (i := 47) (y := _) rfl
  | 48, _, hx => rw [w_at shp_48] at hx; cases hx; exact st_at1 (i := 48) (y := _) rfl
  | 49, _, hx => rw [w_at shp_49] at hx; cases hx; exact st_at1 (i := 49) (y := _) rfl
  | 50, _, hx => rw [w_at shp_50] at hx; cases hx; exact st_at1 (i := 50) (y := _) rfl
  | 51, _, hx => rw [w_at shp_51] at hx; cases hx; exact st_at1 (i := 51) (y := _) rfl
  | 52, _, hx => rw [w_at shp_52] at hx; cases hx; exact st_at1 (i := 52) (y := _) rfl
  | 53, _, hx => rw [w_at shp_53] at hx; cases hx; exact st_at1 (i := 53) (y := _) rfl
  | 54, _, hx => rw [w_at shp_54] at hx; cases hx; exact st_at1 (i := 54) (y := _) rfl
  | 55, _, hx => rw [w_at shp_55] at hx; cases hx; exact st_at1 (i := 55) (y := _) rfl
  | 56, _, hx => rw [w_at shp_56] at hx; cases hx; exact st_at1 (i := 56) (y := _) rfl
  | 57, _, hx => rw [w_at shp_57] at hx; cases hx; exact st_at1 (i := 57) (y := _) rfl
  | 58, _, hx => rw [w_at shp_58] at hx; cases hx; exact st_at2 (i := 0) (y := _) rfl
  | 59, _, hx => rw [w_at shp_59] at hx; cases hx; exact st_at2 (i := 55) (y := _) rfl
  | 60, _, hx => rw [w_at shp_60] at hx; cases hx; exact st_at2 (i := 54) (y := _) rfl
  | 61, _, hx => rw [w_at shp_61] at hx; cases hx; exact st_at2 (i := 53) (y := _) rfl
  | 62, _, hx => rw [w_at shp_62] at hx; cases hx; exact st_at2 (i := 52) (y := _) rfl
  | 63, _, hx => rw [w_at shp_63] at hx; cases hx; exact st_at2 (i := 51) (y := _) rfl
  | 64, _, hx => rw [w_at shp_64] at hx; cases hx; exact st_at2 (i := 50) (y := _) rfl
  | 65, _, hx => rw [w_at shp_65] at hx; cases hx; exact st_at2 (i := 49) (y := _) rfl
  | 66, _, hx => rw [w_at shp_66] at hx; cases hx; exact st_at2 (i := 48) (y := _) rfl
  | 67, _, hx => rw [w_at shp_67] at hx; cases hx; exact st_at2 (i := 47) (y := _) rfl
  | 68, _, hx => rw [w_at shp_68] at hx; cases hx; exact st_at2 (i := 46) (y := _) rfl
  | 69, _, hx => rw [w_at shp_69] at hx; cases hx; exact st_at2 (i := 45) (y := _) rfl
  | 70, _, hx => rw [w_at shp_70] at hx; cases hx; exact st_at2 (i := 44) (y := _) rfl
  | 71, _, hx => rw [w_at shp_71] at hx; cases hx; exact st_at2 (i := 43) (y := _) rfl
  | 72, _, hx => rw [w_at shp_72] at hx; cases hx; exact st_at2 (i := 42) (y := _) rfl
  | 73, _, hx => rw [w_at shp_73] at hx; cases hx; exact st_at2 (i := 41) (y := _) rfl
  | 74, _, hx => rw [w_at shp_74] at hx; cases hx; exact st_at2 (i := 40) (y := _) rfl
  | 75, _, hx => rw [w_at shp_75] at hx; cases hx; exact st_at2 (i := 39) (y := _) rfl
  | 76, _, hx => rw [w_at shp_76] at hx; cases hx; exact st_at2 (i := 38) (y := _) rfl
  | 77, _, hx => rw [w_at shp_77] at hx; cases hx; exact st_at2 (i := 37) (y := _) rfl
  | 78, _, hx => rw [w_at shp_78] at hx; cases hx; exact st_at2 (i := 36) (y := _) rfl
  | 79, _, hx => rw [w_at shp_79] at hx; cases hx; exact st_at2 (i := 35) (y := _) rfl
  | 80, _, hx => rw [w_at shp_80] at hx; cases hx; exact st_at2 (i := 34) (y := _) rfl
  | 81, _, hx => rw [w_at shp_81] at hx; cases hx; exact st_at2 (i := 33) (y := _) rfl
  | 82, _, hx => rw [w_at shp_82] at hx; cases hx; exact st_at2 (i := 32) (y := _) rfl
  | 83, _, hx => rw [w_at shp_83] at hx; cases hx; exact st_at2 (i := 31) (y := _) rfl
  | 84, _, hx => rw [w_at shp_84] at hx; cases hx; exact st_at2 (i := 30) (y := _) rfl
  | 85, _, hx => rw [w_at shp_85] at hx; cases hx; exact st_at2 (i := 29) (y := _) rfl
  | 86, _, hx => rw [w_at shp_86] at hx; cases hx; exact st_at2 (i := 28) (y := _) rfl
  | 87, _, hx => rw [w_at shp_87] at hx; cases hx; exact st_at2 (i := 27) (y := _) rfl
  | 88, _, hx => rw [w_at shp_88] at hx; cases hx; exact st_at2 (i := 26) (y := _) rfl
  | 89, _, hx => rw [w_at shp_89] at hx; cases hx; exact st_at2 (i := 25) (y := _) rfl
  | 90, _, hx => rw [w_at shp_90] at hx; cases hx; exact st_at2 (i := 24) (y := _) rfl
  | 91, _, hx => rw [w_at shp_91] at hx; cases hx; exact st_at2 (i := 23) (y := _) rfl
  | 92, _, hx => rw [w_at shp_92] at hx; cases hx; exact st_at2 (i := 22) (y := _) rfl
  | 93, _, hx => rw [w_at shp_93] at hx; cases hx; exact st_at2 (i := 21) (y := _) rfl
  | 94, _, hx => rw [w_at shp_94] at hx; cases hx; exact st_at2 (i := 20) (y := _) rfl
  | 95, _, hx => rw [w_at shp_95] at hx; cases hx; exact st_at2 (i := 19) (y := _) rfl
  | 96, _, hx => rw [w_at shp_96] at hx; cases hx; exact st_at2 (i := 18) (y := _) rfl
  | 97, _, hx => rw [w_at shp_97] at hx; cases hx; exact st_at2 (i := 17) (y := _) rfl
  | 98, _, hx => rw [w_at shp_98] at hx; cases hx; exact st_at2 (i := 16) (y := _) rfl
  | 99, _, hx => rw [w_at shp_99] at hx; cases hx; exact st_at2 (i := 15) (y := _) rfl
  | 100, _, hx => rw [w_at shp_100] at hx; cases hx; exact st_at2 (i := 14) (y := _) rfl
  | 101, _, hx => rw [w_at shp_101] at hx; cases hx; exact st_at2 (i := 13) (y := _) rfl
  | 102, _, hx => rw [w_at shp_102] at hx; cases hx; exact st_at2 (i := 12) (y := _) rfl
  | 103, _, hx => rw [w_at shp_103] at hx; cases hx; exact st_at2 (i := 11) (y := _) rfl
  | 104, _, hx => rw [w_at shp_104] at hx; cases hx; exact st_at2 (i := 10) (y := _) rfl
  | 105, _, hx => rw [w_at shp_105] at hx; cases hx; exact st_at2 (i := 9) (y := _) rfl
  | 106, _, hx => rw [w_at shp_106] at hx; cases hx; exact st_at2 (i := 8) (y := _) rfl
  | 107, _, hx => rw [w_at shp_107] at hx; cases hx; exact st_at2 (i := 7) (y := _) rfl
  | 108, _, hx => rw [w_at shp_108] at hx; cases hx; exact st_at2 (i := 6) (y := _) rfl
  | 109, _, hx => rw [w_at shp_109] at hx; cases hx; exact st_at2 (i := 5) (y := _) rfl
  | 110, _, hx => rw [w_at shp_110] at hx; cases hx; exact st_at2 (i := 4) (y := _) rfl
  | 111, _, hx => rw [w_at shp_111] at hx; cases hx; exact st_at2 (i := 3) (y := _) rfl
  | 112, _, hx => rw [w_at shp_112] at hx; cases hx; exact st_at2 (i := 2) (y := _) rfl
  | 113, _, hx => rw [w_at shp_113] at hx; cases hx; exact st_at2 (i := 1) (y := _) rfl
  | k + 114, hk, _ => exact absurd hk (Nat.not_lt.mpr (Nat.le_add_left 114 k))
