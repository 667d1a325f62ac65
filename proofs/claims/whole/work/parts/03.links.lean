theorem tq_m1 {w : Cond} (i : Nat) (h : tables_1_1[i]? = some w) (hg : goodWord w = true) : w ∈ tq_tbl := List.mem_filter.mpr ⟨List.mem_append_right _ (List.mem_append_left _ (List.mem_of_getElem? h)), hg⟩
theorem tq_m2 {w : Cond} (i : Nat) (h : tables_1_2[i]? = some w) (hg : goodWord w = true) : w ∈ tq_tbl := List.mem_filter.mpr ⟨List.mem_append_right _ (List.mem_append_right _ (List.mem_append_left _ (List.mem_of_getElem? h))), hg⟩
theorem tq_m3 {w : Cond} (i : Nat) (h : tables_1_3[i]? = some w) (hg : goodWord w = true) : w ∈ tq_tbl := List.mem_filter.mpr ⟨List.mem_append_right _ (List.mem_append_right _ (List.mem_append_right _ (List.mem_append_left _ (List.mem_of_getElem? h)))), hg⟩
theorem tq_m4 {w : Cond} (i : Nat) (h : tables_1_4[i]? = some w) (hg : goodWord w = true) : w ∈ tq_tbl := List.mem_filter.mpr ⟨List.mem_append_right _ (List.mem_append_right _ (List.mem_append_right _ (List.mem_append_right _ (List.mem_append_left _ (List.mem_of_getElem? h))))), hg⟩
theorem tq_m5 {w : Cond} (i : Nat) (h : tables_1_5[i]? = some w) (hg : goodWord w = true) : w ∈ tq_tbl := List.mem_filter.mpr ⟨List.mem_append_right _ (List.mem_append_right _ (List.mem_append_right _ (List.mem_append_right _ (List.mem_append_right _ (List.mem_append_left _ (List.mem_of_getElem? h)))))), hg⟩
theorem tq_m6 {w : Cond} (i : Nat) (h : tables_1_6[i]? = some w) (hg : goodWord w = true) : w ∈ tq_tbl := List.mem_filter.mpr ⟨List.mem_append_right _ (List.mem_append_right _ (List.mem_append_right _ (List.mem_append_right _ (List.mem_append_right _ (List.mem_append_right _ (List.mem_append_left _ (List.mem_of_getElem? h))))))), hg⟩
theorem tq_m7 {w : Cond} (i : Nat) (h : tables_1_7[i]? = some w) (hg : goodWord w = true) : w ∈ tq_tbl := List.mem_filter.mpr ⟨List.mem_append_right _ (List.mem_append_right _ (List.mem_append_right _ (List.mem_append_right _ (List.mem_append_right _ (List.mem_append_right _ (List.mem_append_right _ (List.mem_append_left _ (List.mem_of_getElem? h)))))))), hg⟩
theorem tq_m8 {w : Cond} (i : Nat) (h : tables_1_8[i]? = some w) (hg : goodWord w = true) : w ∈ tq_tbl := List.mem_filter.mpr ⟨List.mem_append_right _ (List.mem_append_right _ (List.mem_append_right _ (List.mem_append_right _ (List.mem_append_right _ (List.mem_append_right _ (List.mem_append_right _ (List.mem_append_right _ (List.mem_append_left _ (List.mem_of_getElem? h))))))))), hg⟩
theorem tq_m9 {w : Cond} (i : Nat) (h : tables_1_9[i]? = some w) (hg : goodWord w = true) : w ∈ tq_tbl := List.mem_filter.mpr ⟨List.mem_append_right _ (List.mem_append_right _ (List.mem_append_right _ (List.mem_append_right _ (List.mem_append_right _ (List.mem_append_right _ (List.mem_append_right _ (List.mem_append_right _ (List.mem_append_right _ (List.mem_of_getElem? h))))))))), hg⟩
theorem tq_s1 {w : Cond} (i : Nat) (h : (k2_sels lw_privs_1)[i]? = some w) (hg : goodWord w = true) : w ∈ tq_tbl := by
  refine List.mem_filter.mpr ⟨List.mem_append_left _ ?_, hg⟩
  obtain ⟨q, hq, e⟩ := List.mem_map.mp (List.mem_of_getElem? h)
  exact List.mem_map.mpr ⟨q, by simp only [lw_privs, List.mem_append]; simp only [hq, true_or, or_true], e⟩
theorem tq_s2 {w : Cond} (i : Nat) (h : (k2_sels lw_privs_2)[i]? = some w) (hg : goodWord w = true) : w ∈ tq_tbl := by
  refine List.mem_filter.mpr ⟨List.mem_append_left _ ?_, hg⟩
  obtain ⟨q, hq, e⟩ := List.mem_map.mp (List.mem_of_getElem? h)
  exact List.mem_map.mpr ⟨q, by simp only [lw_privs, List.mem_append]; simp only [hq, true_or, or_true], e⟩
theorem tq_s3 {w : Cond} (i : Nat) (h : (k2_sels lw_privs_3)[i]? = some w) (hg : goodWord w = true) : w ∈ tq_tbl := by
  refine List.mem_filter.mpr ⟨List.mem_append_left _ ?_, hg⟩
  obtain ⟨q, hq, e⟩ := List.mem_map.mp (List.mem_of_getElem? h)
  exact List.mem_map.mpr ⟨q, by simp only [lw_privs, List.mem_append]; simp only [hq, true_or, or_true], e⟩
theorem tq_s4 {w : Cond} (i : Nat) (h : (k2_sels lw_privs_4)[i]? = some w) (hg : goodWord w = true) : w ∈ tq_tbl := by
  refine List.mem_filter.mpr ⟨List.mem_append_left _ ?_, hg⟩
  obtain ⟨q, hq, e⟩ := List.mem_map.mp (List.mem_of_getElem? h)
  exact List.mem_map.mpr ⟨q, by simp only [lw_privs, List.mem_append]; simp only [hq, true_or, or_true], e⟩
theorem tq_s5 {w : Cond} (i : Nat) (h : (k2_sels lw_privs_5)[i]? = some w) (hg : goodWord w = true) : w ∈ tq_tbl := by
  refine List.mem_filter.mpr ⟨List.mem_append_left _ ?_, hg⟩
  obtain ⟨q, hq, e⟩ := List.mem_map.mp (List.mem_of_getElem? h)
  exact List.mem_map.mpr ⟨q, by simp only [lw_privs, List.mem_append]; simp only [hq, true_or, or_true], e⟩
theorem tq_s6 {w : Cond} (i : Nat) (h : (k2_sels lw_privs_6)[i]? = some w) (hg : goodWord w = true) : w ∈ tq_tbl := by
  refine List.mem_filter.mpr ⟨List.mem_append_left _ ?_, hg⟩
  obtain ⟨q, hq, e⟩ := List.mem_map.mp (List.mem_of_getElem? h)
  exact List.mem_map.mpr ⟨q, by simp only [lw_privs, List.mem_append]; simp only [hq, true_or, or_true], e⟩
theorem tq_s7 {w : Cond} (i : Nat) (h : (k2_sels lw_privs_7)[i]? = some w) (hg : goodWord w = true) : w ∈ tq_tbl := by
  refine List.mem_filter.mpr ⟨List.mem_append_left _ ?_, hg⟩
  obtain ⟨q, hq, e⟩ := List.mem_map.mp (List.mem_of_getElem? h)
  exact List.mem_map.mpr ⟨q, by simp only [lw_privs, List.mem_append]; simp only [hq, true_or, or_true], e⟩
theorem tq_s8 {w : Cond} (i : Nat) (h : (k2_sels lw_privs_8)[i]? = some w) (hg : goodWord w = true) : w ∈ tq_tbl := by
  refine List.mem_filter.mpr ⟨List.mem_append_left _ ?_, hg⟩
  obtain ⟨q, hq, e⟩ := List.mem_map.mp (List.mem_of_getElem? h)
  exact List.mem_map.mpr ⟨q, by simp only [lw_privs, List.mem_append]; simp only [hq, true_or, or_true], e⟩
/-- the world: both objects, by positions -/
def shp : sh_T := [.inr (11, [some 17, some 1, some 25, some 28, some 30, some 40, some 43, some 47, some 49, some 54, some 57]), .inr (8, [none, none, none, none, none, some 2, some 3, some 4, some 5, some 6, some 7, some 8]), .inl (0, 40), .inl (0, 50), .inl (0, 12), .inl (0, 400), .inl (0, 6), .inl (0, 4), .inl (0, 480), .inr (8, [none, none, none, none, none, some 10, some 11, some 12, some 13, some 14, some 15, some 16]), .inl (0, 40), .inl (0, 50), .inl (0, 12), .inl (0, 400), .inl (0, 6), .inl (0, 4), .inl (0, 480), .inr (5, [none, none, some 9, some 18, some 19, some 20, none, none, none, none, some 21, some 22, some 23, none, some 24, none, none, none, none]), .inl (1, 2000), .inl (0, 401), .inl (0, 401), .inl (3, 32), .inl (0, 32), .inl (0, 32), .inl (0, 24), .inr (7, [some 26, some 27]), .inl (0, 12), .inl (0, 24), .inr (0, [none, some 29]), .inl (0, 480), .inr (2, [none, some 31, some 32, some 33, some 34, some 35, some 36, some 37, some 38, some 39]), .inl (0, 80), .inl (0, 80), .inl (0, 80), .inl (0, 80), .inl (0, 16), .inl (0, 16), .inl (0, 10), .inl (0, 10), .inl (0, 5), .inr (6, [none, none, some 41, some 42]), .inl (0, 7), .inl (0, 7), .inr (1, [none, none, none, none, some 44, some 45, some 46]), .inl (0, 8), .inl (0, 8), .inl (0, 8), .inr (9, [none, none, none, some 48]), .inl (0, 12), .inr (3, [none, none, none, some 50, some 51, some 52, some 53]), .inl (0, 6), .inl (0, 36), .inl (0, 36), .inl (0, 6), .inr (4, [none, none, some 55, some 56]), .inl (3, 31), .inl (3, 31), .inl (0, 81), .inr (12, [none, some 59, none, some 60, none, some 61, some 62, some 63, some 64, some 65, none, none, none, none, none, none, none, none, none, none, none, some 66, some 67, some 68, some 69, some 70, some 71, some 72, some 73, some 74, some 75, some 76, some 77, some 78, some 79, some 80, some 81, some 82, some 83, some 84, some 85, some 86, some 87, some 88, none, some 89, some 90, some 91, none, some 92, some 93, some 94, none, some 95, some 96, some 97, some 98, some 99, some 100, some 101, some 102, none, some 103, some 104, some 105, some 106, none, none, none, some 107, some 108, none, some 109, none, none, some 110, some 111, some 112, some 113]), .inl (1, 2000), .inl (1, 2000), .inl (0, 403), .inl (0, 403), .inl (0, 403), .inl (3, 403), .inl (3, 22), .inl (3, 40), .inl (0, 40), .inl (0, 40), .inl (0, 2), .inl (2, 16), .inl (0, 48), .inl (2, 16), .inl (0, 2), .inl (2, 20), .inl (0, 60), .inl (0, 20), .inl (0, 2), .inl (0, 24), .inl (0, 2), .inl (0, 12), .inl (0, 12), .inl (0, 2), .inl (0, 8), .inl (0, 96), .inl (0, 96), .inl (2, 96), .inl (0, 96), .inl (0, 576), .inl (0, 840), .inl (0, 840), .inl (0, 420), .inl (0, 12), .inl (0, 420), .inl (0, 3), .inl (0, 80), .inl (0, 80), .inl (0, 80), .inl (0, 80), .inl (0, 80), .inl (2, 80), .inl (0, 80), .inl (0, 80), .inl (0, 12), .inl (0, 12), .inl (0, 7), .inl (2, 7), .inl (0, 8), .inl (2, 8), .inl (0, 12), .inl (0, 6), .inl (0, 6), .inl (0, 6), .inl (0, 6)]
theorem shp_len : shp.length = 114 := by decide +kernel
theorem shp_0 : shp[0]? = some (.inr (11, [some 17, some 1, some 25, some 28, some 30, some 40, some 43, some 47, some 49, some 54, some 57])) := by decide +kernel
theorem shp_1 : shp[1]? = some (.inr (8, [none, none, none, none, none, some 2, some 3, some 4, some 5, some 6, some 7, some 8])) := by decide +kernel
theorem shp_2 : shp[2]? = some (.inl (0, 40)) := by decide +kernel
theorem shp_3 : shp[3]? = some (.inl (0, 50)) := by decide +kernel
theorem shp_4 : shp[4]? = some (.inl (0, 12)) := by decide +kernel
theorem shp_5 : shp[5]? = some (.inl (0, 400)) := by decide +kernel
theorem shp_6 : shp[6]? = some (.inl (0, 6)) := by decide +kernel
theorem shp_7 : shp[7]? = some (.inl (0, 4)) := by decide +kernel
theorem shp_8 : shp[8]? = some (.inl (0, 480)) := by decide +kernel
theorem shp_9 : shp[9]? = some (.inr (8, [none, none, none, none, none, some 10, some 11, some 12, some 13, some 14, some 15, some 16])) := by decide +kernel
theorem shp_10 : shp[10]? = some (.inl (0, 40)) := by decide +kernel
theorem shp_11 : shp[11]? = some (.inl (0, 50)) := by decide +kernel
theorem shp_12 : shp[12]? = some (.inl (0, 12)) := by decide +kernel
theorem shp_13 : shp[13]? = some (.inl (0, 400)) := by decide +kernel
theorem shp_14 : shp[14]? = some (.inl (0, 6)) := by decide +kernel
theorem shp_15 : shp[15]? = some (.inl (0, 4)) := by decide +kernel
theorem shp_16 : shp[16]? = some (.inl (0, 480)) := by decide +kernel
theorem shp_17 : shp[17]? = some (.inr (5, [none, none, some 9, some 18, some 19, some 20, none, none, none, none, some 21, some 22, some 23, none, some 24, none, none, none, none])) := by decide +kernel
theorem shp_18 : shp[18]? = some (.inl (1, 2000)) := by decide +kernel
theorem shp_19 : shp[19]? = some (.inl (0, 401)) := by decide +kernel
theorem shp_20 : shp[20]? = some (.inl (0, 401)) := by decide +kernel
theorem shp_21 : shp[21]? = some (.inl (3, 32)) := by decide +kernel
theorem shp_22 : shp[22]? = some (.inl (0, 32)) := by decide +kernel
theorem shp_23 : shp[23]? = some (.inl (0, 32)) := by decide +kernel
theorem shp_24 : shp[24]? = some (.inl (0, 24)) := by decide +kernel
theorem shp_25 : shp[25]? = some (.inr (7, [some 26, some 27])) := by decide +kernel
theorem shp_26 : shp[26]? = some (.inl (0, 12)) := by decide +kernel
theorem shp_27 : shp[27]? = some (.inl (0, 24)) := by decide +kernel
theorem shp_28 : shp[28]? = some (.inr (0, [none, some 29])) := by decide +kernel
theorem shp_29 : shp[29]? = some (.inl (0, 480)) := by decide +kernel
theorem shp_30 : shp[30]? = some (.inr (2, [none, some 31, some 32, some 33, some 34, some 35, some 36, some 37, some 38, some 39])) := by decide +kernel
theorem shp_31 : shp[31]? = some (.inl (0, 80)) := by decide +kernel
theorem shp_32 : shp[32]? = some (.inl (0, 80)) := by decide +kernel
theorem shp_33 : shp[33]? = some (.inl (0, 80)) := by decide +kernel
theorem shp_34 : shp[34]? = some (.inl (0, 80)) := by decide +kernel
theorem shp_35 : shp[35]? = some (.inl (0, 16)) := by decide +kernel
theorem shp_36 : shp[36]? = some (.inl (0, 16)) := by decide +kernel
theorem shp_37 : shp[37]? = some (.inl (0, 10)) := by decide +kernel
theorem shp_38 : shp[38]? = some (.inl (0, 10)) := by decide +kernel
theorem shp_39 : shp[39]? = some (.inl (0, 5)) := by decide +kernel
theorem shp_40 : shp[40]? = some (.inr (6, [none, none, some 41, some 42])) := by decide +kernel
theorem shp_41 : shp[41]? = some (.inl (0, 7)) := by decide +kernel
theorem shp_42 : shp[42]? = some (.inl (0, 7)) := by decide +kernel
theorem shp_43 : shp[43]? = some (.inr (1, [none, none, none, none, some 44, some 45, some 46])) := by decide +kernel
theorem shp_44 : shp[44]? = some (.inl (0, 8)) := by decide +kernel
theorem shp_45 : shp[45]? = some (.inl (0, 8)) := by decide +kernel
theorem shp_46 : shp[46]? = some (.inl (0, 8)) := by decide +kernel
theorem shp_47 : shp[47]? = some (.inr (9, [none, none, none, some 48])) := by decide +kernel
theorem shp_48 : shp[48]? = some (.inl (0, 12)) := by decide +kernel
theorem shp_49 : shp[49]? = some (.inr (3, [none, none, none, some 50, some 51, some 52, some 53])) := by decide +kernel
theorem shp_50 : shp[50]? = some (.inl (0, 6)) := by decide +kernel
theorem shp_51 : shp[51]? = some (.inl (0, 36)) := by decide +kernel
theorem shp_52 : shp[52]? = some (.inl (0, 36)) := by decide +kernel
theorem shp_53 : shp[53]? = some (.inl (0, 6)) := by decide +kernel
theorem shp_54 : shp[54]? = some (.inr (4, [none, none, some 55, some 56])) := by decide +kernel
theorem shp_55 : shp[55]? = some (.inl (3, 31)) := by decide +kernel
theorem shp_56 : shp[56]? = some (.inl (3, 31)) := by decide +kernel
theorem shp_57 : shp[57]? = some (.inl (0, 81)) := by decide +kernel
theorem shp_58 : shp[58]? = some (.inr (12, [none, some 59, none, some 60, none, some 61, some 62, some 63, some 64, some 65, none, none, none, none, none, none, none, none, none, none, none, some 66, some 67, some 68, some 69, some 70, some 71, some 72, some 73, some 74, some 75, some 76, some 77, some 78, some 79, some 80, some 81, some 82, some 83, some 84, some 85, some 86, some 87, some 88, none, some 89, some 90, some 91, none, some 92, some 93, some 94, none, some 95, some 96, some 97, some 98, some 99, some 100, some 101, some 102, none, some 103, some 104, some 105, some 106, none, none, none, some 107, some 108, none, some 109, none, none, some 110, some 111, some 112, some 113])) := by decide +kernel
theorem shp_59 : shp[59]? = some (.inl (1, 2000)) := by decide +kernel
theorem shp_60 : shp[60]? = some (.inl (1, 2000)) := by decide +kernel
theorem shp_61 : shp[61]? = some (.inl (0, 403)) := by decide +kernel
theorem shp_62 : shp[62]? = some (.inl (0, 403)) := by decide +kernel
theorem shp_63 : shp[63]? = some (.inl (0, 403)) := by decide +kernel
theorem shp_64 : shp[64]? = some (.inl (3, 403)) := by decide +kernel
theorem shp_65 : shp[65]? = some (.inl (3, 22)) := by decide +kernel
theorem shp_66 : shp[66]? = some (.inl (3, 40)) := by decide +kernel
theorem shp_67 : shp[67]? = some (.inl (0, 40)) := by decide +kernel
theorem shp_68 : shp[68]? = some (.inl (0, 40)) := by decide +kernel
theorem shp_69 : shp[69]? = some (.inl (0, 2)) := by decide +kernel
theorem shp_70 : shp[70]? = some (.inl (2, 16)) := by decide +kernel
theorem shp_71 : shp[71]? = some (.inl (0, 48)) := by decide +kernel
theorem shp_72 : shp[72]? = some (.inl (2, 16)) := by decide +kernel
theorem shp_73 : shp[73]? = some (.inl (0, 2)) := by decide +kernel
theorem shp_74 : shp[74]? = some (.inl (2, 20)) := by decide +kernel
theorem shp_75 : shp[75]? = some (.inl (0, 60)) := by decide +kernel
theorem shp_76 : shp[76]? = some (.inl (0, 20)) := by decide +kernel
theorem shp_77 : shp[77]? = some (.inl (0, 2)) := by decide +kernel
theorem shp_78 : shp[78]? = some (.inl (0, 24)) := by decide +kernel
theorem shp_79 : shp[79]? = some (.inl (0, 2)) := by decide +kernel
theorem shp_80 : shp[80]? = some (.inl (0, 12)) := by decide +kernel
theorem shp_81 : shp[81]? = some (.inl (0, 12)) := by decide +kernel
theorem shp_82 : shp[82]? = some (.inl (0, 2)) := by decide +kernel
theorem shp_83 : shp[83]? = some (.inl (0, 8)) := by decide +kernel
theorem shp_84 : shp[84]? = some (.inl (0, 96)) := by decide +kernel
theorem shp_85 : shp[85]? = some (.inl (0, 96)) := by decide +kernel
theorem shp_86 : shp[86]? = some (.inl (2, 96)) := by decide +kernel
theorem shp_87 : shp[87]? = some (.inl (0, 96)) := by decide +kernel
theorem shp_88 : shp[88]? = some (.inl (0, 576)) := by decide +kernel
theorem shp_89 : shp[89]? = some (.inl (0, 840)) := by decide +kernel
theorem shp_90 : shp[90]? = some (.inl (0, 840)) := by decide +kernel
theorem shp_91 : shp[91]? = some (.inl (0, 420)) := by decide +kernel
theorem shp_92 : shp[92]? = some (.inl (0, 12)) := by decide +kernel
theorem shp_93 : shp[93]? = some (.inl (0, 420)) := by decide +kernel
theorem shp_94 : shp[94]? = some (.inl (0, 3)) := by decide +kernel
theorem shp_95 : shp[95]? = some (.inl (0, 80)) := by decide +kernel
theorem shp_96 : shp[96]? = some (.inl (0, 80)) := by decide +kernel
theorem shp_97 : shp[97]? = some (.inl (0, 80)) := by decide +kernel
theorem shp_98 : shp[98]? = some (.inl (0, 80)) := by decide +kernel
theorem shp_99 : shp[99]? = some (.inl (0, 80)) := by decide +kernel
theorem shp_100 : shp[100]? = some (.inl (2, 80)) := by decide +kernel
theorem shp_101 : shp[101]? = some (.inl (0, 80)) := by decide +kernel
theorem shp_102 : shp[102]? = some (.inl (0, 80)) := by decide +kernel
theorem shp_103 : shp[103]? = some (.inl (0, 12)) := by decide +kernel
theorem shp_104 : shp[104]? = some (.inl (0, 12)) := by decide +kernel
theorem shp_105 : shp[105]? = some (.inl (0, 7)) := by decide +kernel
theorem shp_106 : shp[106]? = some (.inl (2, 7)) := by decide +kernel
theorem shp_107 : shp[107]? = some (.inl (0, 8)) := by decide +kernel
theorem shp_108 : shp[108]? = some (.inl (2, 8)) := by decide +kernel
theorem shp_109 : shp[109]? = some (.inl (0, 12)) := by decide +kernel
theorem shp_110 : shp[110]? = some (.inl (0, 6)) := by decide +kernel
theorem shp_111 : shp[111]? = some (.inl (0, 6)) := by decide +kernel
theorem shp_112 : shp[112]? = some (.inl (0, 6)) := by decide +kernel
theorem shp_113 : shp[113]? = some (.inl (0, 6)) := by decide +kernel
theorem fl_RX11_12 : tq_fl RX11 12 11 0 := ⟨_, rfl, by decide +kernel, by decide +kernel, tq_m2 142 rfl rfl⟩
theorem fl_RX11_19 : tq_fl RX11 19 11 1 := ⟨_, rfl, by decide +kernel, by decide +kernel, tq_m2 143 rfl rfl⟩
theorem fl_RX11_26 : tq_fl RX11 26 11 2 := ⟨_, rfl, by decide +kernel, by decide +kernel, tq_m2 144 rfl rfl⟩
theorem fl_RX11_33 : tq_fl RX11 33 11 3 := ⟨_, rfl, by decide +kernel, by decide +kernel, tq_m2 145 rfl rfl⟩
theorem fl_RX11_40 : tq_fl RX11 40 11 4 := ⟨_, rfl, by decide +kernel, by decide +kernel, tq_m2 146 rfl rfl⟩
theorem fl_RX11_47 : tq_fl RX11 47 11 5 := ⟨_, rfl, by decide +kernel, by decide +kernel, tq_m2 147 rfl rfl⟩
theorem fl_RX11_54 : tq_fl RX11 54 11 6 := ⟨_, rfl, by decide +kernel, by decide +kernel, tq_m2 148 rfl rfl⟩
theorem fl_RX11_61 : tq_fl RX11 61 11 7 := ⟨_, rfl, by decide +kernel, by decide +kernel, tq_m2 149 rfl rfl⟩
theorem fl_RX11_68 : tq_fl RX11 68 11 8 := ⟨_, rfl, by decide +kernel, by decide +kernel, tq_m2 150 rfl rfl⟩
theorem fl_RX11_75 : tq_fl RX11 75 11 9 := ⟨_, rfl, by decide +kernel, by decide +kernel, tq_m2 151 rfl rfl⟩
theorem fl_RX11_79 : tq_fl RX11 79 11 10 := ⟨_, rfl, by decide +kernel, by decide +kernel, tq_m2 152 rfl rfl⟩
theorem fl_RX11_89 : tq_fl RX11 89 5 0 := ⟨_, rfl, by decide +kernel, by decide +kernel, tq_m1 109 rfl rfl⟩
theorem fl_RX11_111 : tq_fl RX11 111 5 2 := ⟨_, rfl, by decide +kernel, by decide +kernel, tq_m1 114 rfl rfl⟩
theorem fl_RX11_112 : tq_fl RX11 112 2 0 := ⟨_, rfl, by decide +kernel, by decide +kernel, tq_m1 209 rfl rfl⟩
theorem fl_RX11_115 : tq_fl RX11 115 5 1 := ⟨_, rfl, by decide +kernel, by decide +kernel, tq_m1 112 rfl rfl⟩
theorem fl_RX11_122 : tq_fl RX11 122 8 5 := ⟨_, rfl, by decide +kernel, by decide +kernel, tq_m1 65 rfl rfl⟩
theorem fl_RX11_128 : tq_fl RX11 128 8 6 := ⟨_, rfl, by decide +kernel, by decide +kernel, tq_m1 69 rfl rfl⟩
theorem fl_RX11_176 : tq_fl RX11 176 0 0 := ⟨_, rfl, by decide +kernel, by decide +kernel, tq_m1 195 rfl rfl⟩
theorem fl_RX11_209 : tq_fl RX11 209 8 0 := ⟨_, rfl, by decide +kernel, by decide +kernel, tq_m1 46 rfl rfl⟩
theorem fl_RX11_216 : tq_fl RX11 216 8 1 := ⟨_, rfl, by decide +kernel, by decide +kernel, tq_m1 52 rfl rfl⟩
theorem fl_RX11_235 : tq_fl RX11 235 2 4 := ⟨_, rfl, by decide +kernel, by decide +kernel, tq_m1 219 rfl rfl⟩
theorem fl_RX11_238 : tq_fl RX11 238 2 2 := ⟨_, rfl, by decide +kernel, by decide +kernel, tq_m1 214 rfl rfl⟩
theorem fl_RX11_241 : tq_fl RX11 241 2 5 := ⟨_, rfl, by decide +kernel, by decide +kernel, tq_m1 222 rfl rfl⟩
theorem fl_RX11_244 : tq_fl RX11 244 2 6 := ⟨_, rfl, by decide +kernel, by decide +kernel, tq_m1 225 rfl rfl⟩
theorem fl_RX11_247 : tq_fl RX11 247 2 9 := ⟨_, rfl, by decide +kernel, by decide +kernel, tq_m1 231 rfl rfl⟩
theorem fl_RX11_268 : tq_fl RX11 268 6 0 := ⟨_, rfl, by decide +kernel, by decide +kernel, tq_m2 20 rfl rfl⟩
theorem fl_RX11_269 : tq_fl RX11 269 6 1 := ⟨_, rfl, by decide +kernel, by decide +kernel, tq_m2 22 rfl rfl⟩
theorem fl_RX11_277 : tq_fl RX11 277 1 0 := ⟨_, rfl, by decide +kernel, by decide +kernel, tq_m2 41 rfl rfl⟩
theorem fl_RX11_280 : tq_fl RX11 280 1 1 := ⟨_, rfl, by decide +kernel, by decide +kernel, tq_m2 43 rfl rfl⟩
theorem fl_RX11_283 : tq_fl RX11 283 1 2 := ⟨_, rfl, by decide +kernel, by decide +kernel, tq_m2 45 rfl rfl⟩
theorem fl_RX11_298 : tq_fl RX11 298 9 0 := ⟨_, rfl, by decide +kernel, by decide +kernel, tq_m2 72 rfl rfl⟩
theorem fl_RX11_309 : tq_fl RX11 309 9 1 := ⟨_, rfl, by decide +kernel, by decide +kernel, tq_m2 74 rfl rfl⟩
theorem fl_RX11_312 : tq_fl RX11 312 9 2 := ⟨_, rfl, by decide +kernel, by decide +kernel, tq_m2 76 rfl rfl⟩
theorem fl_RX11_315 : tq_fl RX11 315 2 7 := ⟨_, rfl, by decide +kernel, by decide +kernel, tq_m1 227 rfl rfl⟩
theorem fl_RX11_318 : tq_fl RX11 318 2 8 := ⟨_, rfl, by decide +kernel, by decide +kernel, tq_m1 229 rfl rfl⟩
theorem fl_RX11_326 : tq_fl RX11 326 3 0 := ⟨_, rfl, by decide +kernel, by decide +kernel, tq_m2 94 rfl rfl⟩
theorem fl_RX11_327 : tq_fl RX11 327 3 1 := ⟨_, rfl, by decide +kernel, by decide +kernel, tq_m2 96 rfl rfl⟩
theorem fl_RX11_330 : tq_fl RX11 330 3 2 := ⟨_, rfl, by decide +kernel, by decide +kernel, tq_m2 98 rfl rfl⟩
theorem fl_RX11_352 : tq_fl RX11 352 4 0 := ⟨_, rfl, by decide +kernel, by decide +kernel, tq_m2 125 rfl rfl⟩
theorem fl_RX11_355 : tq_fl RX11 355 4 1 := ⟨_, rfl, by decide +kernel, by decide +kernel, tq_m2 127 rfl rfl⟩
theorem fl_RX11_360 : tq_fl RX11 360 8 4 := ⟨_, rfl, by decide +kernel, by decide +kernel, tq_m1 62 rfl rfl⟩
theorem fl_RX11_385 : tq_fl RX11 385 8 2 := ⟨_, rfl, by decide +kernel, by decide +kernel, tq_m1 56 rfl rfl⟩
theorem fl_RX11_388 : tq_fl RX11 388 8 3 := ⟨_, rfl, by decide +kernel, by decide +kernel, tq_m1 59 rfl rfl⟩
theorem fl_RX0_9 : tq_fl RX0 9 0 1 := ⟨_, rfl, by decide +kernel, by decide +kernel, tq_m1 196 rfl rfl⟩
theorem fl_RX0_15 : tq_fl RX0 15 0 0 := ⟨_, rfl, by decide +kernel, by decide +kernel, tq_m1 194 rfl rfl⟩
theorem fl_RX1_9 : tq_fl RX1 9 1 4 := ⟨_, rfl, by decide +kernel, by decide +kernel, tq_m2 47 rfl rfl⟩
theorem fl_RX1_15 : tq_fl RX1 15 1 5 := ⟨_, rfl, by decide +kernel, by decide +kernel, tq_m2 48 rfl rfl⟩
theorem fl_RX1_18 : tq_fl RX1 18 1 6 := ⟨_, rfl, by decide +kernel, by decide +kernel, tq_m2 49 rfl rfl⟩
theorem fl_RX1_21 : tq_fl RX1 21 1 0 := ⟨_, rfl, by decide +kernel, by decide +kernel, tq_m2 40 rfl rfl⟩
theorem fl_RX1_25 : tq_fl RX1 25 1 3 := ⟨_, rfl, by decide +kernel, by decide +kernel, tq_m2 46 rfl rfl⟩
theorem fl_RX1_28 : tq_fl RX1 28 1 2 := ⟨_, rfl, by decide +kernel, by decide +kernel, tq_m2 44 rfl rfl⟩
theorem fl_RX1_31 : tq_fl RX1 31 8 0 := ⟨_, rfl, by decide +kernel, by decide +kernel, tq_m1 42 rfl rfl⟩
theorem fl_RX1_36 : tq_fl RX1 36 2 6 := ⟨_, rfl, by decide +kernel, by decide +kernel, tq_m1 224 rfl rfl⟩
theorem fl_RX1_47 : tq_fl RX1 47 2 5 := ⟨_, rfl, by decide +kernel, by decide +kernel, tq_m1 221 rfl rfl⟩
theorem fl_RX1_53 : tq_fl RX1 53 1 1 := ⟨_, rfl, by decide +kernel, by decide +kernel, tq_m2 42 rfl rfl⟩
theorem fl_RX2_9 : tq_fl RX2 9 2 0 := ⟨_, rfl, by decide +kernel, by decide +kernel, tq_m1 208 rfl rfl⟩
theorem fl_RX2_15 : tq_fl RX2 15 2 1 := ⟨_, rfl, by decide +kernel, by decide +kernel, tq_m1 210 rfl rfl⟩
theorem fl_RX2_19 : tq_fl RX2 19 2 2 := ⟨_, rfl, by decide +kernel, by decide +kernel, tq_m1 211 rfl rfl⟩
theorem fl_RX2_22 : tq_fl RX2 22 2 3 := ⟨_, rfl, by decide +kernel, by decide +kernel, tq_m1 215 rfl rfl⟩
theorem fl_RX2_25 : tq_fl RX2 25 2 4 := ⟨_, rfl, by decide +kernel, by decide +kernel, tq_m1 217 rfl rfl⟩
theorem fl_RX2_28 : tq_fl RX2 28 2 5 := ⟨_, rfl, by decide +kernel, by decide +kernel, tq_m1 220 rfl rfl⟩
theorem fl_RX2_31 : tq_fl RX2 31 2 6 := ⟨_, rfl, by decide +kernel, by decide +kernel, tq_m1 223 rfl rfl⟩
theorem fl_RX2_34 : tq_fl RX2 34 2 7 := ⟨_, rfl, by decide +kernel, by decide +kernel, tq_m1 226 rfl rfl⟩
theorem fl_RX2_37 : tq_fl RX2 37 2 8 := ⟨_, rfl, by decide +kernel, by decide +kernel, tq_m1 228 rfl rfl⟩
theorem fl_RX2_40 : tq_fl RX2 40 2 9 := ⟨_, rfl, by decide +kernel, by decide +kernel, tq_m1 230 rfl rfl⟩
theorem fl_RX2_43 : tq_fl RX2 43 0 0 := ⟨_, rfl, by decide +kernel, by decide +kernel, tq_m1 193 rfl rfl⟩
theorem fl_RX2_103 : tq_fl RX2 103 8 1 := ⟨_, rfl, by decide +kernel, by decide +kernel, tq_m1 51 rfl rfl⟩
theorem fl_RX2_106 : tq_fl RX2 106 8 0 := ⟨_, rfl, by decide +kernel, by decide +kernel, tq_m1 45 rfl rfl⟩
theorem fl_RX3_11 : tq_fl RX3 11 3 3 := ⟨_, rfl, by decide +kernel, by decide +kernel, tq_m2 99 rfl rfl⟩
theorem fl_RX3_15 : tq_fl RX3 15 3 4 := ⟨_, rfl, by decide +kernel, by decide +kernel, tq_m2 100 rfl rfl⟩
theorem fl_RX3_18 : tq_fl RX3 18 3 5 := ⟨_, rfl, by decide +kernel, by decide +kernel, tq_m2 101 rfl rfl⟩
theorem fl_RX3_21 : tq_fl RX3 21 3 6 := ⟨_, rfl, by decide +kernel, by decide +kernel, tq_m2 102 rfl rfl⟩
theorem fl_RX3_24 : tq_fl RX3 24 3 0 := ⟨_, rfl, by decide +kernel, by decide +kernel, tq_m2 93 rfl rfl⟩
theorem fl_RX3_28 : tq_fl RX3 28 3 1 := ⟨_, rfl, by decide +kernel, by decide +kernel, tq_m2 95 rfl rfl⟩
theorem fl_RX3_31 : tq_fl RX3 31 3 2 := ⟨_, rfl, by decide +kernel, by decide +kernel, tq_m2 97 rfl rfl⟩
theorem fl_RX3_34 : tq_fl RX3 34 8 0 := ⟨_, rfl, by decide +kernel, by decide +kernel, tq_m1 43 rfl rfl⟩
theorem fl_RX4_11 : tq_fl RX4 11 4 2 := ⟨_, rfl, by decide +kernel, by decide +kernel, tq_m2 128 rfl rfl⟩
theorem fl_RX4_15 : tq_fl RX4 15 4 3 := ⟨_, rfl, by decide +kernel, by decide +kernel, tq_m2 129 rfl rfl⟩
theorem fl_RX4_40 : tq_fl RX4 40 4 0 := ⟨_, rfl, by decide +kernel, by decide +kernel, tq_m2 124 rfl rfl⟩
theorem fl_RX4_44 : tq_fl RX4 44 4 1 := ⟨_, rfl, by decide +kernel, by decide +kernel, tq_m2 126 rfl rfl⟩
theorem fl_RX5_9 : tq_fl RX5 9 5 1 := ⟨_, rfl, by decide +kernel, by decide +kernel, tq_m1 111 rfl rfl⟩
theorem fl_RX5_18 : tq_fl RX5 18 5 2 := ⟨_, rfl, by decide +kernel, by decide +kernel, tq_m1 113 rfl rfl⟩
theorem fl_RX5_22 : tq_fl RX5 22 5 3 := ⟨_, rfl, by decide +kernel, by decide +kernel, tq_m1 115 rfl rfl⟩
theorem fl_RX5_26 : tq_fl RX5 26 5 4 := ⟨_, rfl, by decide +kernel, by decide +kernel, tq_m1 116 rfl rfl⟩
theorem fl_RX5_30 : tq_fl RX5 30 5 5 := ⟨_, rfl, by decide +kernel, by decide +kernel, tq_m1 117 rfl rfl⟩
theorem fl_RX5_33 : tq_fl RX5 33 5 10 := ⟨_, rfl, by decide +kernel, by decide +kernel, tq_m1 122 rfl rfl⟩
theorem fl_RX5_37 : tq_fl RX5 37 5 11 := ⟨_, rfl, by decide +kernel, by decide +kernel, tq_m1 123 rfl rfl⟩
theorem fl_RX5_40 : tq_fl RX5 40 5 12 := ⟨_, rfl, by decide +kernel, by decide +kernel, tq_m1 124 rfl rfl⟩
theorem fl_RX5_43 : tq_fl RX5 43 5 14 := ⟨_, rfl, by decide +kernel, by decide +kernel, tq_m1 126 rfl rfl⟩
theorem fl_RX5_46 : tq_fl RX5 46 5 0 := ⟨_, rfl, by decide +kernel, by decide +kernel, tq_m1 110 rfl rfl⟩
theorem fl_RX5_52 : tq_fl RX5 52 5 6 := ⟨_, rfl, by decide +kernel, by decide +kernel, tq_m1 118 rfl rfl⟩
theorem fl_RX5_55 : tq_fl RX5 55 5 7 := ⟨_, rfl, by decide +kernel, by decide +kernel, tq_m1 119 rfl rfl⟩
theorem fl_RX5_58 : tq_fl RX5 58 5 8 := ⟨_, rfl, by decide +kernel, by decide +kernel, tq_m1 120 rfl rfl⟩
theorem fl_RX5_61 : tq_fl RX5 61 5 13 := ⟨_, rfl, by decide +kernel, by decide +kernel, tq_m1 125 rfl rfl⟩
theorem fl_RX5_64 : tq_fl RX5 64 5 18 := ⟨_, rfl, by decide +kernel, by decide +kernel, tq_m1 130 rfl rfl⟩
theorem fl_RX5_70 : tq_fl RX5 70 5 9 := ⟨_, rfl, by decide +kernel, by decide +kernel, tq_m1 121 rfl rfl⟩
theorem fl_RX5_130 : tq_fl RX5 130 8 0 := ⟨_, rfl, by decide +kernel, by decide +kernel, tq_m1 47 rfl rfl⟩
theorem fl_RX5_144 : tq_fl RX5 144 8 5 := ⟨_, rfl, by decide +kernel, by decide +kernel, tq_m1 66 rfl rfl⟩
theorem fl_RX5_150 : tq_fl RX5 150 8 1 := ⟨_, rfl, by decide +kernel, by decide +kernel, tq_m1 53 rfl rfl⟩
theorem fl_RX5_153 : tq_fl RX5 153 8 6 := ⟨_, rfl, by decide +kernel, by decide +kernel, tq_m1 70 rfl rfl⟩
theorem fl_RX5_156 : tq_fl RX5 156 8 2 := ⟨_, rfl, by decide +kernel, by decide +kernel, tq_m1 55 rfl rfl⟩
theorem fl_RX5_159 : tq_fl RX5 159 8 7 := ⟨_, rfl, by decide +kernel, by decide +kernel, tq_m1 73 rfl rfl⟩
theorem fl_RX5_162 : tq_fl RX5 162 8 3 := ⟨_, rfl, by decide +kernel, by decide +kernel, tq_m1 58 rfl rfl⟩
theorem fl_RX5_168 : tq_fl RX5 168 8 9 := ⟨_, rfl, by decide +kernel, by decide +kernel, tq_m1 78 rfl rfl⟩
theorem fl_RX5_171 : tq_fl RX5 171 8 4 := ⟨_, rfl, by decide +kernel, by decide +kernel, tq_m1 61 rfl rfl⟩
theorem fl_RX5_174 : tq_fl RX5 174 8 10 := ⟨_, rfl, by decide +kernel, by decide +kernel, tq_m1 80 rfl rfl⟩
theorem fl_RX5_180 : tq_fl RX5 180 8 11 := ⟨_, rfl, by decide +kernel, by decide +kernel, tq_m1 82 rfl rfl⟩
theorem fl_RX5_204 : tq_fl RX5 204 5 15 := ⟨_, rfl, by decide +kernel, by decide +kernel, tq_m1 127 rfl rfl⟩
theorem fl_RX5_207 : tq_fl RX5 207 5 16 := ⟨_, rfl, by decide +kernel, by decide +kernel, tq_m1 128 rfl rfl⟩
theorem fl_RX5_210 : tq_fl RX5 210 5 17 := ⟨_, rfl, by decide +kernel, by decide +kernel, tq_m1 129 rfl rfl⟩
theorem fl_RX5_236 : tq_fl RX5 236 8 8 := ⟨_, rfl, by decide +kernel, by decide +kernel, tq_m1 76 rfl rfl⟩
theorem fl_RX6_11 : tq_fl RX6 11 6 2 := ⟨_, rfl, by decide +kernel, by decide +kernel, tq_m2 23 rfl rfl⟩
theorem fl_RX6_15 : tq_fl RX6 15 6 3 := ⟨_, rfl, by decide +kernel, by decide +kernel, tq_m2 24 rfl rfl⟩
theorem fl_RX6_18 : tq_fl RX6 18 6 0 := ⟨_, rfl, by decide +kernel, by decide +kernel, tq_m2 19 rfl rfl⟩
theorem fl_RX6_22 : tq_fl RX6 22 6 1 := ⟨_, rfl, by decide +kernel, by decide +kernel, tq_m2 21 rfl rfl⟩
theorem fl_RX6_25 : tq_fl RX6 25 8 1 := ⟨_, rfl, by decide +kernel, by decide +kernel, tq_m1 49 rfl rfl⟩
theorem fl_RX6_34 : tq_fl RX6 34 2 3 := ⟨_, rfl, by decide +kernel, by decide +kernel, tq_m1 216 rfl rfl⟩
theorem fl_RX6_39 : tq_fl RX6 39 2 2 := ⟨_, rfl, by decide +kernel, by decide +kernel, tq_m1 212 rfl rfl⟩
theorem fl_RX7_9 : tq_fl RX7 9 7 0 := ⟨_, rfl, by decide +kernel, by decide +kernel, tq_m1 180 rfl rfl⟩
theorem fl_RX7_15 : tq_fl RX7 15 7 1 := ⟨_, rfl, by decide +kernel, by decide +kernel, tq_m1 181 rfl rfl⟩
theorem fl_RX7_24 : tq_fl RX7 24 8 5 := ⟨_, rfl, by decide +kernel, by decide +kernel, tq_m1 64 rfl rfl⟩
theorem fl_RX7_27 : tq_fl RX7 27 8 7 := ⟨_, rfl, by decide +kernel, by decide +kernel, tq_m1 72 rfl rfl⟩
theorem fl_RX7_30 : tq_fl RX7 30 8 6 := ⟨_, rfl, by decide +kernel, by decide +kernel, tq_m1 68 rfl rfl⟩
theorem fl_RX7_60 : tq_fl RX7 60 8 8 := ⟨_, rfl, by decide +kernel, by decide +kernel, tq_m1 75 rfl rfl⟩
theorem fl_RX8_9 : tq_fl RX8 9 8 5 := ⟨_, rfl, by decide +kernel, by decide +kernel, tq_m1 63 rfl rfl⟩
theorem fl_RX8_15 : tq_fl RX8 15 8 6 := ⟨_, rfl, by decide +kernel, by decide +kernel, tq_m1 67 rfl rfl⟩
theorem fl_RX8_24 : tq_fl RX8 24 8 9 := ⟨_, rfl, by decide +kernel, by decide +kernel, tq_m1 77 rfl rfl⟩
theorem fl_RX8_27 : tq_fl RX8 27 8 10 := ⟨_, rfl, by decide +kernel, by decide +kernel, tq_m1 79 rfl rfl⟩
theorem fl_RX8_30 : tq_fl RX8 30 8 11 := ⟨_, rfl, by decide +kernel, by decide +kernel, tq_m1 81 rfl rfl⟩
theorem fl_RX8_33 : tq_fl RX8 33 8 0 := ⟨_, rfl, by decide +kernel, by decide +kernel, tq_m1 41 rfl rfl⟩
theorem fl_RX8_37 : tq_fl RX8 37 8 1 := ⟨_, rfl, by decide +kernel, by decide +kernel, tq_m1 48 rfl rfl⟩
theorem fl_RX8_40 : tq_fl RX8 40 8 2 := ⟨_, rfl, by decide +kernel, by decide +kernel, tq_m1 54 rfl rfl⟩
theorem fl_RX8_43 : tq_fl RX8 43 8 3 := ⟨_, rfl, by decide +kernel, by decide +kernel, tq_m1 57 rfl rfl⟩
theorem fl_RX8_46 : tq_fl RX8 46 8 4 := ⟨_, rfl, by decide +kernel, by decide +kernel, tq_m1 60 rfl rfl⟩
theorem fl_RX9_11 : tq_fl RX9 11 9 3 := ⟨_, rfl, by decide +kernel, by decide +kernel, tq_m2 77 rfl rfl⟩
theorem fl_RX9_15 : tq_fl RX9 15 9 0 := ⟨_, rfl, by decide +kernel, by decide +kernel, tq_m2 71 rfl rfl⟩
theorem fl_RX9_19 : tq_fl RX9 19 9 1 := ⟨_, rfl, by decide +kernel, by decide +kernel, tq_m2 73 rfl rfl⟩
theorem fl_RX9_22 : tq_fl RX9 22 9 2 := ⟨_, rfl, by decide +kernel, by decide +kernel, tq_m2 75 rfl rfl⟩
theorem fl_RX9_28 : tq_fl RX9 28 8 1 := ⟨_, rfl, by decide +kernel, by decide +kernel, tq_m1 50 rfl rfl⟩
theorem fl_RX9_41 : tq_fl RX9 41 8 0 := ⟨_, rfl, by decide +kernel, by decide +kernel, tq_m1 44 rfl rfl⟩
theorem fl_RX9_44 : tq_fl RX9 44 2 2 := ⟨_, rfl, by decide +kernel, by decide +kernel, tq_m1 213 rfl rfl⟩
theorem fl_RX9_56 : tq_fl RX9 56 2 4 := ⟨_, rfl, by decide +kernel, by decide +kernel, tq_m1 218 rfl rfl⟩
theorem fl_RX12_13 : tq_fl RX12 13 12 1 := ⟨_, rfl, by decide +kernel, by decide +kernel, tq_m6 39 rfl rfl⟩
theorem fl_RX12_17 : tq_fl RX12 17 12 3 := ⟨_, rfl, by decide +kernel, by decide +kernel, tq_m6 41 rfl rfl⟩
theorem fl_RX12_20 : tq_fl RX12 20 12 5 := ⟨_, rfl, by decide +kernel, by decide +kernel, tq_m6 43 rfl rfl⟩
theorem fl_RX12_24 : tq_fl RX12 24 12 6 := ⟨_, rfl, by decide +kernel, by decide +kernel, tq_m6 44 rfl rfl⟩
theorem fl_RX12_27 : tq_fl RX12 27 12 7 := ⟨_, rfl, by decide +kernel, by decide +kernel, tq_m6 45 rfl rfl⟩
theorem fl_RX12_30 : tq_fl RX12 30 12 8 := ⟨_, rfl, by decide +kernel, by decide +kernel, tq_m6 46 rfl rfl⟩
theorem fl_RX12_34 : tq_fl RX12 34 12 9 := ⟨_, rfl, by decide +kernel, by decide +kernel, tq_m6 47 rfl rfl⟩
theorem fl_RX12_37 : tq_fl RX12 37 12 17 := ⟨_, rfl, by decide +kernel, by decide +kernel, tq_m6 55 rfl rfl⟩
theorem fl_RX12_40 : tq_fl RX12 40 12 21 := ⟨_, rfl, by decide +kernel, by decide +kernel, tq_m6 59 rfl rfl⟩
theorem fl_RX12_43 : tq_fl RX12 43 12 22 := ⟨_, rfl, by decide +kernel, by decide +kernel, tq_m6 60 rfl rfl⟩
theorem fl_RX12_46 : tq_fl RX12 46 12 23 := ⟨_, rfl, by decide +kernel, by decide +kernel, tq_m6 61 rfl rfl⟩
theorem fl_RX12_49 : tq_fl RX12 49 12 24 := ⟨_, rfl, by decide +kernel, by decide +kernel, tq_m6 62 rfl rfl⟩
theorem fl_RX12_52 : tq_fl RX12 52 12 25 := ⟨_, rfl, by decide +kernel, by decide +kernel, tq_m6 63 rfl rfl⟩
theorem fl_RX12_56 : tq_fl RX12 56 12 26 := ⟨_, rfl, by decide +kernel, by decide +kernel, tq_m6 64 rfl rfl⟩
theorem fl_RX12_59 : tq_fl RX12 59 12 27 := ⟨_, rfl, by decide +kernel, by decide +kernel, tq_m6 65 rfl rfl⟩
theorem fl_RX12_62 : tq_fl RX12 62 12 28 := ⟨_, rfl, by decide +kernel, by decide +kernel, tq_m6 66 rfl rfl⟩
theorem fl_RX12_65 : tq_fl RX12 65 12 29 := ⟨_, rfl, by decide +kernel, by decide +kernel, tq_m6 67 rfl rfl⟩
theorem fl_RX12_68 : tq_fl RX12 68 12 30 := ⟨_, rfl, by decide +kernel, by decide +kernel, tq_m6 68 rfl rfl⟩
theorem fl_RX12_71 : tq_fl RX12 71 12 31 := ⟨_, rfl, by decide +kernel, by decide +kernel, tq_m6 69 rfl rfl⟩
theorem fl_RX12_74 : tq_fl RX12 74 12 32 := ⟨_, rfl, by decide +kernel, by decide +kernel, tq_m6 70 rfl rfl⟩
theorem fl_RX12_77 : tq_fl RX12 77 12 33 := ⟨_, rfl, by decide +kernel, by decide +kernel, tq_m6 71 rfl rfl⟩
theorem fl_RX12_80 : tq_fl RX12 80 12 34 := ⟨_, rfl, by decide +kernel, by decide +kernel, tq_m6 72 rfl rfl⟩
theorem fl_RX12_83 : tq_fl RX12 83 12 35 := ⟨_, rfl, by decide +kernel, by decide +kernel, tq_m6 73 rfl rfl⟩
theorem fl_RX12_86 : tq_fl RX12 86 12 36 := ⟨_, rfl, by decide +kernel, by decide +kernel, tq_m6 74 rfl rfl⟩
theorem fl_RX12_89 : tq_fl RX12 89 12 37 := ⟨_, rfl, by decide +kernel, by decide +kernel, tq_m6 75 rfl rfl⟩
theorem fl_RX12_92 : tq_fl RX12 92 12 38 := ⟨_, rfl, by decide +kernel, by decide +kernel, tq_m6 76 rfl rfl⟩
theorem fl_RX12_95 : tq_fl RX12 95 12 39 := ⟨_, rfl, by decide +kernel, by decide +kernel, tq_m6 77 rfl rfl⟩
theorem fl_RX12_98 : tq_fl RX12 98 12 40 := ⟨_, rfl, by decide +kernel, by decide +kernel, tq_m6 78 rfl rfl⟩
theorem fl_RX12_101 : tq_fl RX12 101 12 41 := ⟨_, rfl, by decide +kernel, by decide +kernel, tq_m6 79 rfl rfl⟩
theorem fl_RX12_104 : tq_fl RX12 104 12 42 := ⟨_, rfl, by decide +kernel, by decide +kernel, tq_m6 80 rfl rfl⟩
theorem fl_RX12_107 : tq_fl RX12 107 12 43 := ⟨_, rfl, by decide +kernel, by decide +kernel, tq_m6 81 rfl rfl⟩
theorem fl_RX12_110 : tq_fl RX12 110 12 45 := ⟨_, rfl, by decide +kernel, by decide +kernel, tq_m6 83 rfl rfl⟩
theorem fl_RX12_113 : tq_fl RX12 113 12 46 := ⟨_, rfl, by decide +kernel, by decide +kernel, tq_m6 84 rfl rfl⟩
theorem fl_RX12_116 : tq_fl RX12 116 12 47 := ⟨_, rfl, by decide +kernel, by decide +kernel, tq_m6 85 rfl rfl⟩
theorem fl_RX12_119 : tq_fl RX12 119 12 49 := ⟨_, rfl, by decide +kernel, by decide +kernel, tq_m6 87 rfl rfl⟩
theorem fl_RX12_122 : tq_fl RX12 122 12 50 := ⟨_, rfl, by decide +kernel, by decide +kernel, tq_m6 88 rfl rfl⟩
theorem fl_RX12_125 : tq_fl RX12 125 12 51 := ⟨_, rfl, by decide +kernel, by decide +kernel, tq_m6 89 rfl rfl⟩
theorem fl_RX12_128 : tq_fl RX12 128 12 53 := ⟨_, rfl, by decide +kernel, by decide +kernel, tq_m6 91 rfl rfl⟩
theorem fl_RX12_131 : tq_fl RX12 131 12 54 := ⟨_, rfl, by decide +kernel, by decide +kernel, tq_m6 92 rfl rfl⟩
theorem fl_RX12_134 : tq_fl RX12 134 12 55 := ⟨_, rfl, by decide +kernel, by decide +kernel, tq_m6 93 rfl rfl⟩
theorem fl_RX12_137 : tq_fl RX12 137 12 56 := ⟨_, rfl, by decide +kernel, by decide +kernel, tq_m6 94 rfl rfl⟩
theorem fl_RX12_140 : tq_fl RX12 140 12 57 := ⟨_, rfl, by decide +kernel, by decide +kernel, tq_m6 95 rfl rfl⟩
theorem fl_RX12_143 : tq_fl RX12 143 12 58 := ⟨_, rfl, by decide +kernel, by decide +kernel, tq_m6 96 rfl rfl⟩
theorem fl_RX12_146 : tq_fl RX12 146 12 59 := ⟨_, rfl, by decide +kernel, by decide +kernel, tq_m6 97 rfl rfl⟩
theorem fl_RX12_149 : tq_fl RX12 149 12 60 := ⟨_, rfl, by decide +kernel, by decide +kernel, tq_m6 98 rfl rfl⟩
theorem fl_RX12_152 : tq_fl RX12 152 12 62 := ⟨_, rfl, by decide +kernel, by decide +kernel, tq_m6 100 rfl rfl⟩
theorem fl_RX12_155 : tq_fl RX12 155 12 63 := ⟨_, rfl, by decide +kernel, by decide +kernel, tq_m6 101 rfl rfl⟩
theorem fl_RX12_158 : tq_fl RX12 158 12 64 := ⟨_, rfl, by decide +kernel, by decide +kernel, tq_m6 102 rfl rfl⟩
theorem fl_RX12_161 : tq_fl RX12 161 12 65 := ⟨_, rfl, by decide +kernel, by decide +kernel, tq_m6 103 rfl rfl⟩
theorem fl_RX12_164 : tq_fl RX12 164 12 69 := ⟨_, rfl, by decide +kernel, by decide +kernel, tq_m6 107 rfl rfl⟩
theorem fl_RX12_167 : tq_fl RX12 167 12 70 := ⟨_, rfl, by decide +kernel, by decide +kernel, tq_m6 108 rfl rfl⟩
theorem fl_RX12_170 : tq_fl RX12 170 12 72 := ⟨_, rfl, by decide +kernel, by decide +kernel, tq_m6 110 rfl rfl⟩
theorem fl_RX12_173 : tq_fl RX12 173 12 75 := ⟨_, rfl, by decide +kernel, by decide +kernel, tq_m6 113 rfl rfl⟩
theorem fl_RX12_176 : tq_fl RX12 176 12 76 := ⟨_, rfl, by decide +kernel, by decide +kernel, tq_m6 114 rfl rfl⟩
theorem fl_RX12_179 : tq_fl RX12 179 12 77 := ⟨_, rfl, by decide +kernel, by decide +kernel, tq_m6 115 rfl rfl⟩
theorem fl_RX12_182 : tq_fl RX12 182 12 78 := ⟨_, rfl, by decide +kernel, by decide +kernel, tq_m6 116 rfl rfl⟩
theorem fl_RX12_189 : tq_fl RX12 189 12 2 := ⟨_, rfl, by decide +kernel, by decide +kernel, tq_m6 40 rfl rfl⟩
theorem fl_RX12_196 : tq_fl RX12 196 12 4 := ⟨_, rfl, by decide +kernel, by decide +kernel, tq_m6 42 rfl rfl⟩
theorem fl_RX12_205 : tq_fl RX12 205 12 10 := ⟨_, rfl, by decide +kernel, by decide +kernel, tq_m6 48 rfl rfl⟩
theorem fl_RX12_227 : tq_fl RX12 227 12 13 := ⟨_, rfl, by decide +kernel, by decide +kernel, tq_m6 51 rfl rfl⟩
theorem fl_RX12_230 : tq_fl RX12 230 12 11 := ⟨_, rfl, by decide +kernel, by decide +kernel, tq_m6 49 rfl rfl⟩
theorem fl_RX12_233 : tq_fl RX12 233 12 14 := ⟨_, rfl, by decide +kernel, by decide +kernel, tq_m6 52 rfl rfl⟩
theorem fl_RX12_236 : tq_fl RX12 236 12 15 := ⟨_, rfl, by decide +kernel, by decide +kernel, tq_m6 53 rfl rfl⟩
theorem fl_RX12_239 : tq_fl RX12 239 12 16 := ⟨_, rfl, by decide +kernel, by decide +kernel, tq_m6 54 rfl rfl⟩
theorem fl_RX12_254 : tq_fl RX12 254 12 12 := ⟨_, rfl, by decide +kernel, by decide +kernel, tq_m6 50 rfl rfl⟩
theorem fl_RX12_257 : tq_fl RX12 257 12 18 := ⟨_, rfl, by decide +kernel, by decide +kernel, tq_m6 56 rfl rfl⟩
theorem fl_RX12_260 : tq_fl RX12 260 12 19 := ⟨_, rfl, by decide +kernel, by decide +kernel, tq_m6 57 rfl rfl⟩
theorem fl_RX12_263 : tq_fl RX12 263 12 20 := ⟨_, rfl, by decide +kernel, by decide +kernel, tq_m6 58 rfl rfl⟩
theorem fl_RX12_266 : tq_fl RX12 266 12 44 := ⟨_, rfl, by decide +kernel, by decide +kernel, tq_m6 82 rfl rfl⟩
theorem fl_RX12_314 : tq_fl RX12 314 12 48 := ⟨_, rfl, by decide +kernel, by decide +kernel, tq_m6 86 rfl rfl⟩
theorem fl_RX12_399 : tq_fl RX12 399 12 52 := ⟨_, rfl, by decide +kernel, by decide +kernel, tq_m6 90 rfl rfl⟩
theorem fl_RX12_443 : tq_fl RX12 443 12 61 := ⟨_, rfl, by decide +kernel, by decide +kernel, tq_m6 99 rfl rfl⟩
theorem fl_RX12_464 : tq_fl RX12 464 12 66 := ⟨_, rfl, by decide +kernel, by decide +kernel, tq_m6 104 rfl rfl⟩
theorem fl_RX12_467 : tq_fl RX12 467 12 67 := ⟨_, rfl, by decide +kernel, by decide +kernel, tq_m6 105 rfl rfl⟩
theorem fl_RX12_470 : tq_fl RX12 470 12 68 := ⟨_, rfl, by decide +kernel, by decide +kernel, tq_m6 106 rfl rfl⟩
theorem fl_RX12_493 : tq_fl RX12 493 12 71 := ⟨_, rfl, by decide +kernel, by decide +kernel, tq_m6 109 rfl rfl⟩
theorem fl_RX12_505 : tq_fl RX12 505 12 73 := ⟨_, rfl, by decide +kernel, by decide +kernel, tq_m6 111 rfl rfl⟩
theorem fl_RX12_520 : tq_fl RX12 520 12 74 := ⟨_, rfl, by decide +kernel, by decide +kernel, tq_m6 112 rfl rfl⟩
theorem pf_11_1 : tq_pf 11 1 (.object "BlindFiddles$Told") := ⟨_, rfl, by decide +kernel, by decide +kernel⟩
theorem pf_5_0 : tq_pf 5 0 (.int) := ⟨_, rfl, by decide +kernel, by decide +kernel⟩
theorem pf_5_2 : tq_pf 5 2 (.object "BlindFiddles$Told") := ⟨_, rfl, by decide +kernel, by decide +kernel⟩
theorem pf_2_0 : tq_pf 2 0 (.int) := ⟨_, rfl, by decide +kernel, by decide +kernel⟩
theorem pf_5_1 : tq_pf 5 1 (.int) := ⟨_, rfl, by decide +kernel, by decide +kernel⟩
theorem pf_0_0 : tq_pf 0 0 (.int) := ⟨_, rfl, by decide +kernel, by decide +kernel⟩
theorem pf_8_0 : tq_pf 8 0 (.int) := ⟨_, rfl, by decide +kernel, by decide +kernel⟩
theorem pf_8_1 : tq_pf 8 1 (.int) := ⟨_, rfl, by decide +kernel, by decide +kernel⟩
theorem pf_6_0 : tq_pf 6 0 (.int) := ⟨_, rfl, by decide +kernel, by decide +kernel⟩
theorem pf_6_1 : tq_pf 6 1 (.int) := ⟨_, rfl, by decide +kernel, by decide +kernel⟩
theorem pf_1_0 : tq_pf 1 0 (.int) := ⟨_, rfl, by decide +kernel, by decide +kernel⟩
theorem pf_1_1 : tq_pf 1 1 (.int) := ⟨_, rfl, by decide +kernel, by decide +kernel⟩
theorem pf_1_2 : tq_pf 1 2 (.int) := ⟨_, rfl, by decide +kernel, by decide +kernel⟩
theorem pf_9_0 : tq_pf 9 0 (.int) := ⟨_, rfl, by decide +kernel, by decide +kernel⟩
theorem pf_9_1 : tq_pf 9 1 (.int) := ⟨_, rfl, by decide +kernel, by decide +kernel⟩
theorem pf_9_2 : tq_pf 9 2 (.int) := ⟨_, rfl, by decide +kernel, by decide +kernel⟩
theorem pf_3_0 : tq_pf 3 0 (.int) := ⟨_, rfl, by decide +kernel, by decide +kernel⟩
theorem pf_3_1 : tq_pf 3 1 (.int) := ⟨_, rfl, by decide +kernel, by decide +kernel⟩
theorem pf_3_2 : tq_pf 3 2 (.int) := ⟨_, rfl, by decide +kernel, by decide +kernel⟩
theorem pf_4_0 : tq_pf 4 0 (.int) := ⟨_, rfl, by decide +kernel, by decide +kernel⟩
theorem pf_4_1 : tq_pf 4 1 (.int) := ⟨_, rfl, by decide +kernel, by decide +kernel⟩
theorem pf_8_4 : tq_pf 8 4 (.int) := ⟨_, rfl, by decide +kernel, by decide +kernel⟩
theorem pf_8_2 : tq_pf 8 2 (.int) := ⟨_, rfl, by decide +kernel, by decide +kernel⟩
theorem pf_8_3 : tq_pf 8 3 (.int) := ⟨_, rfl, by decide +kernel, by decide +kernel⟩
theorem pf_1_3 : tq_pf 1 3 (.int) := ⟨_, rfl, by decide +kernel, by decide +kernel⟩
theorem pf_5_6 : tq_pf 5 6 (.int) := ⟨_, rfl, by decide +kernel, by decide +kernel⟩
theorem pf_5_7 : tq_pf 5 7 (.int) := ⟨_, rfl, by decide +kernel, by decide +kernel⟩
theorem pf_5_8 : tq_pf 5 8 (.int) := ⟨_, rfl, by decide +kernel, by decide +kernel⟩
theorem pf_5_13 : tq_pf 5 13 (.int) := ⟨_, rfl, by decide +kernel, by decide +kernel⟩
theorem pf_5_18 : tq_pf 5 18 (.int) := ⟨_, rfl, by decide +kernel, by decide +kernel⟩
theorem pf_5_9 : tq_pf 5 9 (.int) := ⟨_, rfl, by decide +kernel, by decide +kernel⟩
theorem pf_5_15 : tq_pf 5 15 (.int) := ⟨_, rfl, by decide +kernel, by decide +kernel⟩
theorem pf_5_16 : tq_pf 5 16 (.int) := ⟨_, rfl, by decide +kernel, by decide +kernel⟩
theorem pf_5_17 : tq_pf 5 17 (.boolean) := ⟨_, rfl, by decide +kernel, by decide +kernel⟩
theorem pf_12_17 : tq_pf 12 17 (.int) := ⟨_, rfl, by decide +kernel, by decide +kernel⟩
theorem pf_12_2 : tq_pf 12 2 (.int) := ⟨_, rfl, by decide +kernel, by decide +kernel⟩
theorem pf_12_4 : tq_pf 12 4 (.int) := ⟨_, rfl, by decide +kernel, by decide +kernel⟩
theorem pf_12_10 : tq_pf 12 10 (.int) := ⟨_, rfl, by decide +kernel, by decide +kernel⟩
theorem pf_12_13 : tq_pf 12 13 (.int) := ⟨_, rfl, by decide +kernel, by decide +kernel⟩
theorem pf_12_11 : tq_pf 12 11 (.int) := ⟨_, rfl, by decide +kernel, by decide +kernel⟩
theorem pf_12_14 : tq_pf 12 14 (.int) := ⟨_, rfl, by decide +kernel, by decide +kernel⟩
theorem pf_12_15 : tq_pf 12 15 (.int) := ⟨_, rfl, by decide +kernel, by decide +kernel⟩
theorem pf_12_16 : tq_pf 12 16 (.int) := ⟨_, rfl, by decide +kernel, by decide +kernel⟩
theorem pf_12_12 : tq_pf 12 12 (.int) := ⟨_, rfl, by decide +kernel, by decide +kernel⟩
theorem pf_12_18 : tq_pf 12 18 (.int) := ⟨_, rfl, by decide +kernel, by decide +kernel⟩
theorem pf_12_19 : tq_pf 12 19 (.int) := ⟨_, rfl, by decide +kernel, by decide +kernel⟩
theorem pf_12_20 : tq_pf 12 20 (.int) := ⟨_, rfl, by decide +kernel, by decide +kernel⟩
theorem pf_12_44 : tq_pf 12 44 (.int) := ⟨_, rfl, by decide +kernel, by decide +kernel⟩
theorem pf_12_48 : tq_pf 12 48 (.int) := ⟨_, rfl, by decide +kernel, by decide +kernel⟩
theorem pf_12_52 : tq_pf 12 52 (.int) := ⟨_, rfl, by decide +kernel, by decide +kernel⟩
theorem pf_12_61 : tq_pf 12 61 (.int) := ⟨_, rfl, by decide +kernel, by decide +kernel⟩
theorem pf_12_66 : tq_pf 12 66 (.int) := ⟨_, rfl, by decide +kernel, by decide +kernel⟩
theorem pf_12_67 : tq_pf 12 67 (.int) := ⟨_, rfl, by decide +kernel, by decide +kernel⟩
theorem pf_12_68 : tq_pf 12 68 (.int) := ⟨_, rfl, by decide +kernel, by decide +kernel⟩
theorem pf_12_71 : tq_pf 12 71 (.int) := ⟨_, rfl, by decide +kernel, by decide +kernel⟩
theorem pf_12_73 : tq_pf 12 73 (.int) := ⟨_, rfl, by decide +kernel, by decide +kernel⟩
theorem pf_12_74 : tq_pf 12 74 (.int) := ⟨_, rfl, by decide +kernel, by decide +kernel⟩
abbrev mX0_has : mi_T := (yX0_has, cX0_has, 2, (some .boolean))
theorem mkX0_has : tq_mV mX0_has 1 := ⟨tq_m4 153 rfl rfl, tq_m4 154 rfl rfl, ⟨tq_m1 5 rfl rfl, tq_m4 155 rfl rfl, ⟨by decide +kernel, by decide +kernel, by decide +kernel⟩, by decide⟩⟩
abbrev mX0_of : mi_T := (yX0_of, cX0_of, 3, (some .int))
theorem mkX0_of : tq_mV mX0_of 2 := ⟨tq_m4 157 rfl rfl, tq_m4 158 rfl rfl, ⟨tq_m1 5 rfl rfl, tq_m4 159 rfl rfl, ⟨by decide +kernel, by decide +kernel, by decide +kernel⟩, by decide⟩⟩
abbrev mX0_add : mi_T := (yX0_add, cX0_add, 8, (some .int))
theorem mkX0_add : tq_mV mX0_add 6 := ⟨tq_m4 104 rfl rfl, tq_m4 105 rfl rfl, ⟨tq_m1 5 rfl rfl, tq_m4 106 rfl rfl, ⟨by decide +kernel, by decide +kernel, by decide +kernel⟩, by decide⟩⟩
abbrev mX1_gather : mi_T := (yX1_gather, cX1_gather, 5, none)
theorem mkX1_gather : tq_mV mX1_gather 2 := ⟨tq_m5 22 rfl rfl, tq_m5 23 rfl rfl, ⟨tq_m1 8 rfl rfl, tq_m5 24 rfl rfl, ⟨by decide +kernel, by decide +kernel, by decide +kernel⟩, by decide⟩⟩
abbrev mX1_apart : mi_T := (yX1_apart, cX1_apart, 3, (some .int))
theorem mkX1_apart : tq_mV mX1_apart 0 := ⟨tq_m5 30 rfl rfl, tq_m5 31 rfl rfl, ⟨tq_m1 8 rfl rfl, tq_m5 32 rfl rfl, ⟨by decide +kernel, by decide +kernel, by decide +kernel⟩, by decide⟩⟩
abbrev mX1_all : mi_T := (yX1_all, cX1_all, 1, (some .int))
theorem mkX1_all : tq_mV mX1_all 0 := ⟨tq_m5 45 rfl rfl, tq_m5 46 rfl rfl, ⟨tq_m1 8 rfl rfl, tq_m5 47 rfl rfl, ⟨by decide +kernel, by decide +kernel, by decide +kernel⟩, by decide⟩⟩
abbrev mX1_waysWith : mi_T := (yX1_waysWith, cX1_waysWith, 4, (some .int))
theorem mkX1_waysWith : tq_mV mX1_waysWith 1 := ⟨tq_m5 38 rfl rfl, tq_m5 39 rfl rfl, ⟨tq_m1 8 rfl rfl, tq_m5 40 rfl rfl, ⟨by decide +kernel, by decide +kernel, by decide +kernel⟩, by decide⟩⟩
abbrev mX1_waysFrom : mi_T := (yX1_waysFrom, cX1_waysFrom, 4, (some .int))
theorem mkX1_waysFrom : tq_mS mX1_waysFrom 4 := ⟨tq_m5 42 rfl rfl, ⟨tq_m1 8 rfl rfl, tq_m5 43 rfl rfl, ⟨by decide +kernel, by decide +kernel, by decide +kernel⟩, by decide⟩⟩
abbrev mX1_smallest : mi_T := (yX1_smallest, cX1_smallest, 3, (some .int))
theorem mkX1_smallest : tq_mV mX1_smallest 0 := ⟨tq_m5 93 rfl rfl, tq_m5 94 rfl rfl, ⟨tq_m1 8 rfl rfl, tq_m5 95 rfl rfl, ⟨by decide +kernel, by decide +kernel, by decide +kernel⟩, by decide⟩⟩
abbrev mX2_learn : mi_T := (yX2_learn, cX2_learn, 5, none)
theorem mkX2_learn : tq_mV mX2_learn 3 := ⟨tq_m4 174 rfl rfl, tq_m4 175 rfl rfl, ⟨tq_m1 6 rfl rfl, tq_m4 176 rfl rfl, ⟨by decide +kernel, by decide +kernel, by decide +kernel⟩, by decide⟩⟩
abbrev mX2_clear : mi_T := (yX2_clear, cX2_clear, 1, none)
theorem mkX2_clear : tq_mV mX2_clear 0 := ⟨tq_m4 181 rfl rfl, tq_s3 3 rfl rfl, ⟨tq_m1 6 rfl rfl, tq_m4 182 rfl rfl, ⟨by decide +kernel, by decide +kernel, by decide +kernel⟩, by decide⟩⟩
abbrev mX2_sift : mi_T := (yX2_sift, cX2_sift, 6, none)
theorem mkX2_sift : tq_mV mX2_sift 2 := ⟨tq_m4 186 rfl rfl, tq_s3 4 rfl rfl, ⟨tq_m1 6 rfl rfl, tq_m4 187 rfl rfl, ⟨by decide +kernel, by decide +kernel, by decide +kernel⟩, by decide⟩⟩
abbrev mX2_learnMark : mi_T := (yX2_learnMark, cX2_learnMark, 8, none)
theorem mkX2_learnMark : tq_mV mX2_learnMark 3 := ⟨tq_m4 194 rfl rfl, tq_s3 5 rfl rfl, ⟨tq_m1 6 rfl rfl, tq_m4 195 rfl rfl, ⟨by decide +kernel, by decide +kernel, by decide +kernel⟩, by decide⟩⟩
abbrev mX2_learnGuess : mi_T := (yX2_learnGuess, cX2_learnGuess, 3, none)
theorem mkX2_learnGuess : tq_mV mX2_learnGuess 2 := ⟨tq_m4 200 rfl rfl, tq_s3 6 rfl rfl, ⟨tq_m1 6 rfl rfl, tq_m4 201 rfl rfl, ⟨by decide +kernel, by decide +kernel, by decide +kernel⟩, by decide⟩⟩
abbrev mX2_learnMeans : mi_T := (yX2_learnMeans, cX2_learnMeans, 6, none)
theorem mkX2_learnMeans : tq_mV mX2_learnMeans 1 := ⟨tq_m4 204 rfl rfl, tq_s3 7 rfl rfl, ⟨tq_m1 6 rfl rfl, tq_m4 205 rfl rfl, ⟨by decide +kernel, by decide +kernel, by decide +kernel⟩, by decide⟩⟩
abbrev mX2_hasMean : mi_T := (yX2_hasMean, cX2_hasMean, 2, (some .boolean))
theorem mkX2_hasMean : tq_mV mX2_hasMean 1 := ⟨tq_m5 142 rfl rfl, tq_m5 143 rfl rfl, ⟨tq_m1 6 rfl rfl, tq_m5 144 rfl rfl, ⟨by decide +kernel, by decide +kernel, by decide +kernel⟩, by decide⟩⟩
abbrev mX2_parted : mi_T := (yX2_parted, cX2_parted, 5, (some .int))
theorem mkX2_parted : tq_mV mX2_parted 2 := ⟨tq_m5 150 rfl rfl, tq_m5 151 rfl rfl, ⟨tq_m1 6 rfl rfl, tq_m5 152 rfl rfl, ⟨by decide +kernel, by decide +kernel, by decide +kernel⟩, by decide⟩⟩
abbrev mX2_putRight : mi_T := (yX2_putRight, cX2_putRight, 6, (some .int))
theorem mkX2_putRight : tq_mV mX2_putRight 3 := ⟨tq_m5 123 rfl rfl, tq_m5 124 rfl rfl, ⟨tq_m1 6 rfl rfl, tq_m5 125 rfl rfl, ⟨by decide +kernel, by decide +kernel, by decide +kernel⟩, by decide⟩⟩
abbrev mX2_spotMean : mi_T := (yX2_spotMean, cX2_spotMean, 2, (some .int))
theorem mkX2_spotMean : tq_mV mX2_spotMean 1 := ⟨tq_m5 131 rfl rfl, tq_s3 11 rfl rfl, ⟨tq_m1 6 rfl rfl, tq_m5 132 rfl rfl, ⟨by decide +kernel, by decide +kernel, by decide +kernel⟩, by decide⟩⟩
abbrev mX2_isBlindMark : mi_T := (yX2_isBlindMark, cX2_isBlindMark, 3, (some .boolean))
theorem mkX2_isBlindMark : tq_mS mX2_isBlindMark 3 := ⟨tq_m5 127 rfl rfl, ⟨tq_m1 6 rfl rfl, tq_m5 128 rfl rfl, ⟨by decide +kernel, by decide +kernel, by decide +kernel⟩, by decide⟩⟩
abbrev mX2_above : mi_T := (yX2_above, cX2_above, 8, (some .int))
theorem mkX2_above : tq_mV mX2_above 3 := ⟨tq_m5 174 rfl rfl, tq_m5 175 rfl rfl, ⟨tq_m1 6 rfl rfl, tq_m5 176 rfl rfl, ⟨by decide +kernel, by decide +kernel, by decide +kernel⟩, by decide⟩⟩
abbrev mX2_beatingAll : mi_T := (yX2_beatingAll, cX2_beatingAll, 3, (some .int))
theorem mkX2_beatingAll : tq_mV mX2_beatingAll 1 := ⟨tq_m5 182 rfl rfl, tq_m5 183 rfl rfl, ⟨tq_m1 6 rfl rfl, tq_m5 184 rfl rfl, ⟨by decide +kernel, by decide +kernel, by decide +kernel⟩, by decide⟩⟩
abbrev mX2_beatsOthers : mi_T := (yX2_beatsOthers, cX2_beatsOthers, 4, (some .boolean))
theorem mkX2_beatsOthers : tq_mV mX2_beatsOthers 2 := ⟨tq_m5 187 rfl rfl, tq_s3 14 rfl rfl, ⟨tq_m1 6 rfl rfl, tq_m5 188 rfl rfl, ⟨by decide +kernel, by decide +kernel, by decide +kernel⟩, by decide⟩⟩
abbrev mX3_gather : mi_T := (yX3_gather, cX3_gather, 5, none)
theorem mkX3_gather : tq_mV mX3_gather 2 := ⟨tq_m5 138 rfl rfl, tq_m5 139 rfl rfl, ⟨tq_m1 10 rfl rfl, tq_m5 140 rfl rfl, ⟨by decide +kernel, by decide +kernel, by decide +kernel⟩, by decide⟩⟩
abbrev mX3_gatherTwo : mi_T := (yX3_gatherTwo, cX3_gatherTwo, 6, none)
theorem mkX3_gatherTwo : tq_mV mX3_gatherTwo 3 := ⟨tq_m5 147 rfl rfl, tq_s3 12 rfl rfl, ⟨tq_m1 10 rfl rfl, tq_m5 148 rfl rfl, ⟨by decide +kernel, by decide +kernel, by decide +kernel⟩, by decide⟩⟩
abbrev mX3_ways : mi_T := (yX3_ways, cX3_ways, 1, (some .int))
theorem mkX3_ways : tq_mV mX3_ways 0 := ⟨tq_m5 159 rfl rfl, tq_m5 160 rfl rfl, ⟨tq_m1 10 rfl rfl, tq_m5 161 rfl rfl, ⟨by decide +kernel, by decide +kernel, by decide +kernel⟩, by decide⟩⟩
abbrev mX3_waysFrom : mi_T := (yX3_waysFrom, cX3_waysFrom, 6, (some .int))
theorem mkX3_waysFrom : tq_mS mX3_waysFrom 4 := ⟨tq_m5 163 rfl rfl, ⟨tq_m1 10 rfl rfl, tq_m5 164 rfl rfl, ⟨by decide +kernel, by decide +kernel, by decide +kernel⟩, by decide⟩⟩
abbrev mX3_alikeWithThoseAhead : mi_T := (yX3_alikeWithThoseAhead, cX3_alikeWithThoseAhead, 4, (some .int))
theorem mkX3_alikeWithThoseAhead : tq_mV mX3_alikeWithThoseAhead 1 := ⟨tq_m5 167 rfl rfl, tq_s3 13 rfl rfl, ⟨tq_m1 10 rfl rfl, tq_m5 168 rfl rfl, ⟨by decide +kernel, by decide +kernel, by decide +kernel⟩, by decide⟩⟩
abbrev mX4_find : mi_T := (yX4_find, cX4_find, 11, (some .boolean))
theorem mkX4_find : tq_mV mX4_find 4 := ⟨tq_m5 201 rfl rfl, tq_m5 202 rfl rfl, ⟨tq_m1 11 rfl rfl, tq_m5 203 rfl rfl, ⟨by decide +kernel, by decide +kernel, by decide +kernel⟩, by decide⟩⟩
abbrev mX4_addTry : mi_T := (yX4_addTry, cX4_addTry, 7, none)
theorem mkX4_addTry : tq_mS mX4_addTry 4 := ⟨tq_m5 208 rfl rfl, ⟨tq_m1 11 rfl rfl, tq_m5 209 rfl rfl, ⟨by decide +kernel, by decide +kernel, by decide +kernel⟩, by decide⟩⟩
abbrev mX4_leastBar : mi_T := (yX4_leastBar, cX4_leastBar, 13, (some .int))
theorem mkX4_leastBar : tq_mV mX4_leastBar 4 := ⟨tq_m5 214 rfl rfl, tq_s3 15 rfl rfl, ⟨tq_m1 11 rfl rfl, tq_m5 215 rfl rfl, ⟨by decide +kernel, by decide +kernel, by decide +kernel⟩, by decide⟩⟩
abbrev mX5_append : mi_T := (yX5_append, cX5_append, 3, none)
theorem mkX5_append : tq_mV mX5_append 1 := ⟨tq_m2 181 rfl rfl, tq_m2 182 rfl rfl, ⟨tq_m1 2 rfl rfl, tq_m2 183 rfl rfl, ⟨by decide +kernel, by decide +kernel, by decide +kernel⟩, by decide⟩⟩
abbrev mX5_begin : mi_T := (yX5_begin, cX5_begin, 1, none)
theorem mkX5_begin : tq_mV mX5_begin 0 := ⟨tq_m2 193 rfl rfl, tq_m2 194 rfl rfl, ⟨tq_m1 2 rfl rfl, tq_m2 195 rfl rfl, ⟨by decide +kernel, by decide +kernel, by decide +kernel⟩, by decide⟩⟩
abbrev mX5_hasMore : mi_T := (yX5_hasMore, cX5_hasMore, 1, (some .boolean))
theorem mkX5_hasMore : tq_mV mX5_hasMore 0 := ⟨tq_m3 100 rfl rfl, tq_m3 101 rfl rfl, ⟨tq_m1 2 rfl rfl, tq_m3 102 rfl rfl, ⟨by decide +kernel, by decide +kernel, by decide +kernel⟩, by decide⟩⟩
abbrev mX5_end : mi_T := (yX5_end, cX5_end, 1, (some .int))
theorem mkX5_end : tq_mV mX5_end 0 := ⟨tq_m3 206 rfl rfl, tq_m3 207 rfl rfl, ⟨tq_m1 2 rfl rfl, tq_m3 208 rfl rfl, ⟨by decide +kernel, by decide +kernel, by decide +kernel⟩, by decide⟩⟩
abbrev mX5_scan : mi_T := (yX5_scan, cX5_scan, 4, none)
theorem mkX5_scan : tq_mV mX5_scan 0 := ⟨tq_m2 202 rfl rfl, tq_s1 0 rfl rfl, ⟨tq_m1 2 rfl rfl, tq_m2 203 rfl rfl, ⟨by decide +kernel, by decide +kernel, by decide +kernel⟩, by decide⟩⟩
abbrev mX5_isBlank : mi_T := (yX5_isBlank, cX5_isBlank, 1, (some .boolean))
theorem mkX5_isBlank : tq_mS mX5_isBlank 1 := ⟨tq_m2 205 rfl rfl, ⟨tq_m1 2 rfl rfl, tq_m2 206 rfl rfl, ⟨by decide +kernel, by decide +kernel, by decide +kernel⟩, by decide⟩⟩
abbrev mX5_isLetter : mi_T := (yX5_isLetter, cX5_isLetter, 2, (some .boolean))
theorem mkX5_isLetter : tq_mV mX5_isLetter 1 := ⟨tq_m2 213 rfl rfl, tq_s1 2 rfl rfl, ⟨tq_m1 2 rfl rfl, tq_m2 214 rfl rfl, ⟨by decide +kernel, by decide +kernel, by decide +kernel⟩, by decide⟩⟩
abbrev mX5_isDigit : mi_T := (yX5_isDigit, cX5_isDigit, 2, (some .boolean))
theorem mkX5_isDigit : tq_mV mX5_isDigit 1 := ⟨tq_m2 217 rfl rfl, tq_s1 3 rfl rfl, ⟨tq_m1 2 rfl rfl, tq_m2 218 rfl rfl, ⟨by decide +kernel, by decide +kernel, by decide +kernel⟩, by decide⟩⟩
abbrev mX5_endOf : mi_T := (yX5_endOf, cX5_endOf, 4, (some .int))
theorem mkX5_endOf : tq_mV mX5_endOf 1 := ⟨tq_m2 209 rfl rfl, tq_s1 1 rfl rfl, ⟨tq_m1 2 rfl rfl, tq_m2 210 rfl rfl, ⟨by decide +kernel, by decide +kernel, by decide +kernel⟩, by decide⟩⟩
abbrev mX5_kindOf : mi_T := (yX5_kindOf, cX5_kindOf, 4, (some .int))
theorem mkX5_kindOf : tq_mV mX5_kindOf 2 := ⟨tq_m2 221 rfl rfl, tq_s1 4 rfl rfl, ⟨tq_m1 2 rfl rfl, tq_m2 222 rfl rfl, ⟨by decide +kernel, by decide +kernel, by decide +kernel⟩, by decide⟩⟩
abbrev mX5_wordOf : mi_T := (yX5_wordOf, cX5_wordOf, 4, (some .int))
theorem mkX5_wordOf : tq_mV mX5_wordOf 2 := ⟨tq_m2 225 rfl rfl, tq_s1 5 rfl rfl, ⟨tq_m1 2 rfl rfl, tq_m2 226 rfl rfl, ⟨by decide +kernel, by decide +kernel, by decide +kernel⟩, by decide⟩⟩
abbrev mX5_isWord : mi_T := (yX5_isWord, cX5_isWord, 6, (some .boolean))
theorem mkX5_isWord : tq_mV mX5_isWord 3 := ⟨tq_m2 229 rfl rfl, tq_s1 6 rfl rfl, ⟨tq_m1 2 rfl rfl, tq_m2 230 rfl rfl, ⟨by decide +kernel, by decide +kernel, by decide +kernel⟩, by decide⟩⟩
abbrev mX5_failLater : mi_T := (yX5_failLater, cX5_failLater, 3, none)
theorem mkX5_failLater : tq_mV mX5_failLater 2 := ⟨tq_m3 135 rfl rfl, tq_s1 13 rfl rfl, ⟨tq_m1 2 rfl rfl, tq_m3 136 rfl rfl, ⟨by decide +kernel, by decide +kernel, by decide +kernel⟩, by decide⟩⟩
abbrev mX5_pass : mi_T := (yX5_pass, cX5_pass, 2, (some .boolean))
theorem mkX5_pass : tq_mV mX5_pass 1 := ⟨tq_m3 117 rfl rfl, tq_s1 9 rfl rfl, ⟨tq_m1 2 rfl rfl, tq_m3 118 rfl rfl, ⟨by decide +kernel, by decide +kernel, by decide +kernel⟩, by decide⟩⟩
abbrev mX5_passIf : mi_T := (yX5_passIf, cX5_passIf, 2, (some .boolean))
theorem mkX5_passIf : tq_mV mX5_passIf 1 := ⟨tq_m3 139 rfl rfl, tq_s1 14 rfl rfl, ⟨tq_m1 2 rfl rfl, tq_m3 140 rfl rfl, ⟨by decide +kernel, by decide +kernel, by decide +kernel⟩, by decide⟩⟩
abbrev mX5_passFirst : mi_T := (yX5_passFirst, cX5_passFirst, 3, (some .boolean))
theorem mkX5_passFirst : tq_mV mX5_passFirst 2 := ⟨tq_m3 113 rfl rfl, tq_s1 8 rfl rfl, ⟨tq_m1 2 rfl rfl, tq_m3 114 rfl rfl, ⟨by decide +kernel, by decide +kernel, by decide +kernel⟩, by decide⟩⟩
abbrev mX5_takeTell : mi_T := (yX5_takeTell, cX5_takeTell, 1, none)
theorem mkX5_takeTell : tq_mV mX5_takeTell 0 := ⟨tq_m3 104 rfl rfl, tq_m3 105 rfl rfl, ⟨tq_m1 2 rfl rfl, tq_m3 106 rfl rfl, ⟨by decide +kernel, by decide +kernel, by decide +kernel⟩, by decide⟩⟩
abbrev mX5_takeFiddle : mi_T := (yX5_takeFiddle, cX5_takeFiddle, 5, none)
theorem mkX5_takeFiddle : tq_mV mX5_takeFiddle 0 := ⟨tq_m3 109 rfl rfl, tq_s1 7 rfl rfl, ⟨tq_m1 2 rfl rfl, tq_m3 110 rfl rfl, ⟨by decide +kernel, by decide +kernel, by decide +kernel⟩, by decide⟩⟩
abbrev mX5_takePerson : mi_T := (yX5_takePerson, cX5_takePerson, 5, none)
theorem mkX5_takePerson : tq_mV mX5_takePerson 1 := ⟨tq_m3 147 rfl rfl, tq_s2 0 rfl rfl, ⟨tq_m1 2 rfl rfl, tq_m3 148 rfl rfl, ⟨by decide +kernel, by decide +kernel, by decide +kernel⟩, by decide⟩⟩
abbrev mX5_takeBow : mi_T := (yX5_takeBow, cX5_takeBow, 5, none)
theorem mkX5_takeBow : tq_mV mX5_takeBow 0 := ⟨tq_m3 151 rfl rfl, tq_s2 1 rfl rfl, ⟨tq_m1 2 rfl rfl, tq_m3 152 rfl rfl, ⟨by decide +kernel, by decide +kernel, by decide +kernel⟩, by decide⟩⟩
abbrev mX5_takeLaw : mi_T := (yX5_takeLaw, cX5_takeLaw, 2, none)
theorem mkX5_takeLaw : tq_mV mX5_takeLaw 0 := ⟨tq_m3 155 rfl rfl, tq_s2 2 rfl rfl, ⟨tq_m1 2 rfl rfl, tq_m3 156 rfl rfl, ⟨by decide +kernel, by decide +kernel, by decide +kernel⟩, by decide⟩⟩
abbrev mX5_takePlan : mi_T := (yX5_takePlan, cX5_takePlan, 3, none)
theorem mkX5_takePlan : tq_mV mX5_takePlan 0 := ⟨tq_m3 191 rfl rfl, tq_s2 11 rfl rfl, ⟨tq_m1 2 rfl rfl, tq_m3 192 rfl rfl, ⟨by decide +kernel, by decide +kernel, by decide +kernel⟩, by decide⟩⟩
abbrev mX5_takeSit : mi_T := (yX5_takeSit, cX5_takeSit, 5, none)
theorem mkX5_takeSit : tq_mV mX5_takeSit 1 := ⟨tq_m3 195 rfl rfl, tq_s2 12 rfl rfl, ⟨tq_m1 2 rfl rfl, tq_m3 196 rfl rfl, ⟨by decide +kernel, by decide +kernel, by decide +kernel⟩, by decide⟩⟩
abbrev mX5_takeOrdered : mi_T := (yX5_takeOrdered, cX5_takeOrdered, 6, none)
theorem mkX5_takeOrdered : tq_mV mX5_takeOrdered 1 := ⟨tq_m3 203 rfl rfl, tq_s2 14 rfl rfl, ⟨tq_m1 2 rfl rfl, tq_m3 204 rfl rfl, ⟨by decide +kernel, by decide +kernel, by decide +kernel⟩, by decide⟩⟩
abbrev mX5_takeInt : mi_T := (yX5_takeInt, cX5_takeInt, 5, (some .int))
theorem mkX5_takeInt : tq_mV mX5_takeInt 1 := ⟨tq_m3 143 rfl rfl, tq_s1 15 rfl rfl, ⟨tq_m1 2 rfl rfl, tq_m3 144 rfl rfl, ⟨by decide +kernel, by decide +kernel, by decide +kernel⟩, by decide⟩⟩
abbrev mX5_keyAt : mi_T := (yX5_keyAt, cX5_keyAt, 5, (some .long))
theorem mkX5_keyAt : tq_mV mX5_keyAt 1 := ⟨tq_m3 125 rfl rfl, tq_s1 11 rfl rfl, ⟨tq_m1 2 rfl rfl, tq_m3 126 rfl rfl, ⟨by decide +kernel, by decide +kernel, by decide +kernel⟩, by decide⟩⟩
abbrev mX5_nameOf : mi_T := (yX5_nameOf, cX5_nameOf, 4, (some .int))
theorem mkX5_nameOf : tq_mV mX5_nameOf 1 := ⟨tq_m3 131 rfl rfl, tq_s1 12 rfl rfl, ⟨tq_m1 2 rfl rfl, tq_m3 132 rfl rfl, ⟨by decide +kernel, by decide +kernel, by decide +kernel⟩, by decide⟩⟩
abbrev mX5_takeNewName : mi_T := (yX5_takeNewName, cX5_takeNewName, 6, none)
theorem mkX5_takeNewName : tq_mV mX5_takeNewName 2 := ⟨tq_m3 121 rfl rfl, tq_s1 10 rfl rfl, ⟨tq_m1 2 rfl rfl, tq_m3 122 rfl rfl, ⟨by decide +kernel, by decide +kernel, by decide +kernel⟩, by decide⟩⟩
abbrev mX5_takeToldName : mi_T := (yX5_takeToldName, cX5_takeToldName, 4, (some .int))
theorem mkX5_takeToldName : tq_mV mX5_takeToldName 1 := ⟨tq_m3 199 rfl rfl, tq_s2 13 rfl rfl, ⟨tq_m1 2 rfl rfl, tq_m3 200 rfl rfl, ⟨by decide +kernel, by decide +kernel, by decide +kernel⟩, by decide⟩⟩
abbrev mX5_takeExpression : mi_T := (yX5_takeExpression, cX5_takeExpression, 3, none)
theorem mkX5_takeExpression : tq_mV mX5_takeExpression 0 := ⟨tq_m3 159 rfl rfl, tq_s2 3 rfl rfl, ⟨tq_m1 2 rfl rfl, tq_m3 160 rfl rfl, ⟨by decide +kernel, by decide +kernel, by decide +kernel⟩, by decide⟩⟩
abbrev mX5_startUnit : mi_T := (yX5_startUnit, cX5_startUnit, 2, none)
theorem mkX5_startUnit : tq_mV mX5_startUnit 0 := ⟨tq_m3 163 rfl rfl, tq_s2 4 rfl rfl, ⟨tq_m1 2 rfl rfl, tq_m3 164 rfl rfl, ⟨by decide +kernel, by decide +kernel, by decide +kernel⟩, by decide⟩⟩
abbrev mX5_goOn : mi_T := (yX5_goOn, cX5_goOn, 2, (some .boolean))
theorem mkX5_goOn : tq_mV mX5_goOn 0 := ⟨tq_m3 175 rfl rfl, tq_s2 7 rfl rfl, ⟨tq_m1 2 rfl rfl, tq_m3 176 rfl rfl, ⟨by decide +kernel, by decide +kernel, by decide +kernel⟩, by decide⟩⟩
abbrev mX5_join : mi_T := (yX5_join, cX5_join, 2, (some .boolean))
theorem mkX5_join : tq_mV mX5_join 1 := ⟨tq_m3 183 rfl rfl, tq_s2 9 rfl rfl, ⟨tq_m1 2 rfl rfl, tq_m3 184 rfl rfl, ⟨by decide +kernel, by decide +kernel, by decide +kernel⟩, by decide⟩⟩
abbrev mX5_closeOrCompare : mi_T := (yX5_closeOrCompare, cX5_closeOrCompare, 3, (some .boolean))
theorem mkX5_closeOrCompare : tq_mV mX5_closeOrCompare 1 := ⟨tq_m3 187 rfl rfl, tq_s2 10 rfl rfl, ⟨tq_m1 2 rfl rfl, tq_m3 188 rfl rfl, ⟨by decide +kernel, by decide +kernel, by decide +kernel⟩, by decide⟩⟩
abbrev mX5_hold : mi_T := (yX5_hold, cX5_hold, 2, none)
theorem mkX5_hold : tq_mV mX5_hold 1 := ⟨tq_m3 167 rfl rfl, tq_s2 5 rfl rfl, ⟨tq_m1 2 rfl rfl, tq_m3 168 rfl rfl, ⟨by decide +kernel, by decide +kernel, by decide +kernel⟩, by decide⟩⟩
abbrev mX5_settle : mi_T := (yX5_settle, cX5_settle, 3, none)
theorem mkX5_settle : tq_mV mX5_settle 2 := ⟨tq_m3 179 rfl rfl, tq_s2 8 rfl rfl, ⟨tq_m1 2 rfl rfl, tq_m3 180 rfl rfl, ⟨by decide +kernel, by decide +kernel, by decide +kernel⟩, by decide⟩⟩
abbrev mX5_write : mi_T := (yX5_write, cX5_write, 2, none)
theorem mkX5_write : tq_mV mX5_write 1 := ⟨tq_m3 171 rfl rfl, tq_s2 6 rfl rfl, ⟨tq_m1 2 rfl rfl, tq_m3 172 rfl rfl, ⟨by decide +kernel, by decide +kernel, by decide +kernel⟩, by decide⟩⟩
abbrev mX6_gather : mi_T := (yX6_gather, cX6_gather, 4, none)
theorem mkX6_gather : tq_mV mX6_gather 2 := ⟨tq_m4 238 rfl rfl, tq_m4 239 rfl rfl, ⟨tq_m1 7 rfl rfl, tq_m5 0 rfl rfl, ⟨by decide +kernel, by decide +kernel, by decide +kernel⟩, by decide⟩⟩
abbrev mX6_ways : mi_T := (yX6_ways, cX6_ways, 1, (some .int))
theorem mkX6_ways : tq_mV mX6_ways 0 := ⟨tq_m5 10 rfl rfl, tq_m5 11 rfl rfl, ⟨tq_m1 7 rfl rfl, tq_m5 12 rfl rfl, ⟨by decide +kernel, by decide +kernel, by decide +kernel⟩, by decide⟩⟩
abbrev mX6_waysFrom : mi_T := (yX6_waysFrom, cX6_waysFrom, 6, (some .int))
theorem mkX6_waysFrom : tq_mS mX6_waysFrom 4 := ⟨tq_m5 14 rfl rfl, ⟨tq_m1 7 rfl rfl, tq_m5 15 rfl rfl, ⟨by decide +kernel, by decide +kernel, by decide +kernel⟩, by decide⟩⟩
abbrev mX7_meet : mi_T := (yX7_meet, cX7_meet, 6, none)
theorem mkX7_meet : tq_mV mX7_meet 4 := ⟨tq_m4 30 rfl rfl, tq_m4 31 rfl rfl, ⟨tq_m1 4 rfl rfl, tq_m4 32 rfl rfl, ⟨by decide +kernel, by decide +kernel, by decide +kernel⟩, by decide⟩⟩
abbrev mX7_attend : mi_T := (yX7_attend, cX7_attend, 4, none)
theorem mkX7_attend : tq_mV mX7_attend 3 := ⟨tq_m4 35 rfl rfl, tq_m4 36 rfl rfl, ⟨tq_m1 4 rfl rfl, tq_m4 37 rfl rfl, ⟨by decide +kernel, by decide +kernel, by decide +kernel⟩, by decide⟩⟩
abbrev mX7_seat : mi_T := (yX7_seat, cX7_seat, 6, none)
theorem mkX7_seat : tq_mV mX7_seat 5 := ⟨tq_m4 64 rfl rfl, tq_m4 65 rfl rfl, ⟨tq_m1 4 rfl rfl, tq_m4 66 rfl rfl, ⟨by decide +kernel, by decide +kernel, by decide +kernel⟩, by decide⟩⟩
abbrev mX7_noiseOf : mi_T := (yX7_noiseOf, cX7_noiseOf, 3, (some .int))
theorem mkX7_noiseOf : tq_mS mX7_noiseOf 2 := ⟨tq_m4 69 rfl rfl, ⟨tq_m1 4 rfl rfl, tq_m4 70 rfl rfl, ⟨by decide +kernel, by decide +kernel, by decide +kernel⟩, by decide⟩⟩
abbrev mX7_stirred : mi_T := (yX7_stirred, cX7_stirred, 3, (some .int))
theorem mkX7_stirred : tq_mS mX7_stirred 2 := ⟨tq_m4 72 rfl rfl, ⟨tq_m1 4 rfl rfl, tq_m4 73 rfl rfl, ⟨by decide +kernel, by decide +kernel, by decide +kernel⟩, by decide⟩⟩
abbrev mX7_like : mi_T := (yX7_like, cX7_like, 9, (some .int))
theorem mkX7_like : tq_mV mX7_like 2 := ⟨tq_m4 39 rfl rfl, tq_m4 40 rfl rfl, ⟨tq_m1 4 rfl rfl, tq_m4 41 rfl rfl, ⟨by decide +kernel, by decide +kernel, by decide +kernel⟩, by decide⟩⟩
abbrev mX7_joined : mi_T := (yX7_joined, cX7_joined, 3, (some .int))
theorem mkX7_joined : tq_mS mX7_joined 3 := ⟨tq_m4 52 rfl rfl, ⟨tq_m1 4 rfl rfl, tq_m4 53 rfl rfl, ⟨by decide +kernel, by decide +kernel, by decide +kernel⟩, by decide⟩⟩
abbrev mX7_reach : mi_T := (yX7_reach, cX7_reach, 6, (some .int))
theorem mkX7_reach : tq_mS mX7_reach 4 := ⟨tq_m4 116 rfl rfl, ⟨tq_m1 4 rfl rfl, tq_m4 117 rfl rfl, ⟨by decide +kernel, by decide +kernel, by decide +kernel⟩, by decide⟩⟩
abbrev mX7_extreme : mi_T := (yX7_extreme, cX7_extreme, 14, (some .int))
theorem mkX7_extreme : tq_mV mX7_extreme 4 := ⟨tq_m4 112 rfl rfl, tq_m4 113 rfl rfl, ⟨tq_m1 4 rfl rfl, tq_m4 114 rfl rfl, ⟨by decide +kernel, by decide +kernel, by decide +kernel⟩, by decide⟩⟩
abbrev mX7_extremeOfQuick : mi_T := (yX7_extremeOfQuick, cX7_extremeOfQuick, 9, (some .int))
theorem mkX7_extremeOfQuick : tq_mV mX7_extremeOfQuick 4 := ⟨tq_m4 122 rfl rfl, tq_s3 0 rfl rfl, ⟨tq_m1 4 rfl rfl, tq_m4 123 rfl rfl, ⟨by decide +kernel, by decide +kernel, by decide +kernel⟩, by decide⟩⟩
abbrev mX7_choice : mi_T := (yX7_choice, cX7_choice, 10, (some .int))
theorem mkX7_choice : tq_mV mX7_choice 5 := ⟨tq_m4 59 rfl rfl, tq_m4 60 rfl rfl, ⟨tq_m1 4 rfl rfl, tq_m4 61 rfl rfl, ⟨by decide +kernel, by decide +kernel, by decide +kernel⟩, by decide⟩⟩
abbrev mX7_unlike : mi_T := (yX7_unlike, cX7_unlike, 8, (some .int))
theorem mkX7_unlike : tq_mV mX7_unlike 5 := ⟨tq_m5 221 rfl rfl, tq_m5 222 rfl rfl, ⟨tq_m1 4 rfl rfl, tq_m5 223 rfl rfl, ⟨by decide +kernel, by decide +kernel, by decide +kernel⟩, by decide⟩⟩
abbrev mX8_clear : mi_T := (yX8_clear, cX8_clear, 1, none)
theorem mkX8_clear : tq_mV mX8_clear 0 := ⟨tq_m2 197 rfl rfl, tq_m2 198 rfl rfl, ⟨tq_m1 3 rfl rfl, tq_m2 199 rfl rfl, ⟨by decide +kernel, by decide +kernel, by decide +kernel⟩, by decide⟩⟩
abbrev mX8_hasFiddle : mi_T := (yX8_hasFiddle, cX8_hasFiddle, 2, (some .boolean))
theorem mkX8_hasFiddle : tq_mV mX8_hasFiddle 1 := ⟨tq_m3 218 rfl rfl, tq_m3 219 rfl rfl, ⟨tq_m1 3 rfl rfl, tq_m3 220 rfl rfl, ⟨by decide +kernel, by decide +kernel, by decide +kernel⟩, by decide⟩⟩
abbrev mX8_hasPerson : mi_T := (yX8_hasPerson, cX8_hasPerson, 2, (some .boolean))
theorem mkX8_hasPerson : tq_mV mX8_hasPerson 1 := ⟨tq_m3 226 rfl rfl, tq_m3 227 rfl rfl, ⟨tq_m1 3 rfl rfl, tq_m3 228 rfl rfl, ⟨by decide +kernel, by decide +kernel, by decide +kernel⟩, by decide⟩⟩
abbrev mX8_hasBow : mi_T := (yX8_hasBow, cX8_hasBow, 2, (some .boolean))
theorem mkX8_hasBow : tq_mV mX8_hasBow 1 := ⟨tq_m4 25 rfl rfl, tq_m4 26 rfl rfl, ⟨tq_m1 3 rfl rfl, tq_m4 27 rfl rfl, ⟨by decide +kernel, by decide +kernel, by decide +kernel⟩, by decide⟩⟩
abbrev mX8_hasLaw : mi_T := (yX8_hasLaw, cX8_hasLaw, 2, (some .boolean))
theorem mkX8_hasLaw : tq_mV mX8_hasLaw 1 := ⟨tq_m4 15 rfl rfl, tq_m4 16 rfl rfl, ⟨tq_m1 3 rfl rfl, tq_m4 17 rfl rfl, ⟨by decide +kernel, by decide +kernel, by decide +kernel⟩, by decide⟩⟩
abbrev mX8_hasPlan : mi_T := (yX8_hasPlan, cX8_hasPlan, 2, (some .boolean))
theorem mkX8_hasPlan : tq_mV mX8_hasPlan 1 := ⟨tq_m4 2 rfl rfl, tq_m4 3 rfl rfl, ⟨tq_m1 3 rfl rfl, tq_m4 4 rfl rfl, ⟨by decide +kernel, by decide +kernel, by decide +kernel⟩, by decide⟩⟩
abbrev mX8_hasSitting : mi_T := (yX8_hasSitting, cX8_hasSitting, 3, (some .boolean))
theorem mkX8_hasSitting : tq_mV mX8_hasSitting 2 := ⟨tq_m3 234 rfl rfl, tq_m3 235 rfl rfl, ⟨tq_m1 3 rfl rfl, tq_m3 236 rfl rfl, ⟨by decide +kernel, by decide +kernel, by decide +kernel⟩, by decide⟩⟩
abbrev mX8_hasMeeting : mi_T := (yX8_hasMeeting, cX8_hasMeeting, 4, (some .boolean))
theorem mkX8_hasMeeting : tq_mV mX8_hasMeeting 3 := ⟨tq_m4 19 rfl rfl, tq_m4 20 rfl rfl, ⟨tq_m1 3 rfl rfl, tq_m4 21 rfl rfl, ⟨by decide +kernel, by decide +kernel, by decide +kernel⟩, by decide⟩⟩
abbrev mX8_isOld : mi_T := (yX8_isOld, cX8_isOld, 2, (some .boolean))
theorem mkX8_isOld : tq_mV mX8_isOld 1 := ⟨tq_m4 84 rfl rfl, tq_m4 85 rfl rfl, ⟨tq_m1 3 rfl rfl, tq_m4 86 rfl rfl, ⟨by decide +kernel, by decide +kernel, by decide +kernel⟩, by decide⟩⟩
abbrev mX8_isPlayer : mi_T := (yX8_isPlayer, cX8_isPlayer, 2, (some .boolean))
theorem mkX8_isPlayer : tq_mV mX8_isPlayer 1 := ⟨tq_m4 137 rfl rfl, tq_m4 138 rfl rfl, ⟨tq_m1 3 rfl rfl, tq_m4 139 rfl rfl, ⟨by decide +kernel, by decide +kernel, by decide +kernel⟩, by decide⟩⟩
abbrev mX8_sits : mi_T := (yX8_sits, cX8_sits, 2, (some .int))
theorem mkX8_sits : tq_mV mX8_sits 1 := ⟨tq_m3 238 rfl rfl, tq_m3 239 rfl rfl, ⟨tq_m1 3 rfl rfl, tq_m4 0 rfl rfl, ⟨by decide +kernel, by decide +kernel, by decide +kernel⟩, by decide⟩⟩
abbrev mX8_sat : mi_T := (yX8_sat, cX8_sat, 4, (some .int))
theorem mkX8_sat : tq_mV mX8_sat 3 := ⟨tq_m4 6 rfl rfl, tq_m4 7 rfl rfl, ⟨tq_m1 3 rfl rfl, tq_m4 8 rfl rfl, ⟨by decide +kernel, by decide +kernel, by decide +kernel⟩, by decide⟩⟩
abbrev mX8_lawStart : mi_T := (yX8_lawStart, cX8_lawStart, 2, (some .int))
theorem mkX8_lawStart : tq_mV mX8_lawStart 1 := ⟨tq_m4 48 rfl rfl, tq_m4 49 rfl rfl, ⟨tq_m1 3 rfl rfl, tq_m4 50 rfl rfl, ⟨by decide +kernel, by decide +kernel, by decide +kernel⟩, by decide⟩⟩
abbrev mX8_lawEnd : mi_T := (yX8_lawEnd, cX8_lawEnd, 2, (some .int))
theorem mkX8_lawEnd : tq_mV mX8_lawEnd 1 := ⟨tq_m4 43 rfl rfl, tq_m4 44 rfl rfl, ⟨tq_m1 3 rfl rfl, tq_m4 45 rfl rfl, ⟨by decide +kernel, by decide +kernel, by decide +kernel⟩, by decide⟩⟩
abbrev mX8_factsOf : mi_T := (yX8_factsOf, cX8_factsOf, 5, (some .int))
theorem mkX8_factsOf : tq_mV mX8_factsOf 1 := ⟨tq_m4 92 rfl rfl, tq_m4 93 rfl rfl, ⟨tq_m1 3 rfl rfl, tq_m4 94 rfl rfl, ⟨by decide +kernel, by decide +kernel, by decide +kernel⟩, by decide⟩⟩
abbrev mX9_clear : mi_T := (yX9_clear, cX9_clear, 1, none)
theorem mkX9_clear : tq_mV mX9_clear 0 := ⟨tq_m5 59 rfl rfl, tq_s3 8 rfl rfl, ⟨tq_m1 9 rfl rfl, tq_m5 60 rfl rfl, ⟨by decide +kernel, by decide +kernel, by decide +kernel⟩, by decide⟩⟩
abbrev mX9_add : mi_T := (yX9_add, cX9_add, 2, none)
theorem mkX9_add : tq_mV mX9_add 1 := ⟨tq_m5 69 rfl rfl, tq_s3 10 rfl rfl, ⟨tq_m1 9 rfl rfl, tq_m5 70 rfl rfl, ⟨by decide +kernel, by decide +kernel, by decide +kernel⟩, by decide⟩⟩
abbrev mX9_gatherPlayers : mi_T := (yX9_gatherPlayers, cX9_gatherPlayers, 4, none)
theorem mkX9_gatherPlayers : tq_mV mX9_gatherPlayers 2 := ⟨tq_m5 54 rfl rfl, tq_m5 55 rfl rfl, ⟨tq_m1 9 rfl rfl, tq_m5 56 rfl rfl, ⟨by decide +kernel, by decide +kernel, by decide +kernel⟩, by decide⟩⟩
abbrev mX9_gatherPlayer : mi_T := (yX9_gatherPlayer, cX9_gatherPlayer, 10, none)
theorem mkX9_gatherPlayer : tq_mV mX9_gatherPlayer 3 := ⟨tq_m5 64 rfl rfl, tq_s3 9 rfl rfl, ⟨tq_m1 9 rfl rfl, tq_m5 65 rfl rfl, ⟨by decide +kernel, by decide +kernel, by decide +kernel⟩, by decide⟩⟩
abbrev mX9_gatherKnowing : mi_T := (yX9_gatherKnowing, cX9_gatherKnowing, 6, none)
theorem mkX9_gatherKnowing : tq_mV mX9_gatherKnowing 2 := ⟨tq_m5 107 rfl rfl, tq_m5 108 rfl rfl, ⟨tq_m1 9 rfl rfl, tq_m5 109 rfl rfl, ⟨by decide +kernel, by decide +kernel, by decide +kernel⟩, by decide⟩⟩
abbrev mX9_sum : mi_T := (yX9_sum, cX9_sum, 3, (some .int))
theorem mkX9_sum : tq_mV mX9_sum 0 := ⟨tq_m5 72 rfl rfl, tq_m5 73 rfl rfl, ⟨tq_m1 9 rfl rfl, tq_m5 74 rfl rfl, ⟨by decide +kernel, by decide +kernel, by decide +kernel⟩, by decide⟩⟩
abbrev mX9_ways : mi_T := (yX9_ways, cX9_ways, 4, (some .int))
theorem mkX9_ways : tq_mV mX9_ways 0 := ⟨tq_m5 80 rfl rfl, tq_m5 81 rfl rfl, ⟨tq_m1 9 rfl rfl, tq_m5 82 rfl rfl, ⟨by decide +kernel, by decide +kernel, by decide +kernel⟩, by decide⟩⟩
abbrev mX9_waysFrom : mi_T := (yX9_waysFrom, cX9_waysFrom, 8, (some .int))
theorem mkX9_waysFrom : tq_mS mX9_waysFrom 5 := ⟨tq_m5 86 rfl rfl, ⟨tq_m1 9 rfl rfl, tq_m5 87 rfl rfl, ⟨by decide +kernel, by decide +kernel, by decide +kernel⟩, by decide⟩⟩
abbrev mX10_isRare : mi_T := (yX10_isRare, cX10_isRare, 4, (some .boolean))
theorem mkX10_isRare : tq_mS mX10_isRare 2 := ⟨tq_m5 99 rfl rfl, ⟨tq_m1 20 rfl rfl, tq_m5 100 rfl rfl, ⟨by decide +kernel, by decide +kernel, by decide +kernel⟩, by decide⟩⟩
abbrev mX10_choose : mi_T := (yX10_choose, cX10_choose, 5, (some .long))
theorem mkX10_choose : tq_mS mX10_choose 2 := ⟨tq_m4 223 rfl rfl, ⟨tq_m1 20 rfl rfl, tq_m4 224 rfl rfl, ⟨by decide +kernel, by decide +kernel, by decide +kernel⟩, by decide⟩⟩
abbrev mX10_orMoreHeads : mi_T := (yX10_orMoreHeads, cX10_orMoreHeads, 5, (some .long))
theorem mkX10_orMoreHeads : tq_mS mX10_orMoreHeads 2 := ⟨tq_m4 220 rfl rfl, ⟨tq_m1 20 rfl rfl, tq_m4 221 rfl rfl, ⟨by decide +kernel, by decide +kernel, by decide +kernel⟩, by decide⟩⟩
abbrev mX10_orMoreTaken : mi_T := (yX10_orMoreTaken, cX10_orMoreTaken, 7, (some .long))
theorem mkX10_orMoreTaken : tq_mS mX10_orMoreTaken 4 := ⟨tq_m4 231 rfl rfl, ⟨tq_m1 20 rfl rfl, tq_m4 232 rfl rfl, ⟨by decide +kernel, by decide +kernel, by decide +kernel⟩, by decide⟩⟩
abbrev mX10_orders : mi_T := (yX10_orders, cX10_orders, 3, (some .int))
theorem mkX10_orders : tq_mS mX10_orders 1 := ⟨tq_m6 12 rfl rfl, ⟨tq_m1 20 rfl rfl, tq_m6 13 rfl rfl, ⟨by decide +kernel, by decide +kernel, by decide +kernel⟩, by decide⟩⟩
abbrev mX10_commonMultiple : mi_T := (yX10_commonMultiple, cX10_commonMultiple, 4, (some .int))
theorem mkX10_commonMultiple : tq_mS mX10_commonMultiple 2 := ⟨tq_m5 26 rfl rfl, ⟨tq_m1 20 rfl rfl, tq_m5 27 rfl rfl, ⟨by decide +kernel, by decide +kernel, by decide +kernel⟩, by decide⟩⟩
abbrev mX11_feed : mi_T := (yX11_feed, cX11_feed, 6, (some .int))
theorem mkX11_feed : tq_mV mX11_feed 5 := ⟨tq_m2 177 rfl rfl, tq_m2 178 rfl rfl, ⟨tq_m1 1 rfl rfl, tq_m2 179 rfl rfl, ⟨by decide +kernel, by decide +kernel, by decide +kernel⟩, by decide⟩⟩
abbrev mX11_back : mi_T := (yX11_back, cX11_back, 2, (some .int))
theorem mkX11_back : tq_mV mX11_back 1 := ⟨tq_m2 185 rfl rfl, tq_m2 186 rfl rfl, ⟨tq_m1 1 rfl rfl, tq_m2 187 rfl rfl, ⟨by decide +kernel, by decide +kernel, by decide +kernel⟩, by decide⟩⟩
abbrev mX11_read : mi_T := (yX11_read, cX11_read, 3, (some .int))
theorem mkX11_read : tq_mV mX11_read 0 := ⟨tq_m2 189 rfl rfl, tq_m2 190 rfl rfl, ⟨tq_m1 1 rfl rfl, tq_m2 191 rfl rfl, ⟨by decide +kernel, by decide +kernel, by decide +kernel⟩, by decide⟩⟩
abbrev mX11_place : mi_T := (yX11_place, cX11_place, 1, (some .int))
theorem mkX11_place : tq_mV mX11_place 0 := ⟨tq_m3 210 rfl rfl, tq_m3 211 rfl rfl, ⟨tq_m1 1 rfl rfl, tq_m3 212 rfl rfl, ⟨by decide +kernel, by decide +kernel, by decide +kernel⟩, by decide⟩⟩
abbrev mX11_fiddle : mi_T := (yX11_fiddle, cX11_fiddle, 3, (some .int))
theorem mkX11_fiddle : tq_mV mX11_fiddle 2 := ⟨tq_m3 214 rfl rfl, tq_m3 215 rfl rfl, ⟨tq_m1 1 rfl rfl, tq_m3 216 rfl rfl, ⟨by decide +kernel, by decide +kernel, by decide +kernel⟩, by decide⟩⟩
abbrev mX11_person : mi_T := (yX11_person, cX11_person, 3, (some .int))
theorem mkX11_person : tq_mV mX11_person 2 := ⟨tq_m3 222 rfl rfl, tq_m3 223 rfl rfl, ⟨tq_m1 1 rfl rfl, tq_m3 224 rfl rfl, ⟨by decide +kernel, by decide +kernel, by decide +kernel⟩, by decide⟩⟩
abbrev mX11_sitting : mi_T := (yX11_sitting, cX11_sitting, 4, (some .int))
theorem mkX11_sitting : tq_mV mX11_sitting 3 := ⟨tq_m3 230 rfl rfl, tq_m3 231 rfl rfl, ⟨tq_m1 1 rfl rfl, tq_m3 232 rfl rfl, ⟨by decide +kernel, by decide +kernel, by decide +kernel⟩, by decide⟩⟩
abbrev mX11_liking : mi_T := (yX11_liking, cX11_liking, 8, (some .int))
theorem mkX11_liking : tq_mV mX11_liking 7 := ⟨tq_m4 11 rfl rfl, tq_m4 12 rfl rfl, ⟨tq_m1 1 rfl rfl, tq_m4 13 rfl rfl, ⟨by decide +kernel, by decide +kernel, by decide +kernel⟩, by decide⟩⟩
abbrev mX11_taken : mi_T := (yX11_taken, cX11_taken, 5, (some .int))
theorem mkX11_taken : tq_mV mX11_taken 4 := ⟨tq_m4 55 rfl rfl, tq_m4 56 rfl rfl, ⟨tq_m1 1 rfl rfl, tq_m4 57 rfl rfl, ⟨by decide +kernel, by decide +kernel, by decide +kernel⟩, by decide⟩⟩
abbrev mX11_takes : mi_T := (yX11_takes, cX11_takes, 8, (some .int))
theorem mkX11_takes : tq_mV mX11_takes 4 := ⟨tq_m4 78 rfl rfl, tq_m4 79 rfl rfl, ⟨tq_m1 1 rfl rfl, tq_m4 80 rfl rfl, ⟨by decide +kernel, by decide +kernel, by decide +kernel⟩, by decide⟩⟩
abbrev mX11_run : mi_T := (yX11_run, cX11_run, 8, (some .int))
theorem mkX11_run : tq_mV mX11_run 4 := ⟨tq_m4 88 rfl rfl, tq_m4 89 rfl rfl, ⟨tq_m1 1 rfl rfl, tq_m4 90 rfl rfl, ⟨by decide +kernel, by decide +kernel, by decide +kernel⟩, by decide⟩⟩
abbrev mX11_answer : mi_T := (yX11_answer, cX11_answer, 9, none)
theorem mkX11_answer : tq_mV mX11_answer 5 := ⟨tq_m4 99 rfl rfl, tq_s2 15 rfl rfl, ⟨tq_m1 1 rfl rfl, tq_m4 100 rfl rfl, ⟨by decide +kernel, by decide +kernel, by decide +kernel⟩, by decide⟩⟩
abbrev mX11_touch : mi_T := (yX11_touch, cX11_touch, 7, (some .int))
theorem mkX11_touch : tq_mV mX11_touch 6 := ⟨tq_m4 108 rfl rfl, tq_m4 109 rfl rfl, ⟨tq_m1 1 rfl rfl, tq_m4 110 rfl rfl, ⟨by decide +kernel, by decide +kernel, by decide +kernel⟩, by decide⟩⟩
abbrev mX11_gains : mi_T := (yX11_gains, cX11_gains, 10, (some .long))
theorem mkX11_gains : tq_mV mX11_gains 4 := ⟨tq_m4 127 rfl rfl, tq_m4 128 rfl rfl, ⟨tq_m1 1 rfl rfl, tq_m4 129 rfl rfl, ⟨by decide +kernel, by decide +kernel, by decide +kernel⟩, by decide⟩⟩
abbrev mX11_gainsOn : mi_T := (yX11_gainsOn, cX11_gainsOn, 10, (some .long))
theorem mkX11_gainsOn : tq_mV mX11_gainsOn 4 := ⟨tq_m4 134 rfl rfl, tq_s3 1 rfl rfl, ⟨tq_m1 1 rfl rfl, tq_m4 135 rfl rfl, ⟨by decide +kernel, by decide +kernel, by decide +kernel⟩, by decide⟩⟩
abbrev mX11_mark : mi_T := (yX11_mark, cX11_mark, 6, (some .int))
theorem mkX11_mark : tq_mV mX11_mark 5 := ⟨tq_m4 141 rfl rfl, tq_m4 142 rfl rfl, ⟨tq_m1 1 rfl rfl, tq_m4 143 rfl rfl, ⟨by decide +kernel, by decide +kernel, by decide +kernel⟩, by decide⟩⟩
abbrev mX11_guess : mi_T := (yX11_guess, cX11_guess, 4, (some .int))
theorem mkX11_guess : tq_mV mX11_guess 3 := ⟨tq_m4 145 rfl rfl, tq_m4 146 rfl rfl, ⟨tq_m1 1 rfl rfl, tq_m4 147 rfl rfl, ⟨by decide +kernel, by decide +kernel, by decide +kernel⟩, by decide⟩⟩
abbrev mX11_annul : mi_T := (yX11_annul, cX11_annul, 2, (some .int))
theorem mkX11_annul : tq_mV mX11_annul 1 := ⟨tq_m4 149 rfl rfl, tq_m4 150 rfl rfl, ⟨tq_m1 1 rfl rfl, tq_m4 151 rfl rfl, ⟨by decide +kernel, by decide +kernel, by decide +kernel⟩, by decide⟩⟩
abbrev mX11_fact : mi_T := (yX11_fact, cX11_fact, 3, (some .int))
theorem mkX11_fact : tq_mV mX11_fact 2 := ⟨tq_m4 162 rfl rfl, tq_m4 163 rfl rfl, ⟨tq_m1 1 rfl rfl, tq_m4 164 rfl rfl, ⟨by decide +kernel, by decide +kernel, by decide +kernel⟩, by decide⟩⟩
abbrev mX11_knows : mi_T := (yX11_knows, cX11_knows, 2, (some .boolean))
theorem mkX11_knows : tq_mV mX11_knows 1 := ⟨tq_m4 171 rfl rfl, tq_s3 2 rfl rfl, ⟨tq_m1 1 rfl rfl, tq_m4 172 rfl rfl, ⟨by decide +kernel, by decide +kernel, by decide +kernel⟩, by decide⟩⟩
abbrev mX11_last : mi_T := (yX11_last, cX11_last, 7, (some .int))
theorem mkX11_last : tq_mV mX11_last 4 := ⟨tq_m4 166 rfl rfl, tq_m4 167 rfl rfl, ⟨tq_m1 1 rfl rfl, tq_m4 168 rfl rfl, ⟨by decide +kernel, by decide +kernel, by decide +kernel⟩, by decide⟩⟩
abbrev mX11_mean : mi_T := (yX11_mean, cX11_mean, 6, (some .int))
theorem mkX11_mean : tq_mV mX11_mean 4 := ⟨tq_m4 207 rfl rfl, tq_m4 208 rfl rfl, ⟨tq_m1 1 rfl rfl, tq_m4 209 rfl rfl, ⟨by decide +kernel, by decide +kernel, by decide +kernel⟩, by decide⟩⟩
abbrev mX11_guesses : mi_T := (yX11_guesses, cX11_guesses, 3, (some .int))
theorem mkX11_guesses : tq_mV mX11_guesses 2 := ⟨tq_m4 211 rfl rfl, tq_m4 212 rfl rfl, ⟨tq_m1 1 rfl rfl, tq_m4 213 rfl rfl, ⟨by decide +kernel, by decide +kernel, by decide +kernel⟩, by decide⟩⟩
abbrev mX11_coin : mi_T := (yX11_coin, cX11_coin, 4, (some .long))
theorem mkX11_coin : tq_mV mX11_coin 2 := ⟨tq_m4 215 rfl rfl, tq_m4 216 rfl rfl, ⟨tq_m1 1 rfl rfl, tq_m4 217 rfl rfl, ⟨by decide +kernel, by decide +kernel, by decide +kernel⟩, by decide⟩⟩
abbrev mX11_table : mi_T := (yX11_table, cX11_table, 5, (some .long))
theorem mkX11_table : tq_mV mX11_table 2 := ⟨tq_m4 226 rfl rfl, tq_m4 227 rfl rfl, ⟨tq_m1 1 rfl rfl, tq_m4 228 rfl rfl, ⟨by decide +kernel, by decide +kernel, by decide +kernel⟩, by decide⟩⟩
abbrev mX11_steady : mi_T := (yX11_steady, cX11_steady, 3, (some .int))
theorem mkX11_steady : tq_mV mX11_steady 2 := ⟨tq_m4 234 rfl rfl, tq_m4 235 rfl rfl, ⟨tq_m1 1 rfl rfl, tq_m4 236 rfl rfl, ⟨by decide +kernel, by decide +kernel, by decide +kernel⟩, by decide⟩⟩
abbrev mX11_steadyWays : mi_T := (yX11_steadyWays, cX11_steadyWays, 2, (some .int))
theorem mkX11_steadyWays : tq_mV mX11_steadyWays 1 := ⟨tq_m5 6 rfl rfl, tq_m5 7 rfl rfl, ⟨tq_m1 1 rfl rfl, tq_m5 8 rfl rfl, ⟨by decide +kernel, by decide +kernel, by decide +kernel⟩, by decide⟩⟩
abbrev mX11_kinds : mi_T := (yX11_kinds, cX11_kinds, 3, (some .int))
theorem mkX11_kinds : tq_mV mX11_kinds 2 := ⟨tq_m5 17 rfl rfl, tq_m5 18 rfl rfl, ⟨tq_m1 1 rfl rfl, tq_m5 19 rfl rfl, ⟨by decide +kernel, by decide +kernel, by decide +kernel⟩, by decide⟩⟩
abbrev mX11_kindWays : mi_T := (yX11_kindWays, cX11_kindWays, 3, (some .int))
theorem mkX11_kindWays : tq_mV mX11_kindWays 2 := ⟨tq_m5 34 rfl rfl, tq_m5 35 rfl rfl, ⟨tq_m1 1 rfl rfl, tq_m5 36 rfl rfl, ⟨by decide +kernel, by decide +kernel, by decide +kernel⟩, by decide⟩⟩
abbrev mX11_flips : mi_T := (yX11_flips, cX11_flips, 3, (some .int))
theorem mkX11_flips : tq_mV mX11_flips 2 := ⟨tq_m5 50 rfl rfl, tq_m5 51 rfl rfl, ⟨tq_m1 1 rfl rfl, tq_m5 52 rfl rfl, ⟨by decide +kernel, by decide +kernel, by decide +kernel⟩, by decide⟩⟩
abbrev mX11_flipWays : mi_T := (yX11_flipWays, cX11_flipWays, 2, (some .int))
theorem mkX11_flipWays : tq_mV mX11_flipWays 1 := ⟨tq_m5 76 rfl rfl, tq_m5 77 rfl rfl, ⟨tq_m1 1 rfl rfl, tq_m5 78 rfl rfl, ⟨by decide +kernel, by decide +kernel, by decide +kernel⟩, by decide⟩⟩
abbrev mX11_small : mi_T := (yX11_small, cX11_small, 2, (some .int))
theorem mkX11_small : tq_mV mX11_small 1 := ⟨tq_m5 89 rfl rfl, tq_m5 90 rfl rfl, ⟨tq_m1 1 rfl rfl, tq_m5 91 rfl rfl, ⟨by decide +kernel, by decide +kernel, by decide +kernel⟩, by decide⟩⟩
abbrev mX11_knowing : mi_T := (yX11_knowing, cX11_knowing, 3, (some .int))
theorem mkX11_knowing : tq_mV mX11_knowing 2 := ⟨tq_m5 103 rfl rfl, tq_m5 104 rfl rfl, ⟨tq_m1 1 rfl rfl, tq_m5 105 rfl rfl, ⟨by decide +kernel, by decide +kernel, by decide +kernel⟩, by decide⟩⟩
abbrev mX11_knowingWays : mi_T := (yX11_knowingWays, cX11_knowingWays, 2, (some .int))
theorem mkX11_knowingWays : tq_mV mX11_knowingWays 1 := ⟨tq_m5 111 rfl rfl, tq_m5 112 rfl rfl, ⟨tq_m1 1 rfl rfl, tq_m5 113 rfl rfl, ⟨by decide +kernel, by decide +kernel, by decide +kernel⟩, by decide⟩⟩
abbrev mX11_spot : mi_T := (yX11_spot, cX11_spot, 4, (some .int))
theorem mkX11_spot : tq_mV mX11_spot 3 := ⟨tq_m5 115 rfl rfl, tq_m5 116 rfl rfl, ⟨tq_m1 1 rfl rfl, tq_m5 117 rfl rfl, ⟨by decide +kernel, by decide +kernel, by decide +kernel⟩, by decide⟩⟩
abbrev mX11_right : mi_T := (yX11_right, cX11_right, 3, (some .int))
theorem mkX11_right : tq_mV mX11_right 2 := ⟨tq_m5 119 rfl rfl, tq_m5 120 rfl rfl, ⟨tq_m1 1 rfl rfl, tq_m5 121 rfl rfl, ⟨by decide +kernel, by decide +kernel, by decide +kernel⟩, by decide⟩⟩
abbrev mX11_near : mi_T := (yX11_near, cX11_near, 3, (some .int))
theorem mkX11_near : tq_mV mX11_near 2 := ⟨tq_m5 134 rfl rfl, tq_m5 135 rfl rfl, ⟨tq_m1 1 rfl rfl, tq_m5 136 rfl rfl, ⟨by decide +kernel, by decide +kernel, by decide +kernel⟩, by decide⟩⟩
abbrev mX11_nearWays : mi_T := (yX11_nearWays, cX11_nearWays, 2, (some .int))
theorem mkX11_nearWays : tq_mV mX11_nearWays 1 := ⟨tq_m5 155 rfl rfl, tq_m5 156 rfl rfl, ⟨tq_m1 1 rfl rfl, tq_m5 157 rfl rfl, ⟨by decide +kernel, by decide +kernel, by decide +kernel⟩, by decide⟩⟩
abbrev mX11_beats : mi_T := (yX11_beats, cX11_beats, 4, (some .int))
theorem mkX11_beats : tq_mV mX11_beats 3 := ⟨tq_m5 170 rfl rfl, tq_m5 171 rfl rfl, ⟨tq_m1 1 rfl rfl, tq_m5 172 rfl rfl, ⟨by decide +kernel, by decide +kernel, by decide +kernel⟩, by decide⟩⟩
abbrev mX11_winner : mi_T := (yX11_winner, cX11_winner, 2, (some .int))
theorem mkX11_winner : tq_mV mX11_winner 1 := ⟨tq_m5 178 rfl rfl, tq_m5 179 rfl rfl, ⟨tq_m1 1 rfl rfl, tq_m5 180 rfl rfl, ⟨by decide +kernel, by decide +kernel, by decide +kernel⟩, by decide⟩⟩
abbrev mX11_best : mi_T := (yX11_best, cX11_best, 6, (some .int))
theorem mkX11_best : tq_mV mX11_best 2 := ⟨tq_m5 191 rfl rfl, tq_m5 192 rfl rfl, ⟨tq_m1 1 rfl rfl, tq_m5 193 rfl rfl, ⟨by decide +kernel, by decide +kernel, by decide +kernel⟩, by decide⟩⟩
abbrev mX11_need : mi_T := (yX11_need, cX11_need, 6, (some .int))
theorem mkX11_need : tq_mV mX11_need 5 := ⟨tq_m5 197 rfl rfl, tq_m5 198 rfl rfl, ⟨tq_m1 1 rfl rfl, tq_m5 199 rfl rfl, ⟨by decide +kernel, by decide +kernel, by decide +kernel⟩, by decide⟩⟩
abbrev mX11_parts : mi_T := (yX11_parts, cX11_parts, 5, (some .int))
theorem mkX11_parts : tq_mV mX11_parts 4 := ⟨tq_m5 217 rfl rfl, tq_m5 218 rfl rfl, ⟨tq_m1 1 rfl rfl, tq_m5 219 rfl rfl, ⟨by decide +kernel, by decide +kernel, by decide +kernel⟩, by decide⟩⟩
abbrev mX11_next : mi_T := (yX11_next, cX11_next, 10, (some .int))
theorem mkX11_next : tq_mV mX11_next 3 := ⟨tq_m5 227 rfl rfl, tq_m5 228 rfl rfl, ⟨tq_m1 1 rfl rfl, tq_m5 229 rfl rfl, ⟨by decide +kernel, by decide +kernel, by decide +kernel⟩, by decide⟩⟩
abbrev mX11_say : mi_T := (yX11_say, cX11_say, 2, (some .int))
theorem mkX11_say : tq_mV mX11_say 1 := ⟨tq_m5 231 rfl rfl, tq_m5 232 rfl rfl, ⟨tq_m1 1 rfl rfl, tq_m5 233 rfl rfl, ⟨by decide +kernel, by decide +kernel, by decide +kernel⟩, by decide⟩⟩
abbrev mX11_turned : mi_T := (yX11_turned, cX11_turned, 3, (some .int))
theorem mkX11_turned : tq_mV mX11_turned 1 := ⟨tq_m6 19 rfl rfl, tq_m6 20 rfl rfl, ⟨tq_m1 1 rfl rfl, tq_m6 21 rfl rfl, ⟨by decide +kernel, by decide +kernel, by decide +kernel⟩, by decide⟩⟩
abbrev mX11_sayBy : mi_T := (yX11_sayBy, cX11_sayBy, 2, (some .int))
theorem mkX11_sayBy : tq_mV mX11_sayBy 1 := ⟨tq_m5 236 rfl rfl, tq_s4 0 rfl rfl, ⟨tq_m1 1 rfl rfl, tq_m5 237 rfl rfl, ⟨by decide +kernel, by decide +kernel, by decide +kernel⟩, by decide⟩⟩
abbrev mX11_sayOfGuesses : mi_T := (yX11_sayOfGuesses, cX11_sayOfGuesses, 2, (some .int))
theorem mkX11_sayOfGuesses : tq_mV mX11_sayOfGuesses 0 := ⟨tq_m6 0 rfl rfl, tq_s4 1 rfl rfl, ⟨tq_m1 1 rfl rfl, tq_m6 1 rfl rfl, ⟨by decide +kernel, by decide +kernel, by decide +kernel⟩, by decide⟩⟩
abbrev mX11_sayOfKinds : mi_T := (yX11_sayOfKinds, cX11_sayOfKinds, 2, (some .int))
theorem mkX11_sayOfKinds : tq_mV mX11_sayOfKinds 0 := ⟨tq_m6 5 rfl rfl, tq_s4 2 rfl rfl, ⟨tq_m1 1 rfl rfl, tq_m6 6 rfl rfl, ⟨by decide +kernel, by decide +kernel, by decide +kernel⟩, by decide⟩⟩
abbrev mX11_sayOfPairs : mi_T := (yX11_sayOfPairs, cX11_sayOfPairs, 2, (some .int))
theorem mkX11_sayOfPairs : tq_mV mX11_sayOfPairs 0 := ⟨tq_m6 9 rfl rfl, tq_s4 3 rfl rfl, ⟨tq_m1 1 rfl rfl, tq_m6 10 rfl rfl, ⟨by decide +kernel, by decide +kernel, by decide +kernel⟩, by decide⟩⟩
abbrev mX11_sayOfWinner : mi_T := (yX11_sayOfWinner, cX11_sayOfWinner, 2, (some .int))
theorem mkX11_sayOfWinner : tq_mV mX11_sayOfWinner 0 := ⟨tq_m6 16 rfl rfl, tq_s4 4 rfl rfl, ⟨tq_m1 1 rfl rfl, tq_m6 17 rfl rfl, ⟨by decide +kernel, by decide +kernel, by decide +kernel⟩, by decide⟩⟩
abbrev mX11_count : mi_T := (yX11_count, cX11_count, 2, (some .int))
theorem mkX11_count : tq_mV mX11_count 1 := ⟨tq_m6 23 rfl rfl, tq_m6 24 rfl rfl, ⟨tq_m1 1 rfl rfl, tq_m6 25 rfl rfl, ⟨by decide +kernel, by decide +kernel, by decide +kernel⟩, by decide⟩⟩
abbrev mX12_feed : mi_T := (yX12_feed, cX12_feed, 6, (some .int))
theorem mkX12_feed : tq_mV mX12_feed 5 := ⟨tq_m7 38 rfl rfl, tq_m7 39 rfl rfl, ⟨tq_m1 13 rfl rfl, tq_m7 40 rfl rfl, ⟨by decide +kernel, by decide +kernel, by decide +kernel⟩, by decide⟩⟩
abbrev mX12_put : mi_T := (yX12_put, cX12_put, 3, none)
theorem mkX12_put : tq_mV mX12_put 1 := ⟨tq_m7 43 rfl rfl, tq_s4 5 rfl rfl, ⟨tq_m1 13 rfl rfl, tq_m7 44 rfl rfl, ⟨by decide +kernel, by decide +kernel, by decide +kernel⟩, by decide⟩⟩
abbrev mX12_back : mi_T := (yX12_back, cX12_back, 2, (some .int))
theorem mkX12_back : tq_mV mX12_back 1 := ⟨tq_m7 46 rfl rfl, tq_m7 47 rfl rfl, ⟨tq_m1 13 rfl rfl, tq_m7 48 rfl rfl, ⟨by decide +kernel, by decide +kernel, by decide +kernel⟩, by decide⟩⟩
abbrev mX12_byteAt : mi_T := (yX12_byteAt, cX12_byteAt, 2, (some .int))
theorem mkX12_byteAt : tq_mV mX12_byteAt 1 := ⟨tq_m7 59 rfl rfl, tq_s4 7 rfl rfl, ⟨tq_m1 13 rfl rfl, tq_m7 60 rfl rfl, ⟨by decide +kernel, by decide +kernel, by decide +kernel⟩, by decide⟩⟩
abbrev mX12_isDigit : mi_T := (yX12_isDigit, cX12_isDigit, 1, (some .boolean))
theorem mkX12_isDigit : tq_mS mX12_isDigit 1 := ⟨tq_m7 69 rfl rfl, ⟨tq_m1 13 rfl rfl, tq_m7 70 rfl rfl, ⟨by decide +kernel, by decide +kernel, by decide +kernel⟩, by decide⟩⟩
abbrev mX12_isLetter : mi_T := (yX12_isLetter, cX12_isLetter, 1, (some .boolean))
theorem mkX12_isLetter : tq_mS mX12_isLetter 1 := ⟨tq_m7 66 rfl rfl, ⟨tq_m1 13 rfl rfl, tq_m7 67 rfl rfl, ⟨by decide +kernel, by decide +kernel, by decide +kernel⟩, by decide⟩⟩
abbrev mX12_appends : mi_T := (yX12_appends, cX12_appends, 3, (some .long))
theorem mkX12_appends : tq_mS mX12_appends 2 := ⟨tq_m6 36 rfl rfl, ⟨tq_m1 13 rfl rfl, tq_m6 37 rfl rfl, ⟨by decide +kernel, by decide +kernel, by decide +kernel⟩, by decide⟩⟩
abbrev mX12_word : mi_T := (yX12_word, cX12_word, 7, (some .long))
theorem mkX12_word : tq_mS mX12_word 7 := ⟨tq_m6 33 rfl rfl, ⟨tq_m1 13 rfl rfl, tq_m6 34 rfl rfl, ⟨by decide +kernel, by decide +kernel, by decide +kernel⟩, by decide⟩⟩
abbrev mX12_token : mi_T := (yX12_token, cX12_token, 6, none)
theorem mkX12_token : tq_mV mX12_token 4 := ⟨tq_m7 63 rfl rfl, tq_s4 8 rfl rfl, ⟨tq_m1 13 rfl rfl, tq_m7 64 rfl rfl, ⟨by decide +kernel, by decide +kernel, by decide +kernel⟩, by decide⟩⟩
abbrev mX12_cut : mi_T := (yX12_cut, cX12_cut, 8, none)
theorem mkX12_cut : tq_mV mX12_cut 0 := ⟨tq_m7 55 rfl rfl, tq_s4 6 rfl rfl, ⟨tq_m1 13 rfl rfl, tq_m7 56 rfl rfl, ⟨by decide +kernel, by decide +kernel, by decide +kernel⟩, by decide⟩⟩
abbrev mX12_sign : mi_T := (yX12_sign, cX12_sign, 6, (some .int))
theorem mkX12_sign : tq_mV mX12_sign 3 := ⟨tq_m7 73 rfl rfl, tq_s4 9 rfl rfl, ⟨tq_m1 13 rfl rfl, tq_m7 74 rfl rfl, ⟨by decide +kernel, by decide +kernel, by decide +kernel⟩, by decide⟩⟩
abbrev mX12_is : mi_T := (yX12_is, cX12_is, 2, (some .boolean))
theorem mkX12_is : tq_mV mX12_is 1 := ⟨tq_m7 77 rfl rfl, tq_s4 10 rfl rfl, ⟨tq_m1 13 rfl rfl, tq_m7 78 rfl rfl, ⟨by decide +kernel, by decide +kernel, by decide +kernel⟩, by decide⟩⟩
abbrev mX12_fail : mi_T := (yX12_fail, cX12_fail, 2, none)
theorem mkX12_fail : tq_mV mX12_fail 1 := ⟨tq_m7 85 rfl rfl, tq_s4 12 rfl rfl, ⟨tq_m1 13 rfl rfl, tq_m7 86 rfl rfl, ⟨by decide +kernel, by decide +kernel, by decide +kernel⟩, by decide⟩⟩
abbrev mX12_wrong : mi_T := (yX12_wrong, cX12_wrong, 4, none)
theorem mkX12_wrong : tq_mV mX12_wrong 2 := ⟨tq_m7 105 rfl rfl, tq_s5 1 rfl rfl, ⟨tq_m1 13 rfl rfl, tq_m7 106 rfl rfl, ⟨by decide +kernel, by decide +kernel, by decide +kernel⟩, by decide⟩⟩
abbrev mX12_goesOn : mi_T := (yX12_goesOn, cX12_goesOn, 1, none)
theorem mkX12_goesOn : tq_mV mX12_goesOn 0 := ⟨tq_m7 93 rfl rfl, tq_s4 14 rfl rfl, ⟨tq_m1 13 rfl rfl, tq_m7 94 rfl rfl, ⟨by decide +kernel, by decide +kernel, by decide +kernel⟩, by decide⟩⟩
abbrev mX12_must : mi_T := (yX12_must, cX12_must, 2, none)
theorem mkX12_must : tq_mV mX12_must 1 := ⟨tq_m7 101 rfl rfl, tq_s5 0 rfl rfl, ⟨tq_m1 13 rfl rfl, tq_m7 102 rfl rfl, ⟨by decide +kernel, by decide +kernel, by decide +kernel⟩, by decide⟩⟩
abbrev mX12_read : mi_T := (yX12_read, cX12_read, 2, (some .int))
theorem mkX12_read : tq_mV mX12_read 0 := ⟨tq_m7 50 rfl rfl, tq_m7 51 rfl rfl, ⟨tq_m1 13 rfl rfl, tq_m7 52 rfl rfl, ⟨by decide +kernel, by decide +kernel, by decide +kernel⟩, by decide⟩⟩
abbrev mX12_place : mi_T := (yX12_place, cX12_place, 1, (some .int))
theorem mkX12_place : tq_mV mX12_place 0 := ⟨tq_m7 168 rfl rfl, tq_m7 169 rfl rfl, ⟨tq_m1 13 rfl rfl, tq_m7 170 rfl rfl, ⟨by decide +kernel, by decide +kernel, by decide +kernel⟩, by decide⟩⟩
abbrev mX12_tell : mi_T := (yX12_tell, cX12_tell, 1, none)
theorem mkX12_tell : tq_mV mX12_tell 0 := ⟨tq_m7 81 rfl rfl, tq_s4 11 rfl rfl, ⟨tq_m1 13 rfl rfl, tq_m7 82 rfl rfl, ⟨by decide +kernel, by decide +kernel, by decide +kernel⟩, by decide⟩⟩
abbrev mX12_named : mi_T := (yX12_named, cX12_named, 3, (some .int))
theorem mkX12_named : tq_mV mX12_named 0 := ⟨tq_m7 97 rfl rfl, tq_s4 15 rfl rfl, ⟨tq_m1 13 rfl rfl, tq_m7 98 rfl rfl, ⟨by decide +kernel, by decide +kernel, by decide +kernel⟩, by decide⟩⟩
abbrev mX12_knows : mi_T := (yX12_knows, cX12_knows, 4, none)
theorem mkX12_knows : tq_mV mX12_knows 3 := ⟨tq_m7 113 rfl rfl, tq_s5 3 rfl rfl, ⟨tq_m1 13 rfl rfl, tq_m7 114 rfl rfl, ⟨by decide +kernel, by decide +kernel, by decide +kernel⟩, by decide⟩⟩
abbrev mX12_known : mi_T := (yX12_known, cX12_known, 5, (some .int))
theorem mkX12_known : tq_mV mX12_known 1 := ⟨tq_m7 165 rfl rfl, tq_s6 0 rfl rfl, ⟨tq_m1 13 rfl rfl, tq_m7 166 rfl rfl, ⟨by decide +kernel, by decide +kernel, by decide +kernel⟩, by decide⟩⟩
abbrev mX12_told : mi_T := (yX12_told, cX12_told, 3, (some .int))
theorem mkX12_told : tq_mV mX12_told 1 := ⟨tq_m7 109 rfl rfl, tq_s5 2 rfl rfl, ⟨tq_m1 13 rfl rfl, tq_m7 110 rfl rfl, ⟨by decide +kernel, by decide +kernel, by decide +kernel⟩, by decide⟩⟩
abbrev mX12_tellFiddle : mi_T := (yX12_tellFiddle, cX12_tellFiddle, 4, none)
theorem mkX12_tellFiddle : tq_mV mX12_tellFiddle 0 := ⟨tq_m7 89 rfl rfl, tq_s4 13 rfl rfl, ⟨tq_m1 13 rfl rfl, tq_m7 90 rfl rfl, ⟨by decide +kernel, by decide +kernel, by decide +kernel⟩, by decide⟩⟩
abbrev mX12_tellPerson : mi_T := (yX12_tellPerson, cX12_tellPerson, 4, none)
theorem mkX12_tellPerson : tq_mV mX12_tellPerson 0 := ⟨tq_m7 117 rfl rfl, tq_s5 4 rfl rfl, ⟨tq_m1 13 rfl rfl, tq_m7 118 rfl rfl, ⟨by decide +kernel, by decide +kernel, by decide +kernel⟩, by decide⟩⟩
abbrev mX12_tellBow : mi_T := (yX12_tellBow, cX12_tellBow, 6, none)
theorem mkX12_tellBow : tq_mV mX12_tellBow 0 := ⟨tq_m7 121 rfl rfl, tq_s5 5 rfl rfl, ⟨tq_m1 13 rfl rfl, tq_m7 122 rfl rfl, ⟨by decide +kernel, by decide +kernel, by decide +kernel⟩, by decide⟩⟩
abbrev mX12_tellLaw : mi_T := (yX12_tellLaw, cX12_tellLaw, 3, none)
theorem mkX12_tellLaw : tq_mV mX12_tellLaw 0 := ⟨tq_m7 125 rfl rfl, tq_s5 6 rfl rfl, ⟨tq_m1 13 rfl rfl, tq_m7 126 rfl rfl, ⟨by decide +kernel, by decide +kernel, by decide +kernel⟩, by decide⟩⟩
abbrev mX12_tellPlan : mi_T := (yX12_tellPlan, cX12_tellPlan, 2, none)
theorem mkX12_tellPlan : tq_mV mX12_tellPlan 0 := ⟨tq_m7 157 rfl rfl, tq_s5 14 rfl rfl, ⟨tq_m1 13 rfl rfl, tq_m7 158 rfl rfl, ⟨by decide +kernel, by decide +kernel, by decide +kernel⟩, by decide⟩⟩
abbrev mX12_tellSit : mi_T := (yX12_tellSit, cX12_tellSit, 7, none)
theorem mkX12_tellSit : tq_mV mX12_tellSit 0 := ⟨tq_m7 161 rfl rfl, tq_s5 15 rfl rfl, ⟨tq_m1 13 rfl rfl, tq_m7 162 rfl rfl, ⟨by decide +kernel, by decide +kernel, by decide +kernel⟩, by decide⟩⟩
abbrev mX12_emit : mi_T := (yX12_emit, cX12_emit, 3, none)
theorem mkX12_emit : tq_mV mX12_emit 2 := ⟨tq_m7 141 rfl rfl, tq_s5 10 rfl rfl, ⟨tq_m1 13 rfl rfl, tq_m7 142 rfl rfl, ⟨by decide +kernel, by decide +kernel, by decide +kernel⟩, by decide⟩⟩
abbrev mX12_waitsOn : mi_T := (yX12_waitsOn, cX12_waitsOn, 2, (some .boolean))
theorem mkX12_waitsOn : tq_mV mX12_waitsOn 1 := ⟨tq_m7 153 rfl rfl, tq_s5 13 rfl rfl, ⟨tq_m1 13 rfl rfl, tq_m7 154 rfl rfl, ⟨by decide +kernel, by decide +kernel, by decide +kernel⟩, by decide⟩⟩
abbrev mX12_comesOut : mi_T := (yX12_comesOut, cX12_comesOut, 3, none)
theorem mkX12_comesOut : tq_mV mX12_comesOut 1 := ⟨tq_m7 149 rfl rfl, tq_s5 12 rfl rfl, ⟨tq_m1 13 rfl rfl, tq_m7 150 rfl rfl, ⟨by decide +kernel, by decide +kernel, by decide +kernel⟩, by decide⟩⟩
abbrev mX12_waitFor : mi_T := (yX12_waitFor, cX12_waitFor, 2, none)
theorem mkX12_waitFor : tq_mV mX12_waitFor 1 := ⟨tq_m7 133 rfl rfl, tq_s5 8 rfl rfl, ⟨tq_m1 13 rfl rfl, tq_m7 134 rfl rfl, ⟨by decide +kernel, by decide +kernel, by decide +kernel⟩, by decide⟩⟩
abbrev mX12_expression : mi_T := (yX12_expression, cX12_expression, 2, none)
theorem mkX12_expression : tq_mV mX12_expression 0 := ⟨tq_m7 129 rfl rfl, tq_s5 7 rfl rfl, ⟨tq_m1 13 rfl rfl, tq_m7 130 rfl rfl, ⟨by decide +kernel, by decide +kernel, by decide +kernel⟩, by decide⟩⟩
abbrev mX12_unit : mi_T := (yX12_unit, cX12_unit, 2, none)
theorem mkX12_unit : tq_mV mX12_unit 0 := ⟨tq_m7 137 rfl rfl, tq_s5 9 rfl rfl, ⟨tq_m1 13 rfl rfl, tq_m7 138 rfl rfl, ⟨by decide +kernel, by decide +kernel, by decide +kernel⟩, by decide⟩⟩
abbrev mX12_goes : mi_T := (yX12_goes, cX12_goes, 1, (some .boolean))
theorem mkX12_goes : tq_mV mX12_goes 0 := ⟨tq_m7 145 rfl rfl, tq_s5 11 rfl rfl, ⟨tq_m1 13 rfl rfl, tq_m7 146 rfl rfl, ⟨by decide +kernel, by decide +kernel, by decide +kernel⟩, by decide⟩⟩
abbrev mX12_in : mi_T := (yX12_in, cX12_in, 3, (some .boolean))
theorem mkX12_in : tq_mS mX12_in 3 := ⟨tq_m7 180 rfl rfl, ⟨tq_m1 13 rfl rfl, tq_m7 181 rfl rfl, ⟨by decide +kernel, by decide +kernel, by decide +kernel⟩, by decide⟩⟩
abbrev mX12_valueOf : mi_T := (yX12_valueOf, cX12_valueOf, 7, (some .int))
theorem mkX12_valueOf : tq_mV mX12_valueOf 1 := ⟨tq_m7 233 rfl rfl, tq_s6 11 rfl rfl, ⟨tq_m1 13 rfl rfl, tq_m7 234 rfl rfl, ⟨by decide +kernel, by decide +kernel, by decide +kernel⟩, by decide⟩⟩
abbrev mX12_isFiddle : mi_T := (yX12_isFiddle, cX12_isFiddle, 2, (some .boolean))
theorem mkX12_isFiddle : tq_mV mX12_isFiddle 1 := ⟨tq_m7 177 rfl rfl, tq_s6 1 rfl rfl, ⟨tq_m1 13 rfl rfl, tq_m7 178 rfl rfl, ⟨by decide +kernel, by decide +kernel, by decide +kernel⟩, by decide⟩⟩
abbrev mX12_isPerson : mi_T := (yX12_isPerson, cX12_isPerson, 2, (some .boolean))
theorem mkX12_isPerson : tq_mV mX12_isPerson 1 := ⟨tq_m7 192 rfl rfl, tq_s6 3 rfl rfl, ⟨tq_m1 13 rfl rfl, tq_m7 193 rfl rfl, ⟨by decide +kernel, by decide +kernel, by decide +kernel⟩, by decide⟩⟩
abbrev mX12_isBow : mi_T := (yX12_isBow, cX12_isBow, 2, (some .boolean))
theorem mkX12_isBow : tq_mV mX12_isBow 1 := ⟨tq_m7 224 rfl rfl, tq_s6 9 rfl rfl, ⟨tq_m1 13 rfl rfl, tq_m7 225 rfl rfl, ⟨by decide +kernel, by decide +kernel, by decide +kernel⟩, by decide⟩⟩
abbrev mX12_isLaw : mi_T := (yX12_isLaw, cX12_isLaw, 2, (some .boolean))
theorem mkX12_isLaw : tq_mV mX12_isLaw 1 := ⟨tq_m7 220 rfl rfl, tq_s6 8 rfl rfl, ⟨tq_m1 13 rfl rfl, tq_m7 221 rfl rfl, ⟨by decide +kernel, by decide +kernel, by decide +kernel⟩, by decide⟩⟩
abbrev mX12_isPlan : mi_T := (yX12_isPlan, cX12_isPlan, 2, (some .boolean))
theorem mkX12_isPlan : tq_mV mX12_isPlan 1 := ⟨tq_m7 208 rfl rfl, tq_s6 6 rfl rfl, ⟨tq_m1 13 rfl rfl, tq_m7 209 rfl rfl, ⟨by decide +kernel, by decide +kernel, by decide +kernel⟩, by decide⟩⟩
abbrev mX12_isOldOne : mi_T := (yX12_isOldOne, cX12_isOldOne, 2, (some .boolean))
theorem mkX12_isOldOne : tq_mV mX12_isOldOne 1 := ⟨tq_m7 184 rfl rfl, tq_s6 2 rfl rfl, ⟨tq_m1 13 rfl rfl, tq_m7 185 rfl rfl, ⟨by decide +kernel, by decide +kernel, by decide +kernel⟩, by decide⟩⟩
abbrev mX12_isPlayer : mi_T := (yX12_isPlayer, cX12_isPlayer, 2, (some .boolean))
theorem mkX12_isPlayer : tq_mV mX12_isPlayer 1 := ⟨tq_m7 196 rfl rfl, tq_s6 4 rfl rfl, ⟨tq_m1 13 rfl rfl, tq_m7 197 rfl rfl, ⟨by decide +kernel, by decide +kernel, by decide +kernel⟩, by decide⟩⟩
abbrev mX12_likes : mi_T := (yX12_likes, cX12_likes, 9, (some .int))
theorem mkX12_likes : tq_mV mX12_likes 7 := ⟨tq_m7 229 rfl rfl, tq_s6 10 rfl rfl, ⟨tq_m1 13 rfl rfl, tq_m7 230 rfl rfl, ⟨by decide +kernel, by decide +kernel, by decide +kernel⟩, by decide⟩⟩
abbrev mX12_fiddle : mi_T := (yX12_fiddle, cX12_fiddle, 3, (some .int))
theorem mkX12_fiddle : tq_mV mX12_fiddle 2 := ⟨tq_m7 172 rfl rfl, tq_m7 173 rfl rfl, ⟨tq_m1 13 rfl rfl, tq_m7 174 rfl rfl, ⟨by decide +kernel, by decide +kernel, by decide +kernel⟩, by decide⟩⟩
abbrev mX12_person : mi_T := (yX12_person, cX12_person, 3, (some .int))
theorem mkX12_person : tq_mV mX12_person 2 := ⟨tq_m7 187 rfl rfl, tq_m7 188 rfl rfl, ⟨tq_m1 13 rfl rfl, tq_m7 189 rfl rfl, ⟨by decide +kernel, by decide +kernel, by decide +kernel⟩, by decide⟩⟩
abbrev mX12_isSitting : mi_T := (yX12_isSitting, cX12_isSitting, 3, (some .boolean))
theorem mkX12_isSitting : tq_mV mX12_isSitting 2 := ⟨tq_m7 204 rfl rfl, tq_s6 5 rfl rfl, ⟨tq_m1 13 rfl rfl, tq_m7 205 rfl rfl, ⟨by decide +kernel, by decide +kernel, by decide +kernel⟩, by decide⟩⟩
abbrev mX12_sitAt : mi_T := (yX12_sitAt, cX12_sitAt, 3, (some .int))
theorem mkX12_sitAt : tq_mV mX12_sitAt 2 := ⟨tq_m7 212 rfl rfl, tq_s6 7 rfl rfl, ⟨tq_m1 13 rfl rfl, tq_m7 213 rfl rfl, ⟨by decide +kernel, by decide +kernel, by decide +kernel⟩, by decide⟩⟩
abbrev mX12_sitting : mi_T := (yX12_sitting, cX12_sitting, 5, (some .int))
theorem mkX12_sitting : tq_mV mX12_sitting 3 := ⟨tq_m7 199 rfl rfl, tq_m7 200 rfl rfl, ⟨tq_m1 13 rfl rfl, tq_m7 201 rfl rfl, ⟨by decide +kernel, by decide +kernel, by decide +kernel⟩, by decide⟩⟩
abbrev mX12_liking : mi_T := (yX12_liking, cX12_liking, 8, (some .int))
theorem mkX12_liking : tq_mV mX12_liking 7 := ⟨tq_m7 215 rfl rfl, tq_m7 216 rfl rfl, ⟨tq_m1 13 rfl rfl, tq_m7 217 rfl rfl, ⟨by decide +kernel, by decide +kernel, by decide +kernel⟩, by decide⟩⟩
abbrev mX12_mixed : mi_T := (yX12_mixed, cX12_mixed, 3, (some .int))
theorem mkX12_mixed : tq_mS mX12_mixed 2 := ⟨tq_m8 11 rfl rfl, ⟨tq_m1 13 rfl rfl, tq_m8 12 rfl rfl, ⟨by decide +kernel, by decide +kernel, by decide +kernel⟩, by decide⟩⟩
abbrev mX12_lot : mi_T := (yX12_lot, cX12_lot, 3, (some .int))
theorem mkX12_lot : tq_mS mX12_lot 3 := ⟨tq_m8 8 rfl rfl, ⟨tq_m1 13 rfl rfl, tq_m8 9 rfl rfl, ⟨by decide +kernel, by decide +kernel, by decide +kernel⟩, by decide⟩⟩
abbrev mX12_says : mi_T := (yX12_says, cX12_says, 6, (some .int))
theorem mkX12_says : tq_mV mX12_says 5 := ⟨tq_m8 5 rfl rfl, tq_s6 13 rfl rfl, ⟨tq_m1 13 rfl rfl, tq_m8 6 rfl rfl, ⟨by decide +kernel, by decide +kernel, by decide +kernel⟩, by decide⟩⟩
abbrev mX12_takenIn : mi_T := (yX12_takenIn, cX12_takenIn, 10, (some .int))
theorem mkX12_takenIn : tq_mV mX12_takenIn 4 := ⟨tq_m8 1 rfl rfl, tq_s6 12 rfl rfl, ⟨tq_m1 13 rfl rfl, tq_m8 2 rfl rfl, ⟨by decide +kernel, by decide +kernel, by decide +kernel⟩, by decide⟩⟩
abbrev mX12_taken : mi_T := (yX12_taken, cX12_taken, 5, (some .int))
theorem mkX12_taken : tq_mV mX12_taken 4 := ⟨tq_m7 236 rfl rfl, tq_m7 237 rfl rfl, ⟨tq_m1 13 rfl rfl, tq_m7 238 rfl rfl, ⟨by decide +kernel, by decide +kernel, by decide +kernel⟩, by decide⟩⟩
abbrev mX12_takes : mi_T := (yX12_takes, cX12_takes, 8, (some .int))
theorem mkX12_takes : tq_mV mX12_takes 4 := ⟨tq_m8 15 rfl rfl, tq_m8 16 rfl rfl, ⟨tq_m1 13 rfl rfl, tq_m8 17 rfl rfl, ⟨by decide +kernel, by decide +kernel, by decide +kernel⟩, by decide⟩⟩
abbrev mX12_touched : mi_T := (yX12_touched, cX12_touched, 13, (some .int))
theorem mkX12_touched : tq_mV mX12_touched 6 := ⟨tq_m8 24 rfl rfl, tq_s6 14 rfl rfl, ⟨tq_m1 13 rfl rfl, tq_m8 25 rfl rfl, ⟨by decide +kernel, by decide +kernel, by decide +kernel⟩, by decide⟩⟩
abbrev mX12_touch : mi_T := (yX12_touch, cX12_touch, 7, (some .int))
theorem mkX12_touch : tq_mV mX12_touch 6 := ⟨tq_m8 19 rfl rfl, tq_m8 20 rfl rfl, ⟨tq_m1 13 rfl rfl, tq_m8 21 rfl rfl, ⟨by decide +kernel, by decide +kernel, by decide +kernel⟩, by decide⟩⟩
abbrev mX12_gains : mi_T := (yX12_gains, cX12_gains, 11, (some .long))
theorem mkX12_gains : tq_mV mX12_gains 4 := ⟨tq_m8 27 rfl rfl, tq_m8 28 rfl rfl, ⟨tq_m1 13 rfl rfl, tq_m8 29 rfl rfl, ⟨by decide +kernel, by decide +kernel, by decide +kernel⟩, by decide⟩⟩
abbrev mX12_comes : mi_T := (yX12_comes, cX12_comes, 7, (some .int))
theorem mkX12_comes : tq_mV mX12_comes 6 := ⟨tq_m8 37 rfl rfl, tq_s6 15 rfl rfl, ⟨tq_m1 13 rfl rfl, tq_m8 38 rfl rfl, ⟨by decide +kernel, by decide +kernel, by decide +kernel⟩, by decide⟩⟩
abbrev mX12_run : mi_T := (yX12_run, cX12_run, 10, (some .int))
theorem mkX12_run : tq_mV mX12_run 4 := ⟨tq_m8 32 rfl rfl, tq_m8 33 rfl rfl, ⟨tq_m1 13 rfl rfl, tq_m8 34 rfl rfl, ⟨by decide +kernel, by decide +kernel, by decide +kernel⟩, by decide⟩⟩
abbrev mX12_mark : mi_T := (yX12_mark, cX12_mark, 6, (some .int))
theorem mkX12_mark : tq_mV mX12_mark 5 := ⟨tq_m8 40 rfl rfl, tq_m8 41 rfl rfl, ⟨tq_m1 13 rfl rfl, tq_m8 42 rfl rfl, ⟨by decide +kernel, by decide +kernel, by decide +kernel⟩, by decide⟩⟩
abbrev mX12_guess : mi_T := (yX12_guess, cX12_guess, 4, (some .int))
theorem mkX12_guess : tq_mV mX12_guess 3 := ⟨tq_m8 44 rfl rfl, tq_m8 45 rfl rfl, ⟨tq_m1 13 rfl rfl, tq_m8 46 rfl rfl, ⟨by decide +kernel, by decide +kernel, by decide +kernel⟩, by decide⟩⟩
abbrev mX12_annul : mi_T := (yX12_annul, cX12_annul, 2, (some .int))
theorem mkX12_annul : tq_mV mX12_annul 1 := ⟨tq_m8 48 rfl rfl, tq_m8 49 rfl rfl, ⟨tq_m1 13 rfl rfl, tq_m8 50 rfl rfl, ⟨by decide +kernel, by decide +kernel, by decide +kernel⟩, by decide⟩⟩
abbrev mX12_fact : mi_T := (yX12_fact, cX12_fact, 4, (some .int))
theorem mkX12_fact : tq_mV mX12_fact 2 := ⟨tq_m8 52 rfl rfl, tq_m8 53 rfl rfl, ⟨tq_m1 13 rfl rfl, tq_m8 54 rfl rfl, ⟨by decide +kernel, by decide +kernel, by decide +kernel⟩, by decide⟩⟩
abbrev mX12_isKnown : mi_T := (yX12_isKnown, cX12_isKnown, 2, (some .boolean))
theorem mkX12_isKnown : tq_mV mX12_isKnown 1 := ⟨tq_m8 61 rfl rfl, tq_s7 0 rfl rfl, ⟨tq_m1 13 rfl rfl, tq_m8 62 rfl rfl, ⟨by decide +kernel, by decide +kernel, by decide +kernel⟩, by decide⟩⟩
abbrev mX12_counts : mi_T := (yX12_counts, cX12_counts, 5, (some .boolean))
theorem mkX12_counts : tq_mV mX12_counts 3 := ⟨tq_m8 69 rfl rfl, tq_s7 2 rfl rfl, ⟨tq_m1 13 rfl rfl, tq_m8 70 rfl rfl, ⟨by decide +kernel, by decide +kernel, by decide +kernel⟩, by decide⟩⟩
abbrev mX12_gathers : mi_T := (yX12_gathers, cX12_gathers, 4, none)
theorem mkX12_gathers : tq_mV mX12_gathers 1 := ⟨tq_m8 65 rfl rfl, tq_s7 1 rfl rfl, ⟨tq_m1 13 rfl rfl, tq_m8 66 rfl rfl, ⟨by decide +kernel, by decide +kernel, by decide +kernel⟩, by decide⟩⟩
abbrev mX12_last : mi_T := (yX12_last, cX12_last, 6, (some .int))
theorem mkX12_last : tq_mV mX12_last 4 := ⟨tq_m8 56 rfl rfl, tq_m8 57 rfl rfl, ⟨tq_m1 13 rfl rfl, tq_m8 58 rfl rfl, ⟨by decide +kernel, by decide +kernel, by decide +kernel⟩, by decide⟩⟩
abbrev mX12_sumOf : mi_T := (yX12_sumOf, cX12_sumOf, 5, (some .int))
theorem mkX12_sumOf : tq_mV mX12_sumOf 2 := ⟨tq_m8 77 rfl rfl, tq_s7 3 rfl rfl, ⟨tq_m1 13 rfl rfl, tq_m8 78 rfl rfl, ⟨by decide +kernel, by decide +kernel, by decide +kernel⟩, by decide⟩⟩
abbrev mX12_manyOf : mi_T := (yX12_manyOf, cX12_manyOf, 5, (some .int))
theorem mkX12_manyOf : tq_mV mX12_manyOf 2 := ⟨tq_m8 81 rfl rfl, tq_s7 4 rfl rfl, ⟨tq_m1 13 rfl rfl, tq_m8 82 rfl rfl, ⟨by decide +kernel, by decide +kernel, by decide +kernel⟩, by decide⟩⟩
abbrev mX12_mean : mi_T := (yX12_mean, cX12_mean, 5, (some .int))
theorem mkX12_mean : tq_mV mX12_mean 4 := ⟨tq_m8 72 rfl rfl, tq_m8 73 rfl rfl, ⟨tq_m1 13 rfl rfl, tq_m8 74 rfl rfl, ⟨by decide +kernel, by decide +kernel, by decide +kernel⟩, by decide⟩⟩
abbrev mX12_guessed : mi_T := (yX12_guessed, cX12_guessed, 7, (some .int))
theorem mkX12_guessed : tq_mV mX12_guessed 2 := ⟨tq_m8 89 rfl rfl, tq_s7 5 rfl rfl, ⟨tq_m1 13 rfl rfl, tq_m8 90 rfl rfl, ⟨by decide +kernel, by decide +kernel, by decide +kernel⟩, by decide⟩⟩
abbrev mX12_guesses : mi_T := (yX12_guesses, cX12_guesses, 3, (some .int))
theorem mkX12_guesses : tq_mV mX12_guesses 2 := ⟨tq_m8 84 rfl rfl, tq_m8 85 rfl rfl, ⟨tq_m1 13 rfl rfl, tq_m8 86 rfl rfl, ⟨by decide +kernel, by decide +kernel, by decide +kernel⟩, by decide⟩⟩
abbrev mX12_picks : mi_T := (yX12_picks, cX12_picks, 5, (some .long))
theorem mkX12_picks : tq_mS mX12_picks 2 := ⟨tq_m8 104 rfl rfl, ⟨tq_m1 13 rfl rfl, tq_m8 105 rfl rfl, ⟨by decide +kernel, by decide +kernel, by decide +kernel⟩, by decide⟩⟩
abbrev mX12_power : mi_T := (yX12_power, cX12_power, 6, (some .long))
theorem mkX12_power : tq_mS mX12_power 2 := ⟨tq_m8 107 rfl rfl, ⟨tq_m1 13 rfl rfl, tq_m8 108 rfl rfl, ⟨by decide +kernel, by decide +kernel, by decide +kernel⟩, by decide⟩⟩
abbrev mX12_tail : mi_T := (yX12_tail, cX12_tail, 7, (some .long))
theorem mkX12_tail : tq_mS mX12_tail 4 := ⟨tq_m8 101 rfl rfl, ⟨tq_m1 13 rfl rfl, tq_m8 102 rfl rfl, ⟨by decide +kernel, by decide +kernel, by decide +kernel⟩, by decide⟩⟩
abbrev mX12_coinOf : mi_T := (yX12_coinOf, cX12_coinOf, 4, (some .long))
theorem mkX12_coinOf : tq_mV mX12_coinOf 2 := ⟨tq_m8 97 rfl rfl, tq_s7 6 rfl rfl, ⟨tq_m1 13 rfl rfl, tq_m8 98 rfl rfl, ⟨by decide +kernel, by decide +kernel, by decide +kernel⟩, by decide⟩⟩
abbrev mX12_coin : mi_T := (yX12_coin, cX12_coin, 3, (some .long))
theorem mkX12_coin : tq_mV mX12_coin 2 := ⟨tq_m8 92 rfl rfl, tq_m8 93 rfl rfl, ⟨tq_m1 13 rfl rfl, tq_m8 94 rfl rfl, ⟨by decide +kernel, by decide +kernel, by decide +kernel⟩, by decide⟩⟩
abbrev mX12_table : mi_T := (yX12_table, cX12_table, 9, (some .long))
theorem mkX12_table : tq_mV mX12_table 2 := ⟨tq_m8 111 rfl rfl, tq_m8 112 rfl rfl, ⟨tq_m1 13 rfl rfl, tq_m8 113 rfl rfl, ⟨by decide +kernel, by decide +kernel, by decide +kernel⟩, by decide⟩⟩
abbrev mX12_steadies : mi_T := (yX12_steadies, cX12_steadies, 7, none)
theorem mkX12_steadies : tq_mV mX12_steadies 1 := ⟨tq_m8 120 rfl rfl, tq_s7 7 rfl rfl, ⟨tq_m1 13 rfl rfl, tq_m8 121 rfl rfl, ⟨by decide +kernel, by decide +kernel, by decide +kernel⟩, by decide⟩⟩
abbrev mX12_bare : mi_T := (yX12_bare, cX12_bare, 1, (some .int))
theorem mkX12_bare : tq_mS mX12_bare 1 := ⟨tq_m8 127 rfl rfl, ⟨tq_m1 13 rfl rfl, tq_m8 128 rfl rfl, ⟨by decide +kernel, by decide +kernel, by decide +kernel⟩, by decide⟩⟩
abbrev mX12_off : mi_T := (yX12_off, cX12_off, 3, (some .int))
theorem mkX12_off : tq_mV mX12_off 0 := ⟨tq_m8 124 rfl rfl, tq_s7 8 rfl rfl, ⟨tq_m1 13 rfl rfl, tq_m8 125 rfl rfl, ⟨by decide +kernel, by decide +kernel, by decide +kernel⟩, by decide⟩⟩
abbrev mX12_steady : mi_T := (yX12_steady, cX12_steady, 3, (some .int))
theorem mkX12_steady : tq_mV mX12_steady 2 := ⟨tq_m8 115 rfl rfl, tq_m8 116 rfl rfl, ⟨tq_m1 13 rfl rfl, tq_m8 117 rfl rfl, ⟨by decide +kernel, by decide +kernel, by decide +kernel⟩, by decide⟩⟩
abbrev mX12_factorial : mi_T := (yX12_factorial, cX12_factorial, 3, (some .int))
theorem mkX12_factorial : tq_mS mX12_factorial 1 := ⟨tq_m8 138 rfl rfl, ⟨tq_m1 13 rfl rfl, tq_m8 139 rfl rfl, ⟨by decide +kernel, by decide +kernel, by decide +kernel⟩, by decide⟩⟩
abbrev mX12_gives : mi_T := (yX12_gives, cX12_gives, 7, none)
theorem mkX12_gives : tq_mV mX12_gives 2 := ⟨tq_m8 142 rfl rfl, tq_s7 10 rfl rfl, ⟨tq_m1 13 rfl rfl, tq_m8 143 rfl rfl, ⟨by decide +kernel, by decide +kernel, by decide +kernel⟩, by decide⟩⟩
abbrev mX12_steadyCount : mi_T := (yX12_steadyCount, cX12_steadyCount, 7, (some .int))
theorem mkX12_steadyCount : tq_mV mX12_steadyCount 1 := ⟨tq_m8 135 rfl rfl, tq_s7 9 rfl rfl, ⟨tq_m1 13 rfl rfl, tq_m8 136 rfl rfl, ⟨by decide +kernel, by decide +kernel, by decide +kernel⟩, by decide⟩⟩
abbrev mX12_steadyWays : mi_T := (yX12_steadyWays, cX12_steadyWays, 2, (some .int))
theorem mkX12_steadyWays : tq_mV mX12_steadyWays 1 := ⟨tq_m8 130 rfl rfl, tq_m8 131 rfl rfl, ⟨tq_m1 13 rfl rfl, tq_m8 132 rfl rfl, ⟨by decide +kernel, by decide +kernel, by decide +kernel⟩, by decide⟩⟩
abbrev mX12_commonOf : mi_T := (yX12_commonOf, cX12_commonOf, 5, (some .int))
theorem mkX12_commonOf : tq_mS mX12_commonOf 2 := ⟨tq_m8 154 rfl rfl, ⟨tq_m1 13 rfl rfl, tq_m8 155 rfl rfl, ⟨by decide +kernel, by decide +kernel, by decide +kernel⟩, by decide⟩⟩
abbrev mX12_kindsBy : mi_T := (yX12_kindsBy, cX12_kindsBy, 5, none)
theorem mkX12_kindsBy : tq_mV mX12_kindsBy 2 := ⟨tq_m8 151 rfl rfl, tq_s7 11 rfl rfl, ⟨tq_m1 13 rfl rfl, tq_m8 152 rfl rfl, ⟨by decide +kernel, by decide +kernel, by decide +kernel⟩, by decide⟩⟩
abbrev mX12_kindsApart : mi_T := (yX12_kindsApart, cX12_kindsApart, 5, (some .int))
theorem mkX12_kindsApart : tq_mV mX12_kindsApart 1 := ⟨tq_m8 162 rfl rfl, tq_s7 13 rfl rfl, ⟨tq_m1 13 rfl rfl, tq_m8 163 rfl rfl, ⟨by decide +kernel, by decide +kernel, by decide +kernel⟩, by decide⟩⟩
abbrev mX12_kindsNow : mi_T := (yX12_kindsNow, cX12_kindsNow, 3, (some .int))
theorem mkX12_kindsNow : tq_mV mX12_kindsNow 0 := ⟨tq_m8 158 rfl rfl, tq_s7 12 rfl rfl, ⟨tq_m1 13 rfl rfl, tq_m8 159 rfl rfl, ⟨by decide +kernel, by decide +kernel, by decide +kernel⟩, by decide⟩⟩
abbrev mX12_bits : mi_T := (yX12_bits, cX12_bits, 3, (some .int))
theorem mkX12_bits : tq_mS mX12_bits 1 := ⟨tq_m8 173 rfl rfl, ⟨tq_m1 13 rfl rfl, tq_m8 174 rfl rfl, ⟨by decide +kernel, by decide +kernel, by decide +kernel⟩, by decide⟩⟩
abbrev mX12_kindsCount : mi_T := (yX12_kindsCount, cX12_kindsCount, 5, (some .int))
theorem mkX12_kindsCount : tq_mV mX12_kindsCount 1 := ⟨tq_m8 170 rfl rfl, tq_s7 14 rfl rfl, ⟨tq_m1 13 rfl rfl, tq_m8 171 rfl rfl, ⟨by decide +kernel, by decide +kernel, by decide +kernel⟩, by decide⟩⟩
abbrev mX12_kinds : mi_T := (yX12_kinds, cX12_kinds, 3, (some .int))
theorem mkX12_kinds : tq_mV mX12_kinds 2 := ⟨tq_m8 145 rfl rfl, tq_m8 146 rfl rfl, ⟨tq_m1 13 rfl rfl, tq_m8 147 rfl rfl, ⟨by decide +kernel, by decide +kernel, by decide +kernel⟩, by decide⟩⟩
abbrev mX12_kindWays : mi_T := (yX12_kindWays, cX12_kindWays, 3, (some .int))
theorem mkX12_kindWays : tq_mV mX12_kindWays 2 := ⟨tq_m8 165 rfl rfl, tq_m8 166 rfl rfl, ⟨tq_m1 13 rfl rfl, tq_m8 167 rfl rfl, ⟨by decide +kernel, by decide +kernel, by decide +kernel⟩, by decide⟩⟩
abbrev mX12_small : mi_T := (yX12_small, cX12_small, 3, (some .int))
theorem mkX12_small : tq_mV mX12_small 1 := ⟨tq_m8 176 rfl rfl, tq_m8 177 rfl rfl, ⟨tq_m1 13 rfl rfl, tq_m8 178 rfl rfl, ⟨by decide +kernel, by decide +kernel, by decide +kernel⟩, by decide⟩⟩
abbrev mX12_signSum : mi_T := (yX12_signSum, cX12_signSum, 3, (some .int))
theorem mkX12_signSum : tq_mV mX12_signSum 0 := ⟨tq_m8 189 rfl rfl, tq_s8 0 rfl rfl, ⟨tq_m1 13 rfl rfl, tq_m8 190 rfl rfl, ⟨by decide +kernel, by decide +kernel, by decide +kernel⟩, by decide⟩⟩
abbrev mX12_signWays : mi_T := (yX12_signWays, cX12_signWays, 6, (some .int))
theorem mkX12_signWays : tq_mV mX12_signWays 0 := ⟨tq_m8 197 rfl rfl, tq_s8 1 rfl rfl, ⟨tq_m1 13 rfl rfl, tq_m8 198 rfl rfl, ⟨by decide +kernel, by decide +kernel, by decide +kernel⟩, by decide⟩⟩
abbrev mX12_flipsBy : mi_T := (yX12_flipsBy, cX12_flipsBy, 9, none)
theorem mkX12_flipsBy : tq_mV mX12_flipsBy 1 := ⟨tq_m8 185 rfl rfl, tq_s7 15 rfl rfl, ⟨tq_m1 13 rfl rfl, tq_m8 186 rfl rfl, ⟨by decide +kernel, by decide +kernel, by decide +kernel⟩, by decide⟩⟩
abbrev mX12_flips : mi_T := (yX12_flips, cX12_flips, 3, (some .int))
theorem mkX12_flips : tq_mV mX12_flips 2 := ⟨tq_m8 180 rfl rfl, tq_m8 181 rfl rfl, ⟨tq_m1 13 rfl rfl, tq_m8 182 rfl rfl, ⟨by decide +kernel, by decide +kernel, by decide +kernel⟩, by decide⟩⟩
abbrev mX12_flipWays : mi_T := (yX12_flipWays, cX12_flipWays, 2, (some .int))
theorem mkX12_flipWays : tq_mV mX12_flipWays 1 := ⟨tq_m8 192 rfl rfl, tq_m8 193 rfl rfl, ⟨tq_m1 13 rfl rfl, tq_m8 194 rfl rfl, ⟨by decide +kernel, by decide +kernel, by decide +kernel⟩, by decide⟩⟩
abbrev mX12_knowingBy : mi_T := (yX12_knowingBy, cX12_knowingBy, 5, none)
theorem mkX12_knowingBy : tq_mV mX12_knowingBy 1 := ⟨tq_m8 205 rfl rfl, tq_s8 2 rfl rfl, ⟨tq_m1 13 rfl rfl, tq_m8 206 rfl rfl, ⟨by decide +kernel, by decide +kernel, by decide +kernel⟩, by decide⟩⟩
abbrev mX12_knowing : mi_T := (yX12_knowing, cX12_knowing, 3, (some .int))
theorem mkX12_knowing : tq_mV mX12_knowing 2 := ⟨tq_m8 200 rfl rfl, tq_m8 201 rfl rfl, ⟨tq_m1 13 rfl rfl, tq_m8 202 rfl rfl, ⟨by decide +kernel, by decide +kernel, by decide +kernel⟩, by decide⟩⟩
abbrev mX12_knowingWays : mi_T := (yX12_knowingWays, cX12_knowingWays, 2, (some .int))
theorem mkX12_knowingWays : tq_mV mX12_knowingWays 1 := ⟨tq_m8 208 rfl rfl, tq_m8 209 rfl rfl, ⟨tq_m1 13 rfl rfl, tq_m8 210 rfl rfl, ⟨by decide +kernel, by decide +kernel, by decide +kernel⟩, by decide⟩⟩
abbrev mX12_isSpotMark : mi_T := (yX12_isSpotMark, cX12_isSpotMark, 3, (some .boolean))
theorem mkX12_isSpotMark : tq_mV mX12_isSpotMark 2 := ⟨tq_m8 221 rfl rfl, tq_s8 4 rfl rfl, ⟨tq_m1 13 rfl rfl, tq_m8 222 rfl rfl, ⟨by decide +kernel, by decide +kernel, by decide +kernel⟩, by decide⟩⟩
abbrev mX12_spotSum : mi_T := (yX12_spotSum, cX12_spotSum, 5, (some .int))
theorem mkX12_spotSum : tq_mV mX12_spotSum 2 := ⟨tq_m8 217 rfl rfl, tq_s8 3 rfl rfl, ⟨tq_m1 13 rfl rfl, tq_m8 218 rfl rfl, ⟨by decide +kernel, by decide +kernel, by decide +kernel⟩, by decide⟩⟩
abbrev mX12_spotMany : mi_T := (yX12_spotMany, cX12_spotMany, 5, (some .int))
theorem mkX12_spotMany : tq_mV mX12_spotMany 2 := ⟨tq_m8 225 rfl rfl, tq_s8 5 rfl rfl, ⟨tq_m1 13 rfl rfl, tq_m8 226 rfl rfl, ⟨by decide +kernel, by decide +kernel, by decide +kernel⟩, by decide⟩⟩
abbrev mX12_spot : mi_T := (yX12_spot, cX12_spot, 4, (some .int))
theorem mkX12_spot : tq_mV mX12_spot 3 := ⟨tq_m8 212 rfl rfl, tq_m8 213 rfl rfl, ⟨tq_m1 13 rfl rfl, tq_m8 214 rfl rfl, ⟨by decide +kernel, by decide +kernel, by decide +kernel⟩, by decide⟩⟩
abbrev mX12_right : mi_T := (yX12_right, cX12_right, 5, (some .int))
theorem mkX12_right : tq_mV mX12_right 2 := ⟨tq_m8 228 rfl rfl, tq_m8 229 rfl rfl, ⟨tq_m1 13 rfl rfl, tq_m8 230 rfl rfl, ⟨by decide +kernel, by decide +kernel, by decide +kernel⟩, by decide⟩⟩
abbrev mX12_nears : mi_T := (yX12_nears, cX12_nears, 3, none)
theorem mkX12_nears : tq_mV mX12_nears 1 := ⟨tq_m8 237 rfl rfl, tq_s8 6 rfl rfl, ⟨tq_m1 13 rfl rfl, tq_m8 238 rfl rfl, ⟨by decide +kernel, by decide +kernel, by decide +kernel⟩, by decide⟩⟩
abbrev mX12_sideOf : mi_T := (yX12_sideOf, cX12_sideOf, 2, (some .int))
theorem mkX12_sideOf : tq_mS mX12_sideOf 2 := ⟨tq_m9 4 rfl rfl, ⟨tq_m1 13 rfl rfl, tq_m9 5 rfl rfl, ⟨by decide +kernel, by decide +kernel, by decide +kernel⟩, by decide⟩⟩
abbrev mX12_parted : mi_T := (yX12_parted, cX12_parted, 8, (some .int))
theorem mkX12_parted : tq_mV mX12_parted 1 := ⟨tq_m9 1 rfl rfl, tq_s8 7 rfl rfl, ⟨tq_m1 13 rfl rfl, tq_m9 2 rfl rfl, ⟨by decide +kernel, by decide +kernel, by decide +kernel⟩, by decide⟩⟩
abbrev mX12_near : mi_T := (yX12_near, cX12_near, 3, (some .int))
theorem mkX12_near : tq_mV mX12_near 2 := ⟨tq_m8 232 rfl rfl, tq_m8 233 rfl rfl, ⟨tq_m1 13 rfl rfl, tq_m8 234 rfl rfl, ⟨by decide +kernel, by decide +kernel, by decide +kernel⟩, by decide⟩⟩
abbrev mX12_nearCount : mi_T := (yX12_nearCount, cX12_nearCount, 5, (some .int))
theorem mkX12_nearCount : tq_mV mX12_nearCount 1 := ⟨tq_m9 12 rfl rfl, tq_s8 8 rfl rfl, ⟨tq_m1 13 rfl rfl, tq_m9 13 rfl rfl, ⟨by decide +kernel, by decide +kernel, by decide +kernel⟩, by decide⟩⟩
abbrev mX12_nearWays : mi_T := (yX12_nearWays, cX12_nearWays, 2, (some .int))
theorem mkX12_nearWays : tq_mV mX12_nearWays 1 := ⟨tq_m9 7 rfl rfl, tq_m9 8 rfl rfl, ⟨tq_m1 13 rfl rfl, tq_m9 9 rfl rfl, ⟨by decide +kernel, by decide +kernel, by decide +kernel⟩, by decide⟩⟩
abbrev mX12_beatsBy : mi_T := (yX12_beatsBy, cX12_beatsBy, 5, (some .int))
theorem mkX12_beatsBy : tq_mV mX12_beatsBy 2 := ⟨tq_m9 20 rfl rfl, tq_s8 9 rfl rfl, ⟨tq_m1 13 rfl rfl, tq_m9 21 rfl rfl, ⟨by decide +kernel, by decide +kernel, by decide +kernel⟩, by decide⟩⟩
abbrev mX12_beats : mi_T := (yX12_beats, cX12_beats, 4, (some .int))
theorem mkX12_beats : tq_mV mX12_beats 3 := ⟨tq_m9 15 rfl rfl, tq_m9 16 rfl rfl, ⟨tq_m1 13 rfl rfl, tq_m9 17 rfl rfl, ⟨by decide +kernel, by decide +kernel, by decide +kernel⟩, by decide⟩⟩
abbrev mX12_winnerOf : mi_T := (yX12_winnerOf, cX12_winnerOf, 5, (some .int))
theorem mkX12_winnerOf : tq_mV mX12_winnerOf 1 := ⟨tq_m9 28 rfl rfl, tq_s8 10 rfl rfl, ⟨tq_m1 13 rfl rfl, tq_m9 29 rfl rfl, ⟨by decide +kernel, by decide +kernel, by decide +kernel⟩, by decide⟩⟩
abbrev mX12_winner : mi_T := (yX12_winner, cX12_winner, 2, (some .int))
theorem mkX12_winner : tq_mV mX12_winner 1 := ⟨tq_m9 23 rfl rfl, tq_m9 24 rfl rfl, ⟨tq_m1 13 rfl rfl, tq_m9 25 rfl rfl, ⟨by decide +kernel, by decide +kernel, by decide +kernel⟩, by decide⟩⟩
abbrev mX12_best : mi_T := (yX12_best, cX12_best, 6, (some .int))
theorem mkX12_best : tq_mV mX12_best 2 := ⟨tq_m9 31 rfl rfl, tq_m9 32 rfl rfl, ⟨tq_m1 13 rfl rfl, tq_m9 33 rfl rfl, ⟨by decide +kernel, by decide +kernel, by decide +kernel⟩, by decide⟩⟩
abbrev mX12_need : mi_T := (yX12_need, cX12_need, 10, (some .int))
theorem mkX12_need : tq_mV mX12_need 5 := ⟨tq_m9 35 rfl rfl, tq_m9 36 rfl rfl, ⟨tq_m1 13 rfl rfl, tq_m9 37 rfl rfl, ⟨by decide +kernel, by decide +kernel, by decide +kernel⟩, by decide⟩⟩
abbrev mX12_partsOf : mi_T := (yX12_partsOf, cX12_partsOf, 7, (some .int))
theorem mkX12_partsOf : tq_mV mX12_partsOf 4 := ⟨tq_m9 44 rfl rfl, tq_s8 11 rfl rfl, ⟨tq_m1 13 rfl rfl, tq_m9 45 rfl rfl, ⟨by decide +kernel, by decide +kernel, by decide +kernel⟩, by decide⟩⟩
abbrev mX12_parts : mi_T := (yX12_parts, cX12_parts, 5, (some .int))
theorem mkX12_parts : tq_mV mX12_parts 4 := ⟨tq_m9 39 rfl rfl, tq_m9 40 rfl rfl, ⟨tq_m1 13 rfl rfl, tq_m9 41 rfl rfl, ⟨by decide +kernel, by decide +kernel, by decide +kernel⟩, by decide⟩⟩
abbrev mX12_next : mi_T := (yX12_next, cX12_next, 8, (some .int))
theorem mkX12_next : tq_mV mX12_next 3 := ⟨tq_m9 47 rfl rfl, tq_m9 48 rfl rfl, ⟨tq_m1 13 rfl rfl, tq_m9 49 rfl rfl, ⟨by decide +kernel, by decide +kernel, by decide +kernel⟩, by decide⟩⟩
abbrev mX12_sayOf : mi_T := (yX12_sayOf, cX12_sayOf, 6, (some .int))
theorem mkX12_sayOf : tq_mV mX12_sayOf 1 := ⟨tq_m9 56 rfl rfl, tq_s8 12 rfl rfl, ⟨tq_m1 13 rfl rfl, tq_m9 57 rfl rfl, ⟨by decide +kernel, by decide +kernel, by decide +kernel⟩, by decide⟩⟩
abbrev mX12_say : mi_T := (yX12_say, cX12_say, 2, (some .int))
theorem mkX12_say : tq_mV mX12_say 1 := ⟨tq_m9 51 rfl rfl, tq_m9 52 rfl rfl, ⟨tq_m1 13 rfl rfl, tq_m9 53 rfl rfl, ⟨by decide +kernel, by decide +kernel, by decide +kernel⟩, by decide⟩⟩
abbrev mX12_turned : mi_T := (yX12_turned, cX12_turned, 3, (some .int))
theorem mkX12_turned : tq_mV mX12_turned 1 := ⟨tq_m9 60 rfl rfl, tq_m9 61 rfl rfl, ⟨tq_m1 13 rfl rfl, tq_m9 62 rfl rfl, ⟨by decide +kernel, by decide +kernel, by decide +kernel⟩, by decide⟩⟩
abbrev mX12_count : mi_T := (yX12_count, cX12_count, 2, (some .int))
theorem mkX12_count : tq_mV mX12_count 1 := ⟨tq_m9 64 rfl rfl, tq_m9 65 rfl rfl, ⟨tq_m1 13 rfl rfl, tq_m9 66 rfl rfl, ⟨by decide +kernel, by decide +kernel, by decide +kernel⟩, by decide⟩⟩
abbrev mJ9_abs_0f7a4 : mi_T := (yJ9_abs_0f7a4, cJ9_abs_0f7a4, 1, (some .int))
theorem mkJ9_abs_0f7a4 : tq_mS mJ9_abs_0f7a4 1 := ⟨tq_m5 3 rfl rfl, ⟨tq_m1 18 rfl rfl, tq_m5 4 rfl rfl, ⟨by decide +kernel, by decide +kernel, by decide +kernel⟩, by decide⟩⟩
abbrev mJ9_max_7cf53 : mi_T := (yJ9_max_7cf53, cJ9_max_7cf53, 2, (some .int))
theorem mkJ9_max_7cf53 : tq_mS mJ9_max_7cf53 2 := ⟨tq_m3 56 rfl rfl, ⟨tq_m1 18 rfl rfl, tq_m3 57 rfl rfl, ⟨by decide +kernel, by decide +kernel, by decide +kernel⟩, by decide⟩⟩
abbrev mJ9_min_7cf53 : mi_T := (yJ9_min_7cf53, cJ9_min_7cf53, 2, (some .int))
theorem mkJ9_min_7cf53 : tq_mS mJ9_min_7cf53 2 := ⟨tq_m3 59 rfl rfl, ⟨tq_m1 18 rfl rfl, tq_m3 60 rfl rfl, ⟨by decide +kernel, by decide +kernel, by decide +kernel⟩, by decide⟩⟩
abbrev mJ7_fill_d0a16 : mi_T := (yJ7_fill_d0a16, cJ7_fill_d0a16, 5, none)
theorem mkJ7_fill_d0a16 : tq_mS mJ7_fill_d0a16 2 := ⟨tq_m5 205 rfl rfl, ⟨tq_m1 12 rfl rfl, tq_m5 206 rfl rfl, ⟨by decide +kernel, by decide +kernel, by decide +kernel⟩, by decide⟩⟩
abbrev mJ7_fill_53178 : mi_T := (yJ7_fill_53178, cJ7_fill_53178, 4, none)
theorem mkJ7_fill_53178 : tq_mS mJ7_fill_53178 2 := ⟨tq_m2 140 rfl rfl, ⟨tq_m1 12 rfl rfl, tq_m2 141 rfl rfl, ⟨by decide +kernel, by decide +kernel, by decide +kernel⟩, by decide⟩⟩
theorem ml_RX11_83 : Cond.methodLink RX11 83 yJ7_fill_53178 ∈ tq_tbl := tq_m2 139 rfl rfl
theorem ml_RX11_93 : Cond.methodLink RX11 93 yX5_append ∈ tq_tbl := tq_m2 180 rfl rfl
theorem ml_RX11_97 : Cond.methodLink RX11 97 yX5_begin ∈ tq_tbl := tq_m2 192 rfl rfl
theorem ml_RX11_100 : Cond.methodLink RX11 100 yX5_hasMore ∈ tq_tbl := tq_m3 99 rfl rfl
theorem ml_RX11_104 : Cond.methodLink RX11 104 yX5_takeTell ∈ tq_tbl := tq_m3 103 rfl rfl
theorem ml_RX11_107 : Cond.methodLink RX11 107 yX5_end ∈ tq_tbl := tq_m3 205 rfl rfl
theorem ml_RX11_118 : Cond.methodLink RX11 118 yX8_hasFiddle ∈ tq_tbl := tq_m3 217 rfl rfl
theorem ml_RX11_125 : Cond.methodLink RX11 125 yX8_hasPerson ∈ tq_tbl := tq_m3 225 rfl rfl
theorem ml_RX11_131 : Cond.methodLink RX11 131 yX8_hasSitting ∈ tq_tbl := tq_m3 233 rfl rfl
theorem ml_RX11_135 : Cond.methodLink RX11 135 yX8_sat ∈ tq_tbl := tq_m4 5 rfl rfl
theorem ml_RX11_139 : Cond.methodLink RX11 139 yX8_hasLaw ∈ tq_tbl := tq_m4 14 rfl rfl
theorem ml_RX11_142 : Cond.methodLink RX11 142 yX8_hasMeeting ∈ tq_tbl := tq_m4 18 rfl rfl
theorem ml_RX11_147 : Cond.methodLink RX11 147 yX7_meet ∈ tq_tbl := tq_m4 29 rfl rfl
theorem ml_RX11_151 : Cond.methodLink RX11 151 yX7_attend ∈ tq_tbl := tq_m4 34 rfl rfl
theorem ml_RX11_155 : Cond.methodLink RX11 155 yX7_like ∈ tq_tbl := tq_m4 38 rfl rfl
theorem ml_RX11_159 : Cond.methodLink RX11 159 yX7_choice ∈ tq_tbl := tq_m4 58 rfl rfl
theorem ml_RX11_163 : Cond.methodLink RX11 163 yX8_hasPlan ∈ tq_tbl := tq_m4 81 rfl rfl
theorem ml_RX11_166 : Cond.methodLink RX11 166 yX8_sits ∈ tq_tbl := tq_m4 82 rfl rfl
theorem ml_RX11_170 : Cond.methodLink RX11 170 yX8_isOld ∈ tq_tbl := tq_m4 83 rfl rfl
theorem ml_RX11_173 : Cond.methodLink RX11 173 yX8_factsOf ∈ tq_tbl := tq_m4 91 rfl rfl
theorem ml_RX11_179 : Cond.methodLink RX11 179 yX7_seat ∈ tq_tbl := tq_m4 96 rfl rfl
theorem ml_RX11_183 : Cond.methodLink RX11 183 yX11_answer ∈ tq_tbl := tq_m4 97 rfl rfl
theorem ml_RX11_187 : Cond.methodLink RX11 187 yJ9_min_7cf53 ∈ tq_tbl := tq_m4 101 rfl rfl
theorem ml_RX11_193 : Cond.methodLink RX11 193 yJ9_max_7cf53 ∈ tq_tbl := tq_m4 102 rfl rfl
theorem ml_RX11_196 : Cond.methodLink RX11 196 yX0_add ∈ tq_tbl := tq_m4 103 rfl rfl
theorem ml_RX11_200 : Cond.methodLink RX11 200 yX7_extreme ∈ tq_tbl := tq_m4 111 rfl rfl
theorem ml_RX11_204 : Cond.methodLink RX11 204 yX8_hasBow ∈ tq_tbl := tq_m4 130 rfl rfl
theorem ml_RX11_212 : Cond.methodLink RX11 212 yX11_gainsOn ∈ tq_tbl := tq_m4 132 rfl rfl
theorem ml_RX11_219 : Cond.methodLink RX11 219 yX8_isPlayer ∈ tq_tbl := tq_m4 136 rfl rfl
theorem ml_RX11_222 : Cond.methodLink RX11 222 yX0_has ∈ tq_tbl := tq_m4 152 rfl rfl
theorem ml_RX11_225 : Cond.methodLink RX11 225 yX0_of ∈ tq_tbl := tq_m4 156 rfl rfl
theorem ml_RX11_228 : Cond.methodLink RX11 228 yX2_learn ∈ tq_tbl := tq_m4 173 rfl rfl
theorem ml_RX11_232 : Cond.methodLink RX11 232 yX11_knows ∈ tq_tbl := tq_m4 169 rfl rfl
theorem ml_RX11_252 : Cond.methodLink RX11 252 yX10_orMoreHeads ∈ tq_tbl := tq_m4 219 rfl rfl
theorem ml_RX11_258 : Cond.methodLink RX11 258 yX10_choose ∈ tq_tbl := tq_m4 229 rfl rfl
theorem ml_RX11_261 : Cond.methodLink RX11 261 yX10_orMoreTaken ∈ tq_tbl := tq_m4 230 rfl rfl
theorem ml_RX11_264 : Cond.methodLink RX11 264 yX6_gather ∈ tq_tbl := tq_m4 237 rfl rfl
theorem ml_RX11_272 : Cond.methodLink RX11 272 yX6_ways ∈ tq_tbl := tq_m5 9 rfl rfl
theorem ml_RX11_276 : Cond.methodLink RX11 276 yX1_gather ∈ tq_tbl := tq_m5 21 rfl rfl
theorem ml_RX11_286 : Cond.methodLink RX11 286 yX1_apart ∈ tq_tbl := tq_m5 29 rfl rfl
theorem ml_RX11_289 : Cond.methodLink RX11 289 yX1_waysWith ∈ tq_tbl := tq_m5 37 rfl rfl
theorem ml_RX11_292 : Cond.methodLink RX11 292 yX1_all ∈ tq_tbl := tq_m5 44 rfl rfl
theorem ml_RX11_295 : Cond.methodLink RX11 295 yX9_gatherPlayers ∈ tq_tbl := tq_m5 53 rfl rfl
theorem ml_RX11_299 : Cond.methodLink RX11 299 yX9_sum ∈ tq_tbl := tq_m5 71 rfl rfl
theorem ml_RX11_302 : Cond.methodLink RX11 302 yX9_ways ∈ tq_tbl := tq_m5 79 rfl rfl
theorem ml_RX11_303 : Cond.methodLink RX11 303 yX1_smallest ∈ tq_tbl := tq_m5 92 rfl rfl
theorem ml_RX11_306 : Cond.methodLink RX11 306 yX9_gatherKnowing ∈ tq_tbl := tq_m5 106 rfl rfl
theorem ml_RX11_321 : Cond.methodLink RX11 321 yX2_putRight ∈ tq_tbl := tq_m5 122 rfl rfl
theorem ml_RX11_325 : Cond.methodLink RX11 325 yX3_gather ∈ tq_tbl := tq_m5 137 rfl rfl
theorem ml_RX11_333 : Cond.methodLink RX11 333 yX3_ways ∈ tq_tbl := tq_m5 158 rfl rfl
theorem ml_RX11_334 : Cond.methodLink RX11 334 yX2_above ∈ tq_tbl := tq_m5 173 rfl rfl
theorem ml_RX11_338 : Cond.methodLink RX11 338 yX2_beatingAll ∈ tq_tbl := tq_m5 181 rfl rfl
theorem ml_RX11_342 : Cond.methodLink RX11 342 yX2_hasMean ∈ tq_tbl := tq_m5 194 rfl rfl
theorem ml_RX11_345 : Cond.methodLink RX11 345 yX2_parted ∈ tq_tbl := tq_m5 195 rfl rfl
theorem ml_RX11_348 : Cond.methodLink RX11 348 yX4_find ∈ tq_tbl := tq_m5 200 rfl rfl
theorem ml_RX11_358 : Cond.methodLink RX11 358 yX7_unlike ∈ tq_tbl := tq_m5 220 rfl rfl
theorem ml_RX11_363 : Cond.methodLink RX11 363 yX11_sayBy ∈ tq_tbl := tq_m5 234 rfl rfl
theorem ml_RX11_366 : Cond.methodLink RX11 366 yX11_sayOfGuesses ∈ tq_tbl := tq_m5 238 rfl rfl
theorem ml_RX11_369 : Cond.methodLink RX11 369 yX11_sayOfKinds ∈ tq_tbl := tq_m6 3 rfl rfl
theorem ml_RX11_372 : Cond.methodLink RX11 372 yX11_sayOfPairs ∈ tq_tbl := tq_m6 7 rfl rfl
theorem ml_RX11_375 : Cond.methodLink RX11 375 yX11_sayOfWinner ∈ tq_tbl := tq_m6 14 rfl rfl
theorem ml_RX11_378 : Cond.methodLink RX11 378 yX10_isRare ∈ tq_tbl := tq_m6 2 rfl rfl
theorem ml_RX11_382 : Cond.methodLink RX11 382 yX10_orders ∈ tq_tbl := tq_m6 11 rfl rfl
theorem ml_RX0_19 : Cond.methodLink RX0 19 yX0_has ∈ tq_tbl := tq_m4 160 rfl rfl
theorem ml_RX1_41 : Cond.methodLink RX1 41 yX10_commonMultiple ∈ tq_tbl := tq_m5 25 rfl rfl
theorem ml_RX1_50 : Cond.methodLink RX1 50 yX8_isOld ∈ tq_tbl := tq_m5 28 rfl rfl
theorem ml_RX1_56 : Cond.methodLink RX1 56 yX10_choose ∈ tq_tbl := tq_m5 48 rfl rfl
theorem ml_RX1_60 : Cond.methodLink RX1 60 yX1_waysFrom ∈ tq_tbl := tq_m5 41 rfl rfl
theorem ml_RX1_64 : Cond.methodLink RX1 64 yX1_all ∈ tq_tbl := tq_m5 96 rfl rfl
theorem ml_RX1_68 : Cond.methodLink RX1 68 yX1_waysWith ∈ tq_tbl := tq_m5 97 rfl rfl
theorem ml_RX1_72 : Cond.methodLink RX1 72 yX10_isRare ∈ tq_tbl := tq_m5 98 rfl rfl
theorem ml_RX2_48 : Cond.methodLink RX2 48 yJ9_min_7cf53 ∈ tq_tbl := tq_m4 177 rfl rfl
theorem ml_RX2_54 : Cond.methodLink RX2 54 yJ9_max_7cf53 ∈ tq_tbl := tq_m4 178 rfl rfl
theorem ml_RX2_57 : Cond.methodLink RX2 57 yX2_clear ∈ tq_tbl := tq_m4 179 rfl rfl
theorem ml_RX2_60 : Cond.methodLink RX2 60 yX2_sift ∈ tq_tbl := tq_m4 184 rfl rfl
theorem ml_RX2_64 : Cond.methodLink RX2 64 yX0_of ∈ tq_tbl := tq_m4 188 rfl rfl
theorem ml_RX2_67 : Cond.methodLink RX2 67 yX2_learnMark ∈ tq_tbl := tq_m4 192 rfl rfl
theorem ml_RX2_71 : Cond.methodLink RX2 71 yX8_isOld ∈ tq_tbl := tq_m4 197 rfl rfl
theorem ml_RX2_77 : Cond.methodLink RX2 77 yX2_learnGuess ∈ tq_tbl := tq_m4 198 rfl rfl
theorem ml_RX2_81 : Cond.methodLink RX2 81 yX2_learnMeans ∈ tq_tbl := tq_m4 202 rfl rfl
theorem ml_RX2_85 : Cond.methodLink RX2 85 yJ7_fill_53178 ∈ tq_tbl := tq_m4 183 rfl rfl
theorem ml_RX2_91 : Cond.methodLink RX2 91 yX0_has ∈ tq_tbl := tq_m4 189 rfl rfl
theorem ml_RX2_94 : Cond.methodLink RX2 94 yX8_hasPerson ∈ tq_tbl := tq_m4 190 rfl rfl
theorem ml_RX2_97 : Cond.methodLink RX2 97 yX8_hasFiddle ∈ tq_tbl := tq_m4 191 rfl rfl
theorem ml_RX2_100 : Cond.methodLink RX2 100 yX8_isPlayer ∈ tq_tbl := tq_m4 196 rfl rfl
theorem ml_RX2_109 : Cond.methodLink RX2 109 yX2_hasMean ∈ tq_tbl := tq_m5 153 rfl rfl
theorem ml_RX2_112 : Cond.methodLink RX2 112 yX2_isBlindMark ∈ tq_tbl := tq_m5 126 rfl rfl
theorem ml_RX2_116 : Cond.methodLink RX2 116 yX2_spotMean ∈ tq_tbl := tq_m5 129 rfl rfl
theorem ml_RX2_120 : Cond.methodLink RX2 120 yX2_beatsOthers ∈ tq_tbl := tq_m5 185 rfl rfl
theorem ml_RX2_124 : Cond.methodLink RX2 124 yX2_above ∈ tq_tbl := tq_m5 189 rfl rfl
theorem ml_RX3_39 : Cond.methodLink RX3 39 yX2_hasMean ∈ tq_tbl := tq_m5 141 rfl rfl
theorem ml_RX3_45 : Cond.methodLink RX3 45 yX3_gatherTwo ∈ tq_tbl := tq_m5 145 rfl rfl
theorem ml_RX3_49 : Cond.methodLink RX3 49 yX2_parted ∈ tq_tbl := tq_m5 149 rfl rfl
theorem ml_RX3_53 : Cond.methodLink RX3 53 yX3_waysFrom ∈ tq_tbl := tq_m5 162 rfl rfl
theorem ml_RX3_57 : Cond.methodLink RX3 57 yX3_alikeWithThoseAhead ∈ tq_tbl := tq_m5 165 rfl rfl
theorem ml_RX4_18 : Cond.methodLink RX4 18 yJ7_fill_d0a16 ∈ tq_tbl := tq_m5 204 rfl rfl
theorem ml_RX4_24 : Cond.methodLink RX4 24 yX4_addTry ∈ tq_tbl := tq_m5 207 rfl rfl
theorem ml_RX4_30 : Cond.methodLink RX4 30 yJ9_max_7cf53 ∈ tq_tbl := tq_m5 211 rfl rfl
theorem ml_RX4_36 : Cond.methodLink RX4 36 yX4_leastBar ∈ tq_tbl := tq_m5 212 rfl rfl
theorem ml_RX5_49 : Cond.methodLink RX5 49 yX8_clear ∈ tq_tbl := tq_m2 196 rfl rfl
theorem ml_RX5_67 : Cond.methodLink RX5 67 yX5_scan ∈ tq_tbl := tq_m2 200 rfl rfl
theorem ml_RX5_73 : Cond.methodLink RX5 73 yX5_isBlank ∈ tq_tbl := tq_m2 204 rfl rfl
theorem ml_RX5_77 : Cond.methodLink RX5 77 yX5_endOf ∈ tq_tbl := tq_m2 207 rfl rfl
theorem ml_RX5_81 : Cond.methodLink RX5 81 yX5_kindOf ∈ tq_tbl := tq_m2 219 rfl rfl
theorem ml_RX5_85 : Cond.methodLink RX5 85 yX5_isLetter ∈ tq_tbl := tq_m2 211 rfl rfl
theorem ml_RX5_88 : Cond.methodLink RX5 88 yX5_isDigit ∈ tq_tbl := tq_m2 215 rfl rfl
theorem ml_RX5_91 : Cond.methodLink RX5 91 yX5_wordOf ∈ tq_tbl := tq_m2 223 rfl rfl
theorem ml_RX5_101 : Cond.methodLink RX5 101 yX5_isWord ∈ tq_tbl := tq_m2 227 rfl rfl
theorem ml_RX5_111 : Cond.methodLink RX5 111 yX5_pass ∈ tq_tbl := tq_m3 115 rfl rfl
theorem ml_RX5_114 : Cond.methodLink RX5 114 yX5_takeFiddle ∈ tq_tbl := tq_m3 107 rfl rfl
theorem ml_RX5_117 : Cond.methodLink RX5 117 yX5_takePerson ∈ tq_tbl := tq_m3 145 rfl rfl
theorem ml_RX5_121 : Cond.methodLink RX5 121 yX5_takeBow ∈ tq_tbl := tq_m3 149 rfl rfl
theorem ml_RX5_124 : Cond.methodLink RX5 124 yX5_takeLaw ∈ tq_tbl := tq_m3 153 rfl rfl
theorem ml_RX5_127 : Cond.methodLink RX5 127 yX5_takePlan ∈ tq_tbl := tq_m3 189 rfl rfl
theorem ml_RX5_133 : Cond.methodLink RX5 133 yX5_passFirst ∈ tq_tbl := tq_m3 111 rfl rfl
theorem ml_RX5_137 : Cond.methodLink RX5 137 yX5_takeNewName ∈ tq_tbl := tq_m3 119 rfl rfl
theorem ml_RX5_141 : Cond.methodLink RX5 141 yX5_passIf ∈ tq_tbl := tq_m3 137 rfl rfl
theorem ml_RX5_147 : Cond.methodLink RX5 147 yX5_takeInt ∈ tq_tbl := tq_m3 141 rfl rfl
theorem ml_RX5_165 : Cond.methodLink RX5 165 yX5_takeExpression ∈ tq_tbl := tq_m3 157 rfl rfl
theorem ml_RX5_177 : Cond.methodLink RX5 177 yX5_takeSit ∈ tq_tbl := tq_m3 193 rfl rfl
theorem ml_RX5_183 : Cond.methodLink RX5 183 yX5_takeToldName ∈ tq_tbl := tq_m3 197 rfl rfl
theorem ml_RX5_186 : Cond.methodLink RX5 186 yX5_takeOrdered ∈ tq_tbl := tq_m3 201 rfl rfl
theorem ml_RX5_189 : Cond.methodLink RX5 189 yX5_failLater ∈ tq_tbl := tq_m3 133 rfl rfl
theorem ml_RX5_196 : Cond.methodLink RX5 196 yX5_keyAt ∈ tq_tbl := tq_m3 123 rfl rfl
theorem ml_RX5_200 : Cond.methodLink RX5 200 yX5_nameOf ∈ tq_tbl := tq_m3 129 rfl rfl
theorem ml_RX5_214 : Cond.methodLink RX5 214 yX5_startUnit ∈ tq_tbl := tq_m3 161 rfl rfl
theorem ml_RX5_217 : Cond.methodLink RX5 217 yX5_goOn ∈ tq_tbl := tq_m3 173 rfl rfl
theorem ml_RX5_221 : Cond.methodLink RX5 221 yX5_hold ∈ tq_tbl := tq_m3 165 rfl rfl
theorem ml_RX5_224 : Cond.methodLink RX5 224 yX5_write ∈ tq_tbl := tq_m3 169 rfl rfl
theorem ml_RX5_227 : Cond.methodLink RX5 227 yX5_settle ∈ tq_tbl := tq_m3 177 rfl rfl
theorem ml_RX5_230 : Cond.methodLink RX5 230 yX5_join ∈ tq_tbl := tq_m3 181 rfl rfl
theorem ml_RX5_233 : Cond.methodLink RX5 233 yX5_closeOrCompare ∈ tq_tbl := tq_m3 185 rfl rfl
theorem ml_RX6_30 : Cond.methodLink RX6 30 yX8_isPlayer ∈ tq_tbl := tq_m5 1 rfl rfl
theorem ml_RX6_42 : Cond.methodLink RX6 42 yJ9_abs_0f7a4 ∈ tq_tbl := tq_m5 2 rfl rfl
theorem ml_RX6_48 : Cond.methodLink RX6 48 yX6_waysFrom ∈ tq_tbl := tq_m5 13 rfl rfl
theorem ml_RX7_18 : Cond.methodLink RX7 18 yX8_hasMeeting ∈ tq_tbl := tq_m4 33 rfl rfl
theorem ml_RX7_33 : Cond.methodLink RX7 33 yX8_sat ∈ tq_tbl := tq_m4 62 rfl rfl
theorem ml_RX7_37 : Cond.methodLink RX7 37 yX7_meet ∈ tq_tbl := tq_m4 67 rfl rfl
theorem ml_RX7_41 : Cond.methodLink RX7 41 yX7_noiseOf ∈ tq_tbl := tq_m4 68 rfl rfl
theorem ml_RX7_45 : Cond.methodLink RX7 45 yX7_attend ∈ tq_tbl := tq_m4 75 rfl rfl
theorem ml_RX7_49 : Cond.methodLink RX7 49 yX7_stirred ∈ tq_tbl := tq_m4 71 rfl rfl
theorem ml_RX7_53 : Cond.methodLink RX7 53 yX8_lawEnd ∈ tq_tbl := tq_m4 42 rfl rfl
theorem ml_RX7_57 : Cond.methodLink RX7 57 yX8_lawStart ∈ tq_tbl := tq_m4 47 rfl rfl
theorem ml_RX7_63 : Cond.methodLink RX7 63 yX7_joined ∈ tq_tbl := tq_m4 51 rfl rfl
theorem ml_RX7_66 : Cond.methodLink RX7 66 yX7_reach ∈ tq_tbl := tq_m4 115 rfl rfl
theorem ml_RX7_72 : Cond.methodLink RX7 72 yX7_extremeOfQuick ∈ tq_tbl := tq_m4 120 rfl rfl
theorem ml_RX7_76 : Cond.methodLink RX7 76 yJ9_max_7cf53 ∈ tq_tbl := tq_m4 124 rfl rfl
theorem ml_RX7_81 : Cond.methodLink RX7 81 yJ9_min_7cf53 ∈ tq_tbl := tq_m4 125 rfl rfl
theorem ml_RX7_84 : Cond.methodLink RX7 84 yX7_like ∈ tq_tbl := tq_m4 76 rfl rfl
theorem ml_RX7_88 : Cond.methodLink RX7 88 yX7_seat ∈ tq_tbl := tq_m4 63 rfl rfl
theorem ml_RX7_92 : Cond.methodLink RX7 92 yX8_sits ∈ tq_tbl := tq_m5 224 rfl rfl
theorem ml_RX7_95 : Cond.methodLink RX7 95 yX7_choice ∈ tq_tbl := tq_m5 225 rfl rfl
theorem ml_RX8_49 : Cond.methodLink RX8 49 yX8_sits ∈ tq_tbl := tq_m3 237 rfl rfl
theorem ml_RX8_53 : Cond.methodLink RX8 53 yX8_hasPerson ∈ tq_tbl := tq_m4 22 rfl rfl
theorem ml_RX8_57 : Cond.methodLink RX8 57 yX8_hasFiddle ∈ tq_tbl := tq_m4 23 rfl rfl
theorem ml_RX8_60 : Cond.methodLink RX8 60 yX8_hasBow ∈ tq_tbl := tq_m4 24 rfl rfl
theorem ml_RX8_63 : Cond.methodLink RX8 63 yX8_hasPlan ∈ tq_tbl := tq_m4 1 rfl rfl
theorem ml_RX8_66 : Cond.methodLink RX8 66 yX8_hasSitting ∈ tq_tbl := tq_m4 9 rfl rfl
theorem ml_RX8_70 : Cond.methodLink RX8 70 yX8_hasLaw ∈ tq_tbl := tq_m4 46 rfl rfl
theorem ml_RX8_73 : Cond.methodLink RX8 73 yX8_sat ∈ tq_tbl := tq_m4 95 rfl rfl
theorem ml_RX9_25 : Cond.methodLink RX9 25 yX9_clear ∈ tq_tbl := tq_m5 57 rfl rfl
theorem ml_RX9_33 : Cond.methodLink RX9 33 yX8_isPlayer ∈ tq_tbl := tq_m5 61 rfl rfl
theorem ml_RX9_37 : Cond.methodLink RX9 37 yX9_gatherPlayer ∈ tq_tbl := tq_m5 62 rfl rfl
theorem ml_RX9_49 : Cond.methodLink RX9 49 yX8_isOld ∈ tq_tbl := tq_m5 66 rfl rfl
theorem ml_RX9_52 : Cond.methodLink RX9 52 yX9_add ∈ tq_tbl := tq_m5 67 rfl rfl
theorem ml_RX9_59 : Cond.methodLink RX9 59 yJ9_min_7cf53 ∈ tq_tbl := tq_m5 83 rfl rfl
theorem ml_RX9_65 : Cond.methodLink RX9 65 yJ9_max_7cf53 ∈ tq_tbl := tq_m5 84 rfl rfl
theorem ml_RX9_68 : Cond.methodLink RX9 68 yX9_waysFrom ∈ tq_tbl := tq_m5 85 rfl rfl
theorem ml_RX10_9 : Cond.methodLink RX10 9 yX10_choose ∈ tq_tbl := tq_m4 222 rfl rfl
theorem ml_RX12_192 : Cond.methodLink RX12 192 yX12_put ∈ tq_tbl := tq_m7 41 rfl rfl
theorem ml_RX12_201 : Cond.methodLink RX12 201 yX12_appends ∈ tq_tbl := tq_m6 35 rfl rfl
theorem ml_RX12_208 : Cond.methodLink RX12 208 yX12_byteAt ∈ tq_tbl := tq_m7 57 rfl rfl
theorem ml_RX12_212 : Cond.methodLink RX12 212 yX12_token ∈ tq_tbl := tq_m7 61 rfl rfl
theorem ml_RX12_216 : Cond.methodLink RX12 216 yX12_isLetter ∈ tq_tbl := tq_m7 65 rfl rfl
theorem ml_RX12_220 : Cond.methodLink RX12 220 yX12_isDigit ∈ tq_tbl := tq_m7 68 rfl rfl
theorem ml_RX12_223 : Cond.methodLink RX12 223 yX12_sign ∈ tq_tbl := tq_m7 71 rfl rfl
theorem ml_RX12_242 : Cond.methodLink RX12 242 yX12_fail ∈ tq_tbl := tq_m7 83 rfl rfl
theorem ml_RX12_245 : Cond.methodLink RX12 245 yX12_is ∈ tq_tbl := tq_m7 75 rfl rfl
theorem ml_RX12_248 : Cond.methodLink RX12 248 yX12_goesOn ∈ tq_tbl := tq_m7 91 rfl rfl
theorem ml_RX12_251 : Cond.methodLink RX12 251 yX12_cut ∈ tq_tbl := tq_m7 53 rfl rfl
theorem ml_RX12_269 : Cond.methodLink RX12 269 yX12_tell ∈ tq_tbl := tq_m7 79 rfl rfl
theorem ml_RX12_272 : Cond.methodLink RX12 272 yX12_tellFiddle ∈ tq_tbl := tq_m7 87 rfl rfl
theorem ml_RX12_275 : Cond.methodLink RX12 275 yX12_tellPerson ∈ tq_tbl := tq_m7 115 rfl rfl
theorem ml_RX12_278 : Cond.methodLink RX12 278 yX12_tellBow ∈ tq_tbl := tq_m7 119 rfl rfl
theorem ml_RX12_281 : Cond.methodLink RX12 281 yX12_tellLaw ∈ tq_tbl := tq_m7 123 rfl rfl
theorem ml_RX12_284 : Cond.methodLink RX12 284 yX12_tellPlan ∈ tq_tbl := tq_m7 155 rfl rfl
theorem ml_RX12_287 : Cond.methodLink RX12 287 yX12_must ∈ tq_tbl := tq_m7 99 rfl rfl
theorem ml_RX12_290 : Cond.methodLink RX12 290 yX12_wrong ∈ tq_tbl := tq_m7 103 rfl rfl
theorem ml_RX12_294 : Cond.methodLink RX12 294 yX12_named ∈ tq_tbl := tq_m7 95 rfl rfl
theorem ml_RX12_298 : Cond.methodLink RX12 298 yX12_told ∈ tq_tbl := tq_m7 107 rfl rfl
theorem ml_RX12_301 : Cond.methodLink RX12 301 yX12_knows ∈ tq_tbl := tq_m7 111 rfl rfl
theorem ml_RX12_305 : Cond.methodLink RX12 305 yX12_expression ∈ tq_tbl := tq_m7 127 rfl rfl
theorem ml_RX12_308 : Cond.methodLink RX12 308 yX12_tellSit ∈ tq_tbl := tq_m7 159 rfl rfl
theorem ml_RX12_311 : Cond.methodLink RX12 311 yX12_known ∈ tq_tbl := tq_m7 163 rfl rfl
theorem ml_RX12_317 : Cond.methodLink RX12 317 yX12_waitsOn ∈ tq_tbl := tq_m7 151 rfl rfl
theorem ml_RX12_320 : Cond.methodLink RX12 320 yX12_emit ∈ tq_tbl := tq_m7 139 rfl rfl
theorem ml_RX12_323 : Cond.methodLink RX12 323 yX12_waitFor ∈ tq_tbl := tq_m7 131 rfl rfl
theorem ml_RX12_326 : Cond.methodLink RX12 326 yX12_unit ∈ tq_tbl := tq_m7 135 rfl rfl
theorem ml_RX12_329 : Cond.methodLink RX12 329 yX12_goes ∈ tq_tbl := tq_m7 143 rfl rfl
theorem ml_RX12_333 : Cond.methodLink RX12 333 yX12_comesOut ∈ tq_tbl := tq_m7 147 rfl rfl
theorem ml_RX12_337 : Cond.methodLink RX12 337 yX12_in ∈ tq_tbl := tq_m7 179 rfl rfl
theorem ml_RX12_341 : Cond.methodLink RX12 341 yX12_isOldOne ∈ tq_tbl := tq_m7 182 rfl rfl
theorem ml_RX12_344 : Cond.methodLink RX12 344 yX12_isPlayer ∈ tq_tbl := tq_m7 194 rfl rfl
theorem ml_RX12_347 : Cond.methodLink RX12 347 yX12_valueOf ∈ tq_tbl := tq_m7 231 rfl rfl
theorem ml_RX12_350 : Cond.methodLink RX12 350 yX12_isFiddle ∈ tq_tbl := tq_m7 175 rfl rfl
theorem ml_RX12_353 : Cond.methodLink RX12 353 yX12_isPerson ∈ tq_tbl := tq_m7 190 rfl rfl
theorem ml_RX12_356 : Cond.methodLink RX12 356 yX12_isPlan ∈ tq_tbl := tq_m7 206 rfl rfl
theorem ml_RX12_359 : Cond.methodLink RX12 359 yX12_isSitting ∈ tq_tbl := tq_m7 202 rfl rfl
theorem ml_RX12_363 : Cond.methodLink RX12 363 yX12_sitAt ∈ tq_tbl := tq_m7 210 rfl rfl
theorem ml_RX12_367 : Cond.methodLink RX12 367 yX12_isLaw ∈ tq_tbl := tq_m7 218 rfl rfl
theorem ml_RX12_370 : Cond.methodLink RX12 370 yX12_isBow ∈ tq_tbl := tq_m7 222 rfl rfl
theorem ml_RX12_374 : Cond.methodLink RX12 374 yX12_likes ∈ tq_tbl := tq_m7 227 rfl rfl
theorem ml_RX12_379 : Cond.methodLink RX12 379 yX12_mixed ∈ tq_tbl := tq_m8 10 rfl rfl
theorem ml_RX12_382 : Cond.methodLink RX12 382 yX12_lot ∈ tq_tbl := tq_m8 7 rfl rfl
theorem ml_RX12_385 : Cond.methodLink RX12 385 yX12_says ∈ tq_tbl := tq_m8 3 rfl rfl
theorem ml_RX12_389 : Cond.methodLink RX12 389 yX12_takenIn ∈ tq_tbl := tq_m7 239 rfl rfl
theorem ml_RX12_393 : Cond.methodLink RX12 393 yX12_touched ∈ tq_tbl := tq_m8 22 rfl rfl
theorem ml_RX12_402 : Cond.methodLink RX12 402 yX12_comes ∈ tq_tbl := tq_m8 35 rfl rfl
theorem ml_RX12_405 : Cond.methodLink RX12 405 yX12_counts ∈ tq_tbl := tq_m8 67 rfl rfl
theorem ml_RX12_408 : Cond.methodLink RX12 408 yX12_isKnown ∈ tq_tbl := tq_m8 59 rfl rfl
theorem ml_RX12_411 : Cond.methodLink RX12 411 yX12_gathers ∈ tq_tbl := tq_m8 63 rfl rfl
theorem ml_RX12_414 : Cond.methodLink RX12 414 yX12_sumOf ∈ tq_tbl := tq_m8 75 rfl rfl
theorem ml_RX12_418 : Cond.methodLink RX12 418 yX12_manyOf ∈ tq_tbl := tq_m8 79 rfl rfl
theorem ml_RX12_421 : Cond.methodLink RX12 421 yX12_guessed ∈ tq_tbl := tq_m8 87 rfl rfl
theorem ml_RX12_424 : Cond.methodLink RX12 424 yX12_picks ∈ tq_tbl := tq_m8 103 rfl rfl
theorem ml_RX12_428 : Cond.methodLink RX12 428 yX12_power ∈ tq_tbl := tq_m8 106 rfl rfl
theorem ml_RX12_433 : Cond.methodLink RX12 433 yX12_tail ∈ tq_tbl := tq_m8 100 rfl rfl
theorem ml_RX12_439 : Cond.methodLink RX12 439 yX12_coinOf ∈ tq_tbl := tq_m8 95 rfl rfl
theorem ml_RX12_446 : Cond.methodLink RX12 446 yX12_bare ∈ tq_tbl := tq_m8 126 rfl rfl
theorem ml_RX12_449 : Cond.methodLink RX12 449 yX12_steadies ∈ tq_tbl := tq_m8 118 rfl rfl
theorem ml_RX12_452 : Cond.methodLink RX12 452 yX12_off ∈ tq_tbl := tq_m8 122 rfl rfl
theorem ml_RX12_455 : Cond.methodLink RX12 455 yX12_factorial ∈ tq_tbl := tq_m8 137 rfl rfl
theorem ml_RX12_458 : Cond.methodLink RX12 458 yX12_gives ∈ tq_tbl := tq_m8 140 rfl rfl
theorem ml_RX12_461 : Cond.methodLink RX12 461 yX12_steadyCount ∈ tq_tbl := tq_m8 133 rfl rfl
theorem ml_RX12_473 : Cond.methodLink RX12 473 yX12_commonOf ∈ tq_tbl := tq_m8 153 rfl rfl
theorem ml_RX12_476 : Cond.methodLink RX12 476 yX12_kindsApart ∈ tq_tbl := tq_m8 160 rfl rfl
theorem ml_RX12_479 : Cond.methodLink RX12 479 yX12_kindsNow ∈ tq_tbl := tq_m8 156 rfl rfl
theorem ml_RX12_482 : Cond.methodLink RX12 482 yX12_bits ∈ tq_tbl := tq_m8 172 rfl rfl
theorem ml_RX12_486 : Cond.methodLink RX12 486 yX12_kindsBy ∈ tq_tbl := tq_m8 149 rfl rfl
theorem ml_RX12_489 : Cond.methodLink RX12 489 yX12_kindsCount ∈ tq_tbl := tq_m8 168 rfl rfl
theorem ml_RX12_496 : Cond.methodLink RX12 496 yX12_signSum ∈ tq_tbl := tq_m8 187 rfl rfl
theorem ml_RX12_499 : Cond.methodLink RX12 499 yX12_flipsBy ∈ tq_tbl := tq_m8 183 rfl rfl
theorem ml_RX12_502 : Cond.methodLink RX12 502 yX12_signWays ∈ tq_tbl := tq_m8 195 rfl rfl
theorem ml_RX12_508 : Cond.methodLink RX12 508 yX12_knowingBy ∈ tq_tbl := tq_m8 203 rfl rfl
theorem ml_RX12_511 : Cond.methodLink RX12 511 yX12_isSpotMark ∈ tq_tbl := tq_m8 219 rfl rfl
theorem ml_RX12_514 : Cond.methodLink RX12 514 yX12_spotSum ∈ tq_tbl := tq_m8 215 rfl rfl
theorem ml_RX12_517 : Cond.methodLink RX12 517 yX12_spotMany ∈ tq_tbl := tq_m8 223 rfl rfl
theorem ml_RX12_523 : Cond.methodLink RX12 523 yX12_sideOf ∈ tq_tbl := tq_m9 3 rfl rfl
theorem ml_RX12_526 : Cond.methodLink RX12 526 yX12_nears ∈ tq_tbl := tq_m8 235 rfl rfl
theorem ml_RX12_529 : Cond.methodLink RX12 529 yX12_parted ∈ tq_tbl := tq_m8 239 rfl rfl
theorem ml_RX12_532 : Cond.methodLink RX12 532 yX12_nearCount ∈ tq_tbl := tq_m9 10 rfl rfl
theorem ml_RX12_535 : Cond.methodLink RX12 535 yX12_beatsBy ∈ tq_tbl := tq_m9 18 rfl rfl
theorem ml_RX12_538 : Cond.methodLink RX12 538 yX12_winnerOf ∈ tq_tbl := tq_m9 26 rfl rfl
theorem ml_RX12_541 : Cond.methodLink RX12 541 yX12_partsOf ∈ tq_tbl := tq_m9 42 rfl rfl
theorem ml_RX12_546 : Cond.methodLink RX12 546 yX12_sayOf ∈ tq_tbl := tq_m9 54 rfl rfl
theorem ki_RX11_146 : Cond.constant RX11 146 (-2147483648) ∈ tq_tbl := tq_m4 28 rfl rfl
theorem ki_RX11_207 : Cond.constantLong RX11 207 (-1) ∈ tq_tbl := tq_m4 131 rfl rfl
theorem ki_RX11_250 : Cond.constantLong RX11 250 (-2) ∈ tq_tbl := tq_m4 218 rfl rfl
theorem ki_RX11_275 : Cond.constant RX11 275 (-1000000000) ∈ tq_tbl := tq_m5 20 rfl rfl
theorem ki_RX4_28 : Cond.constantLong RX4 28 (2) ∈ tq_tbl := tq_m5 210 rfl rfl
theorem ki_RX5_192 : Cond.constantLong RX5 192 (32) ∈ tq_tbl := tq_m3 127 rfl rfl
theorem ki_RX5_194 : Cond.constantLong RX5 194 (97) ∈ tq_tbl := tq_m3 128 rfl rfl
theorem ki_RX7_52 : Cond.constant RX7 52 (1103515245) ∈ tq_tbl := tq_m4 74 rfl rfl
theorem ki_RX7_70 : Cond.constant RX7 70 (-2147483648) ∈ tq_tbl := tq_m4 118 rfl rfl
theorem ki_RX7_71 : Cond.constant RX7 71 (2147483647) ∈ tq_tbl := tq_m4 119 rfl rfl
theorem ki_RX10_7 : Cond.constantLong RX10 7 (20) ∈ tq_tbl := tq_m5 101 rfl rfl
theorem ki_RX12_199 : Cond.constantLong RX12 199 (27) ∈ tq_tbl := tq_m6 38 rfl rfl
theorem ki_RX12_373 : Cond.constant RX12 373 (-2147483648) ∈ tq_tbl := tq_m7 226 rfl rfl
theorem ki_RX12_378 : Cond.constant RX12 378 (1103515245) ∈ tq_tbl := tq_m8 13 rfl rfl
theorem ki_RX12_397 : Cond.constantLong RX12 397 (-1) ∈ tq_tbl := tq_m8 30 rfl rfl
theorem ki_RX12_431 : Cond.constantLong RX12 431 (-2) ∈ tq_tbl := tq_m8 99 rfl rfl
theorem ki_RX12_437 : Cond.constantLong RX12 437 (2) ∈ tq_tbl := tq_m8 109 rfl rfl
theorem ki_RX12_485 : Cond.constant RX12 485 (-1000000000) ∈ tq_tbl := tq_m8 148 rfl rfl
theorem ki_RX12_544 : Cond.constantLong RX12 544 (20) ∈ tq_tbl := tq_m9 58 rfl rfl
