abbrev mJ0_charAt_5068e : mi_T := (yJ0_charAt_5068e, cJ0_charAt_5068e, 2, (some .char))
theorem mkJ0_charAt_5068e : tq_mV mJ0_charAt_5068e 1 := ⟨tq_m2 233 rfl rfl, tq_m2 234 rfl rfl, ⟨tq_m1 14 rfl rfl, tq_m2 235 rfl rfl, ⟨by decide +kernel, by decide +kernel, by decide +kernel⟩, by decide⟩⟩
theorem dJ0_charAt_5068e_0 : decode cJ0_charAt_5068e 0 = .ok (.aload_n 0, 1) := by decide +kernel
theorem dJ0_charAt_5068e_1 : decode cJ0_charAt_5068e 1 = .ok (.invokevirtual 492, 3) := by decide +kernel
theorem dJ0_charAt_5068e_4 : decode cJ0_charAt_5068e 4 = .ok (.ifCond .eq 12, 3) := by decide +kernel
theorem dJ0_charAt_5068e_7 : decode cJ0_charAt_5068e 7 = .ok (.aload_n 0, 1) := by decide +kernel
theorem dJ0_charAt_5068e_8 : decode cJ0_charAt_5068e 8 = .ok (.getfield 9, 3) := by decide +kernel
theorem dJ0_charAt_5068e_11 : decode cJ0_charAt_5068e 11 = .ok (.iload_n 1, 1) := by decide +kernel
theorem dJ0_charAt_5068e_12 : decode cJ0_charAt_5068e 12 = .ok (.invokestatic 495, 3) := by decide +kernel
theorem dJ0_charAt_5068e_15 : decode cJ0_charAt_5068e 15 = .ok (.ireturn, 1) := by decide +kernel
theorem dJ0_charAt_5068e_16 : decode cJ0_charAt_5068e 16 = .ok (.aload_n 0, 1) := by decide +kernel
theorem dJ0_charAt_5068e_17 : decode cJ0_charAt_5068e 17 = .ok (.getfield 9, 3) := by decide +kernel
theorem dJ0_charAt_5068e_20 : decode cJ0_charAt_5068e 20 = .ok (.iload_n 1, 1) := by decide +kernel
theorem dJ0_charAt_5068e_21 : decode cJ0_charAt_5068e 21 = .ok (.invokestatic 498, 3) := by decide +kernel
theorem dJ0_charAt_5068e_24 : decode cJ0_charAt_5068e 24 = .ok (.ireturn, 1) := by decide +kernel
abbrev mJ0_isLatin1_aae02 : mi_T := (yJ0_isLatin1_aae02, cJ0_isLatin1_aae02, 1, (some .boolean))
theorem mkJ0_isLatin1_aae02 : tq_mV mJ0_isLatin1_aae02 0 := ⟨tq_m2 237 rfl rfl, tq_m2 238 rfl rfl, ⟨tq_m1 14 rfl rfl, tq_m2 239 rfl rfl, ⟨by decide +kernel, by decide +kernel, by decide +kernel⟩, by decide⟩⟩
theorem dJ0_isLatin1_aae02_0 : decode cJ0_isLatin1_aae02 0 = .ok (.getstatic 38, 3) := by decide +kernel
theorem dJ0_isLatin1_aae02_3 : decode cJ0_isLatin1_aae02 3 = .ok (.ifCond .eq 14, 3) := by decide +kernel
theorem dJ0_isLatin1_aae02_6 : decode cJ0_isLatin1_aae02 6 = .ok (.aload_n 0, 1) := by decide +kernel
theorem dJ0_isLatin1_aae02_7 : decode cJ0_isLatin1_aae02 7 = .ok (.getfield 15, 3) := by decide +kernel
theorem dJ0_isLatin1_aae02_10 : decode cJ0_isLatin1_aae02 10 = .ok (.ifCond .ne 7, 3) := by decide +kernel
theorem dJ0_isLatin1_aae02_13 : decode cJ0_isLatin1_aae02 13 = .ok (.iconst 1, 1) := by decide +kernel
theorem dJ0_isLatin1_aae02_14 : decode cJ0_isLatin1_aae02 14 = .ok (.goto 4, 3) := by decide +kernel
theorem dJ0_isLatin1_aae02_17 : decode cJ0_isLatin1_aae02 17 = .ok (.iconst 0, 1) := by decide +kernel
theorem dJ0_isLatin1_aae02_18 : decode cJ0_isLatin1_aae02 18 = .ok (.ireturn, 1) := by decide +kernel
abbrev mJ0_checkIndex_df160 : mi_T := (yJ0_checkIndex_df160, cJ0_checkIndex_df160, 2, none)
theorem mkJ0_checkIndex_df160 : tq_mS mJ0_checkIndex_df160 2 := ⟨tq_m3 6 rfl rfl, ⟨tq_m1 14 rfl rfl, tq_m3 7 rfl rfl, ⟨by decide +kernel, by decide +kernel, by decide +kernel⟩, by decide⟩⟩
theorem dJ0_checkIndex_df160_0 : decode cJ0_checkIndex_df160 0 = .ok (.iload_n 0, 1) := by decide +kernel
theorem dJ0_checkIndex_df160_1 : decode cJ0_checkIndex_df160 1 = .ok (.iload_n 1, 1) := by decide +kernel
theorem dJ0_checkIndex_df160_2 : decode cJ0_checkIndex_df160 2 = .ok (.getstatic 1053, 3) := by decide +kernel
theorem dJ0_checkIndex_df160_5 : decode cJ0_checkIndex_df160 5 = .ok (.invokestatic 1059, 3) := by decide +kernel
theorem dJ0_checkIndex_df160_8 : decode cJ0_checkIndex_df160 8 = .ok (.pop, 1) := by decide +kernel
theorem dJ0_checkIndex_df160_9 : decode cJ0_checkIndex_df160 9 = .ok (.return_, 1) := by decide +kernel
abbrev mJ0_indexOf_0f7a4 : mi_T := (yJ0_indexOf_0f7a4, cJ0_indexOf_0f7a4, 2, (some .int))
theorem mkJ0_indexOf_0f7a4 : tq_mV mJ0_indexOf_0f7a4 1 := ⟨tq_m3 34 rfl rfl, tq_m3 35 rfl rfl, ⟨tq_m1 14 rfl rfl, tq_m3 36 rfl rfl, ⟨by decide +kernel, by decide +kernel, by decide +kernel⟩, by decide⟩⟩
theorem dJ0_indexOf_0f7a4_0 : decode cJ0_indexOf_0f7a4 0 = .ok (.aload_n 0, 1) := by decide +kernel
theorem dJ0_indexOf_0f7a4_1 : decode cJ0_indexOf_0f7a4 1 = .ok (.iload_n 1, 1) := by decide +kernel
theorem dJ0_indexOf_0f7a4_2 : decode cJ0_indexOf_0f7a4 2 = .ok (.iconst 0, 1) := by decide +kernel
theorem dJ0_indexOf_0f7a4_3 : decode cJ0_indexOf_0f7a4 3 = .ok (.invokevirtual 633, 3) := by decide +kernel
theorem dJ0_indexOf_0f7a4_6 : decode cJ0_indexOf_0f7a4 6 = .ok (.ireturn, 1) := by decide +kernel
abbrev mJ0_indexOf_7cf53 : mi_T := (yJ0_indexOf_7cf53, cJ0_indexOf_7cf53, 3, (some .int))
theorem mkJ0_indexOf_7cf53 : tq_mV mJ0_indexOf_7cf53 2 := ⟨tq_m3 38 rfl rfl, tq_m3 39 rfl rfl, ⟨tq_m1 14 rfl rfl, tq_m3 40 rfl rfl, ⟨by decide +kernel, by decide +kernel, by decide +kernel⟩, by decide⟩⟩
theorem dJ0_indexOf_7cf53_0 : decode cJ0_indexOf_7cf53 0 = .ok (.aload_n 0, 1) := by decide +kernel
theorem dJ0_indexOf_7cf53_1 : decode cJ0_indexOf_7cf53 1 = .ok (.invokevirtual 492, 3) := by decide +kernel
theorem dJ0_indexOf_7cf53_4 : decode cJ0_indexOf_7cf53 4 = .ok (.ifCond .eq 19, 3) := by decide +kernel
theorem dJ0_indexOf_7cf53_7 : decode cJ0_indexOf_7cf53 7 = .ok (.aload_n 0, 1) := by decide +kernel
theorem dJ0_indexOf_7cf53_8 : decode cJ0_indexOf_7cf53 8 = .ok (.getfield 9, 3) := by decide +kernel
theorem dJ0_indexOf_7cf53_11 : decode cJ0_indexOf_7cf53 11 = .ok (.iload_n 1, 1) := by decide +kernel
theorem dJ0_indexOf_7cf53_12 : decode cJ0_indexOf_7cf53 12 = .ok (.iload_n 2, 1) := by decide +kernel
theorem dJ0_indexOf_7cf53_13 : decode cJ0_indexOf_7cf53 13 = .ok (.aload_n 0, 1) := by decide +kernel
theorem dJ0_indexOf_7cf53_14 : decode cJ0_indexOf_7cf53 14 = .ok (.invokevirtual 505, 3) := by decide +kernel
theorem dJ0_indexOf_7cf53_17 : decode cJ0_indexOf_7cf53 17 = .ok (.invokestatic 637, 3) := by decide +kernel
theorem dJ0_indexOf_7cf53_20 : decode cJ0_indexOf_7cf53 20 = .ok (.goto 16, 3) := by decide +kernel
theorem dJ0_indexOf_7cf53_23 : decode cJ0_indexOf_7cf53 23 = .ok (.aload_n 0, 1) := by decide +kernel
theorem dJ0_indexOf_7cf53_24 : decode cJ0_indexOf_7cf53 24 = .ok (.getfield 9, 3) := by decide +kernel
theorem dJ0_indexOf_7cf53_27 : decode cJ0_indexOf_7cf53 27 = .ok (.iload_n 1, 1) := by decide +kernel
theorem dJ0_indexOf_7cf53_28 : decode cJ0_indexOf_7cf53 28 = .ok (.iload_n 2, 1) := by decide +kernel
theorem dJ0_indexOf_7cf53_29 : decode cJ0_indexOf_7cf53 29 = .ok (.aload_n 0, 1) := by decide +kernel
theorem dJ0_indexOf_7cf53_30 : decode cJ0_indexOf_7cf53 30 = .ok (.invokevirtual 505, 3) := by decide +kernel
theorem dJ0_indexOf_7cf53_33 : decode cJ0_indexOf_7cf53 33 = .ok (.invokestatic 640, 3) := by decide +kernel
theorem dJ0_indexOf_7cf53_36 : decode cJ0_indexOf_7cf53 36 = .ok (.ireturn, 1) := by decide +kernel
abbrev mJ0_length_8abf5 : mi_T := (yJ0_length_8abf5, cJ0_length_8abf5, 1, (some .int))
theorem mkJ0_length_8abf5 : tq_mV mJ0_length_8abf5 0 := ⟨tq_m3 42 rfl rfl, tq_m3 43 rfl rfl, ⟨tq_m1 14 rfl rfl, tq_m3 44 rfl rfl, ⟨by decide +kernel, by decide +kernel, by decide +kernel⟩, by decide⟩⟩
theorem dJ0_length_8abf5_0 : decode cJ0_length_8abf5 0 = .ok (.aload_n 0, 1) := by decide +kernel
theorem dJ0_length_8abf5_1 : decode cJ0_length_8abf5 1 = .ok (.getfield 9, 3) := by decide +kernel
theorem dJ0_length_8abf5_4 : decode cJ0_length_8abf5 4 = .ok (.arraylength, 1) := by decide +kernel
theorem dJ0_length_8abf5_5 : decode cJ0_length_8abf5 5 = .ok (.aload_n 0, 1) := by decide +kernel
theorem dJ0_length_8abf5_6 : decode cJ0_length_8abf5 6 = .ok (.invokevirtual 335, 3) := by decide +kernel
theorem dJ0_length_8abf5_9 : decode cJ0_length_8abf5 9 = .ok (.ishr, 1) := by decide +kernel
theorem dJ0_length_8abf5_10 : decode cJ0_length_8abf5 10 = .ok (.ireturn, 1) := by decide +kernel
abbrev mJ0_coder_7d493 : mi_T := (yJ0_coder_7d493, cJ0_coder_7d493, 1, (some .byte))
theorem mkJ0_coder_7d493 : tq_mV mJ0_coder_7d493 0 := ⟨tq_m3 46 rfl rfl, tq_m3 47 rfl rfl, ⟨tq_m1 14 rfl rfl, tq_m3 48 rfl rfl, ⟨by decide +kernel, by decide +kernel, by decide +kernel⟩, by decide⟩⟩
theorem dJ0_coder_7d493_0 : decode cJ0_coder_7d493 0 = .ok (.getstatic 38, 3) := by decide +kernel
theorem dJ0_coder_7d493_3 : decode cJ0_coder_7d493 3 = .ok (.ifCond .eq 10, 3) := by decide +kernel
theorem dJ0_coder_7d493_6 : decode cJ0_coder_7d493 6 = .ok (.aload_n 0, 1) := by decide +kernel
theorem dJ0_coder_7d493_7 : decode cJ0_coder_7d493 7 = .ok (.getfield 15, 3) := by decide +kernel
theorem dJ0_coder_7d493_10 : decode cJ0_coder_7d493 10 = .ok (.goto 4, 3) := by decide +kernel
theorem dJ0_coder_7d493_13 : decode cJ0_coder_7d493 13 = .ok (.iconst 1, 1) := by decide +kernel
theorem dJ0_coder_7d493_14 : decode cJ0_coder_7d493 14 = .ok (.ireturn, 1) := by decide +kernel
abbrev mJ1_charAt_3b067 : mi_T := (yJ1_charAt_3b067, cJ1_charAt_3b067, 2, (some .char))
theorem mkJ1_charAt_3b067 : tq_mS mJ1_charAt_3b067 2 := ⟨tq_m3 3 rfl rfl, ⟨tq_m1 15 rfl rfl, tq_m3 4 rfl rfl, ⟨by decide +kernel, by decide +kernel, by decide +kernel⟩, by decide⟩⟩
theorem dJ1_charAt_3b067_0 : decode cJ1_charAt_3b067 0 = .ok (.iload_n 1, 1) := by decide +kernel
theorem dJ1_charAt_3b067_1 : decode cJ1_charAt_3b067 1 = .ok (.aload_n 0, 1) := by decide +kernel
theorem dJ1_charAt_3b067_2 : decode cJ1_charAt_3b067 2 = .ok (.arraylength, 1) := by decide +kernel
theorem dJ1_charAt_3b067_3 : decode cJ1_charAt_3b067 3 = .ok (.invokestatic 9, 3) := by decide +kernel
theorem dJ1_charAt_3b067_6 : decode cJ1_charAt_3b067 6 = .ok (.aload_n 0, 1) := by decide +kernel
theorem dJ1_charAt_3b067_7 : decode cJ1_charAt_3b067 7 = .ok (.iload_n 1, 1) := by decide +kernel
theorem dJ1_charAt_3b067_8 : decode cJ1_charAt_3b067 8 = .ok (.baload, 1) := by decide +kernel
theorem dJ1_charAt_3b067_9 : decode cJ1_charAt_3b067 9 = .ok (.sipush 255, 3) := by decide +kernel
theorem dJ1_charAt_3b067_12 : decode cJ1_charAt_3b067 12 = .ok (.iand, 1) := by decide +kernel
theorem dJ1_charAt_3b067_13 : decode cJ1_charAt_3b067 13 = .ok (.i2c, 1) := by decide +kernel
theorem dJ1_charAt_3b067_14 : decode cJ1_charAt_3b067 14 = .ok (.ireturn, 1) := by decide +kernel
abbrev mJ1_canEncode_9a6ad : mi_T := (yJ1_canEncode_9a6ad, cJ1_canEncode_9a6ad, 1, (some .boolean))
theorem mkJ1_canEncode_9a6ad : tq_mS mJ1_canEncode_9a6ad 1 := ⟨tq_m3 53 rfl rfl, ⟨tq_m1 15 rfl rfl, tq_m3 54 rfl rfl, ⟨by decide +kernel, by decide +kernel, by decide +kernel⟩, by decide⟩⟩
theorem dJ1_canEncode_9a6ad_0 : decode cJ1_canEncode_9a6ad 0 = .ok (.iload_n 0, 1) := by decide +kernel
theorem dJ1_canEncode_9a6ad_1 : decode cJ1_canEncode_9a6ad 1 = .ok (.ifCond .lt 14, 3) := by decide +kernel
theorem dJ1_canEncode_9a6ad_4 : decode cJ1_canEncode_9a6ad 4 = .ok (.iload_n 0, 1) := by decide +kernel
theorem dJ1_canEncode_9a6ad_5 : decode cJ1_canEncode_9a6ad 5 = .ok (.sipush 255, 3) := by decide +kernel
theorem dJ1_canEncode_9a6ad_8 : decode cJ1_canEncode_9a6ad 8 = .ok (.if_icmp .gt 7, 3) := by decide +kernel
theorem dJ1_canEncode_9a6ad_11 : decode cJ1_canEncode_9a6ad 11 = .ok (.iconst 1, 1) := by decide +kernel
theorem dJ1_canEncode_9a6ad_12 : decode cJ1_canEncode_9a6ad 12 = .ok (.goto 4, 3) := by decide +kernel
theorem dJ1_canEncode_9a6ad_15 : decode cJ1_canEncode_9a6ad 15 = .ok (.iconst 0, 1) := by decide +kernel
theorem dJ1_canEncode_9a6ad_16 : decode cJ1_canEncode_9a6ad 16 = .ok (.ireturn, 1) := by decide +kernel
abbrev mJ1_indexOf_4cfef : mi_T := (yJ1_indexOf_4cfef, cJ1_indexOf_4cfef, 4, (some .int))
theorem mkJ1_indexOf_4cfef : tq_mS mJ1_indexOf_4cfef 4 := ⟨tq_m3 50 rfl rfl, ⟨tq_m1 15 rfl rfl, tq_m3 51 rfl rfl, ⟨by decide +kernel, by decide +kernel, by decide +kernel⟩, by decide⟩⟩
theorem dJ1_indexOf_4cfef_0 : decode cJ1_indexOf_4cfef 0 = .ok (.iload_n 1, 1) := by decide +kernel
theorem dJ1_indexOf_4cfef_1 : decode cJ1_indexOf_4cfef 1 = .ok (.invokestatic 88, 3) := by decide +kernel
theorem dJ1_indexOf_4cfef_4 : decode cJ1_indexOf_4cfef 4 = .ok (.ifCond .ne 5, 3) := by decide +kernel
theorem dJ1_indexOf_4cfef_7 : decode cJ1_indexOf_4cfef 7 = .ok (.iconst (-1), 1) := by decide +kernel
theorem dJ1_indexOf_4cfef_8 : decode cJ1_indexOf_4cfef 8 = .ok (.ireturn, 1) := by decide +kernel
theorem dJ1_indexOf_4cfef_9 : decode cJ1_indexOf_4cfef 9 = .ok (.iload_n 2, 1) := by decide +kernel
theorem dJ1_indexOf_4cfef_10 : decode cJ1_indexOf_4cfef 10 = .ok (.iconst 0, 1) := by decide +kernel
theorem dJ1_indexOf_4cfef_11 : decode cJ1_indexOf_4cfef 11 = .ok (.invokestatic 92, 3) := by decide +kernel
theorem dJ1_indexOf_4cfef_14 : decode cJ1_indexOf_4cfef 14 = .ok (.istore_n 2, 1) := by decide +kernel
theorem dJ1_indexOf_4cfef_15 : decode cJ1_indexOf_4cfef 15 = .ok (.iload_n 3, 1) := by decide +kernel
theorem dJ1_indexOf_4cfef_16 : decode cJ1_indexOf_4cfef 16 = .ok (.aload_n 0, 1) := by decide +kernel
theorem dJ1_indexOf_4cfef_17 : decode cJ1_indexOf_4cfef 17 = .ok (.arraylength, 1) := by decide +kernel
theorem dJ1_indexOf_4cfef_18 : decode cJ1_indexOf_4cfef 18 = .ok (.invokestatic 38, 3) := by decide +kernel
theorem dJ1_indexOf_4cfef_21 : decode cJ1_indexOf_4cfef 21 = .ok (.istore_n 3, 1) := by decide +kernel
theorem dJ1_indexOf_4cfef_22 : decode cJ1_indexOf_4cfef 22 = .ok (.iload_n 2, 1) := by decide +kernel
theorem dJ1_indexOf_4cfef_23 : decode cJ1_indexOf_4cfef 23 = .ok (.iload_n 3, 1) := by decide +kernel
theorem dJ1_indexOf_4cfef_24 : decode cJ1_indexOf_4cfef 24 = .ok (.if_icmp .lt 5, 3) := by decide +kernel
theorem dJ1_indexOf_4cfef_27 : decode cJ1_indexOf_4cfef 27 = .ok (.iconst (-1), 1) := by decide +kernel
theorem dJ1_indexOf_4cfef_28 : decode cJ1_indexOf_4cfef 28 = .ok (.ireturn, 1) := by decide +kernel
theorem dJ1_indexOf_4cfef_29 : decode cJ1_indexOf_4cfef 29 = .ok (.aload_n 0, 1) := by decide +kernel
theorem dJ1_indexOf_4cfef_30 : decode cJ1_indexOf_4cfef 30 = .ok (.iload_n 1, 1) := by decide +kernel
theorem dJ1_indexOf_4cfef_31 : decode cJ1_indexOf_4cfef 31 = .ok (.iload_n 2, 1) := by decide +kernel
theorem dJ1_indexOf_4cfef_32 : decode cJ1_indexOf_4cfef 32 = .ok (.iload_n 3, 1) := by decide +kernel
theorem dJ1_indexOf_4cfef_33 : decode cJ1_indexOf_4cfef 33 = .ok (.invokestatic 95, 3) := by decide +kernel
theorem dJ1_indexOf_4cfef_36 : decode cJ1_indexOf_4cfef 36 = .ok (.ireturn, 1) := by decide +kernel
abbrev mJ1_indexOfChar_4cfef : mi_T := (yJ1_indexOfChar_4cfef, cJ1_indexOfChar_4cfef, 6, (some .int))
theorem mkJ1_indexOfChar_4cfef : tq_mS mJ1_indexOfChar_4cfef 4 := ⟨tq_m3 62 rfl rfl, ⟨tq_m1 15 rfl rfl, tq_m3 63 rfl rfl, ⟨by decide +kernel, by decide +kernel, by decide +kernel⟩, by decide⟩⟩
theorem dJ1_indexOfChar_4cfef_0 : decode cJ1_indexOfChar_4cfef 0 = .ok (.iload_n 1, 1) := by decide +kernel
theorem dJ1_indexOfChar_4cfef_1 : decode cJ1_indexOfChar_4cfef 1 = .ok (.i2b, 1) := by decide +kernel
theorem dJ1_indexOfChar_4cfef_2 : decode cJ1_indexOfChar_4cfef 2 = .ok (.istore 4, 2) := by decide +kernel
theorem dJ1_indexOfChar_4cfef_4 : decode cJ1_indexOfChar_4cfef 4 = .ok (.iload_n 2, 1) := by decide +kernel
theorem dJ1_indexOfChar_4cfef_5 : decode cJ1_indexOfChar_4cfef 5 = .ok (.istore 5, 2) := by decide +kernel
theorem dJ1_indexOfChar_4cfef_7 : decode cJ1_indexOfChar_4cfef 7 = .ok (.iload 5, 2) := by decide +kernel
theorem dJ1_indexOfChar_4cfef_9 : decode cJ1_indexOfChar_4cfef 9 = .ok (.iload_n 3, 1) := by decide +kernel
theorem dJ1_indexOfChar_4cfef_10 : decode cJ1_indexOfChar_4cfef 10 = .ok (.if_icmp .ge 21, 3) := by decide +kernel
theorem dJ1_indexOfChar_4cfef_13 : decode cJ1_indexOfChar_4cfef 13 = .ok (.aload_n 0, 1) := by decide +kernel
theorem dJ1_indexOfChar_4cfef_14 : decode cJ1_indexOfChar_4cfef 14 = .ok (.iload 5, 2) := by decide +kernel
theorem dJ1_indexOfChar_4cfef_16 : decode cJ1_indexOfChar_4cfef 16 = .ok (.baload, 1) := by decide +kernel
theorem dJ1_indexOfChar_4cfef_17 : decode cJ1_indexOfChar_4cfef 17 = .ok (.iload 4, 2) := by decide +kernel
theorem dJ1_indexOfChar_4cfef_19 : decode cJ1_indexOfChar_4cfef 19 = .ok (.if_icmp .ne 6, 3) := by decide +kernel
theorem dJ1_indexOfChar_4cfef_22 : decode cJ1_indexOfChar_4cfef 22 = .ok (.iload 5, 2) := by decide +kernel
theorem dJ1_indexOfChar_4cfef_24 : decode cJ1_indexOfChar_4cfef 24 = .ok (.ireturn, 1) := by decide +kernel
theorem dJ1_indexOfChar_4cfef_25 : decode cJ1_indexOfChar_4cfef 25 = .ok (.iinc 5 1, 3) := by decide +kernel
theorem dJ1_indexOfChar_4cfef_28 : decode cJ1_indexOfChar_4cfef 28 = .ok (.goto (-21), 3) := by decide +kernel
theorem dJ1_indexOfChar_4cfef_31 : decode cJ1_indexOfChar_4cfef 31 = .ok (.iconst (-1), 1) := by decide +kernel
theorem dJ1_indexOfChar_4cfef_32 : decode cJ1_indexOfChar_4cfef 32 = .ok (.ireturn, 1) := by decide +kernel
abbrev mJ3_checkIndex_8e157 : mi_T := (yJ3_checkIndex_8e157, cJ3_checkIndex_8e157, 3, (some .int))
theorem mkJ3_checkIndex_8e157 : tq_mS mJ3_checkIndex_8e157 3 := ⟨tq_m3 11 rfl rfl, ⟨tq_m1 16 rfl rfl, tq_m3 12 rfl rfl, ⟨by decide +kernel, by decide +kernel, by decide +kernel⟩, by decide⟩⟩
theorem dJ3_checkIndex_8e157_0 : decode cJ3_checkIndex_8e157 0 = .ok (.iload_n 0, 1) := by decide +kernel
theorem dJ3_checkIndex_8e157_1 : decode cJ3_checkIndex_8e157 1 = .ok (.ifCond .lt 8, 3) := by decide +kernel
theorem dJ3_checkIndex_8e157_4 : decode cJ3_checkIndex_8e157 4 = .ok (.iload_n 0, 1) := by decide +kernel
theorem dJ3_checkIndex_8e157_5 : decode cJ3_checkIndex_8e157 5 = .ok (.iload_n 1, 1) := by decide +kernel
theorem dJ3_checkIndex_8e157_6 : decode cJ3_checkIndex_8e157 6 = .ok (.if_icmp .lt 10, 3) := by decide +kernel
theorem dJ3_checkIndex_8e157_9 : decode cJ3_checkIndex_8e157 9 = .ok (.aload_n 2, 1) := by decide +kernel
theorem dJ3_checkIndex_8e157_10 : decode cJ3_checkIndex_8e157 10 = .ok (.iload_n 0, 1) := by decide +kernel
theorem dJ3_checkIndex_8e157_11 : decode cJ3_checkIndex_8e157 11 = .ok (.iload_n 1, 1) := by decide +kernel
theorem dJ3_checkIndex_8e157_12 : decode cJ3_checkIndex_8e157 12 = .ok (.invokestatic 95, 3) := by decide +kernel
theorem dJ3_checkIndex_8e157_15 : decode cJ3_checkIndex_8e157 15 = .ok (.athrow, 1) := by decide +kernel
theorem dJ3_checkIndex_8e157_16 : decode cJ3_checkIndex_8e157 16 = .ok (.iload_n 0, 1) := by decide +kernel
theorem dJ3_checkIndex_8e157_17 : decode cJ3_checkIndex_8e157 17 = .ok (.ireturn, 1) := by decide +kernel
theorem ml_RX5_96 : Cond.methodLink RX5 96 yJ0_indexOf_0f7a4 ∈ tq_tbl := tq_m3 33 rfl rfl
theorem ml_RX5_107 : Cond.methodLink RX5 107 yJ0_charAt_5068e ∈ tq_tbl := tq_m2 232 rfl rfl
theorem ml_RJ0_492 : Cond.methodLink RJ0 492 yJ0_isLatin1_aae02 ∈ tq_tbl := tq_m2 236 rfl rfl
theorem ml_RJ0_495 : Cond.methodLink RJ0 495 yJ1_charAt_3b067 ∈ tq_tbl := tq_m3 2 rfl rfl
theorem ml_RJ1_9 : Cond.methodLink RJ1 9 yJ0_checkIndex_df160 ∈ tq_tbl := tq_m3 5 rfl rfl
theorem ml_RJ0_1059 : Cond.methodLink RJ0 1059 yJ3_checkIndex_8e157 ∈ tq_tbl := tq_m3 10 rfl rfl
theorem ml_RJ0_633 : Cond.methodLink RJ0 633 yJ0_indexOf_7cf53 ∈ tq_tbl := tq_m3 37 rfl rfl
theorem ml_RJ0_505 : Cond.methodLink RJ0 505 yJ0_length_8abf5 ∈ tq_tbl := tq_m3 41 rfl rfl
theorem ml_RJ0_335 : Cond.methodLink RJ0 335 yJ0_coder_7d493 ∈ tq_tbl := tq_m3 45 rfl rfl
theorem ml_RJ0_637 : Cond.methodLink RJ0 637 yJ1_indexOf_4cfef ∈ tq_tbl := tq_m3 49 rfl rfl
theorem ml_RJ1_88 : Cond.methodLink RJ1 88 yJ1_canEncode_9a6ad ∈ tq_tbl := tq_m3 52 rfl rfl
theorem ml_RJ1_92 : Cond.methodLink RJ1 92 yJ9_max_7cf53 ∈ tq_tbl := tq_m3 55 rfl rfl
theorem ml_RJ1_38 : Cond.methodLink RJ1 38 yJ9_min_7cf53 ∈ tq_tbl := tq_m3 58 rfl rfl
theorem ml_RJ1_95 : Cond.methodLink RJ1 95 yJ1_indexOfChar_4cfef ∈ tq_tbl := tq_m3 61 rfl rfl
theorem fs_9 : Cond.fieldLink RJ0 9 "java/lang/String" "value" "[B" ∈ tq_tbl := tq_m9 68 rfl rfl
theorem fs_15 : Cond.fieldLink RJ0 15 "java/lang/String" "coder" "B" ∈ tq_tbl := tq_m9 67 rfl rfl
theorem fs_38 : Cond.fieldLink RJ0 38 "java/lang/String" "COMPACT_STRINGS" "Z" ∈ tq_tbl := tq_m3 0 rfl rfl
theorem fs_1053 : Cond.fieldLink RJ0 1053 "jdk/internal/util/Preconditions" "SIOOBE_FORMATTER" "Ljava/util/function/BiFunction;" ∈ tq_tbl := tq_m3 8 rfl rfl
theorem dJ7_fill_53178_0 : decode cJ7_fill_53178 0 = .ok (.iconst 0, 1) := by decide +kernel
theorem dJ7_fill_53178_1 : decode cJ7_fill_53178 1 = .ok (.istore_n 2, 1) := by decide +kernel
theorem dJ7_fill_53178_2 : decode cJ7_fill_53178 2 = .ok (.aload_n 0, 1) := by decide +kernel
theorem dJ7_fill_53178_3 : decode cJ7_fill_53178 3 = .ok (.arraylength, 1) := by decide +kernel
theorem dJ7_fill_53178_4 : decode cJ7_fill_53178 4 = .ok (.istore_n 3, 1) := by decide +kernel
theorem dJ7_fill_53178_5 : decode cJ7_fill_53178 5 = .ok (.iload_n 2, 1) := by decide +kernel
theorem dJ7_fill_53178_6 : decode cJ7_fill_53178 6 = .ok (.iload_n 3, 1) := by decide +kernel
theorem dJ7_fill_53178_7 : decode cJ7_fill_53178 7 = .ok (.if_icmp .ge 13, 3) := by decide +kernel
theorem dJ7_fill_53178_10 : decode cJ7_fill_53178 10 = .ok (.aload_n 0, 1) := by decide +kernel
theorem dJ7_fill_53178_11 : decode cJ7_fill_53178 11 = .ok (.iload_n 2, 1) := by decide +kernel
theorem dJ7_fill_53178_12 : decode cJ7_fill_53178 12 = .ok (.iload_n 1, 1) := by decide +kernel
theorem dJ7_fill_53178_13 : decode cJ7_fill_53178 13 = .ok (.iastore, 1) := by decide +kernel
theorem dJ7_fill_53178_14 : decode cJ7_fill_53178 14 = .ok (.iinc 2 1, 3) := by decide +kernel
theorem dJ7_fill_53178_17 : decode cJ7_fill_53178 17 = .ok (.goto (-12), 3) := by decide +kernel
theorem dJ7_fill_53178_20 : decode cJ7_fill_53178 20 = .ok (.return_, 1) := by decide +kernel
theorem dJ7_fill_d0a16_0 : decode cJ7_fill_d0a16 0 = .ok (.iconst 0, 1) := by decide +kernel
theorem dJ7_fill_d0a16_1 : decode cJ7_fill_d0a16 1 = .ok (.istore_n 3, 1) := by decide +kernel
theorem dJ7_fill_d0a16_2 : decode cJ7_fill_d0a16 2 = .ok (.aload_n 0, 1) := by decide +kernel
theorem dJ7_fill_d0a16_3 : decode cJ7_fill_d0a16 3 = .ok (.arraylength, 1) := by decide +kernel
theorem dJ7_fill_d0a16_4 : decode cJ7_fill_d0a16 4 = .ok (.istore 4, 2) := by decide +kernel
theorem dJ7_fill_d0a16_6 : decode cJ7_fill_d0a16 6 = .ok (.iload_n 3, 1) := by decide +kernel
theorem dJ7_fill_d0a16_7 : decode cJ7_fill_d0a16 7 = .ok (.iload 4, 2) := by decide +kernel
theorem dJ7_fill_d0a16_9 : decode cJ7_fill_d0a16 9 = .ok (.if_icmp .ge 13, 3) := by decide +kernel
theorem dJ7_fill_d0a16_12 : decode cJ7_fill_d0a16 12 = .ok (.aload_n 0, 1) := by decide +kernel
theorem dJ7_fill_d0a16_13 : decode cJ7_fill_d0a16 13 = .ok (.iload_n 3, 1) := by decide +kernel
theorem dJ7_fill_d0a16_14 : decode cJ7_fill_d0a16 14 = .ok (.lload_n 1, 1) := by decide +kernel
theorem dJ7_fill_d0a16_15 : decode cJ7_fill_d0a16 15 = .ok (.lastore, 1) := by decide +kernel
theorem dJ7_fill_d0a16_16 : decode cJ7_fill_d0a16 16 = .ok (.iinc 3 1, 3) := by decide +kernel
theorem dJ7_fill_d0a16_19 : decode cJ7_fill_d0a16 19 = .ok (.goto (-13), 3) := by decide +kernel
theorem dJ7_fill_d0a16_22 : decode cJ7_fill_d0a16 22 = .ok (.return_, 1) := by decide +kernel
/-! strings: positions 1000, 1001 the two constants, 1010, 1011 their bytes -/
section JS
variable {sh : sh_T} {d : Nat} {M : mi_T} {pc : Nat} {lv st : List Value} {I : st_I} {L : st_L} {Q : st_Q}
theorem T_ldcS0 (hd : decode M.2.1 pc = .ok (.ldc 94, 2)) (ho : M.1.cls = RX5) (k : T sh d M (pc + 2) lv (.ref 1000 :: st) I L Q) : T sh d M pc lv st I L Q := by
  intro p l e s m args below meth c D cy ad H locs ls C hP hS hl
  exact va_ldcS C.1 C.2.1 (by rw [← ho]; exact C.2.2.2.2.2.1) C.2.2.2.2.2.2.2.2.2.2.1 hd (k p l e s m args below meth c D cy ad H locs ls C hP hS hl)
theorem T_ldcS1 (hd : decode M.2.1 pc = .ok (.ldc 105, 2)) (ho : M.1.cls = RX5) (k : T sh d M (pc + 2) lv (.ref 1001 :: st) I L Q) : T sh d M pc lv st I L Q := by
  intro p l e s m args below meth c D cy ad H locs ls C hP hS hl
  exact va_ldcS C.1 C.2.1 (by rw [← ho]; exact C.2.2.2.2.2.1) C.2.2.2.2.2.2.2.2.2.2.2.1 hd (k p l e s m args below meth c D cy ad H locs ls C hP hS hl)
theorem T_strV {i idx : Nat} (hi : i < 2) (hd : decode M.2.1 pc = .ok (.getfield idx, 3)) (hf : Cond.fieldLink M.1.cls idx "java/lang/String" "value" "[B" ∈ tq_tbl) (k : T sh d M (pc + 3) lv (.ref (1010 + i) :: st) I L Q) : T sh d M pc lv (.ref (1000 + i) :: st) I L Q := by
  intro p l e s m args below meth c D cy ad H locs ls C hP hS hl
  exact vk_getf C.1 C.2.1 (C.2.2.2.2.2.2.2.2.2.1.1 i hi).2.2.1 hS C.2.2.2.2.2.1 (tq_wd C.2.2.2.2.2.2.1 hf) (fun _ h => h) hd (k p l e s m args below meth c D cy ad H locs ls C hP hS hl)
theorem T_strC {i idx : Nat} (hi : i < 2) (hd : decode M.2.1 pc = .ok (.getfield idx, 3)) (hf : Cond.fieldLink M.1.cls idx "java/lang/String" "coder" "B" ∈ tq_tbl) (k : T sh d M (pc + 3) lv (.int 0 :: st) I L Q) : T sh d M pc lv (.ref (1000 + i) :: st) I L Q := by
  intro p l e s m args below meth c D cy ad H locs ls C hP hS hl
  exact vk_getf C.1 C.2.1 (C.2.2.2.2.2.2.2.2.2.1.1 i hi).2.1 hS C.2.2.2.2.2.1 (tq_wd C.2.2.2.2.2.2.1 hf) (fun _ h => h) hd (k p l e s m args below meth c D cy ad H locs ls C hP hS hl)
theorem T_getsC {idx : Nat} (hd : decode M.2.1 pc = .ok (.getstatic idx, 3)) (hf : Cond.fieldLink M.1.cls idx "java/lang/String" "COMPACT_STRINGS" "Z" ∈ tq_tbl) (k : T sh d M (pc + 3) lv (.int 1 :: st) I L Q) : T sh d M pc lv st I L Q := by
  intro p l e s m args below meth c D cy ad H locs ls C hP hS hl
  exact va_gets C.1 C.2.1 C.2.2.2.2.2.2.2.2.2.2.2.2.1 hS C.2.2.2.2.2.1 (tq_wd C.2.2.2.2.2.2.1 hf) (fun _ h => h) hd (k p l e s m args below meth c D cy ad H locs ls C hP hS hl)
theorem T_salen {i : Nat} {v : Int32} (hi : i < 2) (hd : decode M.2.1 pc = .ok (.arraylength, 1)) (hv : Int32.ofNat (tq_len.getD i 0) = v) (k : T sh d M (pc + 1) lv (.int v :: st) I L Q) : T sh d M pc lv (.ref (1010 + i) :: st) I L Q := by
  intro p l e s m args below meth c D cy ad H locs ls C hP hS hl
  exact va_tlen C.1 C.2.1 (C.2.2.2.2.2.2.2.2.2.1.1 i hi).2.2.2 hS hv hd (k p l e s m args below meth c D cy ad H locs ls C hP hS hl)
theorem T_sbald {i : Nat} {x : Int32} (hi : i < 2) (hd : decode M.2.1 pc = .ok (.baload, 1)) (hx : vp_in x (tq_len.getD i 0)) (k : T sh d M (pc + 1) lv (.int ((tq_byt.getD i []).getD x.toNatClampNeg 0) :: st) I L Q) : T sh d M pc lv (.int x :: .ref (1010 + i) :: st) I L Q := by
  intro p l e s m args below meth c D cy ad H locs ls C hP hS hl
  exact va_tb C.1 C.2.1 (C.2.2.2.2.2.2.2.2.2.1.1 i hi).2.2.2 hS hx rfl hd (k p l e s m args below meth c D cy ad H locs ls C hP hS hl)
theorem T_callVS {M' : mi_T} {idx i n : Nat} {stk : List Value} (As : List Value) (st : List Value) (hi : i < 2) (hd : decode M.2.1 pc = .ok (.invokevirtual idx, 3)) (hlk : Cond.methodLink M.1.cls idx M'.1 ∈ tq_tbl) (hm : tq_mV M' n) (hst : stk = As.reverse ++ .ref (1000 + i) :: st) (hr : M'.1.cls = "java/lang/String") (hn : As.length = n) (hw : (st.map fun v => v.category).sum ≤ 8)
    (h : Ev sh d M' (.ref (1000 + i) :: As) I L (fun v sh' I' L' => tq_plain v ∧ T sh' (d + 1) M (pc + 3) lv (v.toList ++ st) I' L' Q)) : T sh (d + 1) M pc lv stk I L Q := by
  intro p l e s m args below meth c D cy ad H locs ls C hP hS hl
  subst hst
  obtain ⟨hx, hcb, hml, hret, hloc, hown, hts, hK, hj, hE⟩ := id C
  rw [tq_rev]
  have hcell := vk_recv hE.1 hi hS
  rw [← hr] at hcell
  refine tq_back (va_runV (As := As.map (tq_v ad)) (rest := st.map (tq_v ad)) (C := M'.1.cls) (b := ad (1000 + i)) ⟨hx, hcb, hml, hown, hts⟩ (h l D cy ad) ⟨tq_callB hts hlk hm.2.2, tq_wd hts hm.1, tq_wd hts hm.2.1⟩ ⟨tq_P_blind, hcell, fun U hU hW => tq_P_at C hP hS hU hW⟩ rfl (by rw [List.length_map]; exact hn) hl.1 rfl (lv_room (by rw [tq_cats]; exact hw)) hd ⟨Nat.le_refl _, Nat.le_refl _⟩) hS ?_
  intro v sh' I' L' H1 locs1 hq hn' hP1 hS1
  have hk := hq.2 p l e s m args below meth c D cy ad H1 locs1 ls
  rw [hn', tq_vl ad st hq.1] at hk
  exact hk C hP1 hS1 hl
theorem S_callVSI {M' : mi_T} {idx i n : Nat} {stk : List Value} {G : Int32 → st_I → st_L → Prop} (As : List Value) (st : List Value) (hi : i < 2) (hd : decode M.2.1 pc = .ok (.invokevirtual idx, 3)) (hlk : Cond.methodLink M.1.cls idx M'.1 ∈ tq_tbl) (hm : tq_mV M' n) (hst : stk = As.reverse ++ .ref (1000 + i) :: st) (hr : M'.1.cls = "java/lang/String") (hn : As.length = n) (hw : (st.map fun v => v.category).sum ≤ 8)
    (h : EI d M' (.ref (1000 + i) :: As) I L G) (k : ∀ r I' L', G r I' L' → T shp (d + 1) M (pc + 3) lv (.int r :: st) I' L' Q) : T shp (d + 1) M pc lv stk I L Q :=
  T_callVS As st hi hd hlk hm hst hr hn hw (Ev.mono h (fun v sh' I' L' ⟨x, e1, e2, g⟩ => by subst e1; subst e2; exact ⟨trivial, k _ _ _ g⟩))
theorem S_nret {x : Int32} {ty : FieldType} {F : Int32 → st_I → st_L → Prop} (hr : M.2.2.2 = some ty) (hd : decode M.2.1 pc = .ok (.ireturn, 1)) (hx : narrow ty (.int x) = .int x) (h : F x I L) : T shp d M pc lv [.int x] I L (kI F) := by
  intro p l e s m args below meth c D cy ad H locs ls C hP hS hl
  exact W.zret C.1 C.2.1 (by rw [C.2.2.2.1]; exact hr) hx (fun t ht hW => ⟨⟨some (.int x), shp, I, L, rfl, ⟨x, rfl, rfl, h⟩, rfl, by rw [ht]; exact hP, va_K.moved hW.alike C.2.2.2.2.2.2.2.1⟩, hS.F ht⟩) hS.2.2 hd C.2.2.2.2.1
end JS
theorem js_isLatin1 {d i : Nat} {I : st_I} {L : st_L} {F : Int32 → st_I → st_L → Prop} (hi : i < 2) (h : F 1 I L) : EI d mJ0_isLatin1_aae02 [.ref (1000 + i)] I L F := by
  refine Ev_of (ls0 := 0) (by decide +kernel) rfl rfl rfl ?_
  refine T_getsC dJ0_isLatin1_aae02_0 fs_38 ?_
  refine T_if_eq (tgt := 17) dJ0_isLatin1_aae02_3 (by decide) ?_
  rw [if_neg (by decide)]
  refine T_aload_n dJ0_isLatin1_aae02_6 rfl ?_
  refine T_strC hi dJ0_isLatin1_aae02_7 fs_15 ?_
  refine T_if_ne (tgt := 17) dJ0_isLatin1_aae02_10 (by decide) ?_
  rw [if_pos rfl]
  refine T_iconst (v := 1) dJ0_isLatin1_aae02_13 (by decide +kernel) ?_
  refine T_goto (tgt := 18) dJ0_isLatin1_aae02_14 (by decide) ?_
  exact S_zret rfl dJ0_isLatin1_aae02_18 (by decide) h
/-- Preconditions.checkIndex(i, n, any): i, where it is within -/
theorem js_pre {l : Launch} {d : Nat} {D : va_G} {cy : Nat → ClassId} {ad : Nat → Nat} {sh : sh_T} {I : st_I} {L : st_L} {i n : Int32} {v : Value} (hv : v.category = 1) (h1 : ¬ i < 0) (h2 : i < n) :
    Met l yJ3_checkIndex_8e157 (tq_ws mJ3_checkIndex_8e157) (tq_room d) (fun a U => a = #[.int i, .int n, v] ∧ va_P D tq_cl (w_D cy ad sh I L) U.heap ∧ va_K D tq_cl (tq_ty cy) U) (tq_Q D cy ad sh.length (fun w sh' I' L' => w = some (.int i) ∧ sh' = sh ∧ I' = I ∧ L' = L)) 0 0 (tq_A ad sh.length) := by
  refine Met.ofW (cc := cJ3_checkIndex_8e157) (maxL := 3) (ret := some .int) (by decide +kernel) rfl ?_
  intro p e s m args below meth c s₁ B hml hv'
  obtain ⟨rfl, hP, hK⟩ := hv'
  have hx := B.exec
  have hb := B.bytes
  have hlocks := B.notSynchronized
  have hS : va_S (tq_A ad sh.length) s.heap s.heap [] := va_S.rf
  have hlen : (lg_sl [.int i, .int n, v]).length ≤ 3 := by
    have e : lg_sl [.int i, .int n, v] = [Slot.val (.int i), Slot.val (.int n)] ++ (if v.category = 2 then [Slot.val v, Slot.second] else [Slot.val v]) := by simp [lg_sl, Value.category]
    rw [e, hv]
    exact Nat.le_refl 3
  have hl := lv_entry ([.int i, .int n, v]) (n := 3) hlen
  rw [show (#[.int i, .int n, v] : Array Value) = ([.int i, .int n, v] : List Value).toArray from rfl, lg_entry_eq]
  generalize (lg_sl ([.int i, .int n, v]) ++ List.replicate (3 - (lg_sl ([.int i, .int n, v])).length) Slot.unset).toArray = ls at hl ⊢
  have hl : lv_has ls 3 [(0, .int i), (1, .int n), (2, v)] := hl
  refine lv_iload_n hx hb dJ3_checkIndex_8e157_0 rfl (lv_at hl 0 rfl) ?_
  refine lv_if_lt (tgt := 9) hx hb dJ3_checkIndex_8e157_1 (by decide) (fun g => absurd g h1) (fun _ => ?_)
  refine lv_iload_n hx hb dJ3_checkIndex_8e157_4 rfl (lv_at hl 0 rfl) ?_
  refine lv_iload_n hx hb dJ3_checkIndex_8e157_5 rfl (lv_at hl 1 rfl) ?_
  refine lv_icmp_lt (tgt := 16) hx hb dJ3_checkIndex_8e157_6 (by decide) (fun _ => ?_) (fun g => absurd h2 g)
  refine lv_iload_n hx hb dJ3_checkIndex_8e157_16 rfl (lv_at hl 0 rfl) ?_
  exact W.iret hx hb B.returns (fun t ht hW => ⟨⟨some (.int i), sh, I, L, rfl, ⟨rfl, rfl, rfl, rfl⟩, rfl, by rw [ht]; exact hP, va_K.moved hW.alike hK⟩, hS.F ht⟩) hS.2.2 dJ3_checkIndex_8e157_17 hlocks
theorem js_check {d : Nat} {sh : sh_T} {I : st_I} {L : st_L} {Q : st_Q} {i n : Int32} (h1 : ¬ i < 0) (h2 : i < n) (h : Q none sh I L) : Ev sh (d + 1) mJ0_checkIndex_df160 [.int i, .int n] I L Q := by
  refine Ev_of (ls0 := 0) (by decide +kernel) rfl rfl rfl ?_
  refine T_iload_n dJ0_checkIndex_df160_0 rfl ?_
  refine T_iload_n dJ0_checkIndex_df160_1 rfl ?_
  intro p l e s m args below meth c D cy ad H locs ls C hP hS hl
  obtain ⟨hx, hcb, hml, hret, hloc, hown, hts, hK, hj, hE⟩ := id C
  have hz : ∃ v : Value, v.category = 1 ∧ va_Z "jdk/internal/util/Preconditions" "SIOOBE_FORMATTER" "Ljava/util/function/BiFunction;" v (tq_A ad sh.length) s s.heap := by
    rcases hE.2.2.2.2 with q | ⟨t, q⟩
    · exact ⟨.null, rfl, q⟩
    · exact ⟨.ref t, rfl, q⟩
  obtain ⟨v, hv, hZ⟩ := hz
  refine va_gets hx hcb hZ hS hown (tq_wd hts fs_1053) (fun _ h => h) dJ0_checkIndex_df160_2 ?_
  refine tq_back (va_runS (As := [.int i, .int n, v]) (rest := []) ⟨hx, hcb, hml, hown, hts⟩ (js_pre (d := d) (D := D) (cy := cy) (ad := ad) (sh := sh) (I := I) (L := L) hv h1 h2) ⟨tq_callB (M' := mJ3_checkIndex_8e157) hts ml_RJ0_1059 mkJ3_checkIndex_8e157.2, tq_wd hts mkJ3_checkIndex_8e157.1⟩ ⟨fun a U g mk q => ⟨q.1, q.2.1, va_K.moved (u := U) (U := U.calling g mk a) (Vm.Alike.refl U.vm) q.2.2⟩, fun U hU hW => ⟨rfl, by rw [hU]; exact hP, va_K.moved hW.alike hK⟩⟩ rfl rfl hl.1 rfl (lv_room (Nat.le_of_ble_eq_true rfl)) dJ0_checkIndex_df160_5 ⟨Nat.le_refl _, Nat.le_refl _⟩) hS ?_
  intro w sh' I' L' H1 locs1 hq hn' hP1 hS1
  obtain ⟨rfl, rfl, rfl, rfl⟩ := hq
  exact (T_pop (st := []) (v := .int i) dJ0_checkIndex_df160_8 rfl (T_vret rfl dJ0_checkIndex_df160_9 h)) p l e s m args below meth c D cy ad H1 locs1 ls C hP1 hS1 hl
/-- a char of a constant -/
def js_ch (i k : Nat) : Int32 := (tq_byt.getD i []).getD k 0
theorem js_ch_ok0 : ∀ k, k < 14 → (((js_ch 0 k) &&& 255).toUInt32 % 65536).toInt32 = js_ch 0 k ∧ narrow .char (.int (js_ch 0 k)) = .int (js_ch 0 k) := by decide +kernel
theorem js_ch_ok1 : ∀ k, k < 176 → (((js_ch 1 k) &&& 255).toUInt32 % 65536).toInt32 = js_ch 1 k ∧ narrow .char (.int (js_ch 1 k)) = .int (js_ch 1 k) := by decide +kernel
theorem js_charAt {d k : Nat} {I : st_I} {L : st_L} {F : Int32 → st_I → st_L → Prop} (hk : k < 176) (h : F (js_ch 1 k) I L) : EI (d + 3) mJ0_charAt_5068e [.ref 1001, .int (nI k)] I L F := by
  have hin : vp_in (nI k) 176 := vp_in_nI hk (by decide)
  refine Ev_of (ls0 := 0) (by decide +kernel) rfl rfl rfl ?_
  refine T_aload_n dJ0_charAt_5068e_0 rfl ?_
  refine S_callVSI (M' := mJ0_isLatin1_aae02) (i := 1) [] [] (by decide) dJ0_charAt_5068e_1 ml_RJ0_492 mkJ0_isLatin1_aae02 rfl (by decide +kernel) rfl (Nat.le_of_ble_eq_true rfl) (js_isLatin1 (by decide) (F := fun r I' L' => r = 1 ∧ I' = I ∧ L' = L) ⟨rfl, rfl, rfl⟩) ?_
  rintro r I' L' ⟨rfl, rfl, rfl⟩
  refine T_if_eq (tgt := 16) dJ0_charAt_5068e_4 (by decide) ?_
  rw [if_neg (by decide)]
  refine T_aload_n dJ0_charAt_5068e_7 rfl ?_
  refine T_strV (i := 1) (by decide) dJ0_charAt_5068e_8 fs_9 ?_
  refine T_iload_n dJ0_charAt_5068e_11 rfl ?_
  have hL : EI (d + 2) mJ1_charAt_3b067 [.ref 1011, .int (nI k)] I' L' (fun r I1 L1 => r = js_ch 1 k ∧ I1 = I' ∧ L1 = L') := by
    refine Ev_of (ls0 := 0) (by decide +kernel) rfl rfl rfl ?_
    refine T_iload_n dJ1_charAt_3b067_0 rfl ?_
    refine T_aload_n dJ1_charAt_3b067_1 rfl ?_
    refine T_salen (i := 1) (v := 176) (by decide) dJ1_charAt_3b067_2 (by decide +kernel) ?_
    refine T_callS (M' := mJ0_checkIndex_df160) [.int (nI k), .int 176] [] dJ1_charAt_3b067_3 ml_RJ1_9 mkJ0_checkIndex_df160 rfl rfl (Nat.le_of_ble_eq_true rfl) (js_check (nI_pos (by omega)) (nI_lt (b := 176) hk (by decide)) ?_)
    refine ⟨trivial, ?_⟩
    refine T_aload_n dJ1_charAt_3b067_6 rfl ?_
    refine T_iload_n dJ1_charAt_3b067_7 rfl ?_
    refine T_sbald (i := 1) (by decide) dJ1_charAt_3b067_8 hin ?_
    refine T_sipush (v := 255) dJ1_charAt_3b067_9 (by decide +kernel) ?_
    refine T_iand dJ1_charAt_3b067_12 ?_
    refine T_i2c dJ1_charAt_3b067_13 ?_
    have e := js_ch_ok1 k hk
    have e1 : (((tq_byt.getD 1 []).getD (nI k).toNatClampNeg 0 &&& 255).toUInt32 % 65536).toInt32 = js_ch 1 k := by rw [nI_clamp (by omega)]; exact e.1
    rw [e1]
    exact S_nret (ty := .char) rfl dJ1_charAt_3b067_14 e.2 ⟨rfl, rfl, rfl⟩
  refine S_callSI (M' := mJ1_charAt_3b067) [.ref 1011, .int (nI k)] [] dJ0_charAt_5068e_12 ml_RJ0_495 mkJ1_charAt_3b067 rfl rfl (Nat.le_of_ble_eq_true rfl) hL ?_
  rintro r I1 L1 ⟨rfl, rfl, rfl⟩
  exact S_nret (ty := .char) rfl dJ0_charAt_5068e_15 (js_ch_ok1 k hk).2 h
/-- indexOf over what is left -/
def js_ixF (c : Int32) : List Int32 → Nat → Int32
  | [], _ => -1
  | b :: l, k => if b = c then nI k else js_ixF c l (k + 1)
def js_ix (c : Int32) : Int32 := js_ixF c (tq_byt.getD 0 []) 0
theorem js_gd (l : List Int32) {k : Nat} (h : k < l.length) : l.getD k 0 = l[k] := by rw [List.getD_eq_getElem?_getD, List.getElem?_eq_getElem h]; rfl
theorem js_ixLoop {d : Nat} {I : st_I} {L : st_L} {F : Int32 → st_I → st_L → Prop} {c b : Int32} (h : F (js_ix c) I L) (hc : c = b) : ∀ (j k : Nat), k + j = 14 → js_ix c = js_ixF c ((tq_byt.getD 0 []).drop k) k → TI d mJ1_indexOfChar_4cfef 7 [.ref 1010, .null, .null, .int 14, .int b, .int (nI k)] [] I L F := by
  intro j
  induction j with
  | zero =>
    intro k hk he
    refine T_iload dJ1_indexOfChar_4cfef_7 rfl ?_
    refine T_iload_n dJ1_indexOfChar_4cfef_9 rfl ?_
    refine T_icmp_ge (tgt := 31) dJ1_indexOfChar_4cfef_10 (by decide) ?_
    obtain rfl : k = 14 := by omega
    rw [if_pos (by decide +kernel)]
    refine T_iconst (v := -1) dJ1_indexOfChar_4cfef_31 (by decide +kernel) ?_
    have e : js_ix c = -1 := by rw [he]; rfl
    rw [e] at h
    exact S_iret rfl dJ1_indexOfChar_4cfef_32 h
  | succ j ih =>
    intro k hk he
    refine T_iload dJ1_indexOfChar_4cfef_7 rfl ?_
    refine T_iload_n dJ1_indexOfChar_4cfef_9 rfl ?_
    refine T_icmp_ge (tgt := 31) dJ1_indexOfChar_4cfef_10 (by decide) ?_
    rw [if_neg (show ¬ (14 : Int32) ≤ nI k from nI_ge (b := 14) (by omega) (by decide))]
    refine T_aload_n dJ1_indexOfChar_4cfef_13 rfl ?_
    refine T_iload dJ1_indexOfChar_4cfef_14 rfl ?_
    refine T_sbald (i := 0) (by decide) dJ1_indexOfChar_4cfef_16 (vp_in_nI (N := 14) (by omega) (by decide)) ?_
    refine T_iload dJ1_indexOfChar_4cfef_17 rfl ?_
    refine T_icmp_ne (tgt := 25) dJ1_indexOfChar_4cfef_19 (by decide) ?_
    rw [nI_clamp (by omega)]
    have hlen : (tq_byt.getD 0 []).length = 14 := by decide +kernel
    have hd := List.drop_eq_getElem_cons (l := tq_byt.getD 0 []) (i := k) (by omega)
    have hg : (tq_byt.getD 0 []).getD k 0 = (tq_byt.getD 0 [])[k]'(by omega) := js_gd _ _
    rw [hd, ← hg] at he
    subst hc
    by_cases hb : (tq_byt.getD 0 []).getD k 0 = c
    · rw [if_pos hb]
      refine T_iload dJ1_indexOfChar_4cfef_22 rfl ?_
      rw [js_ixF, if_pos hb] at he
      rw [he] at h
      exact S_iret rfl dJ1_indexOfChar_4cfef_24 h
    · rw [if_neg hb]
      rw [js_ixF, if_neg hb] at he
      refine T_iinc (lv' := [.ref 1010, .null, .null, .int 14, .int c, .int (nI (k + 1))]) dJ1_indexOfChar_4cfef_25 rfl (by decide) (by rw [nI_succ]; rfl) ?_
      refine T_goto (tgt := 7) dJ1_indexOfChar_4cfef_28 (by decide) ?_
      exact ih (k + 1) (by omega) he
theorem js_byte : ∀ n, n < 256 → js_ix (nI n) = js_ix ((nI n).toInt8.toInt32) := by decide +kernel
theorem js_indexOf {d n : Nat} {I : st_I} {L : st_L} {F : Int32 → st_I → st_L → Prop} (hn : n < 256) (h : F (js_ix (nI n)) I L) : EI (d + 3) mJ0_indexOf_0f7a4 [.ref 1000, .int (nI n)] I L F := by
  have hch : EI (d + 0) mJ1_indexOfChar_4cfef [.ref 1010, .int (nI n), .int 0, .int 14] I L (fun r I1 L1 => r = js_ix (nI n) ∧ I1 = I ∧ L1 = L) := by
    refine Ev_of (ls0 := 2) (by decide +kernel) rfl rfl rfl ?_
    refine T_iload_n dJ1_indexOfChar_4cfef_0 rfl ?_
    refine T_i2b dJ1_indexOfChar_4cfef_1 ?_
    refine T_istore (lv' := [.ref 1010, .int (nI n), .int 0, .int 14, .int (nI n).toInt8.toInt32, .null]) dJ1_indexOfChar_4cfef_2 (by decide) rfl ?_
    refine T_iload_n dJ1_indexOfChar_4cfef_4 rfl ?_
    refine T_istore (lv' := [.ref 1010, .int (nI n), .int 0, .int 14, .int (nI n).toInt8.toInt32, .int 0]) dJ1_indexOfChar_4cfef_5 (by decide) rfl ?_
    refine T_wk (lv' := [.ref 1010, .null, .null, .int 14, .int (nI n).toInt8.toInt32, .int (nI 0)]) ⟨Or.inr rfl, Or.inl rfl, Or.inl rfl, Or.inr rfl, Or.inr rfl, Or.inr rfl, trivial⟩ ?_
    exact js_ixLoop (c := (nI n).toInt8.toInt32) (by rw [← js_byte n hn]; exact ⟨rfl, rfl, rfl⟩) rfl 14 0 rfl rfl
  have hlat : EI (d + 1) mJ1_indexOf_4cfef [.ref 1010, .int (nI n), .int 0, .int 14] I L (fun r I1 L1 => r = js_ix (nI n) ∧ I1 = I ∧ L1 = L) := by
    refine Ev_of (ls0 := 0) (by decide +kernel) rfl rfl rfl ?_
    refine T_iload_n dJ1_indexOf_4cfef_0 rfl ?_
    have hen : EI (d + 0) mJ1_canEncode_9a6ad [.int (nI n)] I L (fun r I1 L1 => r = 1 ∧ I1 = I ∧ L1 = L) := by
      refine Ev_of (ls0 := 0) (by decide +kernel) rfl rfl rfl ?_
      refine T_iload_n dJ1_canEncode_9a6ad_0 rfl ?_
      refine T_if_lt (tgt := 15) dJ1_canEncode_9a6ad_1 (by decide) ?_
      rw [if_neg (nI_pos (by omega))]
      refine T_iload_n dJ1_canEncode_9a6ad_4 rfl ?_
      refine T_sipush (v := 255) dJ1_canEncode_9a6ad_5 (by decide +kernel) ?_
      refine T_icmp_gt (tgt := 15) dJ1_canEncode_9a6ad_8 (by decide) ?_
      rw [if_neg (show ¬ (255 : Int32) < nI n from nI_nlt (a := 255) (b := n) (by omega) (by decide))]
      refine T_iconst (v := 1) dJ1_canEncode_9a6ad_11 (by decide +kernel) ?_
      refine T_goto (tgt := 16) dJ1_canEncode_9a6ad_12 (by decide) ?_
      exact S_zret rfl dJ1_canEncode_9a6ad_16 (by decide) ⟨rfl, rfl, rfl⟩
    refine S_callSI (M' := mJ1_canEncode_9a6ad) [.int (nI n)] [] dJ1_indexOf_4cfef_1 ml_RJ1_88 mkJ1_canEncode_9a6ad rfl rfl (Nat.le_of_ble_eq_true rfl) hen ?_
    rintro r I1 L1 ⟨rfl, rfl, rfl⟩
    refine T_if_ne (tgt := 9) dJ1_indexOf_4cfef_4 (by decide) ?_
    rw [if_neg (by decide)]
    refine T_iload_n dJ1_indexOf_4cfef_9 rfl ?_
    refine T_iconst (v := 0) dJ1_indexOf_4cfef_10 (by decide +kernel) ?_
    refine T_mmax dJ1_indexOf_4cfef_11 ml_RJ1_92 (Nat.le_of_ble_eq_true rfl) ?_
    rw [if_neg (by decide)]
    refine T_istore_n (lv' := [.ref 1010, .int (nI n), .int 0, .int 14]) dJ1_indexOf_4cfef_14 rfl (by decide) rfl ?_
    refine T_iload_n dJ1_indexOf_4cfef_15 rfl ?_
    refine T_aload_n dJ1_indexOf_4cfef_16 rfl ?_
    refine T_salen (i := 0) (v := 14) (by decide) dJ1_indexOf_4cfef_17 (by decide +kernel) ?_
    refine T_mmin dJ1_indexOf_4cfef_18 ml_RJ1_38 (Nat.le_of_ble_eq_true rfl) ?_
    rw [if_neg (by decide)]
    refine T_istore_n (lv' := [.ref 1010, .int (nI n), .int 0, .int 14]) dJ1_indexOf_4cfef_21 rfl (by decide) rfl ?_
    refine T_iload_n dJ1_indexOf_4cfef_22 rfl ?_
    refine T_iload_n dJ1_indexOf_4cfef_23 rfl ?_
    refine T_icmp_lt (tgt := 29) dJ1_indexOf_4cfef_24 (by decide) ?_
    rw [if_pos (by decide)]
    refine T_aload_n dJ1_indexOf_4cfef_29 rfl ?_
    refine T_iload_n dJ1_indexOf_4cfef_30 rfl ?_
    refine T_iload_n dJ1_indexOf_4cfef_31 rfl ?_
    refine T_iload_n dJ1_indexOf_4cfef_32 rfl ?_
    refine S_callSI (M' := mJ1_indexOfChar_4cfef) [.ref 1010, .int (nI n), .int 0, .int 14] [] dJ1_indexOf_4cfef_33 ml_RJ1_95 mkJ1_indexOfChar_4cfef rfl rfl (Nat.le_of_ble_eq_true rfl) hch ?_
    rintro r I1 L1 ⟨rfl, rfl, rfl⟩
    exact S_iret rfl dJ1_indexOf_4cfef_36 ⟨rfl, rfl, rfl⟩
  have hlen : EI (d + 1) mJ0_length_8abf5 [.ref 1000] I L (fun r I1 L1 => r = 14 ∧ I1 = I ∧ L1 = L) := by
    refine Ev_of (ls0 := 0) (by decide +kernel) rfl rfl rfl ?_
    refine T_aload_n dJ0_length_8abf5_0 rfl ?_
    refine T_strV (i := 0) (by decide) dJ0_length_8abf5_1 fs_9 ?_
    refine T_salen (i := 0) (v := 14) (by decide) dJ0_length_8abf5_4 (by decide +kernel) ?_
    refine T_aload_n dJ0_length_8abf5_5 rfl ?_
    have hco : EI (d + 0) mJ0_coder_7d493 [.ref (1000 + 0)] I L (fun r I1 L1 => r = 0 ∧ I1 = I ∧ L1 = L) := by
      refine Ev_of (ls0 := 0) (by decide +kernel) rfl rfl rfl ?_
      refine T_getsC dJ0_coder_7d493_0 fs_38 ?_
      refine T_if_eq (tgt := 13) dJ0_coder_7d493_3 (by decide) ?_
      rw [if_neg (by decide)]
      refine T_aload_n dJ0_coder_7d493_6 rfl ?_
      refine T_strC (i := 0) (by decide) dJ0_coder_7d493_7 fs_15 ?_
      refine T_goto (tgt := 14) dJ0_coder_7d493_10 (by decide) ?_
      exact S_nret (ty := .byte) rfl dJ0_coder_7d493_14 (by decide +kernel) ⟨rfl, rfl, rfl⟩
    refine S_callVSI (M' := mJ0_coder_7d493) (i := 0) [] [.int 14] (by decide) dJ0_length_8abf5_6 ml_RJ0_335 mkJ0_coder_7d493 rfl (by decide +kernel) rfl (Nat.le_of_ble_eq_true rfl) hco ?_
    rintro r I1 L1 ⟨rfl, rfl, rfl⟩
    refine T_ishr dJ0_length_8abf5_9 ?_
    exact S_iret rfl dJ0_length_8abf5_10 ⟨by decide +kernel, rfl, rfl⟩
  have h2 : EI (d + 2) mJ0_indexOf_7cf53 [.ref (1000 + 0), .int (nI n), .int 0] I L (fun r I1 L1 => r = js_ix (nI n) ∧ I1 = I ∧ L1 = L) := by
    refine Ev_of (ls0 := 0) (by decide +kernel) rfl rfl rfl ?_
    refine T_aload_n dJ0_indexOf_7cf53_0 rfl ?_
    refine S_callVSI (M' := mJ0_isLatin1_aae02) (i := 0) [] [] (by decide) dJ0_indexOf_7cf53_1 ml_RJ0_492 mkJ0_isLatin1_aae02 rfl (by decide +kernel) rfl (Nat.le_of_ble_eq_true rfl) (js_isLatin1 (by decide) (F := fun r I' L' => r = 1 ∧ I' = I ∧ L' = L) ⟨rfl, rfl, rfl⟩) ?_
    rintro r I' L' ⟨rfl, rfl, rfl⟩
    refine T_if_eq (tgt := 23) dJ0_indexOf_7cf53_4 (by decide) ?_
    rw [if_neg (by decide)]
    refine T_aload_n dJ0_indexOf_7cf53_7 rfl ?_
    refine T_strV (i := 0) (by decide) dJ0_indexOf_7cf53_8 fs_9 ?_
    refine T_iload_n dJ0_indexOf_7cf53_11 rfl ?_
    refine T_iload_n dJ0_indexOf_7cf53_12 rfl ?_
    refine T_aload_n dJ0_indexOf_7cf53_13 rfl ?_
    refine S_callVSI (M' := mJ0_length_8abf5) (i := 0) [] [.int 0, .int (nI n), .ref 1010] (by decide) dJ0_indexOf_7cf53_14 ml_RJ0_505 mkJ0_length_8abf5 rfl (by decide +kernel) rfl (Nat.le_of_ble_eq_true rfl) hlen ?_
    rintro r I' L' ⟨rfl, rfl, rfl⟩
    refine S_callSI (M' := mJ1_indexOf_4cfef) [.ref 1010, .int (nI n), .int 0, .int 14] [] dJ0_indexOf_7cf53_17 ml_RJ0_637 mkJ1_indexOf_4cfef rfl rfl (Nat.le_of_ble_eq_true rfl) hlat ?_
    rintro r I' L' ⟨rfl, rfl, rfl⟩
    refine T_goto (tgt := 36) dJ0_indexOf_7cf53_20 (by decide) ?_
    exact S_iret rfl dJ0_indexOf_7cf53_36 ⟨rfl, rfl, rfl⟩
  refine Ev_of (ls0 := 0) (by decide +kernel) rfl rfl rfl ?_
  refine T_aload_n dJ0_indexOf_0f7a4_0 rfl ?_
  refine T_iload_n dJ0_indexOf_0f7a4_1 rfl ?_
  refine T_iconst (v := 0) dJ0_indexOf_0f7a4_2 (by decide +kernel) ?_
  refine S_callVSI (M' := mJ0_indexOf_7cf53) (i := 0) [.int (nI n), .int 0] [] (by decide) dJ0_indexOf_0f7a4_3 ml_RJ0_633 mkJ0_indexOf_7cf53 rfl (by decide +kernel) rfl (Nat.le_of_ble_eq_true rfl) h2 ?_
  rintro r I' L' ⟨rfl, rfl, rfl⟩
  exact S_iret rfl dJ0_indexOf_0f7a4_6 h
/-! Arrays.fill -/
def f_I (I : st_I) (q n : Nat) (v : Int32) : st_I := fun a b => if a = q then (if b < n then v else I a b) else I a b
def f_L (L : st_L) (q n : Nat) (v : Int64) : st_L := fun a b => if a = q then (if b < n then v else L a b) else L a b
theorem f_I_s (I : st_I) (q n : Nat) (v : Int32) : u_I (f_I I q n v) q n v = f_I I q (n + 1) v := by
  funext a b
  simp only [u_I, f_I]
  by_cases ha : a = q
  · by_cases hb : b = n
    · simp [ha, hb]
    · simp only [ha, hb, if_true, if_false]; by_cases h1 : b < n
      · rw [if_pos h1, if_pos (by omega)]
      · rw [if_neg h1, if_neg (by omega)]
  · simp [ha]
theorem f_L_s (L : st_L) (q n : Nat) (v : Int64) : u_L (f_L L q n v) q n v = f_L L q (n + 1) v := by
  funext a b
  simp only [u_L, f_L]
  by_cases ha : a = q
  · by_cases hb : b = n
    · simp [ha, hb]
    · simp only [ha, hb, if_true, if_false]; by_cases h1 : b < n
      · rw [if_pos h1, if_pos (by omega)]
      · rw [if_neg h1, if_neg (by omega)]
  · simp [ha]
theorem f_I_0 (I : st_I) (q : Nat) (v : Int32) : f_I I q 0 v = I := by funext a b; simp [f_I]
theorem f_L_0 (L : st_L) (q : Nat) (v : Int64) : f_L L q 0 v = L := by funext a b; simp [f_L]
theorem js_fillLoop {sh : sh_T} {d q n : Nat} {I : st_I} {L : st_L} {Q : st_Q} {v : Int32} (hq : sh[q]? = some (.inl (0, n))) (hn : n < 2 ^ 31) (h : Q none sh (f_I I q n v) L) : ∀ (j k : Nat), k + j = n → T sh d mJ7_fill_53178 5 [.ref q, .int v, .int (nI k), .int (nI n)] [] (f_I I q k v) L Q := by
  intro j
  induction j with
  | zero =>
    intro k hk
    refine T_iload_n dJ7_fill_53178_5 rfl ?_
    refine T_iload_n dJ7_fill_53178_6 rfl ?_
    refine T_icmp_ge (tgt := 20) dJ7_fill_53178_7 (by decide) ?_
    obtain rfl : k = n := by omega
    rw [if_pos (nI_le (Nat.le_refl _) hn)]
    exact T_vret rfl dJ7_fill_53178_20 h
  | succ j ih =>
    intro k hk
    refine T_iload_n dJ7_fill_53178_5 rfl ?_
    refine T_iload_n dJ7_fill_53178_6 rfl ?_
    refine T_icmp_ge (tgt := 20) dJ7_fill_53178_7 (by decide) ?_
    rw [if_neg (nI_ge (by omega) hn)]
    refine T_aload_n dJ7_fill_53178_10 rfl ?_
    refine T_iload_n dJ7_fill_53178_11 rfl ?_
    refine T_iload_n dJ7_fill_53178_12 rfl ?_
    refine T_iastv (j := k) dJ7_fill_53178_13 hq (vp_in_nI (by omega) hn) (nI_clamp (by omega)) ?_
    rw [f_I_s]
    refine T_iinc (lv' := [.ref q, .int v, .int (nI (k + 1)), .int (nI n)]) dJ7_fill_53178_14 rfl (by decide) (by rw [nI_succ]; rfl) ?_
    refine T_goto (tgt := 5) dJ7_fill_53178_17 (by decide) ?_
    exact ih (k + 1) (by omega)
theorem js_fill {sh : sh_T} {d q n : Nat} {I : st_I} {L : st_L} {Q : st_Q} {v : Int32} (hq : sh[q]? = some (.inl (0, n))) (hn : n < 2 ^ 31) (h : Q none sh (f_I I q n v) L) : Ev sh d mJ7_fill_53178 [.ref q, .int v] I L Q := by
  refine Ev_of (ls0 := 2) (by decide +kernel) rfl rfl rfl ?_
  refine T_iconst (v := 0) dJ7_fill_53178_0 (by decide +kernel) ?_
  refine T_istore_n (lv' := [.ref q, .int v, .int 0, .null]) dJ7_fill_53178_1 rfl (by decide) rfl ?_
  refine T_aload_n dJ7_fill_53178_2 rfl ?_
  refine T_alen (v := nI n) dJ7_fill_53178_3 hq (by decide) rfl ?_
  refine T_istore_n (lv' := [.ref q, .int v, .int 0, .int (nI n)]) dJ7_fill_53178_4 rfl (by decide) rfl ?_
  have hk := js_fillLoop (d := d) hq hn h n 0 (by omega)
  rw [f_I_0] at hk
  exact hk
theorem js_fillLLoop {sh : sh_T} {d q n : Nat} {I : st_I} {L : st_L} {Q : st_Q} {v : Int64} (hq : sh[q]? = some (.inl (3, n))) (hn : n < 2 ^ 31) (h : Q none sh I (f_L L q n v)) : ∀ (j k : Nat), k + j = n → T sh d mJ7_fill_d0a16 6 [.ref q, .long v, .null, .int (nI k), .int (nI n)] [] I (f_L L q k v) Q := by
  intro j
  induction j with
  | zero =>
    intro k hk
    refine T_iload_n dJ7_fill_d0a16_6 rfl ?_
    refine T_iload dJ7_fill_d0a16_7 rfl ?_
    refine T_icmp_ge (tgt := 22) dJ7_fill_d0a16_9 (by decide) ?_
    obtain rfl : k = n := by omega
    rw [if_pos (nI_le (Nat.le_refl _) hn)]
    exact T_vret rfl dJ7_fill_d0a16_22 h
  | succ j ih =>
    intro k hk
    refine T_iload_n dJ7_fill_d0a16_6 rfl ?_
    refine T_iload dJ7_fill_d0a16_7 rfl ?_
    refine T_icmp_ge (tgt := 22) dJ7_fill_d0a16_9 (by decide) ?_
    rw [if_neg (nI_ge (by omega) hn)]
    refine T_aload_n dJ7_fill_d0a16_12 rfl ?_
    refine T_iload_n dJ7_fill_d0a16_13 rfl ?_
    refine T_lload_n dJ7_fill_d0a16_14 rfl ?_
    refine T_lastv (j := k) dJ7_fill_d0a16_15 hq (vp_in_nI (by omega) hn) (nI_clamp (by omega)) ?_
    rw [f_L_s]
    refine T_iinc (lv' := [.ref q, .long v, .null, .int (nI (k + 1)), .int (nI n)]) dJ7_fill_d0a16_16 rfl (by decide) (by rw [nI_succ]; rfl) ?_
    refine T_goto (tgt := 6) dJ7_fill_d0a16_19 (by decide) ?_
    exact ih (k + 1) (by omega)
theorem js_fillL {sh : sh_T} {d q n : Nat} {I : st_I} {L : st_L} {Q : st_Q} {v : Int64} (hq : sh[q]? = some (.inl (3, n))) (hn : n < 2 ^ 31) (h : Q none sh I (f_L L q n v)) : Ev sh d mJ7_fill_d0a16 [.ref q, .long v] I L Q := by
  refine Ev_of (ls0 := 2) (by decide +kernel) rfl rfl rfl ?_
  refine T_iconst (v := 0) dJ7_fill_d0a16_0 (by decide +kernel) ?_
  refine T_istore_n (lv' := [.ref q, .long v, .null, .int 0, .null]) dJ7_fill_d0a16_1 rfl (by decide) rfl ?_
  refine T_aload_n dJ7_fill_d0a16_2 rfl ?_
  refine T_alen (v := nI n) dJ7_fill_d0a16_3 hq (by decide) rfl ?_
  refine T_istore (lv' := [.ref q, .long v, .null, .int 0, .int (nI n)]) dJ7_fill_d0a16_4 (by decide) rfl ?_
  have hk := js_fillLLoop (d := d) hq hn h n 0 (by omega)
  rw [f_L_0] at hk
  exact hk
