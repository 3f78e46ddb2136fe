abbrev q_MM : Type := Nat → Nat → Int32
def qTM : Nat → Nat := fun o => if o < 5000 then 0 else ([0, 22, 0, 0, 0, 0, 0, 0, 0, 0, 0, 0, 1, 0, 0, 1, 1, 1, 1, 0, 1, 1, 1, 1, 1, 1, 1, 1, 0, 1, 1, 1, 1, 1, 1, 1, 1, 1, 1, 1, 1, 1, 1, 1, 2, 0, 0, 1, 1, 1, 1, 1, 0, 0, 0, 1, 1, 1, 0, 1, 0, 1, 1, 0, 0, 0, 0, 0, 1, 1, 0, 1, 0, 1, 1, 2, 0, 1, 1, 1, 1, 1, 1, 1, 1, 2, 2] : List Nat).getD (o - 5000) 0
def qLM : Nat → Nat := fun o => if o < 5000 then 0 else ([0, 0, 0, 0, 0, 0, 0, 0, 0, 0, 0, 0, 64, 0, 0, 20, 20, 20, 20, 0, 16, 16, 16, 16, 384, 16, 16, 4, 0, 24, 24, 24, 24, 24, 24, 24, 24, 24, 24, 24, 24, 24, 24, 24, 9600, 0, 0, 30, 30, 1984, 31, 100, 0, 0, 0, 64, 12, 10, 0, 64, 0, 7, 7, 0, 0, 0, 0, 0, 7, 7, 0, 12, 0, 10, 12, 10, 0, 8, 8, 8, 24, 24, 24, 256, 256, 256, 160] : List Nat).getD (o - 5000) 0
def qPM : Nat → Nat → Nat := fun o k => if o = 5001 then ([0, 0, 5012, 0, 0, 5015, 5016, 5017, 5018, 0, 5020, 5021, 5022, 5023, 5024, 5025, 5026, 5027, 0, 5029, 5030, 5031, 5032, 5033, 5034, 5035, 5036, 5037, 5038, 5039, 5040, 5041, 5042, 5043, 5044, 0, 0, 5047, 5048, 5049, 5050, 5051, 0, 0, 0, 5055, 5056, 5057, 0, 5059, 0, 5061, 5062, 0, 0, 0, 0, 0, 5068, 5069, 0, 5071, 0, 5073, 5074, 5075, 0, 5077, 5078, 5079, 5080, 5081, 5082, 5083, 5084, 5085, 5086] : List Nat).getD k 0 else 0
theorem q_wd {w : Cond} (i : Nat) (h : lw_tbl[i]? = some w) (g : goodWord w = true) : w ∈ q_gtb := q_in (List.mem_of_getElem? h) g
theorem q_wds {ws : List Cond} (ps : List Nat) (h : ps.map (fun i => lw_tbl[i]?) = ws.map some) (g : ws.all goodWord = true) : ∀ w ∈ ws, w ∈ q_gtb := fun w hw => by
  obtain ⟨k, hk⟩ := List.getElem?_of_mem hw
  have h1 : (ps.map (fun i => lw_tbl[i]?))[k]? = some (some w) := by rw [h, List.getElem?_map, hk]; rfl
  rw [List.getElem?_map] at h1
  cases hi : ps[k]? with
  | none => rw [hi] at h1; cases h1
  | some i => rw [hi] at h1; exact q_wd i (Option.some.inj h1) (List.all_eq_true.mp g w hw)
theorem in_Jx4a65c : ∀ w ∈ u_ws RJx4a65c TJx4a65c 3, w ∈ q_gtb := q_wds [159, 155, 157] (by decide +kernel) (by decide +kernel)
theorem fa_Jx4a65c_9 : q_FA RJx4a65c 9 13 1 true := ⟨RJx4a65c, TJx4a65c, 3, tyJx4a65c, rfl, by decide, rfl, rfl, q_wd 150 (by decide +kernel) (by decide +kernel), in_Jx4a65c, tyJx4a65c_ok, nmJx4a65c, rfl, fun h => nomatch h⟩
theorem fa_Jx4a65c_48 : q_FA RJx4a65c 48 13 2 false := ⟨RJx4a65c, TJx4a65c, 3, tyJx4a65c, rfl, by decide, rfl, rfl, q_wd 151 (by decide +kernel) (by decide +kernel), in_Jx4a65c, tyJx4a65c_ok, nmJx4a65c, rfl, fun _ => Or.inl rfl⟩
theorem lk_J0_637 : q_LS RJ0 637 yJ1_indexOf_4cfef cJ1_indexOf_4cfef 4 (some FieldType.int) 4 := ⟨q_wd 812 (by decide +kernel) (by decide +kernel), q_wd 813 (by decide +kernel) (by decide +kernel), q_wd 113 (by decide +kernel) (by decide +kernel), q_wd 814 (by decide +kernel) (by decide +kernel), ⟨by decide +kernel, by decide +kernel⟩, by decide +kernel⟩
theorem lk_J1_88 : q_LS RJ1 88 yJ1_canEncode_9a6ad cJ1_canEncode_9a6ad 1 (some FieldType.boolean) 1 := ⟨q_wd 815 (by decide +kernel) (by decide +kernel), q_wd 816 (by decide +kernel) (by decide +kernel), q_wd 113 (by decide +kernel) (by decide +kernel), q_wd 817 (by decide +kernel) (by decide +kernel), ⟨by decide +kernel, by decide +kernel⟩, by decide +kernel⟩
theorem lk_J1_95 : q_LS RJ1 95 yJ1_indexOfChar_4cfef cJ1_indexOfChar_4cfef 6 (some FieldType.int) 4 := ⟨q_wd 820 (by decide +kernel) (by decide +kernel), q_wd 821 (by decide +kernel) (by decide +kernel), q_wd 113 (by decide +kernel) (by decide +kernel), q_wd 822 (by decide +kernel) (by decide +kernel), ⟨by decide +kernel, by decide +kernel⟩, by decide +kernel⟩
theorem lk_Jx4a65c_118 : q_LS RJx4a65c 118 yJ15_checkIndex_7cf53 cJ15_checkIndex_7cf53 2 (some FieldType.int) 2 := ⟨q_wd 445 (by decide +kernel) (by decide +kernel), q_wd 446 (by decide +kernel) (by decide +kernel), q_wd 105 (by decide +kernel) (by decide +kernel), q_wd 447 (by decide +kernel) (by decide +kernel), ⟨by decide +kernel, by decide +kernel⟩, by decide +kernel⟩
theorem lk_J15_105 : q_LS RJ15 105 yJ3_checkIndex_8e157 cJ3_checkIndex_8e157 3 (some FieldType.int) 3 := ⟨q_wd 448 (by decide +kernel) (by decide +kernel), q_wd 449 (by decide +kernel) (by decide +kernel), q_wd 106 (by decide +kernel) (by decide +kernel), q_wd 450 (by decide +kernel) (by decide +kernel), ⟨by decide +kernel, by decide +kernel⟩, by decide +kernel⟩
theorem lk_Jx4a65c_123 : q_LV RJx4a65c 123 13 yJx4a65c_elementData_915e3 cJx4a65c_elementData_915e3 2 (some (FieldType.object "java/lang/Object")) 1 := ⟨⟨RJx4a65c, TJx4a65c, 3, rfl, rfl⟩, q_wd 451 (by decide +kernel) (by decide +kernel), q_wd 452 (by decide +kernel) (by decide +kernel), q_wd 453 (by decide +kernel) (by decide +kernel), q_wd 95 (by decide +kernel) (by decide +kernel), q_wd 454 (by decide +kernel) (by decide +kernel), ⟨by decide +kernel, by decide +kernel⟩, by decide +kernel⟩
theorem lk_J0_335 : q_LX RJ0 335 yJ0_coder_7d493 cJ0_coder_7d493 1 (some FieldType.byte) 0 := ⟨rfl, q_wd 292 (by decide +kernel) (by decide +kernel), q_wd 293 (by decide +kernel) (by decide +kernel), q_wd 294 (by decide +kernel) (by decide +kernel), q_wd 101 (by decide +kernel) (by decide +kernel), q_wd 295 (by decide +kernel) (by decide +kernel), ⟨by decide +kernel, by decide +kernel⟩, by decide +kernel⟩
theorem lk_J0_492 : q_LX RJ0 492 yJ0_isLatin1_aae02 cJ0_isLatin1_aae02 1 (some FieldType.boolean) 0 := ⟨rfl, q_wd 807 (by decide +kernel) (by decide +kernel), q_wd 808 (by decide +kernel) (by decide +kernel), q_wd 809 (by decide +kernel) (by decide +kernel), q_wd 101 (by decide +kernel) (by decide +kernel), q_wd 810 (by decide +kernel) (by decide +kernel), ⟨by decide +kernel, by decide +kernel⟩, by decide +kernel⟩
theorem lk_J0_505 : q_LX RJ0 505 yJ0_length_8abf5 cJ0_length_8abf5 1 (some FieldType.int) 0 := ⟨rfl, q_wd 811 (by decide +kernel) (by decide +kernel), q_wd 289 (by decide +kernel) (by decide +kernel), q_wd 290 (by decide +kernel) (by decide +kernel), q_wd 101 (by decide +kernel) (by decide +kernel), q_wd 291 (by decide +kernel) (by decide +kernel), ⟨by decide +kernel, by decide +kernel⟩, by decide +kernel⟩
theorem lk_J0_633 : q_LX RJ0 633 yJ0_indexOf_7cf53 cJ0_indexOf_7cf53 3 (some FieldType.int) 2 := ⟨rfl, q_wd 803 (by decide +kernel) (by decide +kernel), q_wd 804 (by decide +kernel) (by decide +kernel), q_wd 805 (by decide +kernel) (by decide +kernel), q_wd 101 (by decide +kernel) (by decide +kernel), q_wd 806 (by decide +kernel) (by decide +kernel), ⟨by decide +kernel, by decide +kernel⟩, by decide +kernel⟩
theorem wc_J6_265 : Cond.constant RJ6 265 1431655765 ∈ q_gtb := q_wd 1109 (by decide +kernel) (by decide +kernel)
theorem wc_J6_266 : Cond.constant RJ6 266 858993459 ∈ q_gtb := q_wd 1110 (by decide +kernel) (by decide +kernel)
theorem wc_J6_267 : Cond.constant RJ6 267 252645135 ∈ q_gtb := q_wd 1111 (by decide +kernel) (by decide +kernel)
theorem wf_J0_9 : Cond.fieldLink RJ0 9 "java/lang/String" "value" "[B" ∈ q_gtb := q_wd 2168 (by decide +kernel) (by decide +kernel)
theorem wf_J0_15 : Cond.fieldLink RJ0 15 "java/lang/String" "coder" "B" ∈ q_gtb := q_wd 2169 (by decide +kernel) (by decide +kernel)
theorem wf_J0_38 : Cond.fieldLink RJ0 38 "java/lang/String" "COMPACT_STRINGS" "Z" ∈ q_gtb := q_wd 296 (by decide +kernel) (by decide +kernel)
theorem lk_J1_38 : Cond.methodLink RJ1 38 Lib.Math.min.name ∈ q_gtb ∧ Cond.static Lib.Math.min.name ∈ q_gtb ∧ Cond.initialized "java/lang/Math" ∈ q_gtb ∧ Cond.code Lib.Math.min.name Lib.Math.min.code 2 (some .int) ∈ q_gtb := ⟨q_wd 819 (by decide +kernel) (by decide +kernel), q_wd 465 (by decide +kernel) (by decide +kernel), q_wd 107 (by decide +kernel) (by decide +kernel), q_wd 466 (by decide +kernel) (by decide +kernel)⟩
theorem lk_J1_92 : Cond.methodLink RJ1 92 Lib.Math.max.name ∈ q_gtb ∧ Cond.static Lib.Math.max.name ∈ q_gtb ∧ Cond.initialized "java/lang/Math" ∈ q_gtb ∧ Cond.code Lib.Math.max.name Lib.Math.max.code 2 (some .int) ∈ q_gtb := ⟨q_wd 818 (by decide +kernel) (by decide +kernel), q_wd 520 (by decide +kernel) (by decide +kernel), q_wd 107 (by decide +kernel) (by decide +kernel), q_wd 521 (by decide +kernel) (by decide +kernel)⟩
theorem dJ0_coder_7d493_0 : decode cJ0_coder_7d493 0 = .ok (.getstatic 38, 3) := by decide +kernel
theorem dJ0_coder_7d493_3 : decode cJ0_coder_7d493 3 = .ok (.ifCond .eq 10, 3) := by decide +kernel
theorem dJ0_coder_7d493_6 : decode cJ0_coder_7d493 6 = .ok (.aload_n 0, 1) := by decide +kernel
theorem dJ0_coder_7d493_7 : decode cJ0_coder_7d493 7 = .ok (.getfield 15, 3) := by decide +kernel
theorem dJ0_coder_7d493_10 : decode cJ0_coder_7d493 10 = .ok (.goto 4, 3) := by decide +kernel
theorem dJ0_coder_7d493_13 : decode cJ0_coder_7d493 13 = .ok (.iconst 1, 1) := by decide +kernel
theorem dJ0_coder_7d493_14 : decode cJ0_coder_7d493 14 = .ok (.ireturn, 1) := by decide +kernel
theorem dJ0_isLatin1_aae02_0 : decode cJ0_isLatin1_aae02 0 = .ok (.getstatic 38, 3) := by decide +kernel
theorem dJ0_isLatin1_aae02_3 : decode cJ0_isLatin1_aae02 3 = .ok (.ifCond .eq 14, 3) := by decide +kernel
theorem dJ0_isLatin1_aae02_6 : decode cJ0_isLatin1_aae02 6 = .ok (.aload_n 0, 1) := by decide +kernel
theorem dJ0_isLatin1_aae02_7 : decode cJ0_isLatin1_aae02 7 = .ok (.getfield 15, 3) := by decide +kernel
theorem dJ0_isLatin1_aae02_10 : decode cJ0_isLatin1_aae02 10 = .ok (.ifCond .ne 7, 3) := by decide +kernel
theorem dJ0_isLatin1_aae02_13 : decode cJ0_isLatin1_aae02 13 = .ok (.iconst 1, 1) := by decide +kernel
theorem dJ0_isLatin1_aae02_14 : decode cJ0_isLatin1_aae02 14 = .ok (.goto 4, 3) := by decide +kernel
theorem dJ0_isLatin1_aae02_17 : decode cJ0_isLatin1_aae02 17 = .ok (.iconst 0, 1) := by decide +kernel
theorem dJ0_isLatin1_aae02_18 : decode cJ0_isLatin1_aae02 18 = .ok (.ireturn, 1) := by decide +kernel
theorem dJ0_length_8abf5_0 : decode cJ0_length_8abf5 0 = .ok (.aload_n 0, 1) := by decide +kernel
theorem dJ0_length_8abf5_1 : decode cJ0_length_8abf5 1 = .ok (.getfield 9, 3) := by decide +kernel
theorem dJ0_length_8abf5_4 : decode cJ0_length_8abf5 4 = .ok (.arraylength, 1) := by decide +kernel
theorem dJ0_length_8abf5_5 : decode cJ0_length_8abf5 5 = .ok (.aload_n 0, 1) := by decide +kernel
theorem dJ0_length_8abf5_6 : decode cJ0_length_8abf5 6 = .ok (.invokevirtual 335, 3) := by decide +kernel
theorem dJ0_length_8abf5_9 : decode cJ0_length_8abf5 9 = .ok (.ishr, 1) := by decide +kernel
theorem dJ0_length_8abf5_10 : decode cJ0_length_8abf5 10 = .ok (.ireturn, 1) := by decide +kernel
theorem dJ1_canEncode_9a6ad_0 : decode cJ1_canEncode_9a6ad 0 = .ok (.iload_n 0, 1) := by decide +kernel
theorem dJ1_canEncode_9a6ad_1 : decode cJ1_canEncode_9a6ad 1 = .ok (.ifCond .lt 14, 3) := by decide +kernel
theorem dJ1_canEncode_9a6ad_4 : decode cJ1_canEncode_9a6ad 4 = .ok (.iload_n 0, 1) := by decide +kernel
theorem dJ1_canEncode_9a6ad_5 : decode cJ1_canEncode_9a6ad 5 = .ok (.sipush 255, 3) := by decide +kernel
theorem dJ1_canEncode_9a6ad_8 : decode cJ1_canEncode_9a6ad 8 = .ok (.if_icmp .gt 7, 3) := by decide +kernel
theorem dJ1_canEncode_9a6ad_11 : decode cJ1_canEncode_9a6ad 11 = .ok (.iconst 1, 1) := by decide +kernel
theorem dJ1_canEncode_9a6ad_12 : decode cJ1_canEncode_9a6ad 12 = .ok (.goto 4, 3) := by decide +kernel
theorem dJ1_canEncode_9a6ad_15 : decode cJ1_canEncode_9a6ad 15 = .ok (.iconst 0, 1) := by decide +kernel
theorem dJ1_canEncode_9a6ad_16 : decode cJ1_canEncode_9a6ad 16 = .ok (.ireturn, 1) := by decide +kernel
theorem dJ1_indexOfChar_4cfef_0 : decode cJ1_indexOfChar_4cfef 0 = .ok (.iload_n 1, 1) := by decide +kernel
theorem dJ1_indexOfChar_4cfef_1 : decode cJ1_indexOfChar_4cfef 1 = .ok (.i2b, 1) := by decide +kernel
theorem dJ1_indexOfChar_4cfef_2 : decode cJ1_indexOfChar_4cfef 2 = .ok (.istore 4, 2) := by decide +kernel
theorem dJ1_indexOfChar_4cfef_4 : decode cJ1_indexOfChar_4cfef 4 = .ok (.iload_n 2, 1) := by decide +kernel
theorem dJ1_indexOfChar_4cfef_5 : decode cJ1_indexOfChar_4cfef 5 = .ok (.istore 5, 2) := by decide +kernel
theorem dJ1_indexOfChar_4cfef_7 : decode cJ1_indexOfChar_4cfef 7 = .ok (.iload 5, 2) := by decide +kernel
theorem dJ1_indexOfChar_4cfef_9 : decode cJ1_indexOfChar_4cfef 9 = .ok (.iload_n 3, 1) := by decide +kernel
theorem dJ1_indexOfChar_4cfef_10 : decode cJ1_indexOfChar_4cfef 10 = .ok (.if_icmp .ge 21, 3) := by decide +kernel
theorem dJ1_indexOfChar_4cfef_13 : decode cJ1_indexOfChar_4cfef 13 = .ok (.aload_n 0, 1) := by decide +kernel
theorem dJ1_indexOfChar_4cfef_14 : decode cJ1_indexOfChar_4cfef 14 = .ok (.iload 5, 2) := by decide +kernel
theorem dJ1_indexOfChar_4cfef_16 : decode cJ1_indexOfChar_4cfef 16 = .ok (.baload, 1) := by decide +kernel
theorem dJ1_indexOfChar_4cfef_17 : decode cJ1_indexOfChar_4cfef 17 = .ok (.iload 4, 2) := by decide +kernel
theorem dJ1_indexOfChar_4cfef_19 : decode cJ1_indexOfChar_4cfef 19 = .ok (.if_icmp .ne 6, 3) := by decide +kernel
theorem dJ1_indexOfChar_4cfef_22 : decode cJ1_indexOfChar_4cfef 22 = .ok (.iload 5, 2) := by decide +kernel
theorem dJ1_indexOfChar_4cfef_24 : decode cJ1_indexOfChar_4cfef 24 = .ok (.ireturn, 1) := by decide +kernel
theorem dJ1_indexOfChar_4cfef_25 : decode cJ1_indexOfChar_4cfef 25 = .ok (.iinc 5 1, 3) := by decide +kernel
theorem dJ1_indexOfChar_4cfef_28 : decode cJ1_indexOfChar_4cfef 28 = .ok (.goto (-21), 3) := by decide +kernel
theorem dJ1_indexOfChar_4cfef_31 : decode cJ1_indexOfChar_4cfef 31 = .ok (.iconst (-1), 1) := by decide +kernel
theorem dJ1_indexOfChar_4cfef_32 : decode cJ1_indexOfChar_4cfef 32 = .ok (.ireturn, 1) := by decide +kernel
theorem dJ1_indexOf_4cfef_0 : decode cJ1_indexOf_4cfef 0 = .ok (.iload_n 1, 1) := by decide +kernel
theorem dJ1_indexOf_4cfef_1 : decode cJ1_indexOf_4cfef 1 = .ok (.invokestatic 88, 3) := by decide +kernel
theorem dJ1_indexOf_4cfef_4 : decode cJ1_indexOf_4cfef 4 = .ok (.ifCond .ne 5, 3) := by decide +kernel
theorem dJ1_indexOf_4cfef_7 : decode cJ1_indexOf_4cfef 7 = .ok (.iconst (-1), 1) := by decide +kernel
theorem dJ1_indexOf_4cfef_8 : decode cJ1_indexOf_4cfef 8 = .ok (.ireturn, 1) := by decide +kernel
theorem dJ1_indexOf_4cfef_9 : decode cJ1_indexOf_4cfef 9 = .ok (.iload_n 2, 1) := by decide +kernel
theorem dJ1_indexOf_4cfef_10 : decode cJ1_indexOf_4cfef 10 = .ok (.iconst 0, 1) := by decide +kernel
theorem dJ1_indexOf_4cfef_11 : decode cJ1_indexOf_4cfef 11 = .ok (.invokestatic 92, 3) := by decide +kernel
theorem dJ1_indexOf_4cfef_14 : decode cJ1_indexOf_4cfef 14 = .ok (.istore_n 2, 1) := by decide +kernel
theorem dJ1_indexOf_4cfef_15 : decode cJ1_indexOf_4cfef 15 = .ok (.iload_n 3, 1) := by decide +kernel
theorem dJ1_indexOf_4cfef_16 : decode cJ1_indexOf_4cfef 16 = .ok (.aload_n 0, 1) := by decide +kernel
theorem dJ1_indexOf_4cfef_17 : decode cJ1_indexOf_4cfef 17 = .ok (.arraylength, 1) := by decide +kernel
theorem dJ1_indexOf_4cfef_18 : decode cJ1_indexOf_4cfef 18 = .ok (.invokestatic 38, 3) := by decide +kernel
theorem dJ1_indexOf_4cfef_21 : decode cJ1_indexOf_4cfef 21 = .ok (.istore_n 3, 1) := by decide +kernel
theorem dJ1_indexOf_4cfef_22 : decode cJ1_indexOf_4cfef 22 = .ok (.iload_n 2, 1) := by decide +kernel
theorem dJ1_indexOf_4cfef_23 : decode cJ1_indexOf_4cfef 23 = .ok (.iload_n 3, 1) := by decide +kernel
theorem dJ1_indexOf_4cfef_24 : decode cJ1_indexOf_4cfef 24 = .ok (.if_icmp .lt 5, 3) := by decide +kernel
theorem dJ1_indexOf_4cfef_27 : decode cJ1_indexOf_4cfef 27 = .ok (.iconst (-1), 1) := by decide +kernel
theorem dJ1_indexOf_4cfef_28 : decode cJ1_indexOf_4cfef 28 = .ok (.ireturn, 1) := by decide +kernel
theorem dJ1_indexOf_4cfef_29 : decode cJ1_indexOf_4cfef 29 = .ok (.aload_n 0, 1) := by decide +kernel
theorem dJ1_indexOf_4cfef_30 : decode cJ1_indexOf_4cfef 30 = .ok (.iload_n 1, 1) := by decide +kernel
theorem dJ1_indexOf_4cfef_31 : decode cJ1_indexOf_4cfef 31 = .ok (.iload_n 2, 1) := by decide +kernel
theorem dJ1_indexOf_4cfef_32 : decode cJ1_indexOf_4cfef 32 = .ok (.iload_n 3, 1) := by decide +kernel
theorem dJ1_indexOf_4cfef_33 : decode cJ1_indexOf_4cfef 33 = .ok (.invokestatic 95, 3) := by decide +kernel
theorem dJ1_indexOf_4cfef_36 : decode cJ1_indexOf_4cfef 36 = .ok (.ireturn, 1) := by decide +kernel
theorem dJ0_indexOf_7cf53_0 : decode cJ0_indexOf_7cf53 0 = .ok (.aload_n 0, 1) := by decide +kernel
theorem dJ0_indexOf_7cf53_1 : decode cJ0_indexOf_7cf53 1 = .ok (.invokevirtual 492, 3) := by decide +kernel
theorem dJ0_indexOf_7cf53_4 : decode cJ0_indexOf_7cf53 4 = .ok (.ifCond .eq 19, 3) := by decide +kernel
theorem dJ0_indexOf_7cf53_7 : decode cJ0_indexOf_7cf53 7 = .ok (.aload_n 0, 1) := by decide +kernel
theorem dJ0_indexOf_7cf53_8 : decode cJ0_indexOf_7cf53 8 = .ok (.getfield 9, 3) := by decide +kernel
theorem dJ0_indexOf_7cf53_11 : decode cJ0_indexOf_7cf53 11 = .ok (.iload_n 1, 1) := by decide +kernel
theorem dJ0_indexOf_7cf53_12 : decode cJ0_indexOf_7cf53 12 = .ok (.iload_n 2, 1) := by decide +kernel
theorem dJ0_indexOf_7cf53_13 : decode cJ0_indexOf_7cf53 13 = .ok (.aload_n 0, 1) := by decide +kernel
theorem dJ0_indexOf_7cf53_14 : decode cJ0_indexOf_7cf53 14 = .ok (.invokevirtual 505, 3) := by decide +kernel
theorem dJ0_indexOf_7cf53_17 : decode cJ0_indexOf_7cf53 17 = .ok (.invokestatic 637, 3) := by decide +kernel
theorem dJ0_indexOf_7cf53_20 : decode cJ0_indexOf_7cf53 20 = .ok (.goto 16, 3) := by decide +kernel
theorem dJ0_indexOf_7cf53_23 : decode cJ0_indexOf_7cf53 23 = .ok (.aload_n 0, 1) := by decide +kernel
theorem dJ0_indexOf_7cf53_24 : decode cJ0_indexOf_7cf53 24 = .ok (.getfield 9, 3) := by decide +kernel
theorem dJ0_indexOf_7cf53_27 : decode cJ0_indexOf_7cf53 27 = .ok (.iload_n 1, 1) := by decide +kernel
theorem dJ0_indexOf_7cf53_28 : decode cJ0_indexOf_7cf53 28 = .ok (.iload_n 2, 1) := by decide +kernel
theorem dJ0_indexOf_7cf53_29 : decode cJ0_indexOf_7cf53 29 = .ok (.aload_n 0, 1) := by decide +kernel
theorem dJ0_indexOf_7cf53_30 : decode cJ0_indexOf_7cf53 30 = .ok (.invokevirtual 505, 3) := by decide +kernel
theorem dJ0_indexOf_7cf53_33 : decode cJ0_indexOf_7cf53 33 = .ok (.invokestatic 640, 3) := by decide +kernel
theorem dJ0_indexOf_7cf53_36 : decode cJ0_indexOf_7cf53 36 = .ok (.ireturn, 1) := by decide +kernel
theorem dJ0_indexOf_0f7a4_0 : decode cJ0_indexOf_0f7a4 0 = .ok (.aload_n 0, 1) := by decide +kernel
theorem dJ0_indexOf_0f7a4_1 : decode cJ0_indexOf_0f7a4 1 = .ok (.iload_n 1, 1) := by decide +kernel
theorem dJ0_indexOf_0f7a4_2 : decode cJ0_indexOf_0f7a4 2 = .ok (.iconst 0, 1) := by decide +kernel
theorem dJ0_indexOf_0f7a4_3 : decode cJ0_indexOf_0f7a4 3 = .ok (.invokevirtual 633, 3) := by decide +kernel
theorem dJ0_indexOf_0f7a4_6 : decode cJ0_indexOf_0f7a4 6 = .ok (.ireturn, 1) := by decide +kernel
theorem dJ6_bitCount_0f7a4_0 : decode cJ6_bitCount_0f7a4 0 = .ok (.iload_n 0, 1) := by decide +kernel
theorem dJ6_bitCount_0f7a4_1 : decode cJ6_bitCount_0f7a4 1 = .ok (.iload_n 0, 1) := by decide +kernel
theorem dJ6_bitCount_0f7a4_2 : decode cJ6_bitCount_0f7a4 2 = .ok (.iconst 1, 1) := by decide +kernel
theorem dJ6_bitCount_0f7a4_3 : decode cJ6_bitCount_0f7a4 3 = .ok (.iushr, 1) := by decide +kernel
theorem dJ6_bitCount_0f7a4_4 : decode cJ6_bitCount_0f7a4 4 = .ok (.ldc_w 265, 3) := by decide +kernel
theorem dJ6_bitCount_0f7a4_7 : decode cJ6_bitCount_0f7a4 7 = .ok (.iand, 1) := by decide +kernel
theorem dJ6_bitCount_0f7a4_8 : decode cJ6_bitCount_0f7a4 8 = .ok (.isub, 1) := by decide +kernel
theorem dJ6_bitCount_0f7a4_9 : decode cJ6_bitCount_0f7a4 9 = .ok (.istore_n 0, 1) := by decide +kernel
theorem dJ6_bitCount_0f7a4_10 : decode cJ6_bitCount_0f7a4 10 = .ok (.iload_n 0, 1) := by decide +kernel
theorem dJ6_bitCount_0f7a4_11 : decode cJ6_bitCount_0f7a4 11 = .ok (.ldc_w 266, 3) := by decide +kernel
theorem dJ6_bitCount_0f7a4_14 : decode cJ6_bitCount_0f7a4 14 = .ok (.iand, 1) := by decide +kernel
theorem dJ6_bitCount_0f7a4_15 : decode cJ6_bitCount_0f7a4 15 = .ok (.iload_n 0, 1) := by decide +kernel
theorem dJ6_bitCount_0f7a4_16 : decode cJ6_bitCount_0f7a4 16 = .ok (.iconst 2, 1) := by decide +kernel
theorem dJ6_bitCount_0f7a4_17 : decode cJ6_bitCount_0f7a4 17 = .ok (.iushr, 1) := by decide +kernel
theorem dJ6_bitCount_0f7a4_18 : decode cJ6_bitCount_0f7a4 18 = .ok (.ldc_w 266, 3) := by decide +kernel
theorem dJ6_bitCount_0f7a4_21 : decode cJ6_bitCount_0f7a4 21 = .ok (.iand, 1) := by decide +kernel
theorem dJ6_bitCount_0f7a4_22 : decode cJ6_bitCount_0f7a4 22 = .ok (.iadd, 1) := by decide +kernel
theorem dJ6_bitCount_0f7a4_23 : decode cJ6_bitCount_0f7a4 23 = .ok (.istore_n 0, 1) := by decide +kernel
theorem dJ6_bitCount_0f7a4_24 : decode cJ6_bitCount_0f7a4 24 = .ok (.iload_n 0, 1) := by decide +kernel
theorem dJ6_bitCount_0f7a4_25 : decode cJ6_bitCount_0f7a4 25 = .ok (.iload_n 0, 1) := by decide +kernel
theorem dJ6_bitCount_0f7a4_26 : decode cJ6_bitCount_0f7a4 26 = .ok (.iconst 4, 1) := by decide +kernel
theorem dJ6_bitCount_0f7a4_27 : decode cJ6_bitCount_0f7a4 27 = .ok (.iushr, 1) := by decide +kernel
theorem dJ6_bitCount_0f7a4_28 : decode cJ6_bitCount_0f7a4 28 = .ok (.iadd, 1) := by decide +kernel
theorem dJ6_bitCount_0f7a4_29 : decode cJ6_bitCount_0f7a4 29 = .ok (.ldc_w 267, 3) := by decide +kernel
theorem dJ6_bitCount_0f7a4_32 : decode cJ6_bitCount_0f7a4 32 = .ok (.iand, 1) := by decide +kernel
theorem dJ6_bitCount_0f7a4_33 : decode cJ6_bitCount_0f7a4 33 = .ok (.istore_n 0, 1) := by decide +kernel
theorem dJ6_bitCount_0f7a4_34 : decode cJ6_bitCount_0f7a4 34 = .ok (.iload_n 0, 1) := by decide +kernel
theorem dJ6_bitCount_0f7a4_35 : decode cJ6_bitCount_0f7a4 35 = .ok (.iload_n 0, 1) := by decide +kernel
theorem dJ6_bitCount_0f7a4_36 : decode cJ6_bitCount_0f7a4 36 = .ok (.bipush 8, 2) := by decide +kernel
theorem dJ6_bitCount_0f7a4_38 : decode cJ6_bitCount_0f7a4 38 = .ok (.iushr, 1) := by decide +kernel
theorem dJ6_bitCount_0f7a4_39 : decode cJ6_bitCount_0f7a4 39 = .ok (.iadd, 1) := by decide +kernel
theorem dJ6_bitCount_0f7a4_40 : decode cJ6_bitCount_0f7a4 40 = .ok (.istore_n 0, 1) := by decide +kernel
theorem dJ6_bitCount_0f7a4_41 : decode cJ6_bitCount_0f7a4 41 = .ok (.iload_n 0, 1) := by decide +kernel
theorem dJ6_bitCount_0f7a4_42 : decode cJ6_bitCount_0f7a4 42 = .ok (.iload_n 0, 1) := by decide +kernel
theorem dJ6_bitCount_0f7a4_43 : decode cJ6_bitCount_0f7a4 43 = .ok (.bipush 16, 2) := by decide +kernel
theorem dJ6_bitCount_0f7a4_45 : decode cJ6_bitCount_0f7a4 45 = .ok (.iushr, 1) := by decide +kernel
theorem dJ6_bitCount_0f7a4_46 : decode cJ6_bitCount_0f7a4 46 = .ok (.iadd, 1) := by decide +kernel
theorem dJ6_bitCount_0f7a4_47 : decode cJ6_bitCount_0f7a4 47 = .ok (.istore_n 0, 1) := by decide +kernel
theorem dJ6_bitCount_0f7a4_48 : decode cJ6_bitCount_0f7a4 48 = .ok (.iload_n 0, 1) := by decide +kernel
theorem dJ6_bitCount_0f7a4_49 : decode cJ6_bitCount_0f7a4 49 = .ok (.bipush 63, 2) := by decide +kernel
theorem dJ6_bitCount_0f7a4_51 : decode cJ6_bitCount_0f7a4 51 = .ok (.iand, 1) := by decide +kernel
theorem dJ6_bitCount_0f7a4_52 : decode cJ6_bitCount_0f7a4 52 = .ok (.ireturn, 1) := by decide +kernel
theorem dJ6_lowestOneBit_0f7a4_0 : decode cJ6_lowestOneBit_0f7a4 0 = .ok (.iload_n 0, 1) := by decide +kernel
theorem dJ6_lowestOneBit_0f7a4_1 : decode cJ6_lowestOneBit_0f7a4 1 = .ok (.iload_n 0, 1) := by decide +kernel
theorem dJ6_lowestOneBit_0f7a4_2 : decode cJ6_lowestOneBit_0f7a4 2 = .ok (.ineg, 1) := by decide +kernel
theorem dJ6_lowestOneBit_0f7a4_3 : decode cJ6_lowestOneBit_0f7a4 3 = .ok (.iand, 1) := by decide +kernel
theorem dJ6_lowestOneBit_0f7a4_4 : decode cJ6_lowestOneBit_0f7a4 4 = .ok (.ireturn, 1) := by decide +kernel
theorem dJ7_fill_53178_0 : decode cJ7_fill_53178 0 = .ok (.iconst 0, 1) := by decide +kernel
theorem dJ7_fill_53178_1 : decode cJ7_fill_53178 1 = .ok (.istore_n 2, 1) := by decide +kernel
theorem dJ7_fill_53178_2 : decode cJ7_fill_53178 2 = .ok (.aload_n 0, 1) := by decide +kernel
theorem dJ7_fill_53178_3 : decode cJ7_fill_53178 3 = .ok (.arraylength, 1) := by decide +kernel
theorem dJ7_fill_53178_4 : decode cJ7_fill_53178 4 = .ok (.istore_n 3, 1) := by decide +kernel
theorem dJ7_fill_53178_5 : decode cJ7_fill_53178 5 = .ok (.iload_n 2, 1) := by decide +kernel
theorem dJ7_fill_53178_6 : decode cJ7_fill_53178 6 = .ok (.iload_n 3, 1) := by decide +kernel
theorem dJ7_fill_53178_7 : decode cJ7_fill_53178 7 = .ok (.if_icmp .ge 13, 3) := by decide +kernel
theorem dJ7_fill_53178_10 : decode cJ7_fill_53178 10 = .ok (.aload_n 0, 1) := by decide +kernel
theorem dJ7_fill_53178_11 : decode cJ7_fill_53178 11 = .ok (.iload_n 2, 1) := by decide +kernel
theorem dJ7_fill_53178_12 : decode cJ7_fill_53178 12 = .ok (.iload_n 1, 1) := by decide +kernel
theorem dJ7_fill_53178_13 : decode cJ7_fill_53178 13 = .ok (.iastore, 1) := by decide +kernel
theorem dJ7_fill_53178_14 : decode cJ7_fill_53178 14 = .ok (.iinc 2 1, 3) := by decide +kernel
theorem dJ7_fill_53178_17 : decode cJ7_fill_53178 17 = .ok (.goto (-12), 3) := by decide +kernel
theorem dJ7_fill_53178_20 : decode cJ7_fill_53178 20 = .ok (.return_, 1) := by decide +kernel
theorem dJ3_checkIndex_8e157_0 : decode cJ3_checkIndex_8e157 0 = .ok (.iload_n 0, 1) := by decide +kernel
theorem dJ3_checkIndex_8e157_1 : decode cJ3_checkIndex_8e157 1 = .ok (.ifCond .lt 8, 3) := by decide +kernel
theorem dJ3_checkIndex_8e157_4 : decode cJ3_checkIndex_8e157 4 = .ok (.iload_n 0, 1) := by decide +kernel
theorem dJ3_checkIndex_8e157_5 : decode cJ3_checkIndex_8e157 5 = .ok (.iload_n 1, 1) := by decide +kernel
theorem dJ3_checkIndex_8e157_6 : decode cJ3_checkIndex_8e157 6 = .ok (.if_icmp .lt 10, 3) := by decide +kernel
theorem dJ3_checkIndex_8e157_9 : decode cJ3_checkIndex_8e157 9 = .ok (.aload_n 2, 1) := by decide +kernel
theorem dJ3_checkIndex_8e157_10 : decode cJ3_checkIndex_8e157 10 = .ok (.iload_n 0, 1) := by decide +kernel
theorem dJ3_checkIndex_8e157_11 : decode cJ3_checkIndex_8e157 11 = .ok (.iload_n 1, 1) := by decide +kernel
theorem dJ3_checkIndex_8e157_12 : decode cJ3_checkIndex_8e157 12 = .ok (.invokestatic 95, 3) := by decide +kernel
theorem dJ3_checkIndex_8e157_15 : decode cJ3_checkIndex_8e157 15 = .ok (.athrow, 1) := by decide +kernel
theorem dJ3_checkIndex_8e157_16 : decode cJ3_checkIndex_8e157 16 = .ok (.iload_n 0, 1) := by decide +kernel
theorem dJ3_checkIndex_8e157_17 : decode cJ3_checkIndex_8e157 17 = .ok (.ireturn, 1) := by decide +kernel
theorem dJ15_checkIndex_7cf53_0 : decode cJ15_checkIndex_7cf53 0 = .ok (.iload_n 0, 1) := by decide +kernel
theorem dJ15_checkIndex_7cf53_1 : decode cJ15_checkIndex_7cf53 1 = .ok (.iload_n 1, 1) := by decide +kernel
theorem dJ15_checkIndex_7cf53_2 : decode cJ15_checkIndex_7cf53 2 = .ok (.aconst_null, 1) := by decide +kernel
theorem dJ15_checkIndex_7cf53_3 : decode cJ15_checkIndex_7cf53 3 = .ok (.invokestatic 105, 3) := by decide +kernel
theorem dJ15_checkIndex_7cf53_6 : decode cJ15_checkIndex_7cf53 6 = .ok (.ireturn, 1) := by decide +kernel
theorem dJx4a65c_elementData_915e3_0 : decode cJx4a65c_elementData_915e3 0 = .ok (.aload_n 0, 1) := by decide +kernel
theorem dJx4a65c_elementData_915e3_1 : decode cJx4a65c_elementData_915e3 1 = .ok (.getfield 9, 3) := by decide +kernel
theorem dJx4a65c_elementData_915e3_4 : decode cJx4a65c_elementData_915e3 4 = .ok (.iload_n 1, 1) := by decide +kernel
theorem dJx4a65c_elementData_915e3_5 : decode cJx4a65c_elementData_915e3 5 = .ok (.aaload, 1) := by decide +kernel
theorem dJx4a65c_elementData_915e3_6 : decode cJx4a65c_elementData_915e3 6 = .ok (.areturn, 1) := by decide +kernel
theorem dJx4a65c_size_8abf5_0 : decode cJx4a65c_size_8abf5 0 = .ok (.aload_n 0, 1) := by decide +kernel
theorem dJx4a65c_size_8abf5_1 : decode cJx4a65c_size_8abf5 1 = .ok (.getfield 48, 3) := by decide +kernel
theorem dJx4a65c_size_8abf5_4 : decode cJx4a65c_size_8abf5 4 = .ok (.ireturn, 1) := by decide +kernel
theorem dJx4a65c_get_915e3_0 : decode cJx4a65c_get_915e3 0 = .ok (.iload_n 1, 1) := by decide +kernel
theorem dJx4a65c_get_915e3_1 : decode cJx4a65c_get_915e3 1 = .ok (.aload_n 0, 1) := by decide +kernel
theorem dJx4a65c_get_915e3_2 : decode cJx4a65c_get_915e3 2 = .ok (.getfield 48, 3) := by decide +kernel
theorem dJx4a65c_get_915e3_5 : decode cJx4a65c_get_915e3 5 = .ok (.invokestatic 118, 3) := by decide +kernel
theorem dJx4a65c_get_915e3_8 : decode cJx4a65c_get_915e3 8 = .ok (.pop, 1) := by decide +kernel
theorem dJx4a65c_get_915e3_9 : decode cJx4a65c_get_915e3 9 = .ok (.aload_n 0, 1) := by decide +kernel
theorem dJx4a65c_get_915e3_10 : decode cJx4a65c_get_915e3 10 = .ok (.iload_n 1, 1) := by decide +kernel
theorem dJx4a65c_get_915e3_11 : decode cJx4a65c_get_915e3 11 = .ok (.invokevirtual 123, 3) := by decide +kernel
theorem dJx4a65c_get_915e3_14 : decode cJx4a65c_get_915e3 14 = .ok (.areturn, 1) := by decide +kernel
noncomputable def f_J0_coder_7d493 (T : Nat → Nat) (L : Nat → Nat) (P : Nat → Nat → Nat) (M : q_MM) (o0 : Nat) : Option (Int32) :=
  if (1 : Int32) = 0 then
    q_bl 1 (some 1)
  else
    q_sck o0 <|
    q_bl 0 (some 0)
noncomputable def f_J0_isLatin1_aae02 (T : Nat → Nat) (L : Nat → Nat) (P : Nat → Nat → Nat) (M : q_MM) (o0 : Nat) : Option (Int32) :=
  if (1 : Int32) = 0 then
    q_bl 0 (some 0)
  else
    q_sck o0 <|
    if (0 : Int32) = 0 then
      q_bl 1 (some 1)
    else
      q_bl 0 (some 0)
noncomputable def f_J0_length_8abf5 (T : Nat → Nat) (L : Nat → Nat) (P : Nat → Nat → Nat) (M : q_MM) (o0 : Nat) : Option (Int32) :=
  q_sck o0 <|
  q_bck (o0 + 20) <|
  (f_J0_coder_7d493 T L P M o0).bind fun r3 =>
  some ((Int32.ofNat (q_len.getD ((o0 + 20) - 920) 0)) >>> (r3 &&& 31))
noncomputable def f_J1_canEncode_9a6ad (T : Nat → Nat) (L : Nat → Nat) (P : Nat → Nat → Nat) (M : q_MM) (a1 : Int32) : Option (Int32) :=
  if a1 < 0 then
    q_bl 0 (some 0)
  else
    if (255 : Int32) < a1 then
      q_bl 0 (some 0)
    else
      q_bl 1 (some 1)
noncomputable def b_J1_indexOfChar_4cfef_7 (T : Nat → Nat) (L : Nat → Nat) (P : Nat → Nat → Nat) (M : q_MM) : Nat → Nat → Int32 → Int32 → Int32 → Option (Int32)
  | 0, _, _, _, _ => none
  | nf + 1, x0, x3, x4, x5 =>
    if x3 ≤ x5 then
      some (-1)
    else
      q_bck x0 <|
      q_sb x0 x5 fun v3 =>
      if v3 = x4 then
        some x5
      else
        b_J1_indexOfChar_4cfef_7 T L P M nf x0 x3 x4 (x5 + 1)
noncomputable def f_J1_indexOfChar_4cfef (T : Nat → Nat) (L : Nat → Nat) (P : Nat → Nat → Nat) (M : q_MM) (a1 : Nat) (a2 : Int32) (a3 : Int32) (a4 : Int32) : Option (Int32) :=
  q_let (Int32.toInt8 a2).toInt32 fun v5 =>
  b_J1_indexOfChar_4cfef_7 T L P M q_fu a1 a4 v5 a3
noncomputable def f_J1_indexOf_4cfef (T : Nat → Nat) (L : Nat → Nat) (P : Nat → Nat → Nat) (M : q_MM) (a1 : Nat) (a2 : Int32) (a3 : Int32) (a4 : Int32) : Option (Int32) :=
  (f_J1_canEncode_9a6ad T L P M a2).bind fun r1 =>
  if r1 = 0 then
    some (-1)
  else
    q_let (if a3 < 0 then 0 else a3) fun v3 =>
    q_bck a1 <|
    q_let (if (Int32.ofNat (q_len.getD (a1 - 920) 0)) < a4 then (Int32.ofNat (q_len.getD (a1 - 920) 0)) else a4) fun v5 =>
    if v3 < v5 then
      (f_J1_indexOfChar_4cfef T L P M a1 a2 v3 v5).bind fun r7 =>
      some r7
    else
      some (-1)
noncomputable def f_J0_indexOf_7cf53 (T : Nat → Nat) (L : Nat → Nat) (P : Nat → Nat → Nat) (M : q_MM) (o0 : Nat) (a1 : Int32) (a2 : Int32) : Option (Int32) :=
  q_sck o0 <|
  (f_J0_isLatin1_aae02 T L P M o0).bind fun r2 =>
  if r2 = 0 then
    (f_J0_length_8abf5 T L P M o0).bind fun r4 =>
    none
  else
    (f_J0_length_8abf5 T L P M o0).bind fun r5 =>
    (f_J1_indexOf_4cfef T L P M (o0 + 20) a1 a2 r5).bind fun r6 =>
    some r6
noncomputable def f_J0_indexOf_0f7a4 (T : Nat → Nat) (L : Nat → Nat) (P : Nat → Nat → Nat) (M : q_MM) (o0 : Nat) (a1 : Int32) : Option (Int32) :=
  q_sck o0 <|
  (f_J0_indexOf_7cf53 T L P M o0 a1 0).bind fun r2 =>
  some r2
noncomputable def f_J6_bitCount_0f7a4 (T : Nat → Nat) (L : Nat → Nat) (P : Nat → Nat → Nat) (M : q_MM) (a1 : Int32) : Option (Int32) :=
  q_let (a1 - ((Int32.toUInt32 a1 >>> (Int32.toUInt32 1 &&& Int32.toUInt32 31)).toInt32 &&& 1431655765)) fun v1 =>
  q_let ((v1 &&& 858993459) + ((Int32.toUInt32 v1 >>> (Int32.toUInt32 2 &&& Int32.toUInt32 31)).toInt32 &&& 858993459)) fun v2 =>
  q_let ((v2 + (Int32.toUInt32 v2 >>> (Int32.toUInt32 4 &&& Int32.toUInt32 31)).toInt32) &&& 252645135) fun v3 =>
  q_let (v3 + (Int32.toUInt32 v3 >>> (Int32.toUInt32 8 &&& Int32.toUInt32 31)).toInt32) fun v4 =>
  q_let (v4 + (Int32.toUInt32 v4 >>> (Int32.toUInt32 16 &&& Int32.toUInt32 31)).toInt32) fun v5 =>
  some (v5 &&& 63)
noncomputable def f_J6_lowestOneBit_0f7a4 (T : Nat → Nat) (L : Nat → Nat) (P : Nat → Nat → Nat) (M : q_MM) (a1 : Int32) : Option (Int32) :=
  some (a1 &&& (-a1))
noncomputable def b_J7_fill_53178_5 (T : Nat → Nat) (L : Nat → Nat) (P : Nat → Nat → Nat) : Nat → Nat → Int32 → Int32 → Int32 → q_MM → Option (q_MM)
  | 0, _, _, _, _, _ => none
  | nf + 1, x0, x1, x2, x3, M =>
    if x3 ≤ x2 then
      some M
    else
      q_ck (T x0) 1 <|
      q_as M x0 (L x0) x2 x1 fun M3 =>
      b_J7_fill_53178_5 T L P nf x0 x1 (x2 + 1) x3 M3
noncomputable def f_J7_fill_53178 (T : Nat → Nat) (L : Nat → Nat) (P : Nat → Nat → Nat) (M0 : q_MM) (a1 : Nat) (a2 : Int32) : Option (q_MM) :=
  q_ck (T a1) 1 <|
  q_let (Int32.ofNat (L a1)) fun v5 =>
  b_J7_fill_53178_5 T L P q_fu a1 a2 0 v5 M0
noncomputable def b_J3_checkIndex_8e157_9 (T : Nat → Nat) (L : Nat → Nat) (P : Nat → Nat → Nat) (M : q_MM) (x0 : Int32) (x1 : Int32) (x2 : Nat) : Option (Int32) :=
  none
noncomputable def f_J3_checkIndex_8e157 (T : Nat → Nat) (L : Nat → Nat) (P : Nat → Nat → Nat) (M : q_MM) (a1 : Int32) (a2 : Int32) (a3 : Nat) : Option (Int32) :=
  if a1 < 0 then
    b_J3_checkIndex_8e157_9 T L P M a1 a2 a3
  else
    if a1 < a2 then
      some a1
    else
      b_J3_checkIndex_8e157_9 T L P M a1 a2 a3
noncomputable def f_J15_checkIndex_7cf53 (T : Nat → Nat) (L : Nat → Nat) (P : Nat → Nat → Nat) (M : q_MM) (a1 : Int32) (a2 : Int32) : Option (Int32) :=
  (f_J3_checkIndex_8e157 T L P M a1 a2 0).bind fun r1 =>
  some r1
noncomputable def f_Jx4a65c_elementData_915e3 (T : Nat → Nat) (L : Nat → Nat) (P : Nat → Nat → Nat) (M : q_MM) (o0 : Nat) (a1 : Int32) : Option (Nat) :=
  q_ck (T o0) 23 <|
  q_ck (T (P o0 1)) 3 <|
  q_ldr P (P o0 1) (L (P o0 1)) a1 fun p3 =>
  some p3
noncomputable def f_Jx4a65c_size_8abf5 (T : Nat → Nat) (L : Nat → Nat) (P : Nat → Nat → Nat) (M : q_MM) (o0 : Nat) : Option (Int32) :=
  q_ck (T o0) 23 <|
  some (M o0 2)
noncomputable def f_Jx4a65c_get_915e3 (T : Nat → Nat) (L : Nat → Nat) (P : Nat → Nat → Nat) (M : q_MM) (o0 : Nat) (a1 : Int32) : Option (Nat) :=
  q_ck (T o0) 23 <|
  (f_J15_checkIndex_7cf53 T L P M a1 (M o0 2)).bind fun r2 =>
  (f_Jx4a65c_elementData_915e3 T L P M o0 a1).bind fun r3 =>
  some r3
set_option maxHeartbeats 4000000 in
set_option maxRecDepth 100000 in
theorem c_J0_coder_7d493 (l : Launch) (K : q_KK) (T : Nat → Nat) (L : Nat → Nat) (P : Nat → Nat → Nat) (M : q_MM) (o0 : Nat) : ∀ res, f_J0_coder_7d493 T L P M o0 = some res → Mt l yJ0_coder_7d493 cJ0_coder_7d493 1 (some FieldType.byte) 0 0 0 0 false K [.ref o0] (T, L, P, M) (some (.int res)) ((T, L, P, M)) := by
  refine Mt.of (fun (res : Int32) => some (.int res)) (fun (_ : Int32) => (T, L, P, M)) (by decide) (Nat.le_of_ble_eq_true rfl) ?_
  intro p e s m args below meth c0 A ad X hN
  refine g_sub (lv' := [(0, .ref o0)]) [0] rfl ?_
  unfold f_J0_coder_7d493
  refine g_comp X wf_J0_38 dJ0_coder_7d493_0 ?_
  refine g_if_eq X 13 dJ0_coder_7d493_3 rfl (fun h1 => ?_) (fun h1 => ?_)
  · refine g_iconst (v := 1) X dJ0_coder_7d493_13 (by decide) ?_
    exact g_yret X rfl rfl rfl dJ0_coder_7d493_14
  · refine g_aload_n X dJ0_coder_7d493_6 rfl 0 rfl ?_
    refine g_sck (fun hS2 => ?_)
    refine g_scod X hS2 wf_J0_15 dJ0_coder_7d493_7 ?_
    refine g_goto X 14 dJ0_coder_7d493_10 rfl ?_
    exact g_yret X rfl rfl rfl dJ0_coder_7d493_14
set_option maxHeartbeats 4000000 in
set_option maxRecDepth 100000 in
theorem c_J0_isLatin1_aae02 (l : Launch) (K : q_KK) (T : Nat → Nat) (L : Nat → Nat) (P : Nat → Nat → Nat) (M : q_MM) (o0 : Nat) : ∀ res, f_J0_isLatin1_aae02 T L P M o0 = some res → Mt l yJ0_isLatin1_aae02 cJ0_isLatin1_aae02 1 (some FieldType.boolean) 0 0 0 0 false K [.ref o0] (T, L, P, M) (some (.int res)) ((T, L, P, M)) := by
  refine Mt.of (fun (res : Int32) => some (.int res)) (fun (_ : Int32) => (T, L, P, M)) (by decide) (Nat.le_of_ble_eq_true rfl) ?_
  intro p e s m args below meth c0 A ad X hN
  refine g_sub (lv' := [(0, .ref o0)]) [0] rfl ?_
  unfold f_J0_isLatin1_aae02
  refine g_comp X wf_J0_38 dJ0_isLatin1_aae02_0 ?_
  refine g_if_eq X 17 dJ0_isLatin1_aae02_3 rfl (fun h1 => ?_) (fun h1 => ?_)
  · refine g_iconst (v := 0) X dJ0_isLatin1_aae02_17 (by decide) ?_
    exact g_zret X rfl rfl rfl dJ0_isLatin1_aae02_18
  · refine g_aload_n X dJ0_isLatin1_aae02_6 rfl 0 rfl ?_
    refine g_sck (fun hS2 => ?_)
    refine g_scod X hS2 wf_J0_15 dJ0_isLatin1_aae02_7 ?_
    refine g_if_ne X 17 dJ0_isLatin1_aae02_10 rfl (fun h3 => ?_) (fun h3 => ?_)
    · refine g_iconst (v := 1) X dJ0_isLatin1_aae02_13 (by decide) ?_
      refine g_goto X 18 dJ0_isLatin1_aae02_14 rfl ?_
      exact g_zret X rfl rfl rfl dJ0_isLatin1_aae02_18
    · refine g_iconst (v := 0) X dJ0_isLatin1_aae02_17 (by decide) ?_
      exact g_zret X rfl rfl rfl dJ0_isLatin1_aae02_18
set_option maxHeartbeats 4000000 in
set_option maxRecDepth 100000 in
theorem c_J0_length_8abf5 (l : Launch) (K : q_KK) (T : Nat → Nat) (L : Nat → Nat) (P : Nat → Nat → Nat) (M : q_MM) (o0 : Nat) : ∀ res, f_J0_length_8abf5 T L P M o0 = some res → Mt l yJ0_length_8abf5 cJ0_length_8abf5 1 (some FieldType.int) 1 20 0 0 false K [.ref o0] (T, L, P, M) (some (.int res)) ((T, L, P, M)) := by
  refine Mt.of (fun (res : Int32) => some (.int res)) (fun (_ : Int32) => (T, L, P, M)) (by decide) (Nat.le_of_ble_eq_true rfl) ?_
  intro p e s m args below meth c0 A ad X hN
  refine g_sub (lv' := [(0, .ref o0)]) [0] rfl ?_
  unfold f_J0_length_8abf5
  refine g_aload_n X dJ0_length_8abf5_0 rfl 0 rfl ?_
  refine g_sck (fun hS1 => ?_)
  refine g_sval X hS1 wf_J0_9 dJ0_length_8abf5_1 ?_
  refine g_bck (fun hB2 => ?_)
  refine g_sbal X hB2 dJ0_length_8abf5_4 ?_
  refine g_aload_n X dJ0_length_8abf5_5 rfl 0 rfl ?_
  refine g_bXi (As := []) (rest := [.int (Int32.ofNat (q_len.getD ((o0 + 20) - 920) 0))]) X (c_J0_coder_7d493 l K T L P M o0) lk_J0_335 hS1 rfl rfl (Nat.le_of_ble_eq_true rfl) ⟨Nat.le_of_ble_eq_true rfl, Nat.le_of_ble_eq_true rfl⟩ ⟨Nat.zero_le _, Nat.zero_le _⟩ dJ0_length_8abf5_6 (fun r3 => ?_)
  refine g_ishr X dJ0_length_8abf5_9 ?_
  exact g_iret X rfl rfl rfl dJ0_length_8abf5_10
set_option maxHeartbeats 4000000 in
set_option maxRecDepth 100000 in
theorem c_J1_canEncode_9a6ad (l : Launch) (K : q_KK) (T : Nat → Nat) (L : Nat → Nat) (P : Nat → Nat → Nat) (M : q_MM) (a1 : Int32) : ∀ res, f_J1_canEncode_9a6ad T L P M a1 = some res → Mt l yJ1_canEncode_9a6ad cJ1_canEncode_9a6ad 1 (some FieldType.boolean) 0 0 0 0 false K [.int a1] (T, L, P, M) (some (.int res)) ((T, L, P, M)) := by
  refine Mt.of (fun (res : Int32) => some (.int res)) (fun (_ : Int32) => (T, L, P, M)) (by decide) (Nat.le_of_ble_eq_true rfl) ?_
  intro p e s m args below meth c0 A ad X hN
  refine g_sub (lv' := [(0, .int a1)]) [0] rfl ?_
  unfold f_J1_canEncode_9a6ad
  refine g_iload_n X dJ1_canEncode_9a6ad_0 rfl 0 rfl ?_
  refine g_if_lt X 15 dJ1_canEncode_9a6ad_1 rfl (fun h1 => ?_) (fun h1 => ?_)
  · refine g_iconst (v := 0) X dJ1_canEncode_9a6ad_15 (by decide) ?_
    exact g_zret X rfl rfl rfl dJ1_canEncode_9a6ad_16
  · refine g_iload_n X dJ1_canEncode_9a6ad_4 rfl 0 rfl ?_
    refine g_sipush (v := 255) X dJ1_canEncode_9a6ad_5 (by decide) ?_
    refine g_icmp_gt X 15 dJ1_canEncode_9a6ad_8 rfl (fun h2 => ?_) (fun h2 => ?_)
    · refine g_iconst (v := 0) X dJ1_canEncode_9a6ad_15 (by decide) ?_
      exact g_zret X rfl rfl rfl dJ1_canEncode_9a6ad_16
    · refine g_iconst (v := 1) X dJ1_canEncode_9a6ad_11 (by decide) ?_
      refine g_goto X 16 dJ1_canEncode_9a6ad_12 rfl ?_
      exact g_zret X rfl rfl rfl dJ1_canEncode_9a6ad_16
set_option maxHeartbeats 4000000 in
set_option maxRecDepth 100000 in
theorem c_J1_indexOfChar_4cfef (l : Launch) (K : q_KK) (T : Nat → Nat) (L : Nat → Nat) (P : Nat → Nat → Nat) (M : q_MM) (a1 : Nat) (a2 : Int32) (a3 : Int32) (a4 : Int32) : ∀ res, f_J1_indexOfChar_4cfef T L P M a1 a2 a3 a4 = some res → Mt l yJ1_indexOfChar_4cfef cJ1_indexOfChar_4cfef 6 (some FieldType.int) 0 0 0 0 false K [.ref a1, .int a2, .int a3, .int a4] (T, L, P, M) (some (.int res)) ((T, L, P, M)) := by
  refine Mt.of (fun (res : Int32) => some (.int res)) (fun (_ : Int32) => (T, L, P, M)) (by decide) (Nat.le_of_ble_eq_true rfl) ?_
  intro p e s m args below meth c0 A ad X hN
  have hb_7 : ∀ (nf : Nat) (x0 : Nat) (x3 : Int32) (x4 : Int32) (x5 : Int32), GG p l e { frames := 0, cells := 0, slots := 0, locals := 0 } s m args below meth c0 K A (T, L, P, M) ad false 6 (fun res => MQ below (q_Qc K false ad (T, L, P, M) ((fun (res : Int32) => some (.int res)) res) ((fun (_ : Int32) => (T, L, P, M)) res) A) args s 0 0 A) (b_J1_indexOfChar_4cfef_7 T L P M nf x0 x3 x4 x5) 7 [(0, .ref x0), (3, .int x3), (4, .int x4), (5, .int x5)] [] (T, L, P, M) 0 0 := by
    intro  nf
    induction nf with
    | zero => intros; exact g_stop
    | succ nf ih =>
      intro x0 x3 x4 x5
      rw [b_J1_indexOfChar_4cfef_7]
      refine g_iload X dJ1_indexOfChar_4cfef_7 3 rfl ?_
      refine g_iload_n X dJ1_indexOfChar_4cfef_9 rfl 1 rfl ?_
      refine g_icmp_ge X 31 dJ1_indexOfChar_4cfef_10 rfl (fun h1 => ?_) (fun h1 => ?_)
      · refine g_iconst (v := (-1)) X dJ1_indexOfChar_4cfef_31 (by decide) ?_
        exact g_iret X rfl rfl rfl dJ1_indexOfChar_4cfef_32
      · refine g_aload_n X dJ1_indexOfChar_4cfef_13 rfl 0 rfl ?_
        refine g_iload X dJ1_indexOfChar_4cfef_14 3 rfl ?_
        refine g_bck (fun hB2 => ?_)
        refine g_sbld X hB2 dJ1_indexOfChar_4cfef_16 (fun v3 => ?_)
        refine g_iload X dJ1_indexOfChar_4cfef_17 2 rfl ?_
        refine g_icmp_ne X 25 dJ1_indexOfChar_4cfef_19 rfl (fun h4 => ?_) (fun h4 => ?_)
        · refine g_iload X dJ1_indexOfChar_4cfef_22 3 rfl ?_
          exact g_iret X rfl rfl rfl dJ1_indexOfChar_4cfef_24
        · refine g_iinc (v := 1) X [(5, .int (x5 + 1)), (0, .ref x0), (3, .int x3), (4, .int x4)] 3 dJ1_indexOfChar_4cfef_25 rfl (by decide) (by decide) rfl ?_
          refine g_goto X 7 dJ1_indexOfChar_4cfef_28 rfl ?_
          exact g_sub [1, 2, 3, 0] rfl (ih x0 x3 x4 (x5 + 1))
  refine g_sub (lv' := [(0, .ref a1), (1, .int a2), (2, .int a3), (3, .int a4)]) [0, 1, 2, 3] rfl ?_
  unfold f_J1_indexOfChar_4cfef
  refine g_iload_n X dJ1_indexOfChar_4cfef_0 rfl 1 rfl ?_
  refine g_i2b X dJ1_indexOfChar_4cfef_1 ?_
  refine g_is X (fun v5 => [(4, .int v5), (0, .ref a1), (1, .int a2), (2, .int a3), (3, .int a4)]) dJ1_indexOfChar_4cfef_2 (by decide) (fun _ => rfl) (fun v5 => ?_)
  refine g_iload_n X dJ1_indexOfChar_4cfef_4 rfl 3 rfl ?_
  refine g_istore X [(5, .int a3), (4, .int v5), (0, .ref a1), (1, .int a2), (2, .int a3), (3, .int a4)] dJ1_indexOfChar_4cfef_5 (by decide) rfl ?_
  exact g_sub [2, 5, 1, 0] rfl (hb_7 q_fu a1 a4 v5 a3)
set_option maxHeartbeats 4000000 in
set_option maxRecDepth 100000 in
theorem c_J1_indexOf_4cfef (l : Launch) (K : q_KK) (T : Nat → Nat) (L : Nat → Nat) (P : Nat → Nat → Nat) (M : q_MM) (a1 : Nat) (a2 : Int32) (a3 : Int32) (a4 : Int32) : ∀ res, f_J1_indexOf_4cfef T L P M a1 a2 a3 a4 = some res → Mt l yJ1_indexOf_4cfef cJ1_indexOf_4cfef 4 (some FieldType.int) 1 25 0 0 false K [.ref a1, .int a2, .int a3, .int a4] (T, L, P, M) (some (.int res)) ((T, L, P, M)) := by
  refine Mt.of (fun (res : Int32) => some (.int res)) (fun (_ : Int32) => (T, L, P, M)) (by decide) (Nat.le_of_ble_eq_true rfl) ?_
  intro p e s m args below meth c0 A ad X hN
  refine g_sub (lv' := [(0, .ref a1), (1, .int a2), (2, .int a3), (3, .int a4)]) [0, 1, 2, 3] rfl ?_
  unfold f_J1_indexOf_4cfef
  refine g_iload_n X dJ1_indexOf_4cfef_0 rfl 1 rfl ?_
  refine g_bSi (As := [.int a2]) (rest := []) X (c_J1_canEncode_9a6ad l K T L P M a2) lk_J1_88 rfl rfl (Nat.le_of_ble_eq_true rfl) ⟨Nat.le_of_ble_eq_true rfl, Nat.le_of_ble_eq_true rfl⟩ ⟨Nat.zero_le _, Nat.zero_le _⟩ dJ1_indexOf_4cfef_1 (fun r1 => ?_)
  refine g_if_ne X 9 dJ1_indexOf_4cfef_4 rfl (fun h2 => ?_) (fun h2 => ?_)
  · refine g_iconst (v := (-1)) X dJ1_indexOf_4cfef_7 (by decide) ?_
    exact g_iret X rfl rfl rfl dJ1_indexOf_4cfef_8
  · refine g_iload_n X dJ1_indexOf_4cfef_9 rfl 2 rfl ?_
    refine g_iconst (v := 0) X dJ1_indexOf_4cfef_10 (by decide) ?_
    refine g_mmax X lk_J1_92 (Nat.le_of_ble_eq_true rfl) ⟨Nat.le_of_ble_eq_true rfl, Nat.le_of_ble_eq_true rfl⟩ ⟨Nat.zero_le _, Nat.zero_le _⟩ dJ1_indexOf_4cfef_11 ?_
    refine g_isn X (fun v3 => [(2, .int v3), (0, .ref a1), (1, .int a2), (3, .int a4)]) dJ1_indexOf_4cfef_14 rfl (by decide) (fun _ => rfl) (fun v3 => ?_)
    refine g_iload_n X dJ1_indexOf_4cfef_15 rfl 3 rfl ?_
    refine g_aload_n X dJ1_indexOf_4cfef_16 rfl 1 rfl ?_
    refine g_bck (fun hB4 => ?_)
    refine g_sbal X hB4 dJ1_indexOf_4cfef_17 ?_
    refine g_mmin X lk_J1_38 (Nat.le_of_ble_eq_true rfl) ⟨Nat.le_of_ble_eq_true rfl, Nat.le_of_ble_eq_true rfl⟩ ⟨Nat.zero_le _, Nat.zero_le _⟩ dJ1_indexOf_4cfef_18 ?_
    refine g_isn X (fun v5 => [(3, .int v5), (2, .int v3), (0, .ref a1), (1, .int a2)]) dJ1_indexOf_4cfef_21 rfl (by decide) (fun _ => rfl) (fun v5 => ?_)
    refine g_iload_n X dJ1_indexOf_4cfef_22 rfl 1 rfl ?_
    refine g_iload_n X dJ1_indexOf_4cfef_23 rfl 0 rfl ?_
    refine g_icmp_lt X 29 dJ1_indexOf_4cfef_24 rfl (fun h6 => ?_) (fun h6 => ?_)
    · refine g_aload_n X dJ1_indexOf_4cfef_29 rfl 2 rfl ?_
      refine g_iload_n X dJ1_indexOf_4cfef_30 rfl 3 rfl ?_
      refine g_iload_n X dJ1_indexOf_4cfef_31 rfl 1 rfl ?_
      refine g_iload_n X dJ1_indexOf_4cfef_32 rfl 0 rfl ?_
      refine g_bSi (As := [.ref a1, .int a2, .int v3, .int v5]) (rest := []) X (c_J1_indexOfChar_4cfef l K T L P M a1 a2 v3 v5) lk_J1_95 rfl rfl (Nat.le_of_ble_eq_true rfl) ⟨Nat.le_of_ble_eq_true rfl, Nat.le_of_ble_eq_true rfl⟩ ⟨Nat.zero_le _, Nat.zero_le _⟩ dJ1_indexOf_4cfef_33 (fun r7 => ?_)
      exact g_iret X rfl rfl rfl dJ1_indexOf_4cfef_36
    · refine g_iconst (v := (-1)) X dJ1_indexOf_4cfef_27 (by decide) ?_
      exact g_iret X rfl rfl rfl dJ1_indexOf_4cfef_28
set_option maxHeartbeats 4000000 in
set_option maxRecDepth 100000 in
theorem c_J0_indexOf_7cf53 (l : Launch) (K : q_KK) (T : Nat → Nat) (L : Nat → Nat) (P : Nat → Nat → Nat) (M : q_MM) (o0 : Nat) (a1 : Int32) (a2 : Int32) : ∀ res, f_J0_indexOf_7cf53 T L P M o0 a1 a2 = some res → Mt l yJ0_indexOf_7cf53 cJ0_indexOf_7cf53 3 (some FieldType.int) 2 48 0 0 false K [.ref o0, .int a1, .int a2] (T, L, P, M) (some (.int res)) ((T, L, P, M)) := by
  refine Mt.of (fun (res : Int32) => some (.int res)) (fun (_ : Int32) => (T, L, P, M)) (by decide) (Nat.le_of_ble_eq_true rfl) ?_
  intro p e s m args below meth c0 A ad X hN
  refine g_sub (lv' := [(0, .ref o0), (1, .int a1), (2, .int a2)]) [0, 1, 2] rfl ?_
  unfold f_J0_indexOf_7cf53
  refine g_aload_n X dJ0_indexOf_7cf53_0 rfl 0 rfl ?_
  refine g_sck (fun hS1 => ?_)
  refine g_bXi (As := []) (rest := []) X (c_J0_isLatin1_aae02 l K T L P M o0) lk_J0_492 hS1 rfl rfl (Nat.le_of_ble_eq_true rfl) ⟨Nat.le_of_ble_eq_true rfl, Nat.le_of_ble_eq_true rfl⟩ ⟨Nat.zero_le _, Nat.zero_le _⟩ dJ0_indexOf_7cf53_1 (fun r2 => ?_)
  refine g_if_eq X 23 dJ0_indexOf_7cf53_4 rfl (fun h3 => ?_) (fun h3 => ?_)
  · refine g_aload_n X dJ0_indexOf_7cf53_23 rfl 0 rfl ?_
    refine g_sval X hS1 wf_J0_9 dJ0_indexOf_7cf53_24 ?_
    refine g_iload_n X dJ0_indexOf_7cf53_27 rfl 1 rfl ?_
    refine g_iload_n X dJ0_indexOf_7cf53_28 rfl 2 rfl ?_
    refine g_aload_n X dJ0_indexOf_7cf53_29 rfl 0 rfl ?_
    refine g_bXi (As := []) (rest := [.int a2, .int a1, .ref (o0 + 20)]) X (c_J0_length_8abf5 l K T L P M o0) lk_J0_505 hS1 rfl rfl (Nat.le_of_ble_eq_true rfl) ⟨Nat.le_of_ble_eq_true rfl, Nat.le_of_ble_eq_true rfl⟩ ⟨Nat.zero_le _, Nat.zero_le _⟩ dJ0_indexOf_7cf53_30 (fun r4 => ?_)
    exact g_stop
  · refine g_aload_n X dJ0_indexOf_7cf53_7 rfl 0 rfl ?_
    refine g_sval X hS1 wf_J0_9 dJ0_indexOf_7cf53_8 ?_
    refine g_iload_n X dJ0_indexOf_7cf53_11 rfl 1 rfl ?_
    refine g_iload_n X dJ0_indexOf_7cf53_12 rfl 2 rfl ?_
    refine g_aload_n X dJ0_indexOf_7cf53_13 rfl 0 rfl ?_
    refine g_bXi (As := []) (rest := [.int a2, .int a1, .ref (o0 + 20)]) X (c_J0_length_8abf5 l K T L P M o0) lk_J0_505 hS1 rfl rfl (Nat.le_of_ble_eq_true rfl) ⟨Nat.le_of_ble_eq_true rfl, Nat.le_of_ble_eq_true rfl⟩ ⟨Nat.zero_le _, Nat.zero_le _⟩ dJ0_indexOf_7cf53_14 (fun r5 => ?_)
    refine g_bSi (As := [.ref (o0 + 20), .int a1, .int a2, .int r5]) (rest := []) X (c_J1_indexOf_4cfef l K T L P M (o0 + 20) a1 a2 r5) lk_J0_637 rfl rfl (Nat.le_of_ble_eq_true rfl) ⟨Nat.le_of_ble_eq_true rfl, Nat.le_of_ble_eq_true rfl⟩ ⟨Nat.zero_le _, Nat.zero_le _⟩ dJ0_indexOf_7cf53_17 (fun r6 => ?_)
    refine g_goto X 36 dJ0_indexOf_7cf53_20 rfl ?_
    exact g_iret X rfl rfl rfl dJ0_indexOf_7cf53_36
set_option maxHeartbeats 4000000 in
set_option maxRecDepth 100000 in
theorem c_J0_indexOf_0f7a4 (l : Launch) (K : q_KK) (T : Nat → Nat) (L : Nat → Nat) (P : Nat → Nat → Nat) (M : q_MM) (o0 : Nat) (a1 : Int32) : ∀ res, f_J0_indexOf_0f7a4 T L P M o0 a1 = some res → Mt l yJ0_indexOf_0f7a4 cJ0_indexOf_0f7a4 2 (some FieldType.int) 3 70 0 0 false K [.ref o0, .int a1] (T, L, P, M) (some (.int res)) ((T, L, P, M)) := by
  refine Mt.of (fun (res : Int32) => some (.int res)) (fun (_ : Int32) => (T, L, P, M)) (by decide) (Nat.le_of_ble_eq_true rfl) ?_
  intro p e s m args below meth c0 A ad X hN
  refine g_sub (lv' := [(0, .ref o0), (1, .int a1)]) [0, 1] rfl ?_
  unfold f_J0_indexOf_0f7a4
  refine g_aload_n X dJ0_indexOf_0f7a4_0 rfl 0 rfl ?_
  refine g_iload_n X dJ0_indexOf_0f7a4_1 rfl 1 rfl ?_
  refine g_iconst (v := 0) X dJ0_indexOf_0f7a4_2 (by decide) ?_
  refine g_sck (fun hS1 => ?_)
  refine g_bXi (As := [.int a1, .int 0]) (rest := []) X (c_J0_indexOf_7cf53 l K T L P M o0 a1 0) lk_J0_633 hS1 rfl rfl (Nat.le_of_ble_eq_true rfl) ⟨Nat.le_of_ble_eq_true rfl, Nat.le_of_ble_eq_true rfl⟩ ⟨Nat.zero_le _, Nat.zero_le _⟩ dJ0_indexOf_0f7a4_3 (fun r2 => ?_)
  exact g_iret X rfl rfl rfl dJ0_indexOf_0f7a4_6
set_option maxHeartbeats 4000000 in
set_option maxRecDepth 100000 in
theorem c_J6_bitCount_0f7a4 (l : Launch) (K : q_KK) (T : Nat → Nat) (L : Nat → Nat) (P : Nat → Nat → Nat) (M : q_MM) (a1 : Int32) : ∀ res, f_J6_bitCount_0f7a4 T L P M a1 = some res → Mt l yJ6_bitCount_0f7a4 cJ6_bitCount_0f7a4 1 (some FieldType.int) 0 0 0 0 false K [.int a1] (T, L, P, M) (some (.int res)) ((T, L, P, M)) := by
  refine Mt.of (fun (res : Int32) => some (.int res)) (fun (_ : Int32) => (T, L, P, M)) (by decide) (Nat.le_of_ble_eq_true rfl) ?_
  intro p e s m args below meth c0 A ad X hN
  refine g_sub (lv' := [(0, .int a1)]) [0] rfl ?_
  unfold f_J6_bitCount_0f7a4
  refine g_iload_n X dJ6_bitCount_0f7a4_0 rfl 0 rfl ?_
  refine g_iload_n X dJ6_bitCount_0f7a4_1 rfl 0 rfl ?_
  refine g_iconst (v := 1) X dJ6_bitCount_0f7a4_2 (by decide) ?_
  refine g_iushr X dJ6_bitCount_0f7a4_3 ?_
  refine g_ldcw (v := 1431655765) X wc_J6_265 dJ6_bitCount_0f7a4_4 ?_
  refine g_iand X dJ6_bitCount_0f7a4_7 ?_
  refine g_isub X dJ6_bitCount_0f7a4_8 ?_
  refine g_isn X (fun v1 => [(0, .int v1)]) dJ6_bitCount_0f7a4_9 rfl (by decide) (fun _ => rfl) (fun v1 => ?_)
  refine g_iload_n X dJ6_bitCount_0f7a4_10 rfl 0 rfl ?_
  refine g_ldcw (v := 858993459) X wc_J6_266 dJ6_bitCount_0f7a4_11 ?_
  refine g_iand X dJ6_bitCount_0f7a4_14 ?_
  refine g_iload_n X dJ6_bitCount_0f7a4_15 rfl 0 rfl ?_
  refine g_iconst (v := 2) X dJ6_bitCount_0f7a4_16 (by decide) ?_
  refine g_iushr X dJ6_bitCount_0f7a4_17 ?_
  refine g_ldcw (v := 858993459) X wc_J6_266 dJ6_bitCount_0f7a4_18 ?_
  refine g_iand X dJ6_bitCount_0f7a4_21 ?_
  refine g_iadd X dJ6_bitCount_0f7a4_22 ?_
  refine g_isn X (fun v2 => [(0, .int v2)]) dJ6_bitCount_0f7a4_23 rfl (by decide) (fun _ => rfl) (fun v2 => ?_)
  refine g_iload_n X dJ6_bitCount_0f7a4_24 rfl 0 rfl ?_
  refine g_iload_n X dJ6_bitCount_0f7a4_25 rfl 0 rfl ?_
  refine g_iconst (v := 4) X dJ6_bitCount_0f7a4_26 (by decide) ?_
  refine g_iushr X dJ6_bitCount_0f7a4_27 ?_
  refine g_iadd X dJ6_bitCount_0f7a4_28 ?_
  refine g_ldcw (v := 252645135) X wc_J6_267 dJ6_bitCount_0f7a4_29 ?_
  refine g_iand X dJ6_bitCount_0f7a4_32 ?_
  refine g_isn X (fun v3 => [(0, .int v3)]) dJ6_bitCount_0f7a4_33 rfl (by decide) (fun _ => rfl) (fun v3 => ?_)
  refine g_iload_n X dJ6_bitCount_0f7a4_34 rfl 0 rfl ?_
  refine g_iload_n X dJ6_bitCount_0f7a4_35 rfl 0 rfl ?_
  refine g_bipush (v := 8) X dJ6_bitCount_0f7a4_36 (by decide) ?_
  refine g_iushr X dJ6_bitCount_0f7a4_38 ?_
  refine g_iadd X dJ6_bitCount_0f7a4_39 ?_
  refine g_isn X (fun v4 => [(0, .int v4)]) dJ6_bitCount_0f7a4_40 rfl (by decide) (fun _ => rfl) (fun v4 => ?_)
  refine g_iload_n X dJ6_bitCount_0f7a4_41 rfl 0 rfl ?_
  refine g_iload_n X dJ6_bitCount_0f7a4_42 rfl 0 rfl ?_
  refine g_bipush (v := 16) X dJ6_bitCount_0f7a4_43 (by decide) ?_
  refine g_iushr X dJ6_bitCount_0f7a4_45 ?_
  refine g_iadd X dJ6_bitCount_0f7a4_46 ?_
  refine g_isn X (fun v5 => [(0, .int v5)]) dJ6_bitCount_0f7a4_47 rfl (by decide) (fun _ => rfl) (fun v5 => ?_)
  refine g_iload_n X dJ6_bitCount_0f7a4_48 rfl 0 rfl ?_
  refine g_bipush (v := 63) X dJ6_bitCount_0f7a4_49 (by decide) ?_
  refine g_iand X dJ6_bitCount_0f7a4_51 ?_
  exact g_iret X rfl rfl rfl dJ6_bitCount_0f7a4_52
set_option maxHeartbeats 4000000 in
set_option maxRecDepth 100000 in
theorem c_J6_lowestOneBit_0f7a4 (l : Launch) (K : q_KK) (T : Nat → Nat) (L : Nat → Nat) (P : Nat → Nat → Nat) (M : q_MM) (a1 : Int32) : ∀ res, f_J6_lowestOneBit_0f7a4 T L P M a1 = some res → Mt l yJ6_lowestOneBit_0f7a4 cJ6_lowestOneBit_0f7a4 1 (some FieldType.int) 0 0 0 0 false K [.int a1] (T, L, P, M) (some (.int res)) ((T, L, P, M)) := by
  refine Mt.of (fun (res : Int32) => some (.int res)) (fun (_ : Int32) => (T, L, P, M)) (by decide) (Nat.le_of_ble_eq_true rfl) ?_
  intro p e s m args below meth c0 A ad X hN
  refine g_sub (lv' := [(0, .int a1)]) [0] rfl ?_
  unfold f_J6_lowestOneBit_0f7a4
  refine g_iload_n X dJ6_lowestOneBit_0f7a4_0 rfl 0 rfl ?_
  refine g_iload_n X dJ6_lowestOneBit_0f7a4_1 rfl 0 rfl ?_
  refine g_ineg X dJ6_lowestOneBit_0f7a4_2 ?_
  refine g_iand X dJ6_lowestOneBit_0f7a4_3 ?_
  exact g_iret X rfl rfl rfl dJ6_lowestOneBit_0f7a4_4
set_option maxHeartbeats 4000000 in
set_option maxRecDepth 100000 in
theorem c_J7_fill_53178 (l : Launch) (K : q_KK) (T : Nat → Nat) (L : Nat → Nat) (P : Nat → Nat → Nat) (M0 : q_MM) (a1 : Nat) (a2 : Int32) : ∀ res, f_J7_fill_53178 T L P M0 a1 a2 = some res → Mt l yJ7_fill_53178 cJ7_fill_53178 4 (none : Option FieldType) 0 0 0 0 false K [.ref a1, .int a2] (T, L, P, M0) (none) ((T, L, P, res)) := by
  refine Mt.of (fun (_ : q_MM) => none) (fun (res : q_MM) => (T, L, P, res)) (by decide) (Nat.le_of_ble_eq_true rfl) ?_
  intro p e s m args below meth c0 A ad X hN
  have hb_5 : ∀ (nf : Nat) (x0 : Nat) (x1 : Int32) (x2 : Int32) (x3 : Int32) (M : q_MM), GG p l e { frames := 0, cells := 0, slots := 0, locals := 0 } s m args below meth c0 K A (T, L, P, M0) ad false 4 (fun res => MQ below (q_Qc K false ad (T, L, P, M0) ((fun (_ : q_MM) => none) res) ((fun (res : q_MM) => (T, L, P, res)) res) A) args s 0 0 A) (b_J7_fill_53178_5 T L P nf x0 x1 x2 x3 M) 5 [(0, .ref x0), (1, .int x1), (2, .int x2), (3, .int x3)] [] (T, L, P, M) 0 0 := by
    intro  nf
    induction nf with
    | zero => intros; exact g_stop
    | succ nf ih =>
      intro x0 x1 x2 x3 M
      rw [b_J7_fill_53178_5]
      refine g_iload_n X dJ7_fill_53178_5 rfl 2 rfl ?_
      refine g_iload_n X dJ7_fill_53178_6 rfl 3 rfl ?_
      refine g_icmp_ge X 20 dJ7_fill_53178_7 rfl (fun h1 => ?_) (fun h1 => ?_)
      · exact g_vret X rfl rfl rfl dJ7_fill_53178_20
      · refine g_aload_n X dJ7_fill_53178_10 rfl 0 rfl ?_
        refine g_iload_n X dJ7_fill_53178_11 rfl 2 rfl ?_
        refine g_iload_n X dJ7_fill_53178_12 rfl 1 rfl ?_
        refine g_ck (fun hT2 => ?_)
        refine g_isv X hT2 rfl dJ7_fill_53178_13 (fun M3 => ?_)
        refine g_iinc (v := 1) X [(2, .int (x2 + 1)), (0, .ref x0), (1, .int x1), (3, .int x3)] 2 dJ7_fill_53178_14 rfl (by decide) (by decide) rfl ?_
        refine g_goto X 5 dJ7_fill_53178_17 rfl ?_
        exact g_sub [1, 2, 0, 3] rfl (ih x0 x1 (x2 + 1) x3 M3)
  refine g_sub (lv' := [(0, .ref a1), (1, .int a2)]) [0, 1] rfl ?_
  unfold f_J7_fill_53178
  refine g_iconst (v := 0) X dJ7_fill_53178_0 (by decide) ?_
  refine g_istore_n X [(2, .int 0), (0, .ref a1), (1, .int a2)] dJ7_fill_53178_1 rfl (by decide) rfl ?_
  refine g_aload_n X dJ7_fill_53178_2 rfl 1 rfl ?_
  refine g_ck (fun hT4 => ?_)
  refine g_alen X (Or.inl hT4) rfl rfl dJ7_fill_53178_3 ?_
  refine g_isn X (fun v5 => [(3, .int v5), (2, .int 0), (0, .ref a1), (1, .int a2)]) dJ7_fill_53178_4 rfl (by decide) (fun _ => rfl) (fun v5 => ?_)
  exact g_sub [2, 3, 1, 0] rfl (hb_5 q_fu a1 a2 0 v5 M0)
set_option maxHeartbeats 4000000 in
set_option maxRecDepth 100000 in
theorem c_J3_checkIndex_8e157 (l : Launch) (K : q_KK) (T : Nat → Nat) (L : Nat → Nat) (P : Nat → Nat → Nat) (M : q_MM) (a1 : Int32) (a2 : Int32) (a3 : Nat) : ∀ res, f_J3_checkIndex_8e157 T L P M a1 a2 a3 = some res → Mt l yJ3_checkIndex_8e157 cJ3_checkIndex_8e157 3 (some FieldType.int) 0 0 0 0 false K [.int a1, .int a2, .ref a3] (T, L, P, M) (some (.int res)) ((T, L, P, M)) := by
  refine Mt.of (fun (res : Int32) => some (.int res)) (fun (_ : Int32) => (T, L, P, M)) (by decide) (Nat.le_of_ble_eq_true rfl) ?_
  intro p e s m args below meth c0 A ad X hN
  have hb_9 : ∀ (x0 : Int32) (x1 : Int32) (x2 : Nat), GG p l e { frames := 0, cells := 0, slots := 0, locals := 0 } s m args below meth c0 K A (T, L, P, M) ad false 3 (fun res => MQ below (q_Qc K false ad (T, L, P, M) ((fun (res : Int32) => some (.int res)) res) ((fun (_ : Int32) => (T, L, P, M)) res) A) args s 0 0 A) (b_J3_checkIndex_8e157_9 T L P M x0 x1 x2) 9 [(0, .int x0), (1, .int x1), (2, .ref x2)] [] (T, L, P, M) 0 0 := by
    intro x0 x1 x2
    unfold b_J3_checkIndex_8e157_9
    refine g_aload_n X dJ3_checkIndex_8e157_9 rfl 2 rfl ?_
    refine g_iload_n X dJ3_checkIndex_8e157_10 rfl 0 rfl ?_
    refine g_iload_n X dJ3_checkIndex_8e157_11 rfl 1 rfl ?_
    exact g_stop
  refine g_sub (lv' := [(0, .int a1), (1, .int a2), (2, .ref a3)]) [0, 1, 2] rfl ?_
  unfold f_J3_checkIndex_8e157
  refine g_iload_n X dJ3_checkIndex_8e157_0 rfl 0 rfl ?_
  refine g_if_lt X 9 dJ3_checkIndex_8e157_1 rfl (fun h1 => ?_) (fun h1 => ?_)
  · exact g_sub [0, 1, 2] rfl (hb_9 a1 a2 a3)
  · refine g_iload_n X dJ3_checkIndex_8e157_4 rfl 0 rfl ?_
    refine g_iload_n X dJ3_checkIndex_8e157_5 rfl 1 rfl ?_
    refine g_icmp_lt X 16 dJ3_checkIndex_8e157_6 rfl (fun h2 => ?_) (fun h2 => ?_)
    · refine g_iload_n X dJ3_checkIndex_8e157_16 rfl 0 rfl ?_
      exact g_iret X rfl rfl rfl dJ3_checkIndex_8e157_17
    · exact g_sub [0, 1, 2] rfl (hb_9 a1 a2 a3)
set_option maxHeartbeats 4000000 in
set_option maxRecDepth 100000 in
theorem c_J15_checkIndex_7cf53 (l : Launch) (K : q_KK) (T : Nat → Nat) (L : Nat → Nat) (P : Nat → Nat → Nat) (M : q_MM) (a1 : Int32) (a2 : Int32) : ∀ res, f_J15_checkIndex_7cf53 T L P M a1 a2 = some res → Mt l yJ15_checkIndex_7cf53 cJ15_checkIndex_7cf53 2 (some FieldType.int) 1 22 0 0 false K [.int a1, .int a2] (T, L, P, M) (some (.int res)) ((T, L, P, M)) := by
  refine Mt.of (fun (res : Int32) => some (.int res)) (fun (_ : Int32) => (T, L, P, M)) (by decide) (Nat.le_of_ble_eq_true rfl) ?_
  intro p e s m args below meth c0 A ad X hN
  refine g_sub (lv' := [(0, .int a1), (1, .int a2)]) [0, 1] rfl ?_
  unfold f_J15_checkIndex_7cf53
  refine g_iload_n X dJ15_checkIndex_7cf53_0 rfl 0 rfl ?_
  refine g_iload_n X dJ15_checkIndex_7cf53_1 rfl 1 rfl ?_
  refine g_null X dJ15_checkIndex_7cf53_2 ?_
  refine g_bSi (As := [.int a1, .int a2, .ref 0]) (rest := []) X (c_J3_checkIndex_8e157 l K T L P M a1 a2 0) lk_J15_105 rfl rfl (Nat.le_of_ble_eq_true rfl) ⟨Nat.le_of_ble_eq_true rfl, Nat.le_of_ble_eq_true rfl⟩ ⟨Nat.zero_le _, Nat.zero_le _⟩ dJ15_checkIndex_7cf53_3 (fun r1 => ?_)
  exact g_iret X rfl rfl rfl dJ15_checkIndex_7cf53_6
set_option maxHeartbeats 4000000 in
set_option maxRecDepth 100000 in
theorem c_Jx4a65c_elementData_915e3 (l : Launch) (K : q_KK) (T : Nat → Nat) (L : Nat → Nat) (P : Nat → Nat → Nat) (M : q_MM) (o0 : Nat) (a1 : Int32) : ∀ res, f_Jx4a65c_elementData_915e3 T L P M o0 a1 = some res → Mt l yJx4a65c_elementData_915e3 cJx4a65c_elementData_915e3 2 (some (FieldType.object "java/lang/Object")) 0 0 0 0 false K [.ref o0, .int a1] (T, L, P, M) (some (.ref res)) ((T, L, P, M)) := by
  refine Mt.of (fun (res : Nat) => some (.ref res)) (fun (_ : Nat) => (T, L, P, M)) (by decide) (Nat.le_of_ble_eq_true rfl) ?_
  intro p e s m args below meth c0 A ad X hN
  refine g_sub (lv' := [(0, .ref o0), (1, .int a1)]) [0, 1] rfl ?_
  unfold f_Jx4a65c_elementData_915e3
  refine g_aload_n X dJx4a65c_elementData_915e3_0 rfl 0 rfl ?_
  refine g_ck (fun hT1 => ?_)
  refine g_getr X fa_Jx4a65c_9 hT1 rfl dJx4a65c_elementData_915e3_1 ?_
  refine g_iload_n X dJx4a65c_elementData_915e3_4 rfl 1 rfl ?_
  refine g_ck (fun hT2 => ?_)
  refine g_ald X hT2 rfl dJx4a65c_elementData_915e3_5 (fun p3 => ?_)
  exact g_aret X rfl (by first | exact Or.inl ⟨_, rfl⟩ | exact Or.inr ⟨_, rfl⟩) rfl rfl dJx4a65c_elementData_915e3_6
set_option maxHeartbeats 4000000 in
set_option maxRecDepth 100000 in
theorem c_Jx4a65c_size_8abf5 (l : Launch) (K : q_KK) (T : Nat → Nat) (L : Nat → Nat) (P : Nat → Nat → Nat) (M : q_MM) (o0 : Nat) : ∀ res, f_Jx4a65c_size_8abf5 T L P M o0 = some res → Mt l yJx4a65c_size_8abf5 cJx4a65c_size_8abf5 1 (some FieldType.int) 0 0 0 0 false K [.ref o0] (T, L, P, M) (some (.int res)) ((T, L, P, M)) := by
  refine Mt.of (fun (res : Int32) => some (.int res)) (fun (_ : Int32) => (T, L, P, M)) (by decide) (Nat.le_of_ble_eq_true rfl) ?_
  intro p e s m args below meth c0 A ad X hN
  refine g_sub (lv' := [(0, .ref o0)]) [0] rfl ?_
  unfold f_Jx4a65c_size_8abf5
  refine g_aload_n X dJx4a65c_size_8abf5_0 rfl 0 rfl ?_
  refine g_ck (fun hT1 => ?_)
  refine g_geti X fa_Jx4a65c_48 hT1 dJx4a65c_size_8abf5_1 ?_
  exact g_iret X rfl rfl rfl dJx4a65c_size_8abf5_4
set_option maxHeartbeats 4000000 in
set_option maxRecDepth 100000 in
theorem c_Jx4a65c_get_915e3 (l : Launch) (K : q_KK) (T : Nat → Nat) (L : Nat → Nat) (P : Nat → Nat → Nat) (M : q_MM) (o0 : Nat) (a1 : Int32) : ∀ res, f_Jx4a65c_get_915e3 T L P M o0 a1 = some res → Mt l yJx4a65c_get_915e3 cJx4a65c_get_915e3 2 (some (FieldType.object "java/lang/Object")) 2 43 0 0 false K [.ref o0, .int a1] (T, L, P, M) (some (.ref res)) ((T, L, P, M)) := by
  refine Mt.of (fun (res : Nat) => some (.ref res)) (fun (_ : Nat) => (T, L, P, M)) (by decide) (Nat.le_of_ble_eq_true rfl) ?_
  intro p e s m args below meth c0 A ad X hN
  refine g_sub (lv' := [(0, .ref o0), (1, .int a1)]) [0, 1] rfl ?_
  unfold f_Jx4a65c_get_915e3
  refine g_iload_n X dJx4a65c_get_915e3_0 rfl 1 rfl ?_
  refine g_aload_n X dJx4a65c_get_915e3_1 rfl 0 rfl ?_
  refine g_ck (fun hT1 => ?_)
  refine g_geti X fa_Jx4a65c_48 hT1 dJx4a65c_get_915e3_2 ?_
  refine g_bSi (As := [.int a1, .int (M o0 2)]) (rest := []) X (c_J15_checkIndex_7cf53 l K T L P M a1 (M o0 2)) lk_Jx4a65c_118 rfl rfl (Nat.le_of_ble_eq_true rfl) ⟨Nat.le_of_ble_eq_true rfl, Nat.le_of_ble_eq_true rfl⟩ ⟨Nat.zero_le _, Nat.zero_le _⟩ dJx4a65c_get_915e3_5 (fun r2 => ?_)
  refine g_pop X dJx4a65c_get_915e3_8 rfl ?_
  refine g_aload_n X dJx4a65c_get_915e3_9 rfl 0 rfl ?_
  refine g_iload_n X dJx4a65c_get_915e3_10 rfl 1 rfl ?_
  refine g_bVr (As := [.int a1]) (rest := []) X (c_Jx4a65c_elementData_915e3 l K T L P M o0 a1) lk_Jx4a65c_123 hT1 rfl rfl (Nat.le_of_ble_eq_true rfl) ⟨Nat.le_of_ble_eq_true rfl, Nat.le_of_ble_eq_true rfl⟩ ⟨Nat.zero_le _, Nat.zero_le _⟩ dJx4a65c_get_915e3_11 (fun r3 => ?_)
  exact g_aret X rfl (by first | exact Or.inl ⟨_, rfl⟩ | exact Or.inr ⟨_, rfl⟩) rfl rfl dJx4a65c_get_915e3_14
