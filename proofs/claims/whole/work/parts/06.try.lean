abbrev q_MM : Type := Nat → Nat → Int32
def qTM : Nat → Nat := fun o => ([0, 22, 0, 0, 0, 0, 0, 0, 0, 0, 0, 0, 1, 0, 0, 1, 1, 1, 1, 0, 1, 1, 1, 1, 1, 1, 1, 1, 0, 1, 1, 1, 1, 1, 1, 1, 1, 1, 1, 1, 1, 1, 1, 1, 2, 0, 0, 1, 1, 1, 1, 1, 0, 0, 0, 1, 1, 1, 0, 1, 0, 1, 1, 0, 0, 0, 0, 0, 1, 1, 0, 1, 0, 1, 1, 2, 0, 1, 1, 1, 1, 1, 1, 1, 1, 2, 2] : List Nat).getD o 0
def qLM : Nat → Nat := fun o => ([0, 0, 0, 0, 0, 0, 0, 0, 0, 0, 0, 0, 64, 0, 0, 20, 20, 20, 20, 0, 16, 16, 16, 16, 384, 16, 16, 4, 0, 24, 24, 24, 24, 24, 24, 24, 24, 24, 24, 24, 24, 24, 24, 24, 9600, 0, 0, 30, 30, 1984, 31, 100, 0, 0, 0, 64, 12, 10, 0, 64, 0, 7, 7, 0, 0, 0, 0, 0, 7, 7, 0, 12, 0, 10, 12, 10, 0, 8, 8, 8, 24, 24, 24, 256, 256, 256, 160] : List Nat).getD o 0
def qPM : Nat → Nat → Nat := fun o k => if o = 1 then ([0, 0, 12, 0, 0, 15, 16, 17, 18, 0, 20, 21, 22, 23, 24, 25, 26, 27, 0, 29, 30, 31, 32, 33, 34, 35, 36, 37, 38, 39, 40, 41, 42, 43, 44, 0, 0, 47, 48, 49, 50, 51, 0, 0, 0, 55, 56, 57, 0, 59, 0, 61, 62, 0, 0, 0, 0, 0, 68, 69, 0, 71, 0, 73, 74, 75, 0, 77, 78, 79, 80, 81, 82, 83, 84, 85, 86] : List Nat).getD k 0 else 0
theorem q_wd {w : Cond} (i : Nat) (h : lw_tbl[i]? = some w) (g : goodWord w = true) : w ∈ q_gtb := q_in (List.mem_of_getElem? h) g
theorem q_wds {ws : List Cond} (ps : List Nat) (h : ps.map (fun i => lw_tbl[i]?) = ws.map some) (g : ws.all goodWord = true) : ∀ w ∈ ws, w ∈ q_gtb := fun w hw => by
  obtain ⟨k, hk⟩ := List.getElem?_of_mem hw
  have h1 : (ps.map (fun i => lw_tbl[i]?))[k]? = some (some w) := by rw [h, List.getElem?_map, hk]; rfl
  rw [List.getElem?_map] at h1
  cases hi : ps[k]? with
  | none => rw [hi] at h1; cases h1
  | some i => rw [hi] at h1; exact q_wd i (Option.some.inj h1) (List.all_eq_true.mp g w hw)
theorem in_X12 : ∀ w ∈ u_ws RX12 TX12 77, w ∈ q_gtb := q_wds [1982, 1984, 1986, 1988, 1990, 1992, 1994, 1996, 1998, 2000, 2002, 2004, 2006, 2008, 2010, 2012, 2014, 2016, 2018, 2020, 2022, 2024, 2026, 2028, 2030, 2032, 2034, 2036, 2038, 2040, 2042, 2044, 2046, 2048, 2050, 2052, 2054, 2056, 2058, 2060, 2062, 2064, 2066, 2068, 2070, 2072, 2074, 2076, 2078, 2080, 2082, 2084, 2086, 2088, 2090, 2092, 2094, 2096, 2098, 2100, 2102, 2104, 2106, 2108, 2110, 2112, 2114, 2116, 2118, 2120, 2122, 2124, 2126, 2128, 2130, 2132, 2134] (by decide +kernel) (by decide +kernel)
theorem fa_X12_14 : q_FA RX12 14 12 3 false := ⟨RX12, TX12, 77, tyX12, rfl, by decide, rfl, rfl, q_wd 1908 (by decide +kernel) (by decide +kernel), in_X12, tyX12_ok, nmX12, rfl, fun _ => Or.inl rfl⟩
theorem fa_X12_57 : q_FA RX12 57 12 10 true := ⟨RX12, TX12, 77, tyX12, rfl, by decide, rfl, rfl, q_wd 1915 (by decide +kernel) (by decide +kernel), in_X12, tyX12_ok, nmX12, rfl, fun h => nomatch h⟩
theorem fa_X12_108 : q_FA RX12 108 12 18 false := ⟨RX12, TX12, 77, tyX12, rfl, by decide, rfl, rfl, q_wd 1923 (by decide +kernel) (by decide +kernel), in_X12, tyX12_ok, nmX12, rfl, fun _ => Or.inl rfl⟩
theorem fa_X12_155 : q_FA RX12 155 12 31 true := ⟨RX12, TX12, 77, tyX12, rfl, by decide, rfl, rfl, q_wd 1936 (by decide +kernel) (by decide +kernel), in_X12, tyX12_ok, nmX12, rfl, fun h => nomatch h⟩
theorem fa_X12_158 : q_FA RX12 158 12 32 true := ⟨RX12, TX12, 77, tyX12, rfl, by decide, rfl, rfl, q_wd 1937 (by decide +kernel) (by decide +kernel), in_X12, tyX12_ok, nmX12, rfl, fun h => nomatch h⟩
theorem fa_X12_170 : q_FA RX12 170 12 30 true := ⟨RX12, TX12, 77, tyX12, rfl, by decide, rfl, rfl, q_wd 1935 (by decide +kernel) (by decide +kernel), in_X12, tyX12_ok, nmX12, rfl, fun h => nomatch h⟩
theorem lk_X12_17 : q_LS RX12 17 yX12_in cX12_in 6 (some FieldType.boolean) 3 := ⟨q_wd 1483 (by decide +kernel) (by decide +kernel), q_wd 1484 (by decide +kernel) (by decide +kernel), q_wd 104 (by decide +kernel) (by decide +kernel), q_wd 1485 (by decide +kernel) (by decide +kernel), ⟨by decide +kernel, by decide +kernel⟩, by decide +kernel⟩
theorem lk_X12_268 : q_LS RX12 268 yX12_truth cX12_truth 1 (some FieldType.int) 1 := ⟨q_wd 1644 (by decide +kernel) (by decide +kernel), q_wd 1645 (by decide +kernel) (by decide +kernel), q_wd 104 (by decide +kernel) (by decide +kernel), q_wd 1646 (by decide +kernel) (by decide +kernel), ⟨by decide +kernel, by decide +kernel⟩, by decide +kernel⟩
theorem lk_X12_173 : q_LV RX12 173 12 yX12_isOn cX12_isOn 3 (some FieldType.boolean) 2 := ⟨⟨RX12, TX12, 77, rfl, rfl⟩, q_wd 1636 (by decide +kernel) (by decide +kernel), q_wd 1638 (by decide +kernel) (by decide +kernel), q_wd 57 (by decide +kernel) (by decide +kernel), q_wd 104 (by decide +kernel) (by decide +kernel), q_wd 1639 (by decide +kernel) (by decide +kernel), ⟨by decide +kernel, by decide +kernel⟩, by decide +kernel⟩
theorem dX12_in_0 : decode cX12_in 0 = .ok (.lload_n 0, 1) := by decide +kernel
theorem dX12_in_1 : decode cX12_in 1 = .ok (.lload_n 2, 1) := by decide +kernel
theorem dX12_in_2 : decode cX12_in 2 = .ok (.lcmp, 1) := by decide +kernel
theorem dX12_in_3 : decode cX12_in 3 = .ok (.ifCond .lt 14, 3) := by decide +kernel
theorem dX12_in_6 : decode cX12_in 6 = .ok (.lload_n 0, 1) := by decide +kernel
theorem dX12_in_7 : decode cX12_in 7 = .ok (.lload 4, 2) := by decide +kernel
theorem dX12_in_9 : decode cX12_in 9 = .ok (.lcmp, 1) := by decide +kernel
theorem dX12_in_10 : decode cX12_in 10 = .ok (.ifCond .gt 7, 3) := by decide +kernel
theorem dX12_in_13 : decode cX12_in 13 = .ok (.iconst 1, 1) := by decide +kernel
theorem dX12_in_14 : decode cX12_in 14 = .ok (.goto 4, 3) := by decide +kernel
theorem dX12_in_17 : decode cX12_in 17 = .ok (.iconst 0, 1) := by decide +kernel
theorem dX12_in_18 : decode cX12_in 18 = .ok (.ireturn, 1) := by decide +kernel
theorem dX12_truth_0 : decode cX12_truth 0 = .ok (.iload_n 0, 1) := by decide +kernel
theorem dX12_truth_1 : decode cX12_truth 1 = .ok (.ifCond .eq 7, 3) := by decide +kernel
theorem dX12_truth_4 : decode cX12_truth 4 = .ok (.iconst 1, 1) := by decide +kernel
theorem dX12_truth_5 : decode cX12_truth 5 = .ok (.goto 4, 3) := by decide +kernel
theorem dX12_truth_8 : decode cX12_truth 8 = .ok (.iconst 0, 1) := by decide +kernel
theorem dX12_truth_9 : decode cX12_truth 9 = .ok (.ireturn, 1) := by decide +kernel
theorem dX12_isRoom_0 : decode cX12_isRoom 0 = .ok (.iload_n 1, 1) := by decide +kernel
theorem dX12_isRoom_1 : decode cX12_isRoom 1 = .ok (.i2l, 1) := by decide +kernel
theorem dX12_isRoom_2 : decode cX12_isRoom 2 = .ok (.lconst 0, 1) := by decide +kernel
theorem dX12_isRoom_3 : decode cX12_isRoom 3 = .ok (.aload_n 0, 1) := by decide +kernel
theorem dX12_isRoom_4 : decode cX12_isRoom 4 = .ok (.getfield 14, 3) := by decide +kernel
theorem dX12_isRoom_7 : decode cX12_isRoom 7 = .ok (.iconst 1, 1) := by decide +kernel
theorem dX12_isRoom_8 : decode cX12_isRoom 8 = .ok (.isub, 1) := by decide +kernel
theorem dX12_isRoom_9 : decode cX12_isRoom 9 = .ok (.i2l, 1) := by decide +kernel
theorem dX12_isRoom_10 : decode cX12_isRoom 10 = .ok (.invokestatic 17, 3) := by decide +kernel
theorem dX12_isRoom_13 : decode cX12_isRoom 13 = .ok (.ireturn, 1) := by decide +kernel
theorem dX12_isOn_0 : decode cX12_isOn 0 = .ok (.aload_n 0, 1) := by decide +kernel
theorem dX12_isOn_1 : decode cX12_isOn 1 = .ok (.getfield 170, 3) := by decide +kernel
theorem dX12_isOn_4 : decode cX12_isOn 4 = .ok (.iload_n 1, 1) := by decide +kernel
theorem dX12_isOn_5 : decode cX12_isOn 5 = .ok (.iaload, 1) := by decide +kernel
theorem dX12_isOn_6 : decode cX12_isOn 6 = .ok (.iconst 1, 1) := by decide +kernel
theorem dX12_isOn_7 : decode cX12_isOn 7 = .ok (.if_icmp .ne 17, 3) := by decide +kernel
theorem dX12_isOn_10 : decode cX12_isOn 10 = .ok (.aload_n 0, 1) := by decide +kernel
theorem dX12_isOn_11 : decode cX12_isOn 11 = .ok (.getfield 155, 3) := by decide +kernel
theorem dX12_isOn_14 : decode cX12_isOn 14 = .ok (.iload_n 1, 1) := by decide +kernel
theorem dX12_isOn_15 : decode cX12_isOn 15 = .ok (.iaload, 1) := by decide +kernel
theorem dX12_isOn_16 : decode cX12_isOn 16 = .ok (.iload_n 2, 1) := by decide +kernel
theorem dX12_isOn_17 : decode cX12_isOn 17 = .ok (.if_icmp .ne 7, 3) := by decide +kernel
theorem dX12_isOn_20 : decode cX12_isOn 20 = .ok (.iconst 1, 1) := by decide +kernel
theorem dX12_isOn_21 : decode cX12_isOn 21 = .ok (.goto 4, 3) := by decide +kernel
theorem dX12_isOn_24 : decode cX12_isOn 24 = .ok (.iconst 0, 1) := by decide +kernel
theorem dX12_isOn_25 : decode cX12_isOn 25 = .ok (.ireturn, 1) := by decide +kernel
theorem dX12_isIn_0 : decode cX12_isIn 0 = .ok (.aload_n 0, 1) := by decide +kernel
theorem dX12_isIn_1 : decode cX12_isIn 1 = .ok (.getfield 170, 3) := by decide +kernel
theorem dX12_isIn_4 : decode cX12_isIn 4 = .ok (.iload_n 1, 1) := by decide +kernel
theorem dX12_isIn_5 : decode cX12_isIn 5 = .ok (.iaload, 1) := by decide +kernel
theorem dX12_isIn_6 : decode cX12_isIn 6 = .ok (.iconst 1, 1) := by decide +kernel
theorem dX12_isIn_7 : decode cX12_isIn 7 = .ok (.if_icmp .ne 22, 3) := by decide +kernel
theorem dX12_isIn_10 : decode cX12_isIn 10 = .ok (.aload_n 0, 1) := by decide +kernel
theorem dX12_isIn_11 : decode cX12_isIn 11 = .ok (.getfield 57, 3) := by decide +kernel
theorem dX12_isIn_14 : decode cX12_isIn 14 = .ok (.aload_n 0, 1) := by decide +kernel
theorem dX12_isIn_15 : decode cX12_isIn 15 = .ok (.getfield 155, 3) := by decide +kernel
theorem dX12_isIn_18 : decode cX12_isIn 18 = .ok (.iload_n 1, 1) := by decide +kernel
theorem dX12_isIn_19 : decode cX12_isIn 19 = .ok (.iaload, 1) := by decide +kernel
theorem dX12_isIn_20 : decode cX12_isIn 20 = .ok (.iaload, 1) := by decide +kernel
theorem dX12_isIn_21 : decode cX12_isIn 21 = .ok (.iload_n 2, 1) := by decide +kernel
theorem dX12_isIn_22 : decode cX12_isIn 22 = .ok (.if_icmp .ne 7, 3) := by decide +kernel
theorem dX12_isIn_25 : decode cX12_isIn 25 = .ok (.iconst 1, 1) := by decide +kernel
theorem dX12_isIn_26 : decode cX12_isIn 26 = .ok (.goto 4, 3) := by decide +kernel
theorem dX12_isIn_29 : decode cX12_isIn 29 = .ok (.iconst 0, 1) := by decide +kernel
theorem dX12_isIn_30 : decode cX12_isIn 30 = .ok (.ireturn, 1) := by decide +kernel
theorem dX12_beside_0 : decode cX12_beside 0 = .ok (.iconst (-1), 1) := by decide +kernel
theorem dX12_beside_1 : decode cX12_beside 1 = .ok (.istore 5, 2) := by decide +kernel
theorem dX12_beside_3 : decode cX12_beside 3 = .ok (.iconst 0, 1) := by decide +kernel
theorem dX12_beside_4 : decode cX12_beside 4 = .ok (.istore 6, 2) := by decide +kernel
theorem dX12_beside_6 : decode cX12_beside 6 = .ok (.iload 6, 2) := by decide +kernel
theorem dX12_beside_8 : decode cX12_beside 8 = .ok (.aload_n 0, 1) := by decide +kernel
theorem dX12_beside_9 : decode cX12_beside 9 = .ok (.getfield 108, 3) := by decide +kernel
theorem dX12_beside_12 : decode cX12_beside 12 = .ok (.if_icmp .ge 117, 3) := by decide +kernel
theorem dX12_beside_15 : decode cX12_beside 15 = .ok (.iload 6, 2) := by decide +kernel
theorem dX12_beside_17 : decode cX12_beside 17 = .ok (.iload_n 3, 1) := by decide +kernel
theorem dX12_beside_18 : decode cX12_beside 18 = .ok (.if_icmp .eq 105, 3) := by decide +kernel
theorem dX12_beside_21 : decode cX12_beside 21 = .ok (.aload_n 0, 1) := by decide +kernel
theorem dX12_beside_22 : decode cX12_beside 22 = .ok (.iload 6, 2) := by decide +kernel
theorem dX12_beside_24 : decode cX12_beside 24 = .ok (.iload_n 1, 1) := by decide +kernel
theorem dX12_beside_25 : decode cX12_beside 25 = .ok (.invokevirtual 173, 3) := by decide +kernel
theorem dX12_beside_28 : decode cX12_beside 28 = .ok (.ifCond .eq 95, 3) := by decide +kernel
theorem dX12_beside_31 : decode cX12_beside 31 = .ok (.aload_n 0, 1) := by decide +kernel
theorem dX12_beside_32 : decode cX12_beside 32 = .ok (.getfield 158, 3) := by decide +kernel
theorem dX12_beside_35 : decode cX12_beside 35 = .ok (.iload 6, 2) := by decide +kernel
theorem dX12_beside_37 : decode cX12_beside 37 = .ok (.iaload, 1) := by decide +kernel
theorem dX12_beside_38 : decode cX12_beside 38 = .ok (.iload_n 2, 1) := by decide +kernel
theorem dX12_beside_39 : decode cX12_beside 39 = .ok (.if_icmp .gt 7, 3) := by decide +kernel
theorem dX12_beside_42 : decode cX12_beside 42 = .ok (.iconst 1, 1) := by decide +kernel
theorem dX12_beside_43 : decode cX12_beside 43 = .ok (.goto 4, 3) := by decide +kernel
theorem dX12_beside_46 : decode cX12_beside 46 = .ok (.iconst 0, 1) := by decide +kernel
theorem dX12_beside_47 : decode cX12_beside 47 = .ok (.iload 4, 2) := by decide +kernel
theorem dX12_beside_49 : decode cX12_beside 49 = .ok (.if_icmp .eq 6, 3) := by decide +kernel
theorem dX12_beside_52 : decode cX12_beside 52 = .ok (.goto 71, 3) := by decide +kernel
theorem dX12_beside_55 : decode cX12_beside 55 = .ok (.iload 5, 2) := by decide +kernel
theorem dX12_beside_57 : decode cX12_beside 57 = .ok (.ifCond .lt 45, 3) := by decide +kernel
theorem dX12_beside_60 : decode cX12_beside 60 = .ok (.iload 4, 2) := by decide +kernel
theorem dX12_beside_62 : decode cX12_beside 62 = .ok (.ifCond .eq 23, 3) := by decide +kernel
theorem dX12_beside_65 : decode cX12_beside 65 = .ok (.aload_n 0, 1) := by decide +kernel
theorem dX12_beside_66 : decode cX12_beside 66 = .ok (.getfield 158, 3) := by decide +kernel
theorem dX12_beside_69 : decode cX12_beside 69 = .ok (.iload 6, 2) := by decide +kernel
theorem dX12_beside_71 : decode cX12_beside 71 = .ok (.iaload, 1) := by decide +kernel
theorem dX12_beside_72 : decode cX12_beside 72 = .ok (.aload_n 0, 1) := by decide +kernel
theorem dX12_beside_73 : decode cX12_beside 73 = .ok (.getfield 158, 3) := by decide +kernel
theorem dX12_beside_76 : decode cX12_beside 76 = .ok (.iload 5, 2) := by decide +kernel
theorem dX12_beside_78 : decode cX12_beside 78 = .ok (.iaload, 1) := by decide +kernel
theorem dX12_beside_79 : decode cX12_beside 79 = .ok (.if_icmp .lt 27, 3) := by decide +kernel
theorem dX12_beside_82 : decode cX12_beside 82 = .ok (.goto 20, 3) := by decide +kernel
theorem dX12_beside_85 : decode cX12_beside 85 = .ok (.aload_n 0, 1) := by decide +kernel
theorem dX12_beside_86 : decode cX12_beside 86 = .ok (.getfield 158, 3) := by decide +kernel
theorem dX12_beside_89 : decode cX12_beside 89 = .ok (.iload 6, 2) := by decide +kernel
theorem dX12_beside_91 : decode cX12_beside 91 = .ok (.iaload, 1) := by decide +kernel
theorem dX12_beside_92 : decode cX12_beside 92 = .ok (.aload_n 0, 1) := by decide +kernel
theorem dX12_beside_93 : decode cX12_beside 93 = .ok (.getfield 158, 3) := by decide +kernel
theorem dX12_beside_96 : decode cX12_beside 96 = .ok (.iload 5, 2) := by decide +kernel
theorem dX12_beside_98 : decode cX12_beside 98 = .ok (.iaload, 1) := by decide +kernel
theorem dX12_beside_99 : decode cX12_beside 99 = .ok (.if_icmp .ge 7, 3) := by decide +kernel
theorem dX12_beside_102 : decode cX12_beside 102 = .ok (.iconst 1, 1) := by decide +kernel
theorem dX12_beside_103 : decode cX12_beside 103 = .ok (.goto 4, 3) := by decide +kernel
theorem dX12_beside_106 : decode cX12_beside 106 = .ok (.iconst 0, 1) := by decide +kernel
theorem dX12_beside_107 : decode cX12_beside 107 = .ok (.istore 7, 2) := by decide +kernel
theorem dX12_beside_109 : decode cX12_beside 109 = .ok (.iload 7, 2) := by decide +kernel
theorem dX12_beside_111 : decode cX12_beside 111 = .ok (.ifCond .eq 8, 3) := by decide +kernel
theorem dX12_beside_114 : decode cX12_beside 114 = .ok (.iload 6, 2) := by decide +kernel
theorem dX12_beside_116 : decode cX12_beside 116 = .ok (.goto 5, 3) := by decide +kernel
theorem dX12_beside_119 : decode cX12_beside 119 = .ok (.iload 5, 2) := by decide +kernel
theorem dX12_beside_121 : decode cX12_beside 121 = .ok (.istore 5, 2) := by decide +kernel
theorem dX12_beside_123 : decode cX12_beside 123 = .ok (.iinc 6 1, 3) := by decide +kernel
theorem dX12_beside_126 : decode cX12_beside 126 = .ok (.goto (-120), 3) := by decide +kernel
theorem dX12_beside_129 : decode cX12_beside 129 = .ok (.iload 5, 2) := by decide +kernel
theorem dX12_beside_131 : decode cX12_beside 131 = .ok (.ireturn, 1) := by decide +kernel
theorem dX12_hungMany_0 : decode cX12_hungMany 0 = .ok (.iconst 0, 1) := by decide +kernel
theorem dX12_hungMany_1 : decode cX12_hungMany 1 = .ok (.istore_n 1, 1) := by decide +kernel
theorem dX12_hungMany_2 : decode cX12_hungMany 2 = .ok (.iconst 0, 1) := by decide +kernel
theorem dX12_hungMany_3 : decode cX12_hungMany 3 = .ok (.istore_n 2, 1) := by decide +kernel
theorem dX12_hungMany_4 : decode cX12_hungMany 4 = .ok (.iload_n 2, 1) := by decide +kernel
theorem dX12_hungMany_5 : decode cX12_hungMany 5 = .ok (.aload_n 0, 1) := by decide +kernel
theorem dX12_hungMany_6 : decode cX12_hungMany 6 = .ok (.getfield 108, 3) := by decide +kernel
theorem dX12_hungMany_9 : decode cX12_hungMany 9 = .ok (.if_icmp .ge 30, 3) := by decide +kernel
theorem dX12_hungMany_12 : decode cX12_hungMany 12 = .ok (.iload_n 1, 1) := by decide +kernel
theorem dX12_hungMany_13 : decode cX12_hungMany 13 = .ok (.aload_n 0, 1) := by decide +kernel
theorem dX12_hungMany_14 : decode cX12_hungMany 14 = .ok (.getfield 170, 3) := by decide +kernel
theorem dX12_hungMany_17 : decode cX12_hungMany 17 = .ok (.iload_n 2, 1) := by decide +kernel
theorem dX12_hungMany_18 : decode cX12_hungMany 18 = .ok (.iaload, 1) := by decide +kernel
theorem dX12_hungMany_19 : decode cX12_hungMany 19 = .ok (.iconst 1, 1) := by decide +kernel
theorem dX12_hungMany_20 : decode cX12_hungMany 20 = .ok (.if_icmp .ne 7, 3) := by decide +kernel
theorem dX12_hungMany_23 : decode cX12_hungMany 23 = .ok (.iconst 1, 1) := by decide +kernel
theorem dX12_hungMany_24 : decode cX12_hungMany 24 = .ok (.goto 4, 3) := by decide +kernel
theorem dX12_hungMany_27 : decode cX12_hungMany 27 = .ok (.iconst 0, 1) := by decide +kernel
theorem dX12_hungMany_28 : decode cX12_hungMany 28 = .ok (.invokestatic 268, 3) := by decide +kernel
theorem dX12_hungMany_31 : decode cX12_hungMany 31 = .ok (.iadd, 1) := by decide +kernel
theorem dX12_hungMany_32 : decode cX12_hungMany 32 = .ok (.istore_n 1, 1) := by decide +kernel
theorem dX12_hungMany_33 : decode cX12_hungMany 33 = .ok (.iinc 2 1, 3) := by decide +kernel
theorem dX12_hungMany_36 : decode cX12_hungMany 36 = .ok (.goto (-32), 3) := by decide +kernel
theorem dX12_hungMany_39 : decode cX12_hungMany 39 = .ok (.iload_n 1, 1) := by decide +kernel
theorem dX12_hungMany_40 : decode cX12_hungMany 40 = .ok (.ireturn, 1) := by decide +kernel
def f_X12_in (M : q_MM) (a1 : Int64) (a2 : Int64) (a3 : Int64) : Option (Int32) :=
  if (lg_cmp a1 a2) < 0 then
    q_bl 0 (some 0)
  else
    if 0 < (lg_cmp a1 a3) then
      q_bl 0 (some 0)
    else
      q_bl 1 (some 1)
def f_X12_truth (M : q_MM) (a1 : Int32) : Option (Int32) :=
  if a1 = 0 then
    some 0
  else
    some 1
def f_X12_isRoom (M : q_MM) (a1 : Int32) : Option (Int32) :=
  (f_X12_in M (Int32.toInt64 a1) 0 (Int32.toInt64 ((M 1 3) - 1))).bind fun r1 =>
  q_bl r1 (some r1)
def f_X12_isOn (M : q_MM) (a1 : Int32) (a2 : Int32) : Option (Int32) :=
  q_ld M 40 24 a1 fun v1 =>
  if v1 = 1 then
    q_ld M 41 24 a1 fun v3 =>
    if v3 = a2 then
      q_bl 1 (some 1)
    else
      q_bl 0 (some 0)
  else
    q_bl 0 (some 0)
def f_X12_isIn (M : q_MM) (a1 : Int32) (a2 : Int32) : Option (Int32) :=
  q_ld M 40 24 a1 fun v1 =>
  if v1 = 1 then
    q_ld M 41 24 a1 fun v3 =>
    q_ld M 20 16 v3 fun v4 =>
    if v4 = a2 then
      q_bl 1 (some 1)
    else
      q_bl 0 (some 0)
  else
    q_bl 0 (some 0)
def b_X12_beside_123 (M : q_MM) (k6 : Int32 → Int32 → Int32 → Int32 → Int32 → Int32 → Option (Int32)) (x1 : Int32) (x2 : Int32) (x3 : Int32) (x4 : Int32) (x5 : Int32) (x6 : Int32) : Option (Int32) :=
  k6 x1 x2 x3 x4 x5 (x6 + 1)
def b_X12_beside_121 (M : q_MM) (k6 : Int32 → Int32 → Int32 → Int32 → Int32 → Int32 → Option (Int32)) (x1 : Int32) (x2 : Int32) (x3 : Int32) (x4 : Int32) (x6 : Int32) (s0 : Int32) : Option (Int32) :=
  b_X12_beside_123 M k6 x1 x2 x3 x4 s0 x6
def b_X12_beside_107 (M : q_MM) (k6 : Int32 → Int32 → Int32 → Int32 → Int32 → Int32 → Option (Int32)) (x1 : Int32) (x2 : Int32) (x3 : Int32) (x4 : Int32) (x5 : Int32) (x6 : Int32) (s0 : Int32) : Option (Int32) :=
  if s0 = 0 then
    b_X12_beside_121 M k6 x1 x2 x3 x4 x6 x5
  else
    b_X12_beside_121 M k6 x1 x2 x3 x4 x6 x6
def b_X12_beside_106 (M : q_MM) (k6 : Int32 → Int32 → Int32 → Int32 → Int32 → Int32 → Option (Int32)) (x1 : Int32) (x2 : Int32) (x3 : Int32) (x4 : Int32) (x5 : Int32) (x6 : Int32) : Option (Int32) :=
  b_X12_beside_107 M k6 x1 x2 x3 x4 x5 x6 0
def b_X12_beside_102 (M : q_MM) (k6 : Int32 → Int32 → Int32 → Int32 → Int32 → Int32 → Option (Int32)) (x1 : Int32) (x2 : Int32) (x3 : Int32) (x4 : Int32) (x5 : Int32) (x6 : Int32) : Option (Int32) :=
  b_X12_beside_107 M k6 x1 x2 x3 x4 x5 x6 1
def b_X12_beside_47 (M : q_MM) (k6 : Int32 → Int32 → Int32 → Int32 → Int32 → Int32 → Option (Int32)) (x1 : Int32) (x2 : Int32) (x3 : Int32) (x4 : Int32) (x5 : Int32) (x6 : Int32) (s0 : Int32) : Option (Int32) :=
  if s0 = x4 then
    if x5 < 0 then
      b_X12_beside_102 M k6 x1 x2 x3 x4 x5 x6
    else
      if x4 = 0 then
        q_ld M 42 24 x6 fun v5 =>
        q_ld M 42 24 x5 fun v6 =>
        if v6 ≤ v5 then
          b_X12_beside_106 M k6 x1 x2 x3 x4 x5 x6
        else
          b_X12_beside_102 M k6 x1 x2 x3 x4 x5 x6
      else
        q_ld M 42 24 x6 fun v8 =>
        q_ld M 42 24 x5 fun v9 =>
        if v8 < v9 then
          b_X12_beside_106 M k6 x1 x2 x3 x4 x5 x6
        else
          b_X12_beside_102 M k6 x1 x2 x3 x4 x5 x6
  else
    b_X12_beside_123 M k6 x1 x2 x3 x4 x5 x6
def b_X12_beside_6 (M : q_MM) : Nat → Int32 → Int32 → Int32 → Int32 → Int32 → Int32 → Option (Int32)
  | 0, _, _, _, _, _, _ => none
  | nf + 1, x1, x2, x3, x4, x5, x6 =>
    if (M 1 18) ≤ x6 then
      some x5
    else
      if x6 = x3 then
        b_X12_beside_123 M (b_X12_beside_6 M nf) x1 x2 x3 x4 x5 x6
      else
        (f_X12_isOn M x6 x1).bind fun r13 =>
        if r13 = 0 then
          b_X12_beside_123 M (b_X12_beside_6 M nf) x1 x2 x3 x4 x5 x6
        else
          q_ld M 42 24 x6 fun v15 =>
          if x2 < v15 then
            b_X12_beside_47 M (b_X12_beside_6 M nf) x1 x2 x3 x4 x5 x6 0
          else
            b_X12_beside_47 M (b_X12_beside_6 M nf) x1 x2 x3 x4 x5 x6 1
def f_X12_beside (M : q_MM) (a1 : Int32) (a2 : Int32) (a3 : Int32) (a4 : Int32) : Option (Int32) :=
  b_X12_beside_6 M q_fu a1 a2 a3 a4 (-1) 0
def b_X12_hungMany_28 (M : q_MM) (k4 : Int32 → Int32 → Option (Int32)) (x2 : Int32) (s0 : Int32) (s1 : Int32) : Option (Int32) :=
  (f_X12_truth M s0).bind fun r1 =>
  q_let (s1 + r1) fun v2 =>
  k4 v2 (x2 + 1)
def b_X12_hungMany_4 (M : q_MM) : Nat → Int32 → Int32 → Option (Int32)
  | 0, _, _ => none
  | nf + 1, x1, x2 =>
    if (M 1 18) ≤ x2 then
      some x1
    else
      q_ld M 40 24 x2 fun v4 =>
      if v4 = 1 then
        b_X12_hungMany_28 M (b_X12_hungMany_4 M nf) x2 1 x1
      else
        b_X12_hungMany_28 M (b_X12_hungMany_4 M nf) x2 0 x1
def f_X12_hungMany (M : q_MM) : Option (Int32) :=
  b_X12_hungMany_4 M q_fu 0 0
set_option maxHeartbeats 4000000 in
set_option maxRecDepth 100000 in
theorem c_X12_in (l : Launch) (K : q_KK) (M : q_MM) (a1 : Int64) (a2 : Int64) (a3 : Int64) : ∀ res, f_X12_in M a1 a2 a3 = some res → Mt l yX12_in cX12_in 6 (some FieldType.boolean) 0 0 0 0 false K [.long a1, .long a2, .long a3] (qTM, qLM, qPM, M) (some (.int res)) ((qTM, qLM, qPM, M)) := by
  refine Mt.of (fun res => some (.int res)) (fun _ => (qTM, qLM, qPM, M)) (by decide) (Nat.le_of_ble_eq_true rfl) ?_
  intro p e s m args below meth c0 A ad X hN
  refine g_sub (lv' := [(0, .long a1), (2, .long a2), (4, .long a3)]) [0, 1, 2] rfl ?_
  unfold f_X12_in
  refine g_lload_n X dX12_in_0 rfl 0 rfl ?_
  refine g_lload_n X dX12_in_1 rfl 1 rfl ?_
  refine g_lcmp X dX12_in_2 ?_
  refine g_if_lt X 17 dX12_in_3 rfl (fun h1 => ?_) (fun h1 => ?_)
  · refine g_iconst (v := 0) X dX12_in_17 (by decide) ?_
    exact g_zret X rfl rfl rfl dX12_in_18
  · refine g_lload_n X dX12_in_6 rfl 0 rfl ?_
    refine g_lload X dX12_in_7 2 rfl ?_
    refine g_lcmp X dX12_in_9 ?_
    refine g_if_gt X 17 dX12_in_10 rfl (fun h2 => ?_) (fun h2 => ?_)
    · refine g_iconst (v := 0) X dX12_in_17 (by decide) ?_
      exact g_zret X rfl rfl rfl dX12_in_18
    · refine g_iconst (v := 1) X dX12_in_13 (by decide) ?_
      refine g_goto X 18 dX12_in_14 rfl ?_
      exact g_zret X rfl rfl rfl dX12_in_18
set_option maxHeartbeats 4000000 in
set_option maxRecDepth 100000 in
theorem c_X12_truth (l : Launch) (K : q_KK) (M : q_MM) (a1 : Int32) : ∀ res, f_X12_truth M a1 = some res → Mt l yX12_truth cX12_truth 1 (some FieldType.int) 0 0 0 0 false K [.int a1] (qTM, qLM, qPM, M) (some (.int res)) ((qTM, qLM, qPM, M)) := by
  refine Mt.of (fun res => some (.int res)) (fun _ => (qTM, qLM, qPM, M)) (by decide) (Nat.le_of_ble_eq_true rfl) ?_
  intro p e s m args below meth c0 A ad X hN
  refine g_sub (lv' := [(0, .int a1)]) [0] rfl ?_
  unfold f_X12_truth
  refine g_iload_n X dX12_truth_0 rfl 0 rfl ?_
  refine g_if_eq X 8 dX12_truth_1 rfl (fun h1 => ?_) (fun h1 => ?_)
  · refine g_iconst (v := 0) X dX12_truth_8 (by decide) ?_
    exact g_iret X rfl rfl rfl dX12_truth_9
  · refine g_iconst (v := 1) X dX12_truth_4 (by decide) ?_
    refine g_goto X 9 dX12_truth_5 rfl ?_
    exact g_iret X rfl rfl rfl dX12_truth_9
set_option maxHeartbeats 4000000 in
set_option maxRecDepth 100000 in
theorem c_X12_isRoom (l : Launch) (K : q_KK) (M : q_MM) (a1 : Int32) : ∀ res, f_X12_isRoom M a1 = some res → Mt l yX12_isRoom cX12_isRoom 2 (some FieldType.boolean) 1 25 0 0 false K [.ref 1, .int a1] (qTM, qLM, qPM, M) (some (.int res)) ((qTM, qLM, qPM, M)) := by
  refine Mt.of (fun res => some (.int res)) (fun _ => (qTM, qLM, qPM, M)) (by decide) (Nat.le_of_ble_eq_true rfl) ?_
  intro p e s m args below meth c0 A ad X hN
  refine g_sub (lv' := [(0, .ref 1), (1, .int a1)]) [0, 1] rfl ?_
  unfold f_X12_isRoom
  refine g_iload_n X dX12_isRoom_0 rfl 1 rfl ?_
  refine g_i2l X dX12_isRoom_1 ?_
  refine g_lconst (v := 0) X dX12_isRoom_2 (by decide) ?_
  refine g_aload_n X dX12_isRoom_3 rfl 0 rfl ?_
  refine g_geti X fa_X12_14 rfl dX12_isRoom_4 ?_
  refine g_iconst (v := 1) X dX12_isRoom_7 (by decide) ?_
  refine g_isub X dX12_isRoom_8 ?_
  refine g_i2l X dX12_isRoom_9 ?_
  refine g_bSi (As := [.long (Int32.toInt64 a1), .long 0, .long (Int32.toInt64 ((M 1 3) - 1))]) (rest := []) X (c_X12_in l K M (Int32.toInt64 a1) 0 (Int32.toInt64 ((M 1 3) - 1))) lk_X12_17 rfl rfl (Nat.le_of_ble_eq_true rfl) ⟨Nat.le_of_ble_eq_true rfl, Nat.le_of_ble_eq_true rfl⟩ ⟨Nat.zero_le _, Nat.zero_le _⟩ dX12_isRoom_10 (fun r1 => ?_)
  exact g_zret X rfl rfl rfl dX12_isRoom_13
set_option maxHeartbeats 4000000 in
set_option maxRecDepth 100000 in
theorem c_X12_isOn (l : Launch) (K : q_KK) (M : q_MM) (a1 : Int32) (a2 : Int32) : ∀ res, f_X12_isOn M a1 a2 = some res → Mt l yX12_isOn cX12_isOn 3 (some FieldType.boolean) 0 0 0 0 false K [.ref 1, .int a1, .int a2] (qTM, qLM, qPM, M) (some (.int res)) ((qTM, qLM, qPM, M)) := by
  refine Mt.of (fun res => some (.int res)) (fun _ => (qTM, qLM, qPM, M)) (by decide) (Nat.le_of_ble_eq_true rfl) ?_
  intro p e s m args below meth c0 A ad X hN
  refine g_sub (lv' := [(0, .ref 1), (1, .int a1), (2, .int a2)]) [0, 1, 2] rfl ?_
  unfold f_X12_isOn
  refine g_aload_n X dX12_isOn_0 rfl 0 rfl ?_
  refine g_getr X fa_X12_170 rfl rfl dX12_isOn_1 ?_
  refine g_iload_n X dX12_isOn_4 rfl 1 rfl ?_
  refine g_ild X rfl rfl dX12_isOn_5 (fun v1 => ?_)
  refine g_iconst (v := 1) X dX12_isOn_6 (by decide) ?_
  refine g_icmp_ne X 24 dX12_isOn_7 rfl (fun h2 => ?_) (fun h2 => ?_)
  · refine g_aload_n X dX12_isOn_10 rfl 0 rfl ?_
    refine g_getr X fa_X12_155 rfl rfl dX12_isOn_11 ?_
    refine g_iload_n X dX12_isOn_14 rfl 1 rfl ?_
    refine g_ild X rfl rfl dX12_isOn_15 (fun v3 => ?_)
    refine g_iload_n X dX12_isOn_16 rfl 2 rfl ?_
    refine g_icmp_ne X 24 dX12_isOn_17 rfl (fun h4 => ?_) (fun h4 => ?_)
    · refine g_iconst (v := 1) X dX12_isOn_20 (by decide) ?_
      refine g_goto X 25 dX12_isOn_21 rfl ?_
      exact g_zret X rfl rfl rfl dX12_isOn_25
    · refine g_iconst (v := 0) X dX12_isOn_24 (by decide) ?_
      exact g_zret X rfl rfl rfl dX12_isOn_25
  · refine g_iconst (v := 0) X dX12_isOn_24 (by decide) ?_
    exact g_zret X rfl rfl rfl dX12_isOn_25
set_option maxHeartbeats 4000000 in
set_option maxRecDepth 100000 in
theorem c_X12_isIn (l : Launch) (K : q_KK) (M : q_MM) (a1 : Int32) (a2 : Int32) : ∀ res, f_X12_isIn M a1 a2 = some res → Mt l yX12_isIn cX12_isIn 3 (some FieldType.boolean) 0 0 0 0 false K [.ref 1, .int a1, .int a2] (qTM, qLM, qPM, M) (some (.int res)) ((qTM, qLM, qPM, M)) := by
  refine Mt.of (fun res => some (.int res)) (fun _ => (qTM, qLM, qPM, M)) (by decide) (Nat.le_of_ble_eq_true rfl) ?_
  intro p e s m args below meth c0 A ad X hN
  refine g_sub (lv' := [(0, .ref 1), (1, .int a1), (2, .int a2)]) [0, 1, 2] rfl ?_
  unfold f_X12_isIn
  refine g_aload_n X dX12_isIn_0 rfl 0 rfl ?_
  refine g_getr X fa_X12_170 rfl rfl dX12_isIn_1 ?_
  refine g_iload_n X dX12_isIn_4 rfl 1 rfl ?_
  refine g_ild X rfl rfl dX12_isIn_5 (fun v1 => ?_)
  refine g_iconst (v := 1) X dX12_isIn_6 (by decide) ?_
  refine g_icmp_ne X 29 dX12_isIn_7 rfl (fun h2 => ?_) (fun h2 => ?_)
  · refine g_aload_n X dX12_isIn_10 rfl 0 rfl ?_
    refine g_getr X fa_X12_57 rfl rfl dX12_isIn_11 ?_
    refine g_aload_n X dX12_isIn_14 rfl 0 rfl ?_
    refine g_getr X fa_X12_155 rfl rfl dX12_isIn_15 ?_
    refine g_iload_n X dX12_isIn_18 rfl 1 rfl ?_
    refine g_ild X rfl rfl dX12_isIn_19 (fun v3 => ?_)
    refine g_ild X rfl rfl dX12_isIn_20 (fun v4 => ?_)
    refine g_iload_n X dX12_isIn_21 rfl 2 rfl ?_
    refine g_icmp_ne X 29 dX12_isIn_22 rfl (fun h5 => ?_) (fun h5 => ?_)
    · refine g_iconst (v := 1) X dX12_isIn_25 (by decide) ?_
      refine g_goto X 30 dX12_isIn_26 rfl ?_
      exact g_zret X rfl rfl rfl dX12_isIn_30
    · refine g_iconst (v := 0) X dX12_isIn_29 (by decide) ?_
      exact g_zret X rfl rfl rfl dX12_isIn_30
  · refine g_iconst (v := 0) X dX12_isIn_29 (by decide) ?_
    exact g_zret X rfl rfl rfl dX12_isIn_30
set_option maxHeartbeats 4000000 in
set_option maxRecDepth 100000 in
theorem c_X12_beside (l : Launch) (K : q_KK) (M : q_MM) (a1 : Int32) (a2 : Int32) (a3 : Int32) (a4 : Int32) : ∀ res, f_X12_beside M a1 a2 a3 a4 = some res → Mt l yX12_beside cX12_beside 8 (some FieldType.int) 1 22 0 0 false K [.ref 1, .int a1, .int a2, .int a3, .int a4] (qTM, qLM, qPM, M) (some (.int res)) ((qTM, qLM, qPM, M)) := by
  refine Mt.of (fun res => some (.int res)) (fun _ => (qTM, qLM, qPM, M)) (by decide) (Nat.le_of_ble_eq_true rfl) ?_
  intro p e s m args below meth c0 A ad X hN
  have hb_123 : ∀ (k6 : Int32 → Int32 → Int32 → Int32 → Int32 → Int32 → Option (Int32)) (hk6 : ∀ (x1 : Int32) (x2 : Int32) (x3 : Int32) (x4 : Int32) (x5 : Int32) (x6 : Int32), GG p l e { frames := 1, cells := 0, slots := 0, locals := 22 } s m args below meth c0 K A (qTM, qLM, qPM, M) ad false 8 (fun res => MQ below (q_Qc K false ad (qTM, qLM, qPM, M) ((fun res => some (.int res)) res) ((fun _ => (qTM, qLM, qPM, M)) res) A) args s 0 0 A) (k6 x1 x2 x3 x4 x5 x6) 6 [(0, .ref 1), (1, .int x1), (2, .int x2), (3, .int x3), (4, .int x4), (5, .int x5), (6, .int x6)] [] (qTM, qLM, qPM, M) 0 0) (x1 : Int32) (x2 : Int32) (x3 : Int32) (x4 : Int32) (x5 : Int32) (x6 : Int32), GG p l e { frames := 1, cells := 0, slots := 0, locals := 22 } s m args below meth c0 K A (qTM, qLM, qPM, M) ad false 8 (fun res => MQ below (q_Qc K false ad (qTM, qLM, qPM, M) ((fun res => some (.int res)) res) ((fun _ => (qTM, qLM, qPM, M)) res) A) args s 0 0 A) (b_X12_beside_123 M k6 x1 x2 x3 x4 x5 x6) 123 [(0, .ref 1), (1, .int x1), (2, .int x2), (3, .int x3), (4, .int x4), (5, .int x5), (6, .int x6)] [] (qTM, qLM, qPM, M) 0 0 := by
    intro k6 hk6 x1 x2 x3 x4 x5 x6
    unfold b_X12_beside_123
    refine g_iinc (v := 1) X [(6, .int (x6 + 1)), (0, .ref 1), (1, .int x1), (2, .int x2), (3, .int x3), (4, .int x4), (5, .int x5)] 6 dX12_beside_123 rfl (by decide) (by decide) rfl ?_
    refine g_goto X 6 dX12_beside_126 rfl ?_
    exact g_sub [1, 2, 3, 4, 5, 6, 0] rfl (hk6 x1 x2 x3 x4 x5 (x6 + 1))
  have hb_121 : ∀ (k6 : Int32 → Int32 → Int32 → Int32 → Int32 → Int32 → Option (Int32)) (hk6 : ∀ (x1 : Int32) (x2 : Int32) (x3 : Int32) (x4 : Int32) (x5 : Int32) (x6 : Int32), GG p l e { frames := 1, cells := 0, slots := 0, locals := 22 } s m args below meth c0 K A (qTM, qLM, qPM, M) ad false 8 (fun res => MQ below (q_Qc K false ad (qTM, qLM, qPM, M) ((fun res => some (.int res)) res) ((fun _ => (qTM, qLM, qPM, M)) res) A) args s 0 0 A) (k6 x1 x2 x3 x4 x5 x6) 6 [(0, .ref 1), (1, .int x1), (2, .int x2), (3, .int x3), (4, .int x4), (5, .int x5), (6, .int x6)] [] (qTM, qLM, qPM, M) 0 0) (x1 : Int32) (x2 : Int32) (x3 : Int32) (x4 : Int32) (x6 : Int32) (s0 : Int32), GG p l e { frames := 1, cells := 0, slots := 0, locals := 22 } s m args below meth c0 K A (qTM, qLM, qPM, M) ad false 8 (fun res => MQ below (q_Qc K false ad (qTM, qLM, qPM, M) ((fun res => some (.int res)) res) ((fun _ => (qTM, qLM, qPM, M)) res) A) args s 0 0 A) (b_X12_beside_121 M k6 x1 x2 x3 x4 x6 s0) 121 [(0, .ref 1), (1, .int x1), (2, .int x2), (3, .int x3), (4, .int x4), (6, .int x6)] [.int s0] (qTM, qLM, qPM, M) 0 0 := by
    intro k6 hk6 x1 x2 x3 x4 x6 s0
    unfold b_X12_beside_121
    refine g_istore X [(5, .int s0), (0, .ref 1), (1, .int x1), (2, .int x2), (3, .int x3), (4, .int x4), (6, .int x6)] dX12_beside_121 (by decide) rfl ?_
    exact g_sub [1, 2, 3, 4, 5, 0, 6] rfl (hb_123 k6 hk6 x1 x2 x3 x4 s0 x6)
  have hb_107 : ∀ (k6 : Int32 → Int32 → Int32 → Int32 → Int32 → Int32 → Option (Int32)) (hk6 : ∀ (x1 : Int32) (x2 : Int32) (x3 : Int32) (x4 : Int32) (x5 : Int32) (x6 : Int32), GG p l e { frames := 1, cells := 0, slots := 0, locals := 22 } s m args below meth c0 K A (qTM, qLM, qPM, M) ad false 8 (fun res => MQ below (q_Qc K false ad (qTM, qLM, qPM, M) ((fun res => some (.int res)) res) ((fun _ => (qTM, qLM, qPM, M)) res) A) args s 0 0 A) (k6 x1 x2 x3 x4 x5 x6) 6 [(0, .ref 1), (1, .int x1), (2, .int x2), (3, .int x3), (4, .int x4), (5, .int x5), (6, .int x6)] [] (qTM, qLM, qPM, M) 0 0) (x1 : Int32) (x2 : Int32) (x3 : Int32) (x4 : Int32) (x5 : Int32) (x6 : Int32) (s0 : Int32), GG p l e { frames := 1, cells := 0, slots := 0, locals := 22 } s m args below meth c0 K A (qTM, qLM, qPM, M) ad false 8 (fun res => MQ below (q_Qc K false ad (qTM, qLM, qPM, M) ((fun res => some (.int res)) res) ((fun _ => (qTM, qLM, qPM, M)) res) A) args s 0 0 A) (b_X12_beside_107 M k6 x1 x2 x3 x4 x5 x6 s0) 107 [(0, .ref 1), (1, .int x1), (2, .int x2), (3, .int x3), (4, .int x4), (5, .int x5), (6, .int x6)] [.int s0] (qTM, qLM, qPM, M) 0 0 := by
    intro k6 hk6 x1 x2 x3 x4 x5 x6 s0
    unfold b_X12_beside_107
    refine g_istore X [(7, .int s0), (0, .ref 1), (1, .int x1), (2, .int x2), (3, .int x3), (4, .int x4), (5, .int x5), (6, .int x6)] dX12_beside_107 (by decide) rfl ?_
    refine g_iload X dX12_beside_109 0 rfl ?_
    refine g_if_eq X 119 dX12_beside_111 rfl (fun h1 => ?_) (fun h1 => ?_)
    · refine g_iload X dX12_beside_119 6 rfl ?_
      exact g_sub [1, 2, 3, 4, 5, 7] rfl (hb_121 k6 hk6 x1 x2 x3 x4 x6 x5)
    · refine g_iload X dX12_beside_114 7 rfl ?_
      refine g_goto X 121 dX12_beside_116 rfl ?_
      exact g_sub [1, 2, 3, 4, 5, 7] rfl (hb_121 k6 hk6 x1 x2 x3 x4 x6 x6)
  have hb_106 : ∀ (k6 : Int32 → Int32 → Int32 → Int32 → Int32 → Int32 → Option (Int32)) (hk6 : ∀ (x1 : Int32) (x2 : Int32) (x3 : Int32) (x4 : Int32) (x5 : Int32) (x6 : Int32), GG p l e { frames := 1, cells := 0, slots := 0, locals := 22 } s m args below meth c0 K A (qTM, qLM, qPM, M) ad false 8 (fun res => MQ below (q_Qc K false ad (qTM, qLM, qPM, M) ((fun res => some (.int res)) res) ((fun _ => (qTM, qLM, qPM, M)) res) A) args s 0 0 A) (k6 x1 x2 x3 x4 x5 x6) 6 [(0, .ref 1), (1, .int x1), (2, .int x2), (3, .int x3), (4, .int x4), (5, .int x5), (6, .int x6)] [] (qTM, qLM, qPM, M) 0 0) (x1 : Int32) (x2 : Int32) (x3 : Int32) (x4 : Int32) (x5 : Int32) (x6 : Int32), GG p l e { frames := 1, cells := 0, slots := 0, locals := 22 } s m args below meth c0 K A (qTM, qLM, qPM, M) ad false 8 (fun res => MQ below (q_Qc K false ad (qTM, qLM, qPM, M) ((fun res => some (.int res)) res) ((fun _ => (qTM, qLM, qPM, M)) res) A) args s 0 0 A) (b_X12_beside_106 M k6 x1 x2 x3 x4 x5 x6) 106 [(0, .ref 1), (1, .int x1), (2, .int x2), (3, .int x3), (4, .int x4), (5, .int x5), (6, .int x6)] [] (qTM, qLM, qPM, M) 0 0 := by
    intro k6 hk6 x1 x2 x3 x4 x5 x6
    unfold b_X12_beside_106
    refine g_iconst (v := 0) X dX12_beside_106 (by decide) ?_
    exact g_sub [0, 1, 2, 3, 4, 5, 6] rfl (hb_107 k6 hk6 x1 x2 x3 x4 x5 x6 0)
  have hb_102 : ∀ (k6 : Int32 → Int32 → Int32 → Int32 → Int32 → Int32 → Option (Int32)) (hk6 : ∀ (x1 : Int32) (x2 : Int32) (x3 : Int32) (x4 : Int32) (x5 : Int32) (x6 : Int32), GG p l e { frames := 1, cells := 0, slots := 0, locals := 22 } s m args below meth c0 K A (qTM, qLM, qPM, M) ad false 8 (fun res => MQ below (q_Qc K false ad (qTM, qLM, qPM, M) ((fun res => some (.int res)) res) ((fun _ => (qTM, qLM, qPM, M)) res) A) args s 0 0 A) (k6 x1 x2 x3 x4 x5 x6) 6 [(0, .ref 1), (1, .int x1), (2, .int x2), (3, .int x3), (4, .int x4), (5, .int x5), (6, .int x6)] [] (qTM, qLM, qPM, M) 0 0) (x1 : Int32) (x2 : Int32) (x3 : Int32) (x4 : Int32) (x5 : Int32) (x6 : Int32), GG p l e { frames := 1, cells := 0, slots := 0, locals := 22 } s m args below meth c0 K A (qTM, qLM, qPM, M) ad false 8 (fun res => MQ below (q_Qc K false ad (qTM, qLM, qPM, M) ((fun res => some (.int res)) res) ((fun _ => (qTM, qLM, qPM, M)) res) A) args s 0 0 A) (b_X12_beside_102 M k6 x1 x2 x3 x4 x5 x6) 102 [(0, .ref 1), (1, .int x1), (2, .int x2), (3, .int x3), (4, .int x4), (5, .int x5), (6, .int x6)] [] (qTM, qLM, qPM, M) 0 0 := by
    intro k6 hk6 x1 x2 x3 x4 x5 x6
    unfold b_X12_beside_102
    refine g_iconst (v := 1) X dX12_beside_102 (by decide) ?_
    refine g_goto X 107 dX12_beside_103 rfl ?_
    exact g_sub [0, 1, 2, 3, 4, 5, 6] rfl (hb_107 k6 hk6 x1 x2 x3 x4 x5 x6 1)
  have hb_47 : ∀ (k6 : Int32 → Int32 → Int32 → Int32 → Int32 → Int32 → Option (Int32)) (hk6 : ∀ (x1 : Int32) (x2 : Int32) (x3 : Int32) (x4 : Int32) (x5 : Int32) (x6 : Int32), GG p l e { frames := 1, cells := 0, slots := 0, locals := 22 } s m args below meth c0 K A (qTM, qLM, qPM, M) ad false 8 (fun res => MQ below (q_Qc K false ad (qTM, qLM, qPM, M) ((fun res => some (.int res)) res) ((fun _ => (qTM, qLM, qPM, M)) res) A) args s 0 0 A) (k6 x1 x2 x3 x4 x5 x6) 6 [(0, .ref 1), (1, .int x1), (2, .int x2), (3, .int x3), (4, .int x4), (5, .int x5), (6, .int x6)] [] (qTM, qLM, qPM, M) 0 0) (x1 : Int32) (x2 : Int32) (x3 : Int32) (x4 : Int32) (x5 : Int32) (x6 : Int32) (s0 : Int32), GG p l e { frames := 1, cells := 0, slots := 0, locals := 22 } s m args below meth c0 K A (qTM, qLM, qPM, M) ad false 8 (fun res => MQ below (q_Qc K false ad (qTM, qLM, qPM, M) ((fun res => some (.int res)) res) ((fun _ => (qTM, qLM, qPM, M)) res) A) args s 0 0 A) (b_X12_beside_47 M k6 x1 x2 x3 x4 x5 x6 s0) 47 [(0, .ref 1), (1, .int x1), (2, .int x2), (3, .int x3), (4, .int x4), (5, .int x5), (6, .int x6)] [.int s0] (qTM, qLM, qPM, M) 0 0 := by
    intro k6 hk6 x1 x2 x3 x4 x5 x6 s0
    unfold b_X12_beside_47
    refine g_iload X dX12_beside_47 4 rfl ?_
    refine g_icmp_eq X 55 dX12_beside_49 rfl (fun h2 => ?_) (fun h2 => ?_)
    · refine g_iload X dX12_beside_55 5 rfl ?_
      refine g_if_lt X 102 dX12_beside_57 rfl (fun h3 => ?_) (fun h3 => ?_)
      · exact g_sub [0, 1, 2, 3, 4, 5, 6] rfl (hb_102 k6 hk6 x1 x2 x3 x4 x5 x6)
      · refine g_iload X dX12_beside_60 4 rfl ?_
        refine g_if_eq X 85 dX12_beside_62 rfl (fun h4 => ?_) (fun h4 => ?_)
        · refine g_aload_n X dX12_beside_85 rfl 0 rfl ?_
          refine g_getr X fa_X12_158 rfl rfl dX12_beside_86 ?_
          refine g_iload X dX12_beside_89 6 rfl ?_
          refine g_ild X rfl rfl dX12_beside_91 (fun v5 => ?_)
          refine g_aload_n X dX12_beside_92 rfl 0 rfl ?_
          refine g_getr X fa_X12_158 rfl rfl dX12_beside_93 ?_
          refine g_iload X dX12_beside_96 5 rfl ?_
          refine g_ild X rfl rfl dX12_beside_98 (fun v6 => ?_)
          refine g_icmp_ge X 106 dX12_beside_99 rfl (fun h7 => ?_) (fun h7 => ?_)
          · exact g_sub [0, 1, 2, 3, 4, 5, 6] rfl (hb_106 k6 hk6 x1 x2 x3 x4 x5 x6)
          · exact g_sub [0, 1, 2, 3, 4, 5, 6] rfl (hb_102 k6 hk6 x1 x2 x3 x4 x5 x6)
        · refine g_aload_n X dX12_beside_65 rfl 0 rfl ?_
          refine g_getr X fa_X12_158 rfl rfl dX12_beside_66 ?_
          refine g_iload X dX12_beside_69 6 rfl ?_
          refine g_ild X rfl rfl dX12_beside_71 (fun v8 => ?_)
          refine g_aload_n X dX12_beside_72 rfl 0 rfl ?_
          refine g_getr X fa_X12_158 rfl rfl dX12_beside_73 ?_
          refine g_iload X dX12_beside_76 5 rfl ?_
          refine g_ild X rfl rfl dX12_beside_78 (fun v9 => ?_)
          refine g_icmp_lt X 106 dX12_beside_79 rfl (fun h10 => ?_) (fun h10 => ?_)
          · exact g_sub [0, 1, 2, 3, 4, 5, 6] rfl (hb_106 k6 hk6 x1 x2 x3 x4 x5 x6)
          · refine g_goto X 102 dX12_beside_82 rfl ?_
            exact g_sub [0, 1, 2, 3, 4, 5, 6] rfl (hb_102 k6 hk6 x1 x2 x3 x4 x5 x6)
    · refine g_goto X 123 dX12_beside_52 rfl ?_
      exact g_sub [0, 1, 2, 3, 4, 5, 6] rfl (hb_123 k6 hk6 x1 x2 x3 x4 x5 x6)
  have hb_6 : ∀ (nf : Nat) (x1 : Int32) (x2 : Int32) (x3 : Int32) (x4 : Int32) (x5 : Int32) (x6 : Int32), GG p l e { frames := 1, cells := 0, slots := 0, locals := 22 } s m args below meth c0 K A (qTM, qLM, qPM, M) ad false 8 (fun res => MQ below (q_Qc K false ad (qTM, qLM, qPM, M) ((fun res => some (.int res)) res) ((fun _ => (qTM, qLM, qPM, M)) res) A) args s 0 0 A) (b_X12_beside_6 M nf x1 x2 x3 x4 x5 x6) 6 [(0, .ref 1), (1, .int x1), (2, .int x2), (3, .int x3), (4, .int x4), (5, .int x5), (6, .int x6)] [] (qTM, qLM, qPM, M) 0 0 := by
    intro  nf
    induction nf with
    | zero => intros; exact g_stop
    | succ nf ih =>
      intro x1 x2 x3 x4 x5 x6
      rw [b_X12_beside_6]
      refine g_iload X dX12_beside_6 6 rfl ?_
      refine g_aload_n X dX12_beside_8 rfl 0 rfl ?_
      refine g_geti X fa_X12_108 rfl dX12_beside_9 ?_
      refine g_icmp_ge X 129 dX12_beside_12 rfl (fun h11 => ?_) (fun h11 => ?_)
      · refine g_iload X dX12_beside_129 5 rfl ?_
        exact g_iret X rfl rfl rfl dX12_beside_131
      · refine g_iload X dX12_beside_15 6 rfl ?_
        refine g_iload_n X dX12_beside_17 rfl 3 rfl ?_
        refine g_icmp_eq X 123 dX12_beside_18 rfl (fun h12 => ?_) (fun h12 => ?_)
        · exact g_sub [0, 1, 2, 3, 4, 5, 6] rfl (hb_123 (b_X12_beside_6 M nf) ih x1 x2 x3 x4 x5 x6)
        · refine g_aload_n X dX12_beside_21 rfl 0 rfl ?_
          refine g_iload X dX12_beside_22 6 rfl ?_
          refine g_iload_n X dX12_beside_24 rfl 1 rfl ?_
          refine g_bVi (As := [.int x6, .int x1]) (rest := []) X (c_X12_isOn l K M x6 x1) lk_X12_173 rfl rfl rfl (Nat.le_of_ble_eq_true rfl) ⟨Nat.le_of_ble_eq_true rfl, Nat.le_of_ble_eq_true rfl⟩ ⟨Nat.zero_le _, Nat.zero_le _⟩ dX12_beside_25 (fun r13 => ?_)
          refine g_if_eq X 123 dX12_beside_28 rfl (fun h14 => ?_) (fun h14 => ?_)
          · exact g_sub [0, 1, 2, 3, 4, 5, 6] rfl (hb_123 (b_X12_beside_6 M nf) ih x1 x2 x3 x4 x5 x6)
          · refine g_aload_n X dX12_beside_31 rfl 0 rfl ?_
            refine g_getr X fa_X12_158 rfl rfl dX12_beside_32 ?_
            refine g_iload X dX12_beside_35 6 rfl ?_
            refine g_ild X rfl rfl dX12_beside_37 (fun v15 => ?_)
            refine g_iload_n X dX12_beside_38 rfl 2 rfl ?_
            refine g_icmp_gt X 46 dX12_beside_39 rfl (fun h16 => ?_) (fun h16 => ?_)
            · refine g_iconst (v := 0) X dX12_beside_46 (by decide) ?_
              exact g_sub [0, 1, 2, 3, 4, 5, 6] rfl (hb_47 (b_X12_beside_6 M nf) ih x1 x2 x3 x4 x5 x6 0)
            · refine g_iconst (v := 1) X dX12_beside_42 (by decide) ?_
              refine g_goto X 47 dX12_beside_43 rfl ?_
              exact g_sub [0, 1, 2, 3, 4, 5, 6] rfl (hb_47 (b_X12_beside_6 M nf) ih x1 x2 x3 x4 x5 x6 1)
  refine g_sub (lv' := [(0, .ref 1), (1, .int a1), (2, .int a2), (3, .int a3), (4, .int a4)]) [0, 1, 2, 3, 4] rfl ?_
  unfold f_X12_beside
  refine g_iconst (v := (-1)) X dX12_beside_0 (by decide) ?_
  refine g_istore X [(5, .int (-1)), (0, .ref 1), (1, .int a1), (2, .int a2), (3, .int a3), (4, .int a4)] dX12_beside_1 (by decide) rfl ?_
  refine g_iconst (v := 0) X dX12_beside_3 (by decide) ?_
  refine g_istore X [(6, .int 0), (5, .int (-1)), (0, .ref 1), (1, .int a1), (2, .int a2), (3, .int a3), (4, .int a4)] dX12_beside_4 (by decide) rfl ?_
  exact g_sub [2, 3, 4, 5, 6, 1, 0] rfl (hb_6 q_fu a1 a2 a3 a4 (-1) 0)
set_option maxHeartbeats 4000000 in
set_option maxRecDepth 100000 in
theorem c_X12_hungMany (l : Launch) (K : q_KK) (M : q_MM) : ∀ res, f_X12_hungMany M = some res → Mt l yX12_hungMany cX12_hungMany 3 (some FieldType.int) 1 20 0 0 false K [.ref 1] (qTM, qLM, qPM, M) (some (.int res)) ((qTM, qLM, qPM, M)) := by
  refine Mt.of (fun res => some (.int res)) (fun _ => (qTM, qLM, qPM, M)) (by decide) (Nat.le_of_ble_eq_true rfl) ?_
  intro p e s m args below meth c0 A ad X hN
  have hb_28 : ∀ (k4 : Int32 → Int32 → Option (Int32)) (hk4 : ∀ (x1 : Int32) (x2 : Int32), GG p l e { frames := 1, cells := 0, slots := 0, locals := 20 } s m args below meth c0 K A (qTM, qLM, qPM, M) ad false 3 (fun res => MQ below (q_Qc K false ad (qTM, qLM, qPM, M) ((fun res => some (.int res)) res) ((fun _ => (qTM, qLM, qPM, M)) res) A) args s 0 0 A) (k4 x1 x2) 4 [(0, .ref 1), (1, .int x1), (2, .int x2)] [] (qTM, qLM, qPM, M) 0 0) (x2 : Int32) (s0 : Int32) (s1 : Int32), GG p l e { frames := 1, cells := 0, slots := 0, locals := 20 } s m args below meth c0 K A (qTM, qLM, qPM, M) ad false 3 (fun res => MQ below (q_Qc K false ad (qTM, qLM, qPM, M) ((fun res => some (.int res)) res) ((fun _ => (qTM, qLM, qPM, M)) res) A) args s 0 0 A) (b_X12_hungMany_28 M k4 x2 s0 s1) 28 [(0, .ref 1), (2, .int x2)] [.int s0, .int s1] (qTM, qLM, qPM, M) 0 0 := by
    intro k4 hk4 x2 s0 s1
    unfold b_X12_hungMany_28
    refine g_bSi (As := [.int s0]) (rest := [.int s1]) X (c_X12_truth l K M s0) lk_X12_268 rfl rfl (Nat.le_of_ble_eq_true rfl) ⟨Nat.le_of_ble_eq_true rfl, Nat.le_of_ble_eq_true rfl⟩ ⟨Nat.zero_le _, Nat.zero_le _⟩ dX12_hungMany_28 (fun r1 => ?_)
    refine g_iadd X dX12_hungMany_31 ?_
    refine g_isn X (fun v2 => [(1, .int v2), (0, .ref 1), (2, .int x2)]) dX12_hungMany_32 rfl (by decide) (fun _ => rfl) (fun v2 => ?_)
    refine g_iinc (v := 1) X [(2, .int (x2 + 1)), (1, .int v2), (0, .ref 1)] 2 dX12_hungMany_33 rfl (by decide) (by decide) rfl ?_
    refine g_goto X 4 dX12_hungMany_36 rfl ?_
    exact g_sub [2, 1, 0] rfl (hk4 v2 (x2 + 1))
  have hb_4 : ∀ (nf : Nat) (x1 : Int32) (x2 : Int32), GG p l e { frames := 1, cells := 0, slots := 0, locals := 20 } s m args below meth c0 K A (qTM, qLM, qPM, M) ad false 3 (fun res => MQ below (q_Qc K false ad (qTM, qLM, qPM, M) ((fun res => some (.int res)) res) ((fun _ => (qTM, qLM, qPM, M)) res) A) args s 0 0 A) (b_X12_hungMany_4 M nf x1 x2) 4 [(0, .ref 1), (1, .int x1), (2, .int x2)] [] (qTM, qLM, qPM, M) 0 0 := by
    intro  nf
    induction nf with
    | zero => intros; exact g_stop
    | succ nf ih =>
      intro x1 x2
      rw [b_X12_hungMany_4]
      refine g_iload_n X dX12_hungMany_4 rfl 2 rfl ?_
      refine g_aload_n X dX12_hungMany_5 rfl 0 rfl ?_
      refine g_geti X fa_X12_108 rfl dX12_hungMany_6 ?_
      refine g_icmp_ge X 39 dX12_hungMany_9 rfl (fun h3 => ?_) (fun h3 => ?_)
      · refine g_iload_n X dX12_hungMany_39 rfl 1 rfl ?_
        exact g_iret X rfl rfl rfl dX12_hungMany_40
      · refine g_iload_n X dX12_hungMany_12 rfl 1 rfl ?_
        refine g_aload_n X dX12_hungMany_13 rfl 0 rfl ?_
        refine g_getr X fa_X12_170 rfl rfl dX12_hungMany_14 ?_
        refine g_iload_n X dX12_hungMany_17 rfl 2 rfl ?_
        refine g_ild X rfl rfl dX12_hungMany_18 (fun v4 => ?_)
        refine g_iconst (v := 1) X dX12_hungMany_19 (by decide) ?_
        refine g_icmp_ne X 27 dX12_hungMany_20 rfl (fun h5 => ?_) (fun h5 => ?_)
        · refine g_iconst (v := 1) X dX12_hungMany_23 (by decide) ?_
          refine g_goto X 28 dX12_hungMany_24 rfl ?_
          exact g_sub [0, 2] rfl (hb_28 (b_X12_hungMany_4 M nf) ih x2 1 x1)
        · refine g_iconst (v := 0) X dX12_hungMany_27 (by decide) ?_
          exact g_sub [0, 2] rfl (hb_28 (b_X12_hungMany_4 M nf) ih x2 0 x1)
  refine g_sub (lv' := [(0, .ref 1)]) [0] rfl ?_
  unfold f_X12_hungMany
  refine g_iconst (v := 0) X dX12_hungMany_0 (by decide) ?_
  refine g_istore_n X [(1, .int 0), (0, .ref 1)] dX12_hungMany_1 rfl (by decide) rfl ?_
  refine g_iconst (v := 0) X dX12_hungMany_2 (by decide) ?_
  refine g_istore_n X [(2, .int 0), (1, .int 0), (0, .ref 1)] dX12_hungMany_3 rfl (by decide) rfl ?_
  exact g_sub [2, 1, 0] rfl (hb_4 q_fu 0 0)
