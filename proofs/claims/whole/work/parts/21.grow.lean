/-! ArrayList.add, Arrays.copyOf (made by tool/grow.py out of tool/grow.body.txt) -/
theorem dJ8_newLength_cabcc_0 : decode cJ8_newLength_cabcc 0 = .ok (.iload_n 0, 1) := by decide +kernel
theorem dJ8_newLength_cabcc_1 : decode cJ8_newLength_cabcc 1 = .ok (.iload_n 1, 1) := by decide +kernel
theorem dJ8_newLength_cabcc_2 : decode cJ8_newLength_cabcc 2 = .ok (.iload_n 2, 1) := by decide +kernel
theorem dJ8_newLength_cabcc_3 : decode cJ8_newLength_cabcc 3 = .ok (.invokestatic 194, 3) := by decide +kernel
theorem dJ8_newLength_cabcc_6 : decode cJ8_newLength_cabcc 6 = .ok (.iadd, 1) := by decide +kernel
theorem dJ8_newLength_cabcc_7 : decode cJ8_newLength_cabcc 7 = .ok (.istore_n 3, 1) := by decide +kernel
theorem dJ8_newLength_cabcc_8 : decode cJ8_newLength_cabcc 8 = .ok (.iconst 0, 1) := by decide +kernel
theorem dJ8_newLength_cabcc_9 : decode cJ8_newLength_cabcc 9 = .ok (.iload_n 3, 1) := by decide +kernel
theorem dJ8_newLength_cabcc_10 : decode cJ8_newLength_cabcc 10 = .ok (.if_icmp .ge 11, 3) := by decide +kernel
theorem dJ8_newLength_cabcc_13 : decode cJ8_newLength_cabcc 13 = .ok (.iload_n 3, 1) := by decide +kernel
theorem dJ8_newLength_cabcc_14 : decode cJ8_newLength_cabcc 14 = .ok (.ldc 200, 2) := by decide +kernel
theorem dJ8_newLength_cabcc_16 : decode cJ8_newLength_cabcc 16 = .ok (.if_icmp .gt 5, 3) := by decide +kernel
theorem dJ8_newLength_cabcc_19 : decode cJ8_newLength_cabcc 19 = .ok (.iload_n 3, 1) := by decide +kernel
theorem dJ8_newLength_cabcc_20 : decode cJ8_newLength_cabcc 20 = .ok (.ireturn, 1) := by decide +kernel
theorem dJ8_newLength_cabcc_21 : decode cJ8_newLength_cabcc 21 = .ok (.iload_n 0, 1) := by decide +kernel
theorem dJ8_newLength_cabcc_22 : decode cJ8_newLength_cabcc 22 = .ok (.iload_n 1, 1) := by decide +kernel
theorem dJ8_newLength_cabcc_23 : decode cJ8_newLength_cabcc 23 = .ok (.invokestatic 201, 3) := by decide +kernel
theorem dJ8_newLength_cabcc_26 : decode cJ8_newLength_cabcc 26 = .ok (.ireturn, 1) := by decide +kernel
theorem dJ7_copyOf_6403c_0 : decode cJ7_copyOf_6403c 0 = .ok (.aload_n 2, 1) := by decide +kernel
theorem dJ7_copyOf_6403c_1 : decode cJ7_copyOf_6403c 1 = .ok (.ldc 110, 2) := by decide +kernel
theorem dJ7_copyOf_6403c_3 : decode cJ7_copyOf_6403c 3 = .ok (.if_acmp .ne 10, 3) := by decide +kernel
theorem dJ7_copyOf_6403c_6 : decode cJ7_copyOf_6403c 6 = .ok (.iload_n 1, 1) := by decide +kernel
theorem dJ7_copyOf_6403c_7 : decode cJ7_copyOf_6403c 7 = .ok (.anewarray 2, 3) := by decide +kernel
theorem dJ7_copyOf_6403c_10 : decode cJ7_copyOf_6403c 10 = .ok (.goto 14, 3) := by decide +kernel
theorem dJ7_copyOf_6403c_13 : decode cJ7_copyOf_6403c 13 = .ok (.aload_n 2, 1) := by decide +kernel
theorem dJ7_copyOf_6403c_14 : decode cJ7_copyOf_6403c 14 = .ok (.invokevirtual 90, 3) := by decide +kernel
theorem dJ7_copyOf_6403c_17 : decode cJ7_copyOf_6403c 17 = .ok (.iload_n 1, 1) := by decide +kernel
theorem dJ7_copyOf_6403c_18 : decode cJ7_copyOf_6403c 18 = .ok (.invokestatic 95, 3) := by decide +kernel
theorem dJ7_copyOf_6403c_21 : decode cJ7_copyOf_6403c 21 = .ok (.checkcast 110, 3) := by decide +kernel
theorem dJ7_copyOf_6403c_24 : decode cJ7_copyOf_6403c 24 = .ok (.astore_n 3, 1) := by decide +kernel
theorem dJ7_copyOf_6403c_25 : decode cJ7_copyOf_6403c 25 = .ok (.aload_n 0, 1) := by decide +kernel
theorem dJ7_copyOf_6403c_26 : decode cJ7_copyOf_6403c 26 = .ok (.iconst 0, 1) := by decide +kernel
theorem dJ7_copyOf_6403c_27 : decode cJ7_copyOf_6403c 27 = .ok (.aload_n 3, 1) := by decide +kernel
theorem dJ7_copyOf_6403c_28 : decode cJ7_copyOf_6403c 28 = .ok (.iconst 0, 1) := by decide +kernel
theorem dJ7_copyOf_6403c_29 : decode cJ7_copyOf_6403c 29 = .ok (.aload_n 0, 1) := by decide +kernel
theorem dJ7_copyOf_6403c_30 : decode cJ7_copyOf_6403c 30 = .ok (.arraylength, 1) := by decide +kernel
theorem dJ7_copyOf_6403c_31 : decode cJ7_copyOf_6403c 31 = .ok (.iload_n 1, 1) := by decide +kernel
theorem dJ7_copyOf_6403c_32 : decode cJ7_copyOf_6403c 32 = .ok (.invokestatic 304, 3) := by decide +kernel
theorem dJ7_copyOf_6403c_35 : decode cJ7_copyOf_6403c 35 = .ok (.invokestatic 150, 3) := by decide +kernel
theorem dJ7_copyOf_6403c_38 : decode cJ7_copyOf_6403c 38 = .ok (.aload_n 3, 1) := by decide +kernel
theorem dJ7_copyOf_6403c_39 : decode cJ7_copyOf_6403c 39 = .ok (.areturn, 1) := by decide +kernel
theorem dJ7_copyOf_1904c_0 : decode cJ7_copyOf_1904c 0 = .ok (.aload_n 0, 1) := by decide +kernel
theorem dJ7_copyOf_1904c_1 : decode cJ7_copyOf_1904c 1 = .ok (.iload_n 1, 1) := by decide +kernel
theorem dJ7_copyOf_1904c_2 : decode cJ7_copyOf_1904c 2 = .ok (.aload_n 0, 1) := by decide +kernel
theorem dJ7_copyOf_1904c_3 : decode cJ7_copyOf_1904c 3 = .ok (.invokevirtual 86, 3) := by decide +kernel
theorem dJ7_copyOf_1904c_6 : decode cJ7_copyOf_1904c 6 = .ok (.invokestatic 300, 3) := by decide +kernel
theorem dJ7_copyOf_1904c_9 : decode cJ7_copyOf_1904c 9 = .ok (.areturn, 1) := by decide +kernel
theorem dJx4a65c_grow_92f84_0 : decode cJx4a65c_grow_92f84 0 = .ok (.aload_n 0, 1) := by decide +kernel
theorem dJx4a65c_grow_92f84_1 : decode cJx4a65c_grow_92f84 1 = .ok (.getfield 9, 3) := by decide +kernel
theorem dJx4a65c_grow_92f84_4 : decode cJx4a65c_grow_92f84 4 = .ok (.arraylength, 1) := by decide +kernel
theorem dJx4a65c_grow_92f84_5 : decode cJx4a65c_grow_92f84 5 = .ok (.istore_n 2, 1) := by decide +kernel
theorem dJx4a65c_grow_92f84_6 : decode cJx4a65c_grow_92f84 6 = .ok (.iload_n 2, 1) := by decide +kernel
theorem dJx4a65c_grow_92f84_7 : decode cJx4a65c_grow_92f84 7 = .ok (.ifCond .gt 13, 3) := by decide +kernel
theorem dJx4a65c_grow_92f84_10 : decode cJx4a65c_grow_92f84 10 = .ok (.aload_n 0, 1) := by decide +kernel
theorem dJx4a65c_grow_92f84_11 : decode cJx4a65c_grow_92f84 11 = .ok (.getfield 9, 3) := by decide +kernel
theorem dJx4a65c_grow_92f84_14 : decode cJx4a65c_grow_92f84 14 = .ok (.getstatic 39, 3) := by decide +kernel
theorem dJx4a65c_grow_92f84_17 : decode cJx4a65c_grow_92f84 17 = .ok (.if_acmp .eq 28, 3) := by decide +kernel
theorem dJx4a65c_grow_92f84_20 : decode cJx4a65c_grow_92f84 20 = .ok (.iload_n 2, 1) := by decide +kernel
theorem dJx4a65c_grow_92f84_21 : decode cJx4a65c_grow_92f84 21 = .ok (.iload_n 1, 1) := by decide +kernel
theorem dJx4a65c_grow_92f84_22 : decode cJx4a65c_grow_92f84 22 = .ok (.iload_n 2, 1) := by decide +kernel
theorem dJx4a65c_grow_92f84_23 : decode cJx4a65c_grow_92f84 23 = .ok (.isub, 1) := by decide +kernel
theorem dJx4a65c_grow_92f84_24 : decode cJx4a65c_grow_92f84 24 = .ok (.iload_n 2, 1) := by decide +kernel
theorem dJx4a65c_grow_92f84_25 : decode cJx4a65c_grow_92f84 25 = .ok (.iconst 1, 1) := by decide +kernel
theorem dJx4a65c_grow_92f84_26 : decode cJx4a65c_grow_92f84 26 = .ok (.ishr, 1) := by decide +kernel
theorem dJx4a65c_grow_92f84_27 : decode cJx4a65c_grow_92f84 27 = .ok (.invokestatic 73, 3) := by decide +kernel
theorem dJx4a65c_grow_92f84_30 : decode cJx4a65c_grow_92f84 30 = .ok (.istore_n 3, 1) := by decide +kernel
theorem dJx4a65c_grow_92f84_31 : decode cJx4a65c_grow_92f84 31 = .ok (.aload_n 0, 1) := by decide +kernel
theorem dJx4a65c_grow_92f84_32 : decode cJx4a65c_grow_92f84 32 = .ok (.aload_n 0, 1) := by decide +kernel
theorem dJx4a65c_grow_92f84_33 : decode cJx4a65c_grow_92f84 33 = .ok (.getfield 9, 3) := by decide +kernel
theorem dJx4a65c_grow_92f84_36 : decode cJx4a65c_grow_92f84 36 = .ok (.iload_n 3, 1) := by decide +kernel
theorem dJx4a65c_grow_92f84_37 : decode cJx4a65c_grow_92f84 37 = .ok (.invokestatic 66, 3) := by decide +kernel
theorem dJx4a65c_grow_92f84_40 : decode cJx4a65c_grow_92f84 40 = .ok (.dup_x1, 1) := by decide +kernel
theorem dJx4a65c_grow_92f84_41 : decode cJx4a65c_grow_92f84 41 = .ok (.putfield 9, 3) := by decide +kernel
theorem dJx4a65c_grow_92f84_44 : decode cJx4a65c_grow_92f84 44 = .ok (.areturn, 1) := by decide +kernel
theorem dJx4a65c_grow_92f84_45 : decode cJx4a65c_grow_92f84 45 = .ok (.aload_n 0, 1) := by decide +kernel
theorem dJx4a65c_grow_92f84_46 : decode cJx4a65c_grow_92f84 46 = .ok (.bipush 10, 2) := by decide +kernel
theorem dJx4a65c_grow_92f84_48 : decode cJx4a65c_grow_92f84 48 = .ok (.iload_n 1, 1) := by decide +kernel
theorem dJx4a65c_grow_92f84_49 : decode cJx4a65c_grow_92f84 49 = .ok (.invokestatic 79, 3) := by decide +kernel
theorem dJx4a65c_grow_92f84_52 : decode cJx4a65c_grow_92f84 52 = .ok (.anewarray 7, 3) := by decide +kernel
theorem dJx4a65c_grow_92f84_55 : decode cJx4a65c_grow_92f84 55 = .ok (.dup_x1, 1) := by decide +kernel
theorem dJx4a65c_grow_92f84_56 : decode cJx4a65c_grow_92f84 56 = .ok (.putfield 9, 3) := by decide +kernel
theorem dJx4a65c_grow_92f84_59 : decode cJx4a65c_grow_92f84 59 = .ok (.areturn, 1) := by decide +kernel
theorem dJx4a65c_grow_d5877_0 : decode cJx4a65c_grow_d5877 0 = .ok (.aload_n 0, 1) := by decide +kernel
theorem dJx4a65c_grow_d5877_1 : decode cJx4a65c_grow_d5877 1 = .ok (.aload_n 0, 1) := by decide +kernel
theorem dJx4a65c_grow_d5877_2 : decode cJx4a65c_grow_d5877 2 = .ok (.getfield 48, 3) := by decide +kernel
theorem dJx4a65c_grow_d5877_5 : decode cJx4a65c_grow_d5877 5 = .ok (.iconst 1, 1) := by decide +kernel
theorem dJx4a65c_grow_d5877_6 : decode cJx4a65c_grow_d5877 6 = .ok (.iadd, 1) := by decide +kernel
theorem dJx4a65c_grow_d5877_7 : decode cJx4a65c_grow_d5877 7 = .ok (.invokevirtual 69, 3) := by decide +kernel
theorem dJx4a65c_grow_d5877_10 : decode cJx4a65c_grow_d5877 10 = .ok (.areturn, 1) := by decide +kernel
theorem dJx4a65c_add_72be8_0 : decode cJx4a65c_add_72be8 0 = .ok (.iload_n 3, 1) := by decide +kernel
theorem dJx4a65c_add_72be8_1 : decode cJx4a65c_add_72be8 1 = .ok (.aload_n 2, 1) := by decide +kernel
theorem dJx4a65c_add_72be8_2 : decode cJx4a65c_add_72be8 2 = .ok (.arraylength, 1) := by decide +kernel
theorem dJx4a65c_add_72be8_3 : decode cJx4a65c_add_72be8 3 = .ok (.if_icmp .ne 8, 3) := by decide +kernel
theorem dJx4a65c_add_72be8_6 : decode cJx4a65c_add_72be8 6 = .ok (.aload_n 0, 1) := by decide +kernel
theorem dJx4a65c_add_72be8_7 : decode cJx4a65c_add_72be8 7 = .ok (.invokevirtual 129, 3) := by decide +kernel
theorem dJx4a65c_add_72be8_10 : decode cJx4a65c_add_72be8 10 = .ok (.astore_n 2, 1) := by decide +kernel
theorem dJx4a65c_add_72be8_11 : decode cJx4a65c_add_72be8 11 = .ok (.aload_n 2, 1) := by decide +kernel
theorem dJx4a65c_add_72be8_12 : decode cJx4a65c_add_72be8 12 = .ok (.iload_n 3, 1) := by decide +kernel
theorem dJx4a65c_add_72be8_13 : decode cJx4a65c_add_72be8 13 = .ok (.aload_n 1, 1) := by decide +kernel
theorem dJx4a65c_add_72be8_14 : decode cJx4a65c_add_72be8 14 = .ok (.aastore, 1) := by decide +kernel
theorem dJx4a65c_add_72be8_15 : decode cJx4a65c_add_72be8 15 = .ok (.aload_n 0, 1) := by decide +kernel
theorem dJx4a65c_add_72be8_16 : decode cJx4a65c_add_72be8 16 = .ok (.iload_n 3, 1) := by decide +kernel
theorem dJx4a65c_add_72be8_17 : decode cJx4a65c_add_72be8 17 = .ok (.iconst 1, 1) := by decide +kernel
theorem dJx4a65c_add_72be8_18 : decode cJx4a65c_add_72be8 18 = .ok (.iadd, 1) := by decide +kernel
theorem dJx4a65c_add_72be8_19 : decode cJx4a65c_add_72be8 19 = .ok (.putfield 48, 3) := by decide +kernel
theorem dJx4a65c_add_72be8_22 : decode cJx4a65c_add_72be8 22 = .ok (.return_, 1) := by decide +kernel
theorem dJx4a65c_add_9ea2d_0 : decode cJx4a65c_add_9ea2d 0 = .ok (.aload_n 0, 1) := by decide +kernel
theorem dJx4a65c_add_9ea2d_1 : decode cJx4a65c_add_9ea2d 1 = .ok (.dup, 1) := by decide +kernel
theorem dJx4a65c_add_9ea2d_2 : decode cJx4a65c_add_9ea2d 2 = .ok (.getfield 63, 3) := by decide +kernel
theorem dJx4a65c_add_9ea2d_5 : decode cJx4a65c_add_9ea2d 5 = .ok (.iconst 1, 1) := by decide +kernel
theorem dJx4a65c_add_9ea2d_6 : decode cJx4a65c_add_9ea2d 6 = .ok (.iadd, 1) := by decide +kernel
theorem dJx4a65c_add_9ea2d_7 : decode cJx4a65c_add_9ea2d 7 = .ok (.putfield 63, 3) := by decide +kernel
theorem dJx4a65c_add_9ea2d_10 : decode cJx4a65c_add_9ea2d 10 = .ok (.aload_n 0, 1) := by decide +kernel
theorem dJx4a65c_add_9ea2d_11 : decode cJx4a65c_add_9ea2d 11 = .ok (.aload_n 1, 1) := by decide +kernel
theorem dJx4a65c_add_9ea2d_12 : decode cJx4a65c_add_9ea2d 12 = .ok (.aload_n 0, 1) := by decide +kernel
theorem dJx4a65c_add_9ea2d_13 : decode cJx4a65c_add_9ea2d 13 = .ok (.getfield 9, 3) := by decide +kernel
theorem dJx4a65c_add_9ea2d_16 : decode cJx4a65c_add_9ea2d 16 = .ok (.aload_n 0, 1) := by decide +kernel
theorem dJx4a65c_add_9ea2d_17 : decode cJx4a65c_add_9ea2d 17 = .ok (.getfield 48, 3) := by decide +kernel
theorem dJx4a65c_add_9ea2d_20 : decode cJx4a65c_add_9ea2d 20 = .ok (.invokevirtual 131, 3) := by decide +kernel
theorem dJx4a65c_add_9ea2d_23 : decode cJx4a65c_add_9ea2d 23 = .ok (.iconst 1, 1) := by decide +kernel
theorem dJx4a65c_add_9ea2d_24 : decode cJx4a65c_add_9ea2d 24 = .ok (.ireturn, 1) := by decide +kernel
theorem dJ7_copyOf_59c91_0 : decode cJ7_copyOf_59c91 0 = .ok (.iload_n 1, 1) := by decide +kernel
theorem dJ7_copyOf_59c91_1 : decode cJ7_copyOf_59c91 1 = .ok (.aload_n 0, 1) := by decide +kernel
theorem dJ7_copyOf_59c91_2 : decode cJ7_copyOf_59c91 2 = .ok (.arraylength, 1) := by decide +kernel
theorem dJ7_copyOf_59c91_3 : decode cJ7_copyOf_59c91 3 = .ok (.if_icmp .ne 11, 3) := by decide +kernel
theorem dJ7_copyOf_59c91_6 : decode cJ7_copyOf_59c91 6 = .ok (.aload_n 0, 1) := by decide +kernel
theorem dJ7_copyOf_59c91_7 : decode cJ7_copyOf_59c91 7 = .ok (.invokevirtual 316, 3) := by decide +kernel
theorem dJ7_copyOf_59c91_10 : decode cJ7_copyOf_59c91 10 = .ok (.checkcast 317, 3) := by decide +kernel
theorem dJ7_copyOf_59c91_13 : decode cJ7_copyOf_59c91 13 = .ok (.areturn, 1) := by decide +kernel
theorem dJ7_copyOf_59c91_14 : decode cJ7_copyOf_59c91 14 = .ok (.iload_n 1, 1) := by decide +kernel
theorem dJ7_copyOf_59c91_15 : decode cJ7_copyOf_59c91 15 = .ok (.newarray .int, 2) := by decide +kernel
theorem dJ7_copyOf_59c91_17 : decode cJ7_copyOf_59c91 17 = .ok (.astore_n 2, 1) := by decide +kernel
theorem dJ7_copyOf_59c91_18 : decode cJ7_copyOf_59c91 18 = .ok (.aload_n 0, 1) := by decide +kernel
theorem dJ7_copyOf_59c91_19 : decode cJ7_copyOf_59c91 19 = .ok (.iconst 0, 1) := by decide +kernel
theorem dJ7_copyOf_59c91_20 : decode cJ7_copyOf_59c91 20 = .ok (.aload_n 2, 1) := by decide +kernel
theorem dJ7_copyOf_59c91_21 : decode cJ7_copyOf_59c91 21 = .ok (.iconst 0, 1) := by decide +kernel
theorem dJ7_copyOf_59c91_22 : decode cJ7_copyOf_59c91 22 = .ok (.aload_n 0, 1) := by decide +kernel
theorem dJ7_copyOf_59c91_23 : decode cJ7_copyOf_59c91 23 = .ok (.arraylength, 1) := by decide +kernel
theorem dJ7_copyOf_59c91_24 : decode cJ7_copyOf_59c91 24 = .ok (.iload_n 1, 1) := by decide +kernel
theorem dJ7_copyOf_59c91_25 : decode cJ7_copyOf_59c91 25 = .ok (.invokestatic 304, 3) := by decide +kernel
theorem dJ7_copyOf_59c91_28 : decode cJ7_copyOf_59c91 28 = .ok (.invokestatic 150, 3) := by decide +kernel
theorem dJ7_copyOf_59c91_31 : decode cJ7_copyOf_59c91 31 = .ok (.aload_n 2, 1) := by decide +kernel
theorem dJ7_copyOf_59c91_32 : decode cJ7_copyOf_59c91 32 = .ok (.areturn, 1) := by decide +kernel
theorem lk_Jx4a65c_66 : q_LS RJx4a65c 66 yJ7_copyOf_1904c cJ7_copyOf_1904c 2 (some (FieldType.array (FieldType.object "java/lang/Object"))) 2 := ⟨q_wd 526 (by decide +kernel) (by decide +kernel), q_wd 527 (by decide +kernel) (by decide +kernel), q_wd 97 (by decide +kernel) (by decide +kernel), q_wd 528 (by decide +kernel) (by decide +kernel), ⟨by decide +kernel, by decide +kernel⟩, by decide +kernel⟩
theorem lk_Jx4a65c_73 : q_LS RJx4a65c 73 yJ8_newLength_cabcc cJ8_newLength_cabcc 4 (some FieldType.int) 3 := ⟨q_wd 516 (by decide +kernel) (by decide +kernel), q_wd 517 (by decide +kernel) (by decide +kernel), q_wd 109 (by decide +kernel) (by decide +kernel), q_wd 518 (by decide +kernel) (by decide +kernel), ⟨by decide +kernel, by decide +kernel⟩, by decide +kernel⟩
theorem lk_J7_300 : q_LS RJ7 300 yJ7_copyOf_6403c cJ7_copyOf_6403c 4 (some (FieldType.array (FieldType.object "java/lang/Object"))) 3 := ⟨q_wd 548 (by decide +kernel) (by decide +kernel), q_wd 549 (by decide +kernel) (by decide +kernel), q_wd 97 (by decide +kernel) (by decide +kernel), q_wd 550 (by decide +kernel) (by decide +kernel), ⟨by decide +kernel, by decide +kernel⟩, by decide +kernel⟩
theorem lk_Jx4a65c_69 : q_LV RJx4a65c 69 13 yJx4a65c_grow_92f84 cJx4a65c_grow_92f84 4 (some (FieldType.array (FieldType.object "java/lang/Object"))) 1 := ⟨⟨RJx4a65c, TJx4a65c, 3, rfl, rfl⟩, q_wd 512 (by decide +kernel) (by decide +kernel), q_wd 514 (by decide +kernel) (by decide +kernel), q_wd 2 (by decide +kernel) (by decide +kernel), q_wd 95 (by decide +kernel) (by decide +kernel), q_wd 515 (by decide +kernel) (by decide +kernel), ⟨by decide +kernel, by decide +kernel⟩, by decide +kernel⟩
theorem lk_Jx4a65c_129 : q_LV RJx4a65c 129 13 yJx4a65c_grow_d5877 cJx4a65c_grow_d5877 1 (some (FieldType.array (FieldType.object "java/lang/Object"))) 0 := ⟨⟨RJx4a65c, TJx4a65c, 3, rfl, rfl⟩, q_wd 508 (by decide +kernel) (by decide +kernel), q_wd 510 (by decide +kernel) (by decide +kernel), q_wd 1 (by decide +kernel) (by decide +kernel), q_wd 95 (by decide +kernel) (by decide +kernel), q_wd 511 (by decide +kernel) (by decide +kernel), ⟨by decide +kernel, by decide +kernel⟩, by decide +kernel⟩
theorem lk_Jx4a65c_131 : q_LV RJx4a65c 131 13 yJx4a65c_add_72be8 cJx4a65c_add_72be8 4 (none : Option FieldType) 3 := ⟨⟨RJx4a65c, TJx4a65c, 3, rfl, rfl⟩, q_wd 504 (by decide +kernel) (by decide +kernel), q_wd 506 (by decide +kernel) (by decide +kernel), q_wd 0 (by decide +kernel) (by decide +kernel), q_wd 95 (by decide +kernel) (by decide +kernel), q_wd 507 (by decide +kernel) (by decide +kernel), ⟨by decide +kernel, by decide +kernel⟩, by decide +kernel⟩
theorem lk_J7_150 : Cond.methodLink RJ7 150 arraycopyName ∈ q_gtb ∧ Cond.native arraycopyName ∈ q_gtb ∧ Cond.static arraycopyName ∈ q_gtb ∧ Cond.initialized "java/lang/System" ∈ q_gtb := ⟨q_wd 555 (by decide +kernel) (by decide +kernel), q_wd 557 (by decide +kernel) (by decide +kernel), q_wd 556 (by decide +kernel) (by decide +kernel), q_wd 110 (by decide +kernel) (by decide +kernel)⟩
theorem lk_J8_194 : Cond.methodLink RJ8 194 Lib.Math.max.name ∈ q_gtb ∧ Cond.static Lib.Math.max.name ∈ q_gtb ∧ Cond.initialized "java/lang/Math" ∈ q_gtb ∧ Cond.code Lib.Math.max.name Lib.Math.max.code 2 (some .int) ∈ q_gtb := ⟨q_wd 519 (by decide +kernel) (by decide +kernel), q_wd 520 (by decide +kernel) (by decide +kernel), q_wd 107 (by decide +kernel) (by decide +kernel), q_wd 521 (by decide +kernel) (by decide +kernel)⟩
theorem lk_Jx4a65c_79 : Cond.methodLink RJx4a65c 79 Lib.Math.max.name ∈ q_gtb ∧ Cond.static Lib.Math.max.name ∈ q_gtb ∧ Cond.initialized "java/lang/Math" ∈ q_gtb ∧ Cond.code Lib.Math.max.name Lib.Math.max.code 2 (some .int) ∈ q_gtb := ⟨q_wd 558 (by decide +kernel) (by decide +kernel), q_wd 520 (by decide +kernel) (by decide +kernel), q_wd 107 (by decide +kernel) (by decide +kernel), q_wd 521 (by decide +kernel) (by decide +kernel)⟩
theorem lk_J7_304 : Cond.methodLink RJ7 304 Lib.Math.min.name ∈ q_gtb ∧ Cond.static Lib.Math.min.name ∈ q_gtb ∧ Cond.initialized "java/lang/Math" ∈ q_gtb ∧ Cond.code Lib.Math.min.name Lib.Math.min.code 2 (some .int) ∈ q_gtb := ⟨q_wd 554 (by decide +kernel) (by decide +kernel), q_wd 465 (by decide +kernel) (by decide +kernel), q_wd 107 (by decide +kernel) (by decide +kernel), q_wd 466 (by decide +kernel) (by decide +kernel)⟩
theorem wc_J8_200 : Cond.constant RJ8 200 2147483639 ∈ q_gtb := q_wd 522 (by decide +kernel) (by decide +kernel)
theorem lk_J7_86 : Cond.methodLink RJ7 86 ⟨"java/lang/Object", "getClass", "()Ljava/lang/Class;"⟩ ∈ q_gtb ∧ Cond.selects "[Ljava/lang/Object;" ⟨"java/lang/Object", "getClass", "()Ljava/lang/Class;"⟩ ⟨"java/lang/Object", "getClass", "()Ljava/lang/Class;"⟩ ∈ q_gtb ∧ Cond.instanceMethod ⟨"java/lang/Object", "getClass", "()Ljava/lang/Class;"⟩ ∈ q_gtb ∧ Cond.native ⟨"java/lang/Object", "getClass", "()Ljava/lang/Class;"⟩ ∈ q_gtb := ⟨q_wd 529 (by decide +kernel) (by decide +kernel), q_wd 2161 (by decide +kernel) (by decide +kernel), q_wd 530 (by decide +kernel) (by decide +kernel), q_wd 547 (by decide +kernel) (by decide +kernel)⟩
theorem wl_J7_110 : Cond.classLink RJ7 110 "[Ljava/lang/Object;" ∈ q_gtb := q_wd 551 (by decide +kernel) (by decide +kernel)
theorem wl_J7_2 : Cond.classLink RJ7 2 "java/lang/Object" ∈ q_gtb := q_wd 553 (by decide +kernel) (by decide +kernel)
theorem wl_J7_317 : Cond.classLink RJ7 317 "[I" ∈ q_gtb := q_wd 912 (by decide +kernel) (by decide +kernel)
theorem wl_Jx4a65c_7 : Cond.classLink RJx4a65c 7 "java/lang/Object" ∈ q_gtb := q_wd 559 (by decide +kernel) (by decide +kernel)
theorem lk_J7_316 : Cond.methodLink RJ7 316 ⟨"[I", "clone", "()Ljava/lang/Object;"⟩ ∈ q_gtb ∧ Cond.sameMethod "[I" "java/lang/Object" "clone" "()Ljava/lang/Object;" ∈ q_gtb ∧ Cond.native ⟨"java/lang/Object", "clone", "()Ljava/lang/Object;"⟩ ∈ q_gtb ∧ Cond.instanceMethod ⟨"java/lang/Object", "clone", "()Ljava/lang/Object;"⟩ ∈ q_gtb ∧ Cond.selects "[I" ⟨"[I", "clone", "()Ljava/lang/Object;"⟩ ⟨"java/lang/Object", "clone", "()Ljava/lang/Object;"⟩ ∈ q_gtb := ⟨q_wd 906 (by decide +kernel) (by decide +kernel), q_wd 907 (by decide +kernel) (by decide +kernel), q_wd 908 (by decide +kernel) (by decide +kernel), q_wd 909 (by decide +kernel) (by decide +kernel), q_wd 910 (by decide +kernel) (by decide +kernel)⟩
theorem fm_63 : Cond.fieldLink RJx4a65c 63 "java/util/ArrayList" "modCount" "I" ∈ q_gtb ∧ Cond.sameField "java/util/ArrayList" "java/util/AbstractList" "modCount" "I" ∈ q_gtb := ⟨q_wd 153 (by decide +kernel) (by decide +kernel), q_wd 154 (by decide +kernel) (by decide +kernel)⟩
section GGadd
variable {ρ : Type} {p : Program} {l : Launch} {e : Env} {R : Room} {s : State} {m : MethodId} {args : Array Value} {below : List Frame} {meth : Method} {c : Code} {K : q_KK} {A : Nat → Prop} {g0 : q_Mem} {ad0 : Nat → Nat} {al : Bool} {nL : Nat} {Q : ρ → State → Prop} {F F' : Option ρ} {pc : Nat} {lv lv' : List (Nat × Value)} {st rest As : List Value} {g g' : q_Mem} {kc kn : Nat} {cc : ByteArray} {own : String} {ret : Option FieldType}
variable {T : Nat → Nat} {L : Nat → Nat} {P : Nat → Nat → Nat} {M : Nat → Nat → Int32}
theorem g_dupx1 (X : q_X p s m args meth c K A ad0 nL cc own ret) {va vb : Value} (hd : decode cc pc = .ok (.dup_x1, 1)) (ha : va.category = 1) (hb : vb.category = 1)
    (kk : GG p l e R s m args below meth c K A g0 ad0 al nL Q F (pc + 1) lv (va :: vb :: va :: st) g kc kn) : GG p l e R s m args below meth c K A g0 ad0 al nL Q F pc lv (va :: vb :: st) g kc kn :=
  fun res hF ad H locs ls h1 h2 h3 h4 => lv_dup_x1 X.1 X.2.1 hd (by rw [q_tr_cat]; exact ha) (by rw [q_tr_cat]; exact hb) (kk res hF ad H locs ls h1 h2 h3 h4)
theorem q_tr_orf {ad : Nat → Nat} {x : Nat} : q_tr ad (.ref x) = va_rf (if x = 0 then none else some (ad x)) := by
  show q_rf ad x = _
  unfold q_rf
  split <;> rfl
theorem g_acmpeqT (X : q_X p s m args meth c K A ad0 nL cc own ret) {x : Nat} {off : Int} (tgt : Nat) (hd : decode cc pc = .ok (.if_acmp .eq off, 3)) (ht : (pc : Int) + off = (tgt : Int))
    (kk : GG p l e R s m args below meth c K A g0 ad0 al nL Q F tgt lv st g kc kn) : GG p l e R s m args below meth c K A g0 ad0 al nL Q F pc lv (.ref x :: .ref x :: st) g kc kn := by
  intro res hF ad H locs ls h1 h2 h3 h4
  have k := kk res hF ad H locs ls h1 h2 h3 h4
  rw [List.map_cons, List.map_cons, q_tr_orf]
  exact lv_acmp_eq X.1 X.2.1 hd ht (fun _ => k) (fun z => absurd rfl z)
theorem g_acmpneF (X : q_X p s m args meth c K A ad0 nL cc own ret) {x : Nat} {off : Int} (tgt : Nat) (hd : decode cc pc = .ok (.if_acmp .ne off, 3)) (ht : (pc : Int) + off = (tgt : Int))
    (kk : GG p l e R s m args below meth c K A g0 ad0 al nL Q F (pc + 3) lv st g kc kn) : GG p l e R s m args below meth c K A g0 ad0 al nL Q F pc lv (.ref x :: .ref x :: st) g kc kn := by
  intro res hF ad H locs ls h1 h2 h3 h4
  have k := kk res hF ad H locs ls h1 h2 h3 h4
  rw [List.map_cons, List.map_cons, q_tr_orf]
  exact lv_acmp_ne X.1 X.2.1 hd ht (fun z => absurd rfl z) (fun _ => k)
theorem g_alen0 (X : q_X p s m args meth c K A ad0 nL cc own ret) (hd : decode cc pc = .ok (.arraylength, 1))
    (kk : GG p l e R s m args below meth c K A g0 ad0 al nL Q F (pc + 1) lv (.int 0 :: st) g kc kn) : GG p l e R s m args below meth c K A g0 ad0 al nL Q F pc lv (.ref 940 :: st) g kc kn := by
  intro res hF ad H locs ls h1 h2 h3 h4
  have k := kk res hF ad H locs ls h1 h2 h3 h4
  have hs := X.2.2.2.2.2.2.2.2.2.2.2.2.2.1
  rw [List.map_cons, q_trne (by omega), h1.1 940 (Or.inr ⟨by decide, by decide⟩)]
  exact va_tlen X.1 X.2.1 hs h3 rfl hd k
theorem g_alenq (X : q_X p s m args meth c K A ad0 nL cc own ret) {o n : Nat} (hT : g.1 o = 3) (hL : g.2.1 o = n) (hd : decode cc pc = .ok (.arraylength, 1))
    (kk : GG p l e R s m args below meth c K A g0 ad0 al nL Q F (pc + 1) lv (.int (Int32.ofNat n) :: st) g kc kn) : GG p l e R s m args below meth c K A g0 ad0 al nL Q F pc lv (.ref o :: st) g kc kn := by
  intro res hF ad H locs ls h1 h2 h3 h4
  obtain ⟨h0, ws, q0, hP, hD, e, -⟩ := h2.at (o := o) (by omega)
  rw [q_cell_refs hT] at e
  rw [List.map_cons, q_trne h0]
  exact va_alen X.1 X.2.1 X.2.2.2.2.2.1 hP q0 2 e rfl (by rw [← hL]) hd (kk res hF ad H locs ls h1 h2 h3 h4)
theorem g_alenR (X : q_X p s m args meth c K A ad0 nL cc own ret) {o n : Nat} (h : o = 940 ∧ n = 0 ∨ g.1 o = 3 ∧ g.2.1 o = n) (hd : decode cc pc = .ok (.arraylength, 1))
    (kk : GG p l e R s m args below meth c K A g0 ad0 al nL Q F (pc + 1) lv (.int (Int32.ofNat n) :: st) g kc kn) : GG p l e R s m args below meth c K A g0 ad0 al nL Q F pc lv (.ref o :: st) g kc kn := by
  rcases h with ⟨rfl, rfl⟩ | ⟨hT, hL⟩
  · exact g_alen0 X hd kk
  · exact g_alenq X hT hL hd kk
theorem g_anew (X : q_X p s m args meth c K A ad0 nL cc own ret) {n : Int32} {idx : Nat} (o : Nat) (hW : Cond.classLink own idx "java/lang/Object" ∈ q_gtb) (hal : al = true) (h0 : o ≠ 0) (hst : ¬ q_st o) (hT : T o = 0) (hP : ∀ o', T o' ≠ 0 → ∀ k, P o' k ≠ o) (hlv : ∀ x ∈ lv, x.2 ≠ .ref o) (hsk : ∀ x ∈ st, x ≠ .ref o) (hn : ¬ n < 0) (hb : n.toNatClampNeg ≤ 100000) (hcells : kc + 1 ≤ R.cells) (hslots : kn + n.toNatClampNeg ≤ R.slots) (hd : decode cc pc = .ok (.anewarray idx, 3))
    (kk : GG p l e R s m args below meth c K A g0 ad0 al nL Q F (pc + 3) lv (.ref o :: st) (va_up T o 3, va_up L o n.toNatClampNeg, va_up P o (fun _ => 0), va_up M o (fun _ => 0)) (kc + 1) (kn + n.toNatClampNeg)) : GG p l e R s m args below meth c K A g0 ad0 al nL Q F pc lv (.int n :: st) (T, L, P, M) kc kn := by
  intro res hF ad H locs ls h1 h2 h3 h4
  obtain ⟨ids, hn1, hi, h0i, hPw, hD⟩ := h2
  refine va_newq (C := "java/lang/Object") X.1 X.2.1 X.2.2.2.1 (X.2.2.2.2.1 _ hW) X.2.2.2.2.2.2.2.2.2.2.2.2.2.2.1 X.2.2.2.2.2.1 hPw hD h3 X.2.2.2.2.2.2.1 hn rfl (by omega) hcells hslots hd (fun q cA H1 hK1 hP1 hD1 hS1 => ?_)
  have f1 := va_nmO (nm := "[" ++ (FieldType.object "java/lang/Object").toString) (hK1.2 4 (cA, .object "java/lang/Object") rfl).2 rfl
  have f2 := va_nmO (nm := "[" ++ (FieldType.object "java/lang/Object").toString) (X.2.2.2.2.2.1.2 2 (K.2.2.2.1, .object "java/lang/Object") rfl).2 rfl
  have f3 : cA = K.2.2.2.1 := Option.some.inj (f1.symm.trans f2)
  subst f3
  have k := kk res hF (va_up ad o q) H1 locs ls (h1.grow hal hst hT) (q_Wd.grow hn1 hi h0i (by decide) h0 hT hP (by
      rw [q_cell_refs (by simp [va_up])]
      simp [va_up]
      rfl) hP1 hD1) hS1 (by rw [q_lm_up hlv]; exact h4)
  rw [List.map_cons, q_st_up hsk, q_trne h0] at k
  have e1 : va_up ad o q o = q := by simp [va_up]
  rw [e1] at k
  exact k
theorem g_aast (X : q_X p s m args meth c K A ad0 nL cc own ret) {o v : Nat} {i : Int32} {n ci : Nat} {C : String} {Tt : u_T} {N : Nat} (hT : T o = 3) (hL : L o = n) (hv : T v = ci + 10) (hc : q_classes[ci]? = some (C, Tt, N)) (hcs : (C, "java/lang/Object") ∈ q_csts) (hin : vp_in i n) (hd : decode cc pc = .ok (.aastore, 1))
    (kk : GG p l e R s m args below meth c K A g0 ad0 al nL Q F (pc + 1) lv st (T, L, q_p2 P o i.toNatClampNeg v, M) kc kn) : GG p l e R s m args below meth c K A g0 ad0 al nL Q F pc lv (.ref v :: .int i :: .ref o :: st) (T, L, P, M) kc kn := by
  intro res hF ad H locs ls h1 h2 h3 h4
  obtain ⟨ids, hn, hi, h0, hP, hD⟩ := h2
  have m1 := (hi o).mp (by show T o ≠ 0; omega)
  have m2 := (hi v).mp (by show T v ≠ 0; omega)
  have v0 : v ≠ 0 := fun z => h0 (z ▸ m2)
  obtain ⟨q0, e0, f0⟩ := q_ws_at (K := K) (ad := ad) (g := ((T, L, P, M) : q_Mem)) m1
  obtain ⟨q1, e1, f1⟩ := q_ws_at (K := K) (ad := ad) (g := ((T, L, P, M) : q_Mem)) m2
  rw [q_cell_refs (by exact hT)] at f0
  rw [q_cell_obj (ci := ci) (by exact hv)] at f1
  rw [List.map_cons, List.map_cons, List.map_cons, q_trne (o := v) v0, q_trne (o := o) (fun z => h0 (z ▸ m1))]
  refine va_astqO X.1 X.2.1 X.2.2.2.2.2.1 hP hD h3 q0 2 q1 ci f0 rfl (X.2.2.2.2.2.2.2.2.2.2.2.2.2.2.2.2.2.1 _ hcs) f1 hc (by show vp_in i (L o); rw [hL]; exact hin) hd (fun H1 locs1 hP1 hD1 hS1 => ?_)
  have ea : q_arr ad (q_p2 P o i.toNatClampNeg v o) = va_up (q_arr ad (P o)) i.toNatClampNeg (some (ad v)) := by
    funext j
    unfold q_arr va_up q_p2
    by_cases hj : j = i.toNatClampNeg
    · simp [hj, v0]
    · simp [hj]
  have e2 : q_cell K ad (T, L, q_p2 P o i.toNatClampNeg v, M) o = .inl (K.2.2.2.1, L o, .inr (.inr (.inr (.inr (va_up (q_arr ad (P o)) i.toNatClampNeg (some (ad v))))))) := by
    rw [q_cell_refs (by exact hT), ← ea]
  have hset := q_ws_set (K := K) (ad := ad) (g := (T, L, P, M)) (g' := (T, L, q_p2 P o i.toNatClampNeg v, M)) hn e0 (fun o' z => q_cell_p2 o' z)
  rw [e2] at hset
  exact kk res hF ad H1 locs1 ls h1 ⟨ids, hn, hi, h0, by rw [← hset]; exact hP1, by rw [← hset]; exact hD1⟩ hS1 h4
theorem g_getC (X : q_X p s m args meth c K A ad0 nL cc own ret) {o idx : Nat} (hW : Cond.methodLink own idx ⟨"java/lang/Object", "getClass", "()Ljava/lang/Class;"⟩ ∈ q_gtb ∧ Cond.selects "[Ljava/lang/Object;" ⟨"java/lang/Object", "getClass", "()Ljava/lang/Class;"⟩ ⟨"java/lang/Object", "getClass", "()Ljava/lang/Class;"⟩ ∈ q_gtb ∧ Cond.instanceMethod ⟨"java/lang/Object", "getClass", "()Ljava/lang/Class;"⟩ ∈ q_gtb ∧ Cond.native ⟨"java/lang/Object", "getClass", "()Ljava/lang/Class;"⟩ ∈ q_gtb) (hT : T o = 3) (hcat : (st.map fun v => v.category).sum + 14 ≤ R.locals) (hfr : 1 ≤ R.frames) (hd : decode cc pc = .ok (.invokevirtual idx, 3))
    (kk : GG p l e R s m args below meth c K A g0 ad0 al nL Q F (pc + 3) lv (.ref 950 :: st) (T, L, P, M) kc kn) : GG p l e R s m args below meth c K A g0 ad0 al nL Q F pc lv (.ref o :: st) (T, L, P, M) kc kn := by
  intro res hF ad H locs ls h1 h2 h3 h4
  obtain ⟨h0, ws, q0, hP, hD, e, -⟩ := h2.at (o := o) (by show T o ≠ 0; omega)
  rw [q_cell_refs hT] at e
  have k := kk res hF ad H locs ls h1 h2 h3 h4
  rw [List.map_cons, q_trne (by omega), h1.1 950 (Or.inr ⟨by decide, by decide⟩)] at k
  rw [List.map_cons, q_trne h0]
  have f2 := va_nmO (nm := "[Ljava/lang/Object;") (X.2.2.2.2.2.1.2 2 (K.2.2.2.1, .object "java/lang/Object") rfl).2 (by decide +kernel)
  exact va_getC (C := "[Ljava/lang/Object;") X.1 X.2.1 (X.2.2.1.trans h4.1.symm) X.2.2.2.1 (X.2.2.2.2.1 _ hW.1) (va_Dc.use X.2.2.2.2.2.2.2.2.2.2.2.2.2.2.2.2.1) (X.2.2.2.2.1 _ hW.2.1) (X.2.2.2.2.1 _ hW.2.2.1) (X.2.2.2.2.1 _ hW.2.2.2) X.2.2.2.2.2.2.2.2.2.2.2.2.2.2.2.1 ⟨_, hP q0 _ e, rfl, f2⟩ hfr (by rw [q_cats]; exact hcat) hd k
theorem g_ldcM (X : q_X p s m args meth c K A ad0 nL cc own ret) {idx : Nat} (hW : Cond.classLink own idx "[Ljava/lang/Object;" ∈ q_gtb) (hd : decode cc pc = .ok (.ldc idx, 2))
    (kk : GG p l e R s m args below meth c K A g0 ad0 al nL Q F (pc + 2) lv (.ref 950 :: st) g kc kn) : GG p l e R s m args below meth c K A g0 ad0 al nL Q F pc lv st g kc kn := by
  intro res hF ad H locs ls h1 h2 h3 h4
  have k := kk res hF ad H locs ls h1 h2 h3 h4
  rw [List.map_cons, q_trne (by omega), h1.1 950 (Or.inr ⟨by decide, by decide⟩)] at k
  exact va_ldcM X.1 X.2.1 X.2.2.2.1 (X.2.2.2.2.1 _ hW) X.2.2.2.2.2.2.2.2.2.2.2.2.2.2.2.1 hd k
theorem q_arr_cpy {ad : Nat → Nat} {f h : Nat → Nat} {a b n : Nat} : q_arr ad (va_cpy f h a b n) = va_cpy (q_arr ad f) (q_arr ad h) a b n := by
  funext j
  unfold q_arr va_cpy
  split <;> rfl
theorem g_copyr (X : q_X p s m args meth c K A ad0 nL cc own ret) {o o2 n n2 idx ci : Nat} {C : String} {Tt : u_T} {N : Nat} {sp dp cn : Int32} (hW : Cond.methodLink own idx arraycopyName ∈ q_gtb ∧ Cond.native arraycopyName ∈ q_gtb ∧ Cond.static arraycopyName ∈ q_gtb ∧ Cond.initialized "java/lang/System" ∈ q_gtb) (hT : T o = 3) (hL : L o = n) (hT2 : T o2 = 3) (hL2 : L o2 = n2) (hel : ∀ k : Nat, k < cn.toNatClampNeg → P o (sp.toNatClampNeg + k) ≠ 0 → T (P o (sp.toNatClampNeg + k)) = ci + 10) (hc : q_classes[ci]? = some (C, Tt, N)) (hcs : (C, "java/lang/Object") ∈ q_csts) (hcat : (st.map fun v => v.category).sum + (nativeFrameWords "java/lang/System" "arraycopy" 5 + 11) ≤ R.locals) (hfr : 1 ≤ R.frames) (h1 : ¬ sp < 0) (h2 : ¬ dp < 0) (h3 : ¬ cn < 0) (h4 : sp.toNatClampNeg + cn.toNatClampNeg ≤ n) (h5 : dp.toNatClampNeg + cn.toNatClampNeg ≤ n2) (hd : decode cc pc = .ok (.invokestatic idx, 3))
    (kk : GG p l e R s m args below meth c K A g0 ad0 al nL Q F (pc + 3) lv st (T, L, va_up P o2 (va_cpy (P o) (P o2) sp.toNatClampNeg dp.toNatClampNeg cn.toNatClampNeg), M) kc kn) : GG p l e R s m args below meth c K A g0 ad0 al nL Q F pc lv (.int cn :: .int dp :: .ref o2 :: .int sp :: .ref o :: st) (T, L, P, M) kc kn := by
  intro res hF ad H locs ls a1 a2 a3 a4
  obtain ⟨ids, hn, hi, h0, hP, hD⟩ := a2
  have m1 := (hi o).mp (by show T o ≠ 0; omega)
  have m2 := (hi o2).mp (by show T o2 ≠ 0; omega)
  obtain ⟨q0, e0, f0⟩ := q_ws_at (K := K) (ad := ad) (g := ((T, L, P, M) : q_Mem)) m1
  obtain ⟨q1, e1, f1⟩ := q_ws_at (K := K) (ad := ad) (g := ((T, L, P, M) : q_Mem)) m2
  rw [q_cell_refs (by exact hT)] at f0
  rw [q_cell_refs (by exact hT2)] at f1
  rw [List.map_cons, List.map_cons, List.map_cons, List.map_cons, List.map_cons, q_trne (o := o) (fun z => h0 (z ▸ m1)), q_trne (o := o2) (fun z => h0 (z ▸ m2))]
  refine va_copyq (C := C) X.1 X.2.1 (X.2.2.1.trans a4.1.symm) X.2.2.2.1 (X.2.2.2.2.1 _ hW.1) (X.2.2.2.2.1 _ hW.2.1) (X.2.2.2.2.1 _ hW.2.2.1) (X.2.2.2.2.1 _ hW.2.2.2) X.2.2.2.2.2.1 hP hD a3 q0 q1 2 2 f0 f1 rfl rfl h1 h2 h3 (by show _ ≤ L o; omega) (by show _ ≤ L o2; omega) (fun i hi2 y hy => ?_) (vb_asgC (X.2.2.2.2.2.2.2.2.2.2.2.2.2.2.2.2.2.1 _ hcs)) hfr (by rw [q_cats]; exact hcat) hd (fun H1 locs1 hP1 hD1 hS1 => ?_)
  · have hz : P o (sp.toNatClampNeg + i) ≠ 0 ∧ ad (P o (sp.toNatClampNeg + i)) = y := by
      have hy' : (if P o (sp.toNatClampNeg + i) = 0 then none else some (ad (P o (sp.toNatClampNeg + i)))) = some y := hy
      split at hy'
      · cases hy'
      · rename_i z
        exact ⟨z, Option.some.inj hy'⟩
    have hte := hel i hi2 hz.1
    obtain ⟨q3, e3, f3⟩ := q_ws_at (K := K) (ad := ad) (g := ((T, L, P, M) : q_Mem)) ((hi (P o (sp.toNatClampNeg + i))).mp (by show T _ ≠ 0; omega))
    rw [q_cell_obj (ci := ci) (by exact hte), hz.2] at f3
    exact va_recv X.2.2.2.2.2.1 hP hc f3
  have e2 : q_cell K ad (T, L, va_up P o2 (va_cpy (P o) (P o2) sp.toNatClampNeg dp.toNatClampNeg cn.toNatClampNeg), M) o2 = .inl (K.2.2.2.1, L o2, .inr (.inr (.inr (.inr (va_cpy (q_arr ad (P o)) (q_arr ad (P o2)) sp.toNatClampNeg dp.toNatClampNeg cn.toNatClampNeg))))) := by
    rw [q_cell_refs (by exact hT2), ← q_arr_cpy]
    simp only [va_up, if_pos]
  have hset := q_ws_set (K := K) (ad := ad) (g := (T, L, P, M)) (g' := (T, L, va_up P o2 (va_cpy (P o) (P o2) sp.toNatClampNeg dp.toNatClampNeg cn.toNatClampNeg), M)) hn e1 (fun o' z => by unfold q_cell; simp only [va_up, if_neg z])
  rw [e2] at hset
  exact kk res hF ad H1 locs1 ls a1 ⟨ids, hn, hi, h0, by rw [← hset]; exact hP1, by rw [← hset]; exact hD1⟩ hS1 a4
theorem g_copyi (X : q_X p s m args meth c K A ad0 nL cc own ret) {o o2 n n2 idx : Nat} {sp dp cn : Int32} (hW : Cond.methodLink own idx arraycopyName ∈ q_gtb ∧ Cond.native arraycopyName ∈ q_gtb ∧ Cond.static arraycopyName ∈ q_gtb ∧ Cond.initialized "java/lang/System" ∈ q_gtb) (hT : T o = 1) (hL : L o = n) (hT2 : T o2 = 1) (hL2 : L o2 = n2) (hcat : (st.map fun v => v.category).sum + (nativeFrameWords "java/lang/System" "arraycopy" 5 + 11) ≤ R.locals) (hfr : 1 ≤ R.frames) (h1 : ¬ sp < 0) (h2 : ¬ dp < 0) (h3 : ¬ cn < 0) (h4 : sp.toNatClampNeg + cn.toNatClampNeg ≤ n) (h5 : dp.toNatClampNeg + cn.toNatClampNeg ≤ n2) (hd : decode cc pc = .ok (.invokestatic idx, 3))
    (kk : GG p l e R s m args below meth c K A g0 ad0 al nL Q F (pc + 3) lv st (T, L, P, fun o' => if o' = o2 then va_cpy (M o) (M o2) sp.toNatClampNeg dp.toNatClampNeg cn.toNatClampNeg else M o') kc kn) : GG p l e R s m args below meth c K A g0 ad0 al nL Q F pc lv (.int cn :: .int dp :: .ref o2 :: .int sp :: .ref o :: st) (T, L, P, M) kc kn := by
  intro res hF ad H locs ls a1 a2 a3 a4
  obtain ⟨ids, hn, hi, h0, hP, hD⟩ := a2
  have m1 := (hi o).mp (by show T o ≠ 0; omega)
  have m2 := (hi o2).mp (by show T o2 ≠ 0; omega)
  obtain ⟨q0, e0, f0⟩ := q_ws_at (K := K) (ad := ad) (g := ((T, L, P, M) : q_Mem)) m1
  obtain ⟨q1, e1, f1⟩ := q_ws_at (K := K) (ad := ad) (g := ((T, L, P, M) : q_Mem)) m2
  rw [q_cell_arr (by exact hT)] at f0
  rw [q_cell_arr (by exact hT2)] at f1
  rw [List.map_cons, List.map_cons, List.map_cons, List.map_cons, List.map_cons, q_trne (o := o) (fun z => h0 (z ▸ m1)), q_trne (o := o2) (fun z => h0 (z ▸ m2))]
  refine va_copyi X.1 X.2.1 (X.2.2.1.trans a4.1.symm) X.2.2.2.1 (X.2.2.2.2.1 _ hW.1) (X.2.2.2.2.1 _ hW.2.1) (X.2.2.2.2.1 _ hW.2.2.1) (X.2.2.2.2.1 _ hW.2.2.2) X.2.2.2.2.2.1 hP hD a3 q0 q1 0 0 f0 f1 rfl rfl rfl h1 h2 h3 (by show _ ≤ L o; omega) (by show _ ≤ L o2; omega) (fun _ _ => rfl) hfr (by rw [q_cats]; exact hcat) hd (fun H1 locs1 hP1 hD1 hS1 => ?_)
  have e2 : q_cell K ad (T, L, P, (fun o' => if o' = o2 then va_cpy (M o) (M o2) sp.toNatClampNeg dp.toNatClampNeg cn.toNatClampNeg else M o')) o2 = .inl (K.2.1, L o2, .inl (va_cpy (M o) (M o2) sp.toNatClampNeg dp.toNatClampNeg cn.toNatClampNeg)) := by
    rw [q_cell_arr (by exact hT2)]
    simp only [if_pos]
  have hset := q_ws_set (K := K) (ad := ad) (g := (T, L, P, M)) (g' := (T, L, P, (fun o' => if o' = o2 then va_cpy (M o) (M o2) sp.toNatClampNeg dp.toNatClampNeg cn.toNatClampNeg else M o'))) hn e1 (fun o' z => by unfold q_cell; simp only [if_neg z])
  rw [e2] at hset
  exact kk res hF ad H1 locs1 ls a1 ⟨ids, hn, hi, h0, by rw [← hset]; exact hP1, by rw [← hset]; exact hD1⟩ hS1 a4
theorem g_clonei (X : q_X p s m args meth c K A ad0 nL cc own ret) {o n idx : Nat} (o2 : Nat) (hW : Cond.methodLink own idx ⟨"[I", "clone", "()Ljava/lang/Object;"⟩ ∈ q_gtb ∧ Cond.sameMethod "[I" "java/lang/Object" "clone" "()Ljava/lang/Object;" ∈ q_gtb ∧ Cond.native ⟨"java/lang/Object", "clone", "()Ljava/lang/Object;"⟩ ∈ q_gtb ∧ Cond.instanceMethod ⟨"java/lang/Object", "clone", "()Ljava/lang/Object;"⟩ ∈ q_gtb ∧ Cond.selects "[I" ⟨"[I", "clone", "()Ljava/lang/Object;"⟩ ⟨"java/lang/Object", "clone", "()Ljava/lang/Object;"⟩ ∈ q_gtb) (hTo : T o = 1) (hLo : L o = n) (hal : al = true) (h0 : o2 ≠ 0) (hst : ¬ q_st o2) (hT : T o2 = 0) (hP : ∀ o', T o' ≠ 0 → ∀ k, P o' k ≠ o2) (hlv : ∀ x ∈ lv, x.2 ≠ .ref o2) (hsk : ∀ x ∈ st, x ≠ .ref o2) (hfr : 1 ≤ R.frames) (hcat : (st.map fun v => v.category).sum + 14 ≤ R.locals) (hcells : kc + 1 ≤ R.cells) (hslots : kn + n ≤ R.slots) (hd : decode cc pc = .ok (.invokevirtual idx, 3))
    (kk : GG p l e R s m args below meth c K A g0 ad0 al nL Q F (pc + 3) lv (.ref o2 :: st) (va_up T o2 1, va_up L o2 n, va_up P o2 (fun _ => 0), va_up M o2 (M o)) (kc + 1) (kn + n)) : GG p l e R s m args below meth c K A g0 ad0 al nL Q F pc lv (.ref o :: st) (T, L, P, M) kc kn := by
  subst hLo
  intro res hF ad H locs ls h1 h2 h3 h4
  obtain ⟨ids, hn1, hi, h0i, hPw, hD⟩ := h2
  have m1 := (hi o).mp (by show T o ≠ 0; omega)
  obtain ⟨q0, e0, f0⟩ := q_ws_at (K := K) (ad := ad) (g := ((T, L, P, M) : q_Mem)) m1
  rw [q_cell_arr (by exact hTo)] at f0
  have f2 : s.vm.findClass "[I" = some K.2.1 := (X.2.2.2.2.2.1.2 0 (K.2.1, .int) rfl).2
  rw [List.map_cons, q_trne (o := o) (fun z => h0i (z ▸ m1))]
  refine va_clone (ad := "[I") (ty := .int) X.1 X.2.1 (X.2.2.1.trans h4.1.symm) X.2.2.2.1 (X.2.2.2.2.1 _ hW.1) (X.2.2.2.2.1 _ hW.2.1) (X.2.2.2.2.1 _ hW.2.2.1) (X.2.2.2.2.1 _ hW.2.2.2.1) (X.2.2.2.2.1 _ hW.2.2.2.2) (X.2.2.2.2.2.2.2.2.2.2.2.2.2.2.2.2.2.1 ("[I", "java/lang/Cloneable") (by decide +kernel)) X.2.2.2.2.2.1 hPw hD h3 X.2.2.2.2.2.2.1 q0 0 f0 rfl f2 (fun i v hv => ?_) hfr (by rw [q_cats]; exact hcat) hcells hslots hd (fun q H1 hK1 hP1 hD1 hS1 => ?_)
  · rw [vp_cell_i] at hv
    by_cases hi9 : i < L o
    · rw [arrV_read _ _ hi9] at hv
      cases hv
      rfl
    · have : (arrV K.2.1 (L o) fun j => Value.int (M o j)).slots[i]? = none := Array.getElem?_eq_none (by rw [arrV_size]; omega)
      rw [this] at hv
      cases hv
  · have k := kk res hF (va_up ad o2 q) H1 locs ls (h1.grow hal hst hT) (q_Wd.grow hn1 hi h0i (by decide) h0 hT hP (by
        rw [q_cell_arr (by simp [va_up])]
        simp [va_up]) hP1 hD1) hS1 (by rw [q_lm_up hlv]; exact h4)
    rw [List.map_cons, q_st_up hsk, q_trne h0] at k
    have e1 : va_up ad o2 q o2 = q := by simp [va_up]
    rw [e1] at k
    exact k
theorem g_castI (X : q_X p s m args meth c K A ad0 nL cc own ret) {o idx : Nat} (hW : Cond.classLink own idx "[I" ∈ q_gtb) (hT : g.1 o = 1) (hd : decode cc pc = .ok (.checkcast idx, 3))
    (kk : GG p l e R s m args below meth c K A g0 ad0 al nL Q F (pc + 3) lv (.ref o :: st) g kc kn) : GG p l e R s m args below meth c K A g0 ad0 al nL Q F pc lv (.ref o :: st) g kc kn := by
  intro res hF ad H locs ls h1 h2 h3 h4
  obtain ⟨h0, ws, q0, hP, hD, e, -⟩ := h2.at (o := o) (by omega)
  rw [q_cell_arr hT] at e
  have k := kk res hF ad H locs ls h1 h2 h3 h4
  rw [List.map_cons, q_trne h0] at k ⊢
  have f2 : s.vm.findClass "[I" = some K.2.1 := (X.2.2.2.2.2.1.2 0 (K.2.1, .int) rfl).2
  exact va_castA X.1 X.2.1 X.2.2.2.1 (X.2.2.2.2.1 _ hW) hP q0 e f2 hd k
/-- the field of the class above -/
theorem g_getm (X : q_X p s m args meth c K A ad0 nL cc own ret) {o idx : Nat} (hW : Cond.fieldLink own idx "java/util/ArrayList" "modCount" "I" ∈ q_gtb ∧ Cond.sameField "java/util/ArrayList" "java/util/AbstractList" "modCount" "I" ∈ q_gtb) (hT : g.1 o = 23) (hd : decode cc pc = .ok (.getfield idx, 3))
    (kk : GG p l e R s m args below meth c K A g0 ad0 al nL Q F (pc + 3) lv (.int (g.2.2.2 o 0) :: st) g kc kn) : GG p l e R s m args below meth c K A g0 ad0 al nL Q F pc lv (.ref o :: st) g kc kn := by
  intro res hF ad H locs ls h1 h2 h3 h4
  obtain ⟨C, T, N, ty, f1, f2, f3, f4, f5, f6, -⟩ := fa_Jxc12de_7
  cases f1
  obtain ⟨h0, ws, q0, hP, hD, e, -⟩ := h2.at (o := o) (by omega)
  rw [q_cell_obj (ci := 13) hT] at e
  have e1 : q_tr ad (.ref o) = .ref (ad o) := by simp [q_tr, q_rf, h0]
  rw [List.map_cons, e1]
  refine va_get (ref := "java/util/ArrayList") X.1 X.2.1 X.2.2.2.2.1 f6 X.2.2.2.1 X.2.2.2.2.2.1 hP q0 e rfl 0 f2 (X.2.2.2.2.1 _ hW.1) (fun x z => u_same (X.2.2.2.2.1 _ hW.2) x z) (v := .int (g.2.2.2 o 0)) ?_ hd (kk res hF ad H locs ls h1 h2 h3 h4)
  rw [q_fs_at (by omega), f4]
  rfl
theorem g_putm (X : q_X p s m args meth c K A ad0 nL cc own ret) {o idx : Nat} {v : Int32} (hW : Cond.fieldLink own idx "java/util/ArrayList" "modCount" "I" ∈ q_gtb ∧ Cond.sameField "java/util/ArrayList" "java/util/AbstractList" "modCount" "I" ∈ q_gtb) (hT : T o = 23) (hd : decode cc pc = .ok (.putfield idx, 3))
    (kk : GG p l e R s m args below meth c K A g0 ad0 al nL Q F (pc + 3) lv st (T, L, P, q_u2 M o 0 v) kc kn) : GG p l e R s m args below meth c K A g0 ad0 al nL Q F pc lv (.int v :: .ref o :: st) (T, L, P, M) kc kn := by
  intro res hF ad H locs ls h1 h2 h3 h4
  obtain ⟨C, Tt, N, ty, f1, f2, f3, f4, f5, f6, f7, f8, f9, f10⟩ := fa_Jxc12de_7
  cases f1
  obtain ⟨h0, ws, q0, hP, hD, e, hset⟩ := h2.at (o := o) (by show T o ≠ 0; omega)
  rw [q_cell_obj (ci := 13) hT] at e
  have e1 : q_tr ad (.ref o) = .ref (ad o) := by simp [q_tr, q_rf, h0]
  rw [List.map_cons, List.map_cons, e1]
  have hI2 : parseFieldDescriptor (TJx4a65c 0).2.2.1 = some .int := by decide +kernel
  refine va_put (ref := "java/util/ArrayList") (v := .int v) X.1 X.2.1 X.2.2.2.2.1 f6 ty f7 f8 X.2.2.2.1 X.2.2.2.2.2.1 hP hD h3 q0 e rfl 0 f2 (X.2.2.2.2.1 _ hW.1) (fun x z => u_same (X.2.2.2.2.1 _ hW.2) x z) rfl hI2 rfl rfl (by rw [q_fs_len]; omega) hd (fun H1 locs1 hP1 hD1 hS1 => ?_)
  have e2 : q_cell K ad (T, L, P, q_u2 M o 0 v) o = .inr (13, (q_fs ad (P o) (M o) (q_rt 13)).set 0 (.int v)) := by
    rw [q_cell_obj (ci := 13) hT, q_fs_seti f4 (by omega)]
    simp only [q_u2, if_pos]
  exact kk res hF ad H1 locs1 ls h1 (hset (T, L, P, q_u2 M o 0 v) (fun _ => rfl) (fun o' z => q_cell_u2 o' z) H1 (by rw [e2]; exact hP1) (by rw [e2]; exact hD1)) hS1 h4
/-- branches whose way is known -/
theorem g_ite {φ : Prop} [Decidable φ] (kk : GG p l e R s m args below meth c K A g0 ad0 al nL Q (if φ then F else F) pc lv st g kc kn) : GG p l e R s m args below meth c K A g0 ad0 al nL Q F pc lv st g kc kn := by
  rw [ite_self] at kk
  exact kk
theorem g_zret1 {rvf : ρ → Option Value} {gf : ρ → q_Mem} {res0 : ρ} (X : q_X p s m args meth c K A ad0 nL cc own ret) (hr : ret = some .boolean) (h1 : rvf res0 = some (.int 1)) (h2 : gf res0 = g) (hd : decode cc pc = .ok (.ireturn, 1)) : GG p l e R s m args below meth c K A g0 ad0 al nL (fun res => MQ below (q_Qc K al ad0 g0 (rvf res) (gf res) A) args s kc kn A) (some res0) pc lv [.int 1] g kc kn := by
  have h := g_zret (p := p) (l := l) (e := e) (R := R) (below := below) (g0 := g0) (al := al) (lv := lv) (kc := kc) (kn := kn) X hr h1 h2 hd
  rw [if_pos (Or.inr rfl)] at h
  exact h
end GGadd
set_option maxHeartbeats 4000000 in
set_option maxRecDepth 100000 in
theorem c_newLen (l : Launch) (K : q_KK) (g : q_Mem) (a b p v : Int32) (hv : a + (if b < p then p else b) = v) (h0 : ¬ v ≤ 0) (h1 : ¬ 2147483639 < v) : Mt l yJ8_newLength_cabcc cJ8_newLength_cabcc 4 (some FieldType.int) 1 21 0 0 false K [.int a, .int b, .int p] g (some (.int v)) g := by
  refine Mt.of (ρ := Unit) (F := some ()) (fun _ => some (.int v)) (fun _ => g) (by decide) (Nat.le_of_ble_eq_true rfl) ?_ () rfl
  intro p9 e s m args below meth c0 A ad X hN
  refine g_sub (lv' := [(0, .int a), (1, .int b), (2, .int p)]) [0, 1, 2] rfl ?_
  refine g_iload_n X dJ8_newLength_cabcc_0 rfl 0 rfl ?_
  refine g_iload_n X dJ8_newLength_cabcc_1 rfl 1 rfl ?_
  refine g_iload_n X dJ8_newLength_cabcc_2 rfl 2 rfl ?_
  refine g_mmax X lk_J8_194 (Nat.le_of_ble_eq_true rfl) ⟨Nat.le_of_ble_eq_true rfl, Nat.le_of_ble_eq_true rfl⟩ ⟨Nat.zero_le _, Nat.zero_le _⟩ dJ8_newLength_cabcc_3 ?_
  refine g_iadd X dJ8_newLength_cabcc_6 ?_
  rw [hv]
  refine g_istore_n X [(3, .int v), (0, .int a), (1, .int b), (2, .int p)] dJ8_newLength_cabcc_7 rfl (by decide) rfl ?_
  refine g_iconst (v := 0) X dJ8_newLength_cabcc_8 (by decide) ?_
  refine g_iload_n X dJ8_newLength_cabcc_9 rfl 0 rfl ?_
  refine g_ite (φ := v ≤ 0) ?_
  refine g_icmp_ge X 21 dJ8_newLength_cabcc_10 rfl (fun z => absurd z h0) (fun _ => ?_)
  refine g_iload_n X dJ8_newLength_cabcc_13 rfl 0 rfl ?_
  refine g_ldc (v := 2147483639) X wc_J8_200 dJ8_newLength_cabcc_14 ?_
  refine g_ite (φ := 2147483639 < v) ?_
  refine g_icmp_gt X 21 dJ8_newLength_cabcc_16 rfl (fun z => absurd z h1) (fun _ => ?_)
  refine g_iload_n X dJ8_newLength_cabcc_19 rfl 0 rfl ?_
  exact g_iret X rfl rfl rfl dJ8_newLength_cabcc_20
/-- a row of references of n places, all full, into one of more -/
def w_new (g : q_Mem) (nb N' : Nat) (w : Nat → Nat) : q_Mem := (va_up g.1 nb 3, va_up g.2.1 nb N', va_up g.2.2.1 nb w, va_up g.2.2.2 nb (fun _ => 0))
theorem va_up2 {α : Type} {f : Nat → α} {k : Nat} {v w : α} : va_up (va_up f k v) k w = va_up f k w := by
  funext j
  unfold va_up
  split <;> rfl
set_option maxHeartbeats 4000000 in
set_option maxRecDepth 100000 in
theorem c_copyOf3 (l : Launch) (K : q_KK) (T : Nat → Nat) (L : Nat → Nat) (P : Nat → Nat → Nat) (M : q_MM) (r nb n N' ci : Nat) {C : String} {Tt : u_T} {N : Nat} (hT : T r = 3) (hL : L r = n) (hn : n ≤ N') (hN : N' ≤ 100000) (h0 : nb ≠ 0) (hst : ¬ q_st nb) (hf : q_no T P nb) (hel : ∀ k : Nat, k < n → P r k ≠ 0 → T (P r k) = ci + 10) (hc : q_classes[ci]? = some (C, Tt, N)) (hcs : (C, "java/lang/Object") ∈ q_csts) : Mt l yJ7_copyOf_6403c cJ7_copyOf_6403c 4 (some (FieldType.array (FieldType.object "java/lang/Object"))) 1 40 1 N' true K [.ref r, .int (nI N'), .ref 950] (T, L, P, M) (some (.ref nb)) (w_new (T, L, P, M) nb N' (va_cpy (P r) (fun _ => 0) 0 0 n)) := by
  refine Mt.of (ρ := Unit) (F := some ()) (fun _ => some (.ref nb)) (fun _ => w_new (T, L, P, M) nb N' (va_cpy (P r) (fun _ => 0) 0 0 n)) (by decide) (Nat.le_of_ble_eq_true rfl) ?_ () rfl
  intro p9 e s m args below meth c0 A ad X hN9
  have hrn : r ≠ nb := fun e => by have := hf.1; rw [e] at hT; omega
  have ecl : (nI N').toNatClampNeg = N' := nI_clamp (by omega)
  refine g_sub (lv' := [(0, .ref r), (1, .int (nI N')), (2, .ref 950)]) [0, 1, 2] rfl ?_
  refine g_aload_n X dJ7_copyOf_6403c_0 rfl 2 rfl ?_
  refine g_ldcM X wl_J7_110 dJ7_copyOf_6403c_1 ?_
  refine g_acmpneF X 13 dJ7_copyOf_6403c_3 rfl ?_
  refine g_iload_n X dJ7_copyOf_6403c_6 rfl 1 rfl ?_
  refine g_anew X nb wl_J7_2 rfl h0 hst hf.1 (fun o9 _ k9 => hf.2 o9 k9) (by simp; exact ⟨hrn, fun z => hst (z ▸ ⟨by decide, by decide⟩)⟩) (by simp) (nI_pos (by omega)) (by rw [ecl]; exact hN) (Nat.le_of_ble_eq_true rfl) (by rw [ecl]; show 0 + N' ≤ N'; omega) dJ7_copyOf_6403c_7 ?_
  rw [ecl]
  refine g_goto X 24 dJ7_copyOf_6403c_10 rfl ?_
  refine g_astore_n X [(3, .ref nb), (0, .ref r), (1, .int (nI N')), (2, .ref 950)] dJ7_copyOf_6403c_24 rfl (by decide) rfl ?_
  refine g_aload_n X dJ7_copyOf_6403c_25 rfl 1 rfl ?_
  refine g_iconst (v := 0) X dJ7_copyOf_6403c_26 (by decide) ?_
  refine g_aload_n X dJ7_copyOf_6403c_27 rfl 0 rfl ?_
  refine g_iconst (v := 0) X dJ7_copyOf_6403c_28 (by decide) ?_
  refine g_aload_n X dJ7_copyOf_6403c_29 rfl 1 rfl ?_
  refine g_alenq (n := n) X (by simp [va_up, hrn, hT]) (by simp [va_up, hrn, hL]) dJ7_copyOf_6403c_30 ?_
  refine g_iload_n X dJ7_copyOf_6403c_31 rfl 2 rfl ?_
  refine g_mmin X lk_J7_304 (Nat.le_of_ble_eq_true rfl) ⟨Nat.le_of_ble_eq_true rfl, Nat.le_of_ble_eq_true rfl⟩ ⟨Nat.le_of_ble_eq_true rfl, by show 0 + N' ≤ N'; omega⟩ dJ7_copyOf_6403c_32 ?_
  have hmin : (if nI N' < Int32.ofNat n then nI N' else Int32.ofNat n) = Int32.ofNat n := if_neg (show ¬ nI N' < nI n from nI_nlt hn (by omega))
  rw [hmin]
  have ecn : (Int32.ofNat n).toNatClampNeg = n := nI_clamp (by omega)
  refine g_copyr (n := n) (n2 := N') (ci := ci) (C := C) (Tt := Tt) (N := N) X lk_J7_150 (by simp [va_up, hrn, hT]) (by simp [va_up, hrn, hL]) (by simp [va_up]) (by simp [va_up]) (fun k hk hz => ?_) hc hcs (by show 0 + (nativeFrameWords "java/lang/System" "arraycopy" 5 + 11) ≤ 40; decide) (Nat.le_of_ble_eq_true rfl) (by decide) (by decide) (nI_pos (by omega)) (by rw [ecn]; show 0 + n ≤ n; omega) (by rw [ecn]; show 0 + n ≤ N'; omega) dJ7_copyOf_6403c_35 ?_
  · rw [ecn] at hk
    have e1 : va_up P nb (fun _ => 0) r = P r := by simp [va_up, hrn]
    rw [e1] at hz ⊢
    have e0 : (0 : Int32).toNatClampNeg + k = k := by rw [show (0 : Int32).toNatClampNeg = 0 by decide]; omega
    rw [e0] at hz ⊢
    have := hel k hk hz
    have hne : P r k ≠ nb := fun z => hf.2 r k z
    simp [va_up, hne, this]
  refine g_aload_n X dJ7_copyOf_6403c_38 rfl 0 rfl ?_
  refine g_widen (kc' := 1) (kn' := N') (by decide) (by omega) ?_
  refine g_aret X rfl (Or.inr ⟨_, rfl⟩) rfl ?_ dJ7_copyOf_6403c_39
  rw [va_up2, ecn, show (0 : Int32).toNatClampNeg = 0 by decide]
  have e1 : va_up P nb (fun _ => 0) r = P r := by simp [va_up, hrn]
  have e2 : va_up P nb (fun _ => 0) nb = fun _ => 0 := by simp [va_up]
  rw [e1, e2]
  rfl
set_option maxHeartbeats 4000000 in
set_option maxRecDepth 100000 in
theorem c_copyOf2 (l : Launch) (K : q_KK) (T : Nat → Nat) (L : Nat → Nat) (P : Nat → Nat → Nat) (M : q_MM) (r nb n N' ci : Nat) {C : String} {Tt : u_T} {N : Nat} (hT : T r = 3) (hL : L r = n) (hn : n ≤ N') (hN : N' ≤ 100000) (h0 : nb ≠ 0) (hst : ¬ q_st nb) (hf : q_no T P nb) (hel : ∀ k : Nat, k < n → P r k ≠ 0 → T (P r k) = ci + 10) (hc : q_classes[ci]? = some (C, Tt, N)) (hcs : (C, "java/lang/Object") ∈ q_csts) : Mt l yJ7_copyOf_1904c cJ7_copyOf_1904c 2 (some (FieldType.array (FieldType.object "java/lang/Object"))) 2 70 1 N' true K [.ref r, .int (nI N')] (T, L, P, M) (some (.ref nb)) (w_new (T, L, P, M) nb N' (va_cpy (P r) (fun _ => 0) 0 0 n)) := by
  refine Mt.of (ρ := Unit) (F := some ()) (fun _ => some (.ref nb)) (fun _ => w_new (T, L, P, M) nb N' (va_cpy (P r) (fun _ => 0) 0 0 n)) (by decide) (Nat.le_of_ble_eq_true rfl) ?_ () rfl
  intro p9 e s m args below meth c0 A ad X hN9
  refine g_sub (lv' := [(0, .ref r), (1, .int (nI N'))]) [0, 1] rfl ?_
  refine g_aload_n X dJ7_copyOf_1904c_0 rfl 0 rfl ?_
  refine g_iload_n X dJ7_copyOf_1904c_1 rfl 1 rfl ?_
  refine g_aload_n X dJ7_copyOf_1904c_2 rfl 0 rfl ?_
  refine g_getC X lk_J7_86 hT (by show 2 + 14 ≤ 70; omega) (Nat.le_of_ble_eq_true rfl) dJ7_copyOf_1904c_3 ?_
  refine g_callS (As := [.ref r, .int (nI N'), .ref 950]) (rest := []) X (c_copyOf3 l K T L P M r nb n N' ci hT hL hn hN h0 hst hf hel hc hcs) lk_J7_300 rfl rfl (Nat.le_of_ble_eq_true rfl) ⟨Nat.le_of_ble_eq_true rfl, Nat.le_of_ble_eq_true rfl⟩ ⟨Nat.le_of_ble_eq_true rfl, by show 0 + N' ≤ N'; omega⟩ dJ7_copyOf_1904c_6 (fun _ => ⟨rfl, by simp [q_ok, hT], by simp⟩) ?_
  refine g_widen (kc' := 1) (kn' := N') (by decide) (by omega) ?_
  exact g_aret X rfl (Or.inr ⟨_, rfl⟩) rfl rfl dJ7_copyOf_1904c_9
/-- what the growing of a list leaves: the new row nb, held by the list o -/
def w_grow (g : q_Mem) (o nb N' : Nat) (w : Nat → Nat) : q_Mem := (va_up g.1 nb 3, va_up g.2.1 nb N', q_p2 (va_up g.2.2.1 nb w) o 1 nb, va_up g.2.2.2 nb (fun _ => 0))
set_option maxHeartbeats 4000000 in
set_option maxRecDepth 100000 in
theorem c_grow1_0 (l : Launch) (K : q_KK) (T : Nat → Nat) (L : Nat → Nat) (P : Nat → Nat → Nat) (M : q_MM) (o nb : Nat) (hT : T o = 23) (hr : P o 1 = 940) (h0 : nb ≠ 0) (hst : ¬ q_st nb) (hf : q_no T P nb) : Mt l yJx4a65c_grow_92f84 cJx4a65c_grow_92f84 4 (some (FieldType.array (FieldType.object "java/lang/Object"))) 3 110 1 10 true K [.ref o, .int 1] (T, L, P, M) (some (.ref nb)) (w_grow (T, L, P, M) o nb 10 (fun _ => 0)) := by
  refine Mt.of (ρ := Unit) (F := some ()) (fun _ => some (.ref nb)) (fun _ => w_grow (T, L, P, M) o nb 10 (fun _ => 0)) (by decide) (Nat.le_of_ble_eq_true rfl) ?_ () rfl
  intro p9 e s m args below meth c0 A ad X hN9
  have hon : o ≠ nb := fun e => by have := hf.1; rw [e] at hT; omega
  refine g_sub (lv' := [(0, .ref o), (1, .int 1)]) [0, 1] rfl ?_
  refine g_aload_n X dJx4a65c_grow_92f84_0 rfl 0 rfl ?_
  refine g_getr (r := 940) X fa_Jx4a65c_9 hT hr dJx4a65c_grow_92f84_1 ?_
  refine g_alen0 X dJx4a65c_grow_92f84_4 ?_
  refine g_istore_n X [(2, .int 0), (0, .ref o), (1, .int 1)] dJx4a65c_grow_92f84_5 rfl (by decide) rfl ?_
  refine g_iload_n X dJx4a65c_grow_92f84_6 rfl 0 rfl ?_
  refine g_ite (φ := (0 : Int32) < 0) ?_
  refine g_if_gt X 20 dJx4a65c_grow_92f84_7 rfl (fun z => absurd z (by decide)) (fun _ => ?_)
  refine g_aload_n X dJx4a65c_grow_92f84_10 rfl 1 rfl ?_
  refine g_getr (r := 940) X fa_Jx4a65c_9 hT hr dJx4a65c_grow_92f84_11 ?_
  refine g_empt X wf_Jx4a65c_39 dJx4a65c_grow_92f84_14 ?_
  refine g_acmpeqT X 45 dJx4a65c_grow_92f84_17 rfl ?_
  refine g_aload_n X dJx4a65c_grow_92f84_45 rfl 1 rfl ?_
  refine g_bipush (v := 10) X dJx4a65c_grow_92f84_46 (by decide) ?_
  refine g_iload_n X dJx4a65c_grow_92f84_48 rfl 2 rfl ?_
  refine g_mmax X lk_Jx4a65c_79 (Nat.le_of_ble_eq_true rfl) ⟨Nat.le_of_ble_eq_true rfl, Nat.le_of_ble_eq_true rfl⟩ ⟨Nat.zero_le _, Nat.zero_le _⟩ dJx4a65c_grow_92f84_49 ?_
  refine g_anew (n := 10) X nb wl_Jx4a65c_7 rfl h0 hst hf.1 (fun o9 _ k9 => hf.2 o9 k9) (by simp; exact hon) (by simp; exact hon) (by decide) (by decide) (Nat.le_of_ble_eq_true rfl) (Nat.le_of_ble_eq_true rfl) dJx4a65c_grow_92f84_52 ?_
  refine g_dupx1 X dJx4a65c_grow_92f84_55 rfl rfl ?_
  refine g_putr X fa_Jx4a65c_9 (by decide +kernel) (fun ad ty h => q_arrfit (te := .object "java/lang/Object") (by decide +kernel) _ ad ty h) (by simp [va_up, hon, hT]) dJx4a65c_grow_92f84_56 ?_
  refine g_widen (kc' := 1) (kn' := 10) (by decide) (by decide) ?_
  exact g_aret X rfl (Or.inr ⟨_, rfl⟩) rfl rfl dJx4a65c_grow_92f84_59
set_option maxHeartbeats 4000000 in
set_option maxRecDepth 100000 in
theorem c_grow1_n (l : Launch) (K : q_KK) (T : Nat → Nat) (L : Nat → Nat) (P : Nat → Nat → Nat) (M : q_MM) (o r nb n N' ci : Nat) {C : String} {Tt : u_T} {N : Nat} (hnn : n = 10 ∧ N' = 15 ∨ n = 15 ∧ N' = 22 ∨ n = 22 ∧ N' = 33) (hT : T o = 23) (hr : P o 1 = r) (hTr : T r = 3) (hL : L r = n) (h0 : nb ≠ 0) (hst : ¬ q_st nb) (hf : q_no T P nb) (hel : ∀ k : Nat, k < n → P r k ≠ 0 → T (P r k) = ci + 10) (hc : q_classes[ci]? = some (C, Tt, N)) (hcs : (C, "java/lang/Object") ∈ q_csts) : Mt l yJx4a65c_grow_92f84 cJx4a65c_grow_92f84 4 (some (FieldType.array (FieldType.object "java/lang/Object"))) 3 110 1 N' true K [.ref o, .int (nI (n + 1))] (T, L, P, M) (some (.ref nb)) (w_grow (T, L, P, M) o nb N' (va_cpy (P r) (fun _ => 0) 0 0 n)) := by
  refine Mt.of (ρ := Unit) (F := some ()) (fun _ => some (.ref nb)) (fun _ => w_grow (T, L, P, M) o nb N' (va_cpy (P r) (fun _ => 0) 0 0 n)) (by decide) (Nat.le_of_ble_eq_true rfl) ?_ () rfl
  intro p9 e s m args below meth c0 A ad X hN9
  have hon : o ≠ nb := fun e => by have := hf.1; rw [e] at hT; omega
  have hpos : (0 : Int32) < Int32.ofNat n := by rcases hnn with ⟨rfl, rfl⟩ | ⟨rfl, rfl⟩ | ⟨rfl, rfl⟩ <;> decide
  have hlen : Int32.ofNat n + (if nI (n + 1) - Int32.ofNat n < Int32.ofNat n >>> ((1 : Int32) &&& 31) then Int32.ofNat n >>> ((1 : Int32) &&& 31) else nI (n + 1) - Int32.ofNat n) = nI N' := by rcases hnn with ⟨rfl, rfl⟩ | ⟨rfl, rfl⟩ | ⟨rfl, rfl⟩ <;> decide
  have hv0 : ¬ nI N' ≤ 0 := by rcases hnn with ⟨rfl, rfl⟩ | ⟨rfl, rfl⟩ | ⟨rfl, rfl⟩ <;> decide
  have hv1 : ¬ 2147483639 < nI N' := by rcases hnn with ⟨rfl, rfl⟩ | ⟨rfl, rfl⟩ | ⟨rfl, rfl⟩ <;> decide
  have hle : n ≤ N' ∧ N' ≤ 100000 := by omega
  refine g_sub (lv' := [(0, .ref o), (1, .int (nI (n + 1)))]) [0, 1] rfl ?_
  refine g_aload_n X dJx4a65c_grow_92f84_0 rfl 0 rfl ?_
  refine g_getr (r := r) X fa_Jx4a65c_9 hT hr dJx4a65c_grow_92f84_1 ?_
  refine g_alenq (n := n) X hTr hL dJx4a65c_grow_92f84_4 ?_
  refine g_istore_n X [(2, .int (Int32.ofNat n)), (0, .ref o), (1, .int (nI (n + 1)))] dJx4a65c_grow_92f84_5 rfl (by decide) rfl ?_
  refine g_iload_n X dJx4a65c_grow_92f84_6 rfl 0 rfl ?_
  refine g_ite (φ := (0 : Int32) < Int32.ofNat n) ?_
  refine g_if_gt X 20 dJx4a65c_grow_92f84_7 rfl (fun _ => ?_) (fun z => absurd hpos z)
  refine g_iload_n X dJx4a65c_grow_92f84_20 rfl 0 rfl ?_
  refine g_iload_n X dJx4a65c_grow_92f84_21 rfl 2 rfl ?_
  refine g_iload_n X dJx4a65c_grow_92f84_22 rfl 0 rfl ?_
  refine g_isub X dJx4a65c_grow_92f84_23 ?_
  refine g_iload_n X dJx4a65c_grow_92f84_24 rfl 0 rfl ?_
  refine g_iconst (v := 1) X dJx4a65c_grow_92f84_25 (by decide) ?_
  refine g_ishr X dJx4a65c_grow_92f84_26 ?_
  refine g_callS (As := [.int (Int32.ofNat n), .int (nI (n + 1) - Int32.ofNat n), .int (Int32.ofNat n >>> ((1 : Int32) &&& 31))]) (rest := []) X (c_newLen l K _ _ _ _ (nI N') hlen hv0 hv1) lk_Jx4a65c_73 rfl rfl (Nat.le_of_ble_eq_true rfl) ⟨Nat.le_of_ble_eq_true rfl, Nat.le_of_ble_eq_true rfl⟩ ⟨Nat.zero_le _, Nat.zero_le _⟩ dJx4a65c_grow_92f84_27 (fun h => by cases h) ?_
  refine g_istore_n X [(3, .int (nI N')), (2, .int (Int32.ofNat n)), (0, .ref o), (1, .int (nI (n + 1)))] dJx4a65c_grow_92f84_30 rfl (by decide) rfl ?_
  refine g_aload_n X dJx4a65c_grow_92f84_31 rfl 2 rfl ?_
  refine g_aload_n X dJx4a65c_grow_92f84_32 rfl 2 rfl ?_
  refine g_getr (r := r) X fa_Jx4a65c_9 hT hr dJx4a65c_grow_92f84_33 ?_
  refine g_iload_n X dJx4a65c_grow_92f84_36 rfl 0 rfl ?_
  refine g_callS (As := [.ref r, .int (nI N')]) (rest := [.ref o]) X (c_copyOf2 l K T L P M r nb n N' ci hTr hL hle.1 hle.2 h0 hst hf hel hc hcs) lk_Jx4a65c_66 rfl rfl (Nat.le_of_ble_eq_true rfl) ⟨Nat.le_of_ble_eq_true rfl, Nat.le_of_ble_eq_true rfl⟩ ⟨Nat.le_of_ble_eq_true rfl, by show 0 + 0 + N' ≤ N'; omega⟩ dJx4a65c_grow_92f84_37 (fun _ => ⟨rfl, by simp [q_ok, hT], by simp [q_ok, hT]⟩) ?_
  refine g_dupx1 X dJx4a65c_grow_92f84_40 rfl rfl ?_
  refine g_putr (T := va_up T nb 3) (L := va_up L nb N') (P := va_up P nb (va_cpy (P r) (fun _ => 0) 0 0 n)) (M := va_up M nb (fun _ => 0)) X fa_Jx4a65c_9 (by decide +kernel) (fun ad ty h => q_arrfit (te := .object "java/lang/Object") (by decide +kernel) _ ad ty h) (by simp [va_up, hon, hT]) dJx4a65c_grow_92f84_41 ?_
  refine g_widen (kc' := 1) (kn' := N') (by decide) (by omega) ?_
  exact g_aret X rfl (Or.inr ⟨_, rfl⟩) rfl rfl dJx4a65c_grow_92f84_44
set_option maxHeartbeats 4000000 in
set_option maxRecDepth 100000 in
theorem c_grow0 (l : Launch) (K : q_KK) (T : Nat → Nat) (L : Nat → Nat) (P : Nat → Nat → Nat) (M : q_MM) (o nb n N' : Nat) (g' : q_Mem) (hT : T o = 23) (hn : M o 2 = nI n) (hG : Mt l yJx4a65c_grow_92f84 cJx4a65c_grow_92f84 4 (some (FieldType.array (FieldType.object "java/lang/Object"))) 3 110 1 N' true K [.ref o, .int (nI (n + 1))] (T, L, P, M) (some (.ref nb)) g') : Mt l yJx4a65c_grow_d5877 cJx4a65c_grow_d5877 1 (some (FieldType.array (FieldType.object "java/lang/Object"))) 4 140 1 N' true K [.ref o] (T, L, P, M) (some (.ref nb)) g' := by
  refine Mt.of (ρ := Unit) (F := some ()) (fun _ => some (.ref nb)) (fun _ => g') (by decide) (Nat.le_of_ble_eq_true rfl) ?_ () rfl
  intro p9 e s m args below meth c0 A ad X hN9
  refine g_sub (lv' := [(0, .ref o)]) [0] rfl ?_
  refine g_aload_n X dJx4a65c_grow_d5877_0 rfl 0 rfl ?_
  refine g_aload_n X dJx4a65c_grow_d5877_1 rfl 0 rfl ?_
  refine g_geti X fa_Jx4a65c_48 hT dJx4a65c_grow_d5877_2 ?_
  refine g_iconst (v := 1) X dJx4a65c_grow_d5877_5 (by decide) ?_
  refine g_iadd X dJx4a65c_grow_d5877_6 ?_
  have e1 : M o 2 + 1 = nI (n + 1) := by rw [hn, nI_1]
  show GG _ _ _ _ _ _ _ _ _ _ _ _ _ _ _ _ _ _ _ _ [.int (M o 2 + 1), .ref o] _ _ _
  rw [e1]
  refine g_callV (As := [.int (nI (n + 1))]) (rest := []) X hG lk_Jx4a65c_69 hT rfl rfl (Nat.le_of_ble_eq_true rfl) ⟨Nat.le_of_ble_eq_true rfl, Nat.le_of_ble_eq_true rfl⟩ ⟨Nat.le_of_ble_eq_true rfl, by show 0 + N' ≤ N'; omega⟩ dJx4a65c_grow_d5877_7 (fun _ => ⟨rfl, by simp [q_ok, hT], by simp⟩) ?_
  refine g_widen (kc' := 1) (kn' := N') (by decide) (by omega) ?_
  exact g_aret X rfl (Or.inr ⟨_, rfl⟩) rfl rfl dJx4a65c_grow_d5877_10
set_option maxHeartbeats 4000000 in
set_option maxRecDepth 100000 in
theorem c_add3_room (l : Launch) (K : q_KK) (T : Nat → Nat) (L : Nat → Nat) (P : Nat → Nat → Nat) (M : q_MM) (o v r n N ci : Nat) {C : String} {Tt : u_T} {N9 : Nat} (hT : T o = 23) (hr : T r = 3) (hL : L r = N) (hnN : n < N) (hN : N ≤ 1000) (hv : T v = ci + 10) (hc : q_classes[ci]? = some (C, Tt, N9)) (hcs : (C, "java/lang/Object") ∈ q_csts) : Mt l yJx4a65c_add_72be8 cJx4a65c_add_72be8 4 none 5 170 1 33 true K [.ref o, .ref v, .ref r, .int (nI n)] (T, L, P, M) none (T, L, q_p2 P r n v, q_u2 M o 2 (nI (n + 1))) := by
  refine Mt.of (ρ := Unit) (F := some ()) (fun _ => none) (fun _ => (T, L, q_p2 P r n v, q_u2 M o 2 (nI (n + 1)))) (by decide) (Nat.le_of_ble_eq_true rfl) ?_ () rfl
  intro p9 e s m args below meth c0 A ad X hN9
  have ecl : (nI n).toNatClampNeg = n := nI_clamp (by omega)
  refine g_sub (lv' := [(0, .ref o), (1, .ref v), (2, .ref r), (3, .int (nI n))]) [0, 1, 2, 3] rfl ?_
  refine g_iload_n X dJx4a65c_add_72be8_0 rfl 3 rfl ?_
  refine g_aload_n X dJx4a65c_add_72be8_1 rfl 2 rfl ?_
  refine g_alenq (n := N) X hr hL dJx4a65c_add_72be8_2 ?_
  refine g_ite (φ := nI n = Int32.ofNat N) ?_
  refine g_icmp_ne X 11 dJx4a65c_add_72be8_3 rfl (fun z => absurd ((nI_eq (by omega) (by omega)).mp z) (by omega)) (fun _ => ?_)
  refine g_aload_n X dJx4a65c_add_72be8_11 rfl 2 rfl ?_
  refine g_iload_n X dJx4a65c_add_72be8_12 rfl 3 rfl ?_
  refine g_aload_n X dJx4a65c_add_72be8_13 rfl 1 rfl ?_
  refine g_aast (n := N) (ci := ci) X hr hL hv hc hcs (nI_in hnN (by omega)) dJx4a65c_add_72be8_14 ?_
  rw [ecl]
  refine g_aload_n X dJx4a65c_add_72be8_15 rfl 0 rfl ?_
  refine g_iload_n X dJx4a65c_add_72be8_16 rfl 3 rfl ?_
  refine g_iconst (v := 1) X dJx4a65c_add_72be8_17 (by decide) ?_
  refine g_iadd X dJx4a65c_add_72be8_18 ?_
  rw [nI_1]
  refine g_puti X fa_Jx4a65c_48 (by decide +kernel) hT (fun ty _ h => by cases (show parseFieldDescriptor (q_dsc 13 2) = some .int by decide +kernel).symm.trans h; exact ⟨rfl, rfl⟩) dJx4a65c_add_72be8_19 ?_
  refine g_widen (kc' := 1) (kn' := 33) (by decide) (by decide) ?_
  exact g_vret X rfl rfl rfl dJx4a65c_add_72be8_22
set_option maxHeartbeats 4000000 in
set_option maxRecDepth 100000 in
theorem c_add3_grow (l : Launch) (K : q_KK) (T : Nat → Nat) (L : Nat → Nat) (P : Nat → Nat → Nat) (M : q_MM) (o v r nb n N' ci : Nat) (w : Nat → Nat) {C : String} {Tt : u_T} {N9 : Nat} (hT : T o = 23) (hr : r = 940 ∧ n = 0 ∨ T r = 3 ∧ L r = n) (hnN : n < N') (hN : N' ≤ 33) (hf : T nb = 0) (hv : T v = ci + 10) (hc : q_classes[ci]? = some (C, Tt, N9)) (hcs : (C, "java/lang/Object") ∈ q_csts) (hG : Mt l yJx4a65c_grow_d5877 cJx4a65c_grow_d5877 1 (some (FieldType.array (FieldType.object "java/lang/Object"))) 4 140 1 N' true K [.ref o] (T, L, P, M) (some (.ref nb)) (w_grow (T, L, P, M) o nb N' w)) : Mt l yJx4a65c_add_72be8 cJx4a65c_add_72be8 4 none 5 170 1 33 true K [.ref o, .ref v, .ref r, .int (nI n)] (T, L, P, M) none (va_up T nb 3, va_up L nb N', q_p2 (q_p2 (va_up P nb w) o 1 nb) nb n v, q_u2 (va_up M nb (fun _ => 0)) o 2 (nI (n + 1))) := by
  refine Mt.of (ρ := Unit) (F := some ()) (fun _ => none) (fun _ => (va_up T nb 3, va_up L nb N', q_p2 (q_p2 (va_up P nb w) o 1 nb) nb n v, q_u2 (va_up M nb (fun _ => 0)) o 2 (nI (n + 1)))) (by decide) (Nat.le_of_ble_eq_true rfl) ?_ () rfl
  intro p9 e s m args below meth c0 A ad X hN9
  have ecl : (nI n).toNatClampNeg = n := nI_clamp (by omega)
  have hon : o ≠ nb := fun e => by rw [e] at hT; omega
  have hvn : v ≠ nb := fun e => by rw [e] at hv; omega
  have hro : q_ok (T, L, P, M) (.ref r) := by
    rcases hr with ⟨rfl, -⟩ | ⟨h, -⟩
    · exact Or.inr (Or.inr ⟨by decide, by decide⟩)
    · exact Or.inr (Or.inl (by show T r ≠ 0; omega))
  refine g_sub (lv' := [(0, .ref o), (1, .ref v), (2, .ref r), (3, .int (nI n))]) [0, 1, 2, 3] rfl ?_
  refine g_iload_n X dJx4a65c_add_72be8_0 rfl 3 rfl ?_
  refine g_aload_n X dJx4a65c_add_72be8_1 rfl 2 rfl ?_
  refine g_alenR (n := n) X hr dJx4a65c_add_72be8_2 ?_
  refine g_ite (φ := nI n = Int32.ofNat n) ?_
  refine g_icmp_ne X 11 dJx4a65c_add_72be8_3 rfl (fun _ => ?_) (fun z => absurd rfl z)
  refine g_aload_n X dJx4a65c_add_72be8_6 rfl 0 rfl ?_
  refine g_callV (As := []) (rest := []) X hG lk_Jx4a65c_129 hT rfl rfl (Nat.le_of_ble_eq_true rfl) ⟨Nat.le_of_ble_eq_true rfl, Nat.le_of_ble_eq_true rfl⟩ ⟨Nat.le_of_ble_eq_true rfl, by show 0 + N' ≤ 33; omega⟩ dJx4a65c_add_72be8_7 (fun _ => ⟨rfl, fun q hq => ?_, by simp⟩) ?_
  · simp only [List.mem_cons, List.not_mem_nil, or_false] at hq
    rcases hq with rfl | rfl | rfl | rfl
    · exact Or.inr (Or.inl (by show T o ≠ 0; omega))
    · exact Or.inr (Or.inl (by show T v ≠ 0; omega))
    · exact hro
    · trivial
  refine g_astore_n X [(2, .ref nb), (0, .ref o), (1, .ref v), (3, .int (nI n))] dJx4a65c_add_72be8_10 rfl (by decide) rfl ?_
  refine g_aload_n X dJx4a65c_add_72be8_11 rfl 0 rfl ?_
  refine g_iload_n X dJx4a65c_add_72be8_12 rfl 3 rfl ?_
  refine g_aload_n X dJx4a65c_add_72be8_13 rfl 2 rfl ?_
  refine g_aast (T := va_up T nb 3) (L := va_up L nb N') (P := q_p2 (va_up P nb w) o 1 nb) (M := va_up M nb (fun _ => 0)) (n := N') (ci := ci) X (by simp [va_up]) (by simp [va_up]) (by simp [va_up, hvn, hv]) hc hcs (nI_in hnN (by omega)) dJx4a65c_add_72be8_14 ?_
  rw [ecl]
  refine g_aload_n X dJx4a65c_add_72be8_15 rfl 1 rfl ?_
  refine g_iload_n X dJx4a65c_add_72be8_16 rfl 3 rfl ?_
  refine g_iconst (v := 1) X dJx4a65c_add_72be8_17 (by decide) ?_
  refine g_iadd X dJx4a65c_add_72be8_18 ?_
  rw [nI_1]
  refine g_puti X fa_Jx4a65c_48 (by decide +kernel) (by simp [va_up, hon, hT]) (fun ty _ h => by cases (show parseFieldDescriptor (q_dsc 13 2) = some .int by decide +kernel).symm.trans h; exact ⟨rfl, rfl⟩) dJx4a65c_add_72be8_19 ?_
  refine g_widen (kc' := 1) (kn' := 33) (by decide) (by show 0 + N' ≤ 33; omega) ?_
  exact g_vret X rfl rfl rfl dJx4a65c_add_72be8_22
set_option maxHeartbeats 4000000 in
set_option maxRecDepth 100000 in
theorem c_add1 (l : Launch) (K : q_KK) (T : Nat → Nat) (L : Nat → Nat) (P : Nat → Nat → Nat) (M : q_MM) (o v r n : Nat) (g' : q_Mem) (hT : T o = 23) (hv : T v ≠ 0) (hr : P o 1 = r) (hn : M o 2 = nI n) (hro : q_ok (T, L, P, M) (.ref r)) (hG : Mt l yJx4a65c_add_72be8 cJx4a65c_add_72be8 4 none 5 170 1 33 true K [.ref o, .ref v, .ref r, .int (nI n)] (T, L, P, q_u2 M o 0 (M o 0 + 1)) none g') : Mt l yJx4a65c_add_9ea2d cJx4a65c_add_9ea2d 2 (some FieldType.boolean) 6 200 1 33 true K [.ref o, .ref v] (T, L, P, M) (some (.int 1)) g' := by
  refine Mt.of (ρ := Unit) (F := some ()) (fun _ => some (.int 1)) (fun _ => g') (by decide) (Nat.le_of_ble_eq_true rfl) ?_ () rfl
  intro p9 e s m args below meth c0 A ad X hN9
  refine g_sub (lv' := [(0, .ref o), (1, .ref v)]) [0, 1] rfl ?_
  refine g_aload_n X dJx4a65c_add_9ea2d_0 rfl 0 rfl ?_
  refine g_dup X dJx4a65c_add_9ea2d_1 rfl ?_
  refine g_getm X fm_63 hT dJx4a65c_add_9ea2d_2 ?_
  refine g_iconst (v := 1) X dJx4a65c_add_9ea2d_5 (by decide) ?_
  refine g_iadd X dJx4a65c_add_9ea2d_6 ?_
  refine g_putm X fm_63 hT dJx4a65c_add_9ea2d_7 ?_
  refine g_aload_n X dJx4a65c_add_9ea2d_10 rfl 0 rfl ?_
  refine g_aload_n X dJx4a65c_add_9ea2d_11 rfl 1 rfl ?_
  refine g_aload_n X dJx4a65c_add_9ea2d_12 rfl 0 rfl ?_
  refine g_getr (r := r) X fa_Jx4a65c_9 hT hr dJx4a65c_add_9ea2d_13 ?_
  refine g_aload_n X dJx4a65c_add_9ea2d_16 rfl 0 rfl ?_
  refine g_geti X fa_Jx4a65c_48 hT dJx4a65c_add_9ea2d_17 ?_
  have e1 : q_u2 M o 0 (M o 0 + 1) o 2 = nI n := by rw [q_u2_at, if_pos rfl, if_neg (by decide), hn]
  show GG _ _ _ _ _ _ _ _ _ _ _ _ _ _ _ _ _ _ _ _ [.int (q_u2 M o 0 (M o 0 + 1) o 2), .ref r, .ref v, .ref o] _ _ _
  rw [e1]
  refine g_callV (rv := none) (As := [.ref v, .ref r, .int (nI n)]) (rest := []) X hG lk_Jx4a65c_131 hT rfl rfl (Nat.le_of_ble_eq_true rfl) ⟨Nat.le_of_ble_eq_true rfl, Nat.le_of_ble_eq_true rfl⟩ ⟨Nat.le_of_ble_eq_true rfl, Nat.le_of_ble_eq_true rfl⟩ dJx4a65c_add_9ea2d_20 (fun _ => ⟨rfl, by simp [q_ok, hT, hv], by simp⟩) ?_
  refine g_iconst (v := 1) X dJx4a65c_add_9ea2d_23 (by decide) ?_
  refine g_widen (kc' := 1) (kn' := 33) (by decide) (by decide) ?_
  exact g_zret1 X rfl rfl rfl dJx4a65c_add_9ea2d_24
set_option maxHeartbeats 4000000 in
set_option maxRecDepth 100000 in
theorem c_copyOfI_all (l : Launch) (K : q_KK) (T : Nat → Nat) (L : Nat → Nat) (P : Nat → Nat → Nat) (M : q_MM) (r nb n : Nat) (hT : T r = 1) (hL : L r = n) (hN : n ≤ 1000) (h0 : nb ≠ 0) (hst : ¬ q_st nb) (hf : q_no T P nb) : Mt l yJ7_copyOf_59c91 cJ7_copyOf_59c91 3 (some (FieldType.array FieldType.int)) 1 40 1 n true K [.ref r, .int (nI n)] (T, L, P, M) (some (.ref nb)) (va_up T nb 1, va_up L nb n, va_up P nb (fun _ => 0), va_up M nb (M r)) := by
  refine Mt.of (ρ := Unit) (F := some ()) (fun _ => some (.ref nb)) (fun _ => (va_up T nb 1, va_up L nb n, va_up P nb (fun _ => 0), va_up M nb (M r))) (by decide) (Nat.le_of_ble_eq_true rfl) ?_ () rfl
  intro p9 e s m args below meth c0 A ad X hN9
  have hrn : r ≠ nb := fun e => by have := hf.1; rw [e] at hT; omega
  refine g_sub (lv' := [(0, .ref r), (1, .int (nI n))]) [0, 1] rfl ?_
  refine g_iload_n X dJ7_copyOf_59c91_0 rfl 1 rfl ?_
  refine g_aload_n X dJ7_copyOf_59c91_1 rfl 0 rfl ?_
  refine g_alen (n := n) (v := nI n) X (Or.inl hT) hL rfl dJ7_copyOf_59c91_2 ?_
  refine g_ite (φ := nI n = nI n) ?_
  refine g_icmp_ne X 14 dJ7_copyOf_59c91_3 rfl (fun _ => ?_) (fun z => absurd rfl z)
  refine g_aload_n X dJ7_copyOf_59c91_6 rfl 0 rfl ?_
  refine g_clonei (n := n) X nb lk_J7_316 hT hL rfl h0 hst hf.1 (fun o9 _ k9 => hf.2 o9 k9) (by simp; exact hrn) (by simp) (Nat.le_of_ble_eq_true rfl) (by show 0 + 14 ≤ 40; omega) (Nat.le_of_ble_eq_true rfl) (by show 0 + n ≤ n; omega) dJ7_copyOf_59c91_7 ?_
  refine g_castI X wl_J7_317 (by simp [va_up]) dJ7_copyOf_59c91_10 ?_
  refine g_widen (kc' := 1) (kn' := n) (by decide) (by omega) ?_
  exact g_aret X rfl (Or.inr ⟨_, rfl⟩) rfl rfl dJ7_copyOf_59c91_13
set_option maxHeartbeats 4000000 in
set_option maxRecDepth 100000 in
theorem c_copyOfI_part (l : Launch) (K : q_KK) (T : Nat → Nat) (L : Nat → Nat) (P : Nat → Nat → Nat) (M : q_MM) (r nb n N : Nat) (hT : T r = 1) (hL : L r = N) (hn : n < N) (hN : N ≤ 1000) (h0 : nb ≠ 0) (hst : ¬ q_st nb) (hf : q_no T P nb) : Mt l yJ7_copyOf_59c91 cJ7_copyOf_59c91 3 (some (FieldType.array FieldType.int)) 1 40 1 n true K [.ref r, .int (nI n)] (T, L, P, M) (some (.ref nb)) (va_up T nb 1, va_up L nb n, va_up P nb (fun _ => 0), fun o' => if o' = nb then va_cpy (M r) (fun _ => 0) 0 0 n else va_up M nb (fun _ => 0) o') := by
  refine Mt.of (ρ := Unit) (F := some ()) (fun _ => some (.ref nb)) (fun _ => (va_up T nb 1, va_up L nb n, va_up P nb (fun _ => 0), fun o' => if o' = nb then va_cpy (M r) (fun _ => 0) 0 0 n else va_up M nb (fun _ => 0) o')) (by decide) (Nat.le_of_ble_eq_true rfl) ?_ () rfl
  intro p9 e s m args below meth c0 A ad X hN9
  have hrn : r ≠ nb := fun e => by have := hf.1; rw [e] at hT; omega
  have ecl : (nI n).toNatClampNeg = n := nI_clamp (by omega)
  refine g_sub (lv' := [(0, .ref r), (1, .int (nI n))]) [0, 1] rfl ?_
  refine g_iload_n X dJ7_copyOf_59c91_0 rfl 1 rfl ?_
  refine g_aload_n X dJ7_copyOf_59c91_1 rfl 0 rfl ?_
  refine g_alen (n := N) (v := nI N) X (Or.inl hT) hL rfl dJ7_copyOf_59c91_2 ?_
  refine g_ite (φ := nI n = nI N) ?_
  refine g_icmp_ne X 14 dJ7_copyOf_59c91_3 rfl (fun z => absurd ((nI_eq (by omega) (by omega)).mp z) (by omega)) (fun _ => ?_)
  refine g_iload_n X dJ7_copyOf_59c91_14 rfl 1 rfl ?_
  refine g_newi X nb wa_int rfl h0 hst hf.1 (fun o9 _ k9 => hf.2 o9 k9) (by simp; exact hrn) (by simp) (nI_pos (by omega)) (by rw [ecl]; omega) (Nat.le_of_ble_eq_true rfl) (by rw [ecl]; show 0 + n ≤ n; omega) dJ7_copyOf_59c91_15 ?_
  rw [ecl]
  refine g_astore_n X [(2, .ref nb), (0, .ref r), (1, .int (nI n))] dJ7_copyOf_59c91_17 rfl (by decide) rfl ?_
  refine g_aload_n X dJ7_copyOf_59c91_18 rfl 1 rfl ?_
  refine g_iconst (v := 0) X dJ7_copyOf_59c91_19 (by decide) ?_
  refine g_aload_n X dJ7_copyOf_59c91_20 rfl 0 rfl ?_
  refine g_iconst (v := 0) X dJ7_copyOf_59c91_21 (by decide) ?_
  refine g_aload_n X dJ7_copyOf_59c91_22 rfl 1 rfl ?_
  refine g_alen (n := N) (v := nI N) X (Or.inl (by simp [va_up, hrn, hT])) (by simp [va_up, hrn, hL]) rfl dJ7_copyOf_59c91_23 ?_
  refine g_iload_n X dJ7_copyOf_59c91_24 rfl 2 rfl ?_
  refine g_mmin X lk_J7_304 (Nat.le_of_ble_eq_true rfl) ⟨Nat.le_of_ble_eq_true rfl, Nat.le_of_ble_eq_true rfl⟩ ⟨Nat.le_of_ble_eq_true rfl, by show 0 + n ≤ n; omega⟩ dJ7_copyOf_59c91_25 ?_
  rw [if_pos (nI_lt hn (by omega))]
  refine g_copyi (n := N) (n2 := n) X lk_J7_150 (by simp [va_up, hrn, hT]) (by simp [va_up, hrn, hL]) (by simp [va_up]) (by simp [va_up]) (by show 0 + (nativeFrameWords "java/lang/System" "arraycopy" 5 + 11) ≤ 40; decide) (Nat.le_of_ble_eq_true rfl) (by decide) (by decide) (nI_pos (by omega)) (by rw [ecl]; show 0 + n ≤ N; omega) (by rw [ecl]; show 0 + n ≤ n; omega) dJ7_copyOf_59c91_28 ?_
  refine g_aload_n X dJ7_copyOf_59c91_31 rfl 0 rfl ?_
  refine g_widen (kc' := 1) (kn' := n) (by decide) (by omega) ?_
  refine g_aret X rfl (Or.inr ⟨_, rfl⟩) rfl ?_ dJ7_copyOf_59c91_32
  rw [ecl, show (0 : Int32).toNatClampNeg = 0 by decide]
  have e1 : va_up M nb (fun _ => 0) r = M r := by simp [va_up, hrn]
  have e2 : va_up M nb (fun _ => 0) nb = fun _ => 0 := by simp [va_up]
  rw [e1, e2]
