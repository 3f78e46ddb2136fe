theorem dX12_thrown_0 : decode cX12_thrown 0 = .ok (.aload_n 0, 1) := by decide +kernel
theorem dX12_thrown_1 : decode cX12_thrown 1 = .ok (.getfield 1, 3) := by decide +kernel
theorem dX12_thrown_4 : decode cX12_thrown 4 = .ok (.ireturn, 1) := by decide +kernel
theorem dX12_in_0 : decode cX12_in 0 = .ok (.lload_n 0, 1) := by decide +kernel
theorem dX12_in_1 : decode cX12_in 1 = .ok (.lload_n 2, 1) := by decide +kernel
theorem dX12_in_2 : decode cX12_in 2 = .ok (.lcmp, 1) := by decide +kernel
theorem dX12_in_3 : decode cX12_in 3 = .ok (.ifCond .lt 14, 3) := by decide +kernel
theorem dX12_in_6 : decode cX12_in 6 = .ok (.lload_n 0, 1) := by decide +kernel
theorem dX12_in_7 : decode cX12_in 7 = .ok (.lload 4, 2) := by decide +kernel
theorem dX12_in_9 : decode cX12_in 9 = .ok (.lcmp, 1) := by decide +kernel
theorem dX12_in_10 : decode cX12_in 10 = .ok (.ifCond .gt 7, 3) := by decide +kernel
theorem dX12_in_13 : decode cX12_in 13 = .ok (.iconst 1, 1) := by decide +kernel
theorem dX12_in_14 : decode cX12_in 14 = .ok (.goto 4, 3) := by decide +kernel
theorem dX12_in_17 : decode cX12_in 17 = .ok (.iconst 0, 1) := by decide +kernel
theorem dX12_in_18 : decode cX12_in 18 = .ok (.ireturn, 1) := by decide +kernel
theorem dX12_refuse_0 : decode cX12_refuse 0 = .ok (.aload_n 0, 1) := by decide +kernel
theorem dX12_refuse_1 : decode cX12_refuse 1 = .ok (.iconst 1, 1) := by decide +kernel
theorem dX12_refuse_2 : decode cX12_refuse 2 = .ok (.putfield 1, 3) := by decide +kernel
theorem dX12_refuse_5 : decode cX12_refuse 5 = .ok (.iconst 0, 1) := by decide +kernel
theorem dX12_refuse_6 : decode cX12_refuse 6 = .ok (.ireturn, 1) := by decide +kernel
theorem dX12_truth_0 : decode cX12_truth 0 = .ok (.iload_n 0, 1) := by decide +kernel
theorem dX12_truth_1 : decode cX12_truth 1 = .ok (.ifCond .eq 7, 3) := by decide +kernel
theorem dX12_truth_4 : decode cX12_truth 4 = .ok (.iconst 1, 1) := by decide +kernel
theorem dX12_truth_5 : decode cX12_truth 5 = .ok (.goto 4, 3) := by decide +kernel
theorem dX12_truth_8 : decode cX12_truth 8 = .ok (.iconst 0, 1) := by decide +kernel
theorem dX12_truth_9 : decode cX12_truth 9 = .ok (.ireturn, 1) := by decide +kernel
theorem dX12_enters_0 : decode cX12_enters 0 = .ok (.aload_n 0, 1) := by decide +kernel
theorem dX12_enters_1 : decode cX12_enters 1 = .ok (.getfield 7, 3) := by decide +kernel
theorem dX12_enters_4 : decode cX12_enters 4 = .ok (.aload_n 0, 1) := by decide +kernel
theorem dX12_enters_5 : decode cX12_enters 5 = .ok (.getfield 11, 3) := by decide +kernel
theorem dX12_enters_8 : decode cX12_enters 8 = .ok (.iload_n 1, 1) := by decide +kernel
theorem dX12_enters_9 : decode cX12_enters 9 = .ok (.iastore, 1) := by decide +kernel
theorem dX12_enters_10 : decode cX12_enters 10 = .ok (.aload_n 0, 1) := by decide +kernel
theorem dX12_enters_11 : decode cX12_enters 11 = .ok (.dup, 1) := by decide +kernel
theorem dX12_enters_12 : decode cX12_enters 12 = .ok (.getfield 11, 3) := by decide +kernel
theorem dX12_enters_15 : decode cX12_enters 15 = .ok (.iconst 1, 1) := by decide +kernel
theorem dX12_enters_16 : decode cX12_enters 16 = .ok (.iadd, 1) := by decide +kernel
theorem dX12_enters_17 : decode cX12_enters 17 = .ok (.putfield 11, 3) := by decide +kernel
theorem dX12_enters_20 : decode cX12_enters 20 = .ok (.return_, 1) := by decide +kernel
theorem dX12_isRoom_0 : decode cX12_isRoom 0 = .ok (.iload_n 1, 1) := by decide +kernel
theorem dX12_isRoom_1 : decode cX12_isRoom 1 = .ok (.i2l, 1) := by decide +kernel
theorem dX12_isRoom_2 : decode cX12_isRoom 2 = .ok (.lconst 0, 1) := by decide +kernel
theorem dX12_isRoom_3 : decode cX12_isRoom 3 = .ok (.aload_n 0, 1) := by decide +kernel
theorem dX12_isRoom_4 : decode cX12_isRoom 4 = .ok (.getfield 14, 3) := by decide +kernel
theorem dX12_isRoom_7 : decode cX12_isRoom 7 = .ok (.iconst 1, 1) := by decide +kernel
theorem dX12_isRoom_8 : decode cX12_isRoom 8 = .ok (.isub, 1) := by decide +kernel
theorem dX12_isRoom_9 : decode cX12_isRoom 9 = .ok (.i2l, 1) := by decide +kernel
theorem dX12_isRoom_10 : decode cX12_isRoom 10 = .ok (.invokestatic 17, 3) := by decide +kernel
theorem dX12_isRoom_13 : decode cX12_isRoom 13 = .ok (.ireturn, 1) := by decide +kernel
theorem dX12_isWall_0 : decode cX12_isWall 0 = .ok (.iload_n 1, 1) := by decide +kernel
theorem dX12_isWall_1 : decode cX12_isWall 1 = .ok (.i2l, 1) := by decide +kernel
theorem dX12_isWall_2 : decode cX12_isWall 2 = .ok (.lconst 0, 1) := by decide +kernel
theorem dX12_isWall_3 : decode cX12_isWall 3 = .ok (.aload_n 0, 1) := by decide +kernel
theorem dX12_isWall_4 : decode cX12_isWall 4 = .ok (.getfield 21, 3) := by decide +kernel
theorem dX12_isWall_7 : decode cX12_isWall 7 = .ok (.iconst 1, 1) := by decide +kernel
theorem dX12_isWall_8 : decode cX12_isWall 8 = .ok (.isub, 1) := by decide +kernel
theorem dX12_isWall_9 : decode cX12_isWall 9 = .ok (.i2l, 1) := by decide +kernel
theorem dX12_isWall_10 : decode cX12_isWall 10 = .ok (.invokestatic 17, 3) := by decide +kernel
theorem dX12_isWall_13 : decode cX12_isWall 13 = .ok (.ireturn, 1) := by decide +kernel
theorem dX12_room_0 : decode cX12_room 0 = .ok (.aload_n 0, 1) := by decide +kernel
theorem dX12_room_1 : decode cX12_room 1 = .ok (.iconst 0, 1) := by decide +kernel
theorem dX12_room_2 : decode cX12_room 2 = .ok (.putfield 1, 3) := by decide +kernel
theorem dX12_room_5 : decode cX12_room 5 = .ok (.aload_n 0, 1) := by decide +kernel
theorem dX12_room_6 : decode cX12_room 6 = .ok (.getfield 14, 3) := by decide +kernel
theorem dX12_room_9 : decode cX12_room 9 = .ok (.bipush 10, 2) := by decide +kernel
theorem dX12_room_11 : decode cX12_room 11 = .ok (.if_icmp .ne 5, 3) := by decide +kernel
theorem dX12_room_14 : decode cX12_room 14 = .ok (.iconst (-1), 1) := by decide +kernel
theorem dX12_room_15 : decode cX12_room 15 = .ok (.ireturn, 1) := by decide +kernel
theorem dX12_room_16 : decode cX12_room 16 = .ok (.aload_n 0, 1) := by decide +kernel
theorem dX12_room_17 : decode cX12_room 17 = .ok (.dup, 1) := by decide +kernel
theorem dX12_room_18 : decode cX12_room 18 = .ok (.getfield 14, 3) := by decide +kernel
theorem dX12_room_21 : decode cX12_room 21 = .ok (.iconst 1, 1) := by decide +kernel
theorem dX12_room_22 : decode cX12_room 22 = .ok (.iadd, 1) := by decide +kernel
theorem dX12_room_23 : decode cX12_room 23 = .ok (.putfield 14, 3) := by decide +kernel
theorem dX12_room_26 : decode cX12_room 26 = .ok (.aload_n 0, 1) := by decide +kernel
theorem dX12_room_27 : decode cX12_room 27 = .ok (.getfield 14, 3) := by decide +kernel
theorem dX12_room_30 : decode cX12_room 30 = .ok (.iconst 1, 1) := by decide +kernel
theorem dX12_room_31 : decode cX12_room 31 = .ok (.isub, 1) := by decide +kernel
theorem dX12_room_32 : decode cX12_room 32 = .ok (.ireturn, 1) := by decide +kernel
theorem dX12_door_0 : decode cX12_door 0 = .ok (.aload_n 0, 1) := by decide +kernel
theorem dX12_door_1 : decode cX12_door 1 = .ok (.iconst 0, 1) := by decide +kernel
theorem dX12_door_2 : decode cX12_door 2 = .ok (.putfield 1, 3) := by decide +kernel
theorem dX12_door_5 : decode cX12_door 5 = .ok (.aload_n 0, 1) := by decide +kernel
theorem dX12_door_6 : decode cX12_door 6 = .ok (.iload_n 1, 1) := by decide +kernel
theorem dX12_door_7 : decode cX12_door 7 = .ok (.invokevirtual 24, 3) := by decide +kernel
theorem dX12_door_10 : decode cX12_door 10 = .ok (.ifCond .eq 54, 3) := by decide +kernel
theorem dX12_door_13 : decode cX12_door 13 = .ok (.aload_n 0, 1) := by decide +kernel
theorem dX12_door_14 : decode cX12_door 14 = .ok (.iload_n 2, 1) := by decide +kernel
theorem dX12_door_15 : decode cX12_door 15 = .ok (.invokevirtual 24, 3) := by decide +kernel
theorem dX12_door_18 : decode cX12_door 18 = .ok (.ifCond .eq 46, 3) := by decide +kernel
theorem dX12_door_21 : decode cX12_door 21 = .ok (.iload_n 1, 1) := by decide +kernel
theorem dX12_door_22 : decode cX12_door 22 = .ok (.iload_n 2, 1) := by decide +kernel
theorem dX12_door_23 : decode cX12_door 23 = .ok (.if_icmp .eq 41, 3) := by decide +kernel
theorem dX12_door_26 : decode cX12_door 26 = .ok (.iload_n 3, 1) := by decide +kernel
theorem dX12_door_27 : decode cX12_door 27 = .ok (.i2l, 1) := by decide +kernel
theorem dX12_door_28 : decode cX12_door 28 = .ok (.ldc2_w 28, 3) := by decide +kernel
theorem dX12_door_31 : decode cX12_door 31 = .ok (.ldc2_w 30, 3) := by decide +kernel
theorem dX12_door_34 : decode cX12_door 34 = .ok (.invokestatic 17, 3) := by decide +kernel
theorem dX12_door_37 : decode cX12_door 37 = .ok (.ifCond .eq 27, 3) := by decide +kernel
theorem dX12_door_40 : decode cX12_door 40 = .ok (.iload 4, 2) := by decide +kernel
theorem dX12_door_42 : decode cX12_door 42 = .ok (.i2l, 1) := by decide +kernel
theorem dX12_door_43 : decode cX12_door 43 = .ok (.ldc2_w 32, 3) := by decide +kernel
theorem dX12_door_46 : decode cX12_door 46 = .ok (.ldc2_w 34, 3) := by decide +kernel
theorem dX12_door_49 : decode cX12_door 49 = .ok (.invokestatic 17, 3) := by decide +kernel
theorem dX12_door_52 : decode cX12_door 52 = .ok (.ifCond .eq 12, 3) := by decide +kernel
theorem dX12_door_55 : decode cX12_door 55 = .ok (.aload_n 0, 1) := by decide +kernel
theorem dX12_door_56 : decode cX12_door 56 = .ok (.getfield 36, 3) := by decide +kernel
theorem dX12_door_59 : decode cX12_door 59 = .ok (.bipush 20, 2) := by decide +kernel
theorem dX12_door_61 : decode cX12_door 61 = .ok (.if_icmp .ne 5, 3) := by decide +kernel
theorem dX12_door_64 : decode cX12_door 64 = .ok (.iconst (-1), 1) := by decide +kernel
theorem dX12_door_65 : decode cX12_door 65 = .ok (.ireturn, 1) := by decide +kernel
theorem dX12_door_66 : decode cX12_door 66 = .ok (.aload_n 0, 1) := by decide +kernel
theorem dX12_door_67 : decode cX12_door 67 = .ok (.getfield 39, 3) := by decide +kernel
theorem dX12_door_70 : decode cX12_door 70 = .ok (.aload_n 0, 1) := by decide +kernel
theorem dX12_door_71 : decode cX12_door 71 = .ok (.getfield 36, 3) := by decide +kernel
theorem dX12_door_74 : decode cX12_door 74 = .ok (.iload_n 1, 1) := by decide +kernel
theorem dX12_door_75 : decode cX12_door 75 = .ok (.iastore, 1) := by decide +kernel
theorem dX12_door_76 : decode cX12_door 76 = .ok (.aload_n 0, 1) := by decide +kernel
theorem dX12_door_77 : decode cX12_door 77 = .ok (.getfield 42, 3) := by decide +kernel
theorem dX12_door_80 : decode cX12_door 80 = .ok (.aload_n 0, 1) := by decide +kernel
theorem dX12_door_81 : decode cX12_door 81 = .ok (.getfield 36, 3) := by decide +kernel
theorem dX12_door_84 : decode cX12_door 84 = .ok (.iload_n 2, 1) := by decide +kernel
theorem dX12_door_85 : decode cX12_door 85 = .ok (.iastore, 1) := by decide +kernel
theorem dX12_door_86 : decode cX12_door 86 = .ok (.aload_n 0, 1) := by decide +kernel
theorem dX12_door_87 : decode cX12_door 87 = .ok (.getfield 45, 3) := by decide +kernel
theorem dX12_door_90 : decode cX12_door 90 = .ok (.aload_n 0, 1) := by decide +kernel
theorem dX12_door_91 : decode cX12_door 91 = .ok (.getfield 36, 3) := by decide +kernel
theorem dX12_door_94 : decode cX12_door 94 = .ok (.iload_n 3, 1) := by decide +kernel
theorem dX12_door_95 : decode cX12_door 95 = .ok (.iastore, 1) := by decide +kernel
theorem dX12_door_96 : decode cX12_door 96 = .ok (.aload_n 0, 1) := by decide +kernel
theorem dX12_door_97 : decode cX12_door 97 = .ok (.getfield 48, 3) := by decide +kernel
theorem dX12_door_100 : decode cX12_door 100 = .ok (.aload_n 0, 1) := by decide +kernel
theorem dX12_door_101 : decode cX12_door 101 = .ok (.getfield 36, 3) := by decide +kernel
theorem dX12_door_104 : decode cX12_door 104 = .ok (.iload 4, 2) := by decide +kernel
theorem dX12_door_106 : decode cX12_door 106 = .ok (.iastore, 1) := by decide +kernel
theorem dX12_door_107 : decode cX12_door 107 = .ok (.aload_n 0, 1) := by decide +kernel
theorem dX12_door_108 : decode cX12_door 108 = .ok (.dup, 1) := by decide +kernel
theorem dX12_door_109 : decode cX12_door 109 = .ok (.getfield 36, 3) := by decide +kernel
theorem dX12_door_112 : decode cX12_door 112 = .ok (.iconst 1, 1) := by decide +kernel
theorem dX12_door_113 : decode cX12_door 113 = .ok (.iadd, 1) := by decide +kernel
theorem dX12_door_114 : decode cX12_door 114 = .ok (.putfield 36, 3) := by decide +kernel
theorem dX12_door_117 : decode cX12_door 117 = .ok (.aload_n 0, 1) := by decide +kernel
theorem dX12_door_118 : decode cX12_door 118 = .ok (.getfield 36, 3) := by decide +kernel
theorem dX12_door_121 : decode cX12_door 121 = .ok (.iconst 1, 1) := by decide +kernel
theorem dX12_door_122 : decode cX12_door 122 = .ok (.isub, 1) := by decide +kernel
theorem dX12_door_123 : decode cX12_door 123 = .ok (.ireturn, 1) := by decide +kernel
theorem dX12_wall_0 : decode cX12_wall 0 = .ok (.aload_n 0, 1) := by decide +kernel
theorem dX12_wall_1 : decode cX12_wall 1 = .ok (.iconst 0, 1) := by decide +kernel
theorem dX12_wall_2 : decode cX12_wall 2 = .ok (.putfield 1, 3) := by decide +kernel
theorem dX12_wall_5 : decode cX12_wall 5 = .ok (.aload_n 0, 1) := by decide +kernel
theorem dX12_wall_6 : decode cX12_wall 6 = .ok (.iload_n 1, 1) := by decide +kernel
theorem dX12_wall_7 : decode cX12_wall 7 = .ok (.invokevirtual 24, 3) := by decide +kernel
theorem dX12_wall_10 : decode cX12_wall 10 = .ok (.ifCond .eq 53, 3) := by decide +kernel
theorem dX12_wall_13 : decode cX12_wall 13 = .ok (.iload_n 2, 1) := by decide +kernel
theorem dX12_wall_14 : decode cX12_wall 14 = .ok (.i2l, 1) := by decide +kernel
theorem dX12_wall_15 : decode cX12_wall 15 = .ok (.ldc2_w 28, 3) := by decide +kernel
theorem dX12_wall_18 : decode cX12_wall 18 = .ok (.ldc2_w 51, 3) := by decide +kernel
theorem dX12_wall_21 : decode cX12_wall 21 = .ok (.invokestatic 17, 3) := by decide +kernel
theorem dX12_wall_24 : decode cX12_wall 24 = .ok (.ifCond .eq 39, 3) := by decide +kernel
theorem dX12_wall_27 : decode cX12_wall 27 = .ok (.iload_n 3, 1) := by decide +kernel
theorem dX12_wall_28 : decode cX12_wall 28 = .ok (.i2l, 1) := by decide +kernel
theorem dX12_wall_29 : decode cX12_wall 29 = .ok (.ldc2_w 32, 3) := by decide +kernel
theorem dX12_wall_32 : decode cX12_wall 32 = .ok (.ldc2_w 53, 3) := by decide +kernel
theorem dX12_wall_35 : decode cX12_wall 35 = .ok (.invokestatic 17, 3) := by decide +kernel
theorem dX12_wall_38 : decode cX12_wall 38 = .ok (.ifCond .eq 25, 3) := by decide +kernel
theorem dX12_wall_41 : decode cX12_wall 41 = .ok (.iload 4, 2) := by decide +kernel
theorem dX12_wall_43 : decode cX12_wall 43 = .ok (.i2l, 1) := by decide +kernel
theorem dX12_wall_44 : decode cX12_wall 44 = .ok (.lconst 1, 1) := by decide +kernel
theorem dX12_wall_45 : decode cX12_wall 45 = .ok (.ldc2_w 55, 3) := by decide +kernel
theorem dX12_wall_48 : decode cX12_wall 48 = .ok (.invokestatic 17, 3) := by decide +kernel
theorem dX12_wall_51 : decode cX12_wall 51 = .ok (.ifCond .eq 12, 3) := by decide +kernel
theorem dX12_wall_54 : decode cX12_wall 54 = .ok (.aload_n 0, 1) := by decide +kernel
theorem dX12_wall_55 : decode cX12_wall 55 = .ok (.getfield 21, 3) := by decide +kernel
theorem dX12_wall_58 : decode cX12_wall 58 = .ok (.bipush 16, 2) := by decide +kernel
theorem dX12_wall_60 : decode cX12_wall 60 = .ok (.if_icmp .ne 5, 3) := by decide +kernel
theorem dX12_wall_63 : decode cX12_wall 63 = .ok (.iconst (-1), 1) := by decide +kernel
theorem dX12_wall_64 : decode cX12_wall 64 = .ok (.ireturn, 1) := by decide +kernel
theorem dX12_wall_65 : decode cX12_wall 65 = .ok (.aload_n 0, 1) := by decide +kernel
theorem dX12_wall_66 : decode cX12_wall 66 = .ok (.getfield 57, 3) := by decide +kernel
theorem dX12_wall_69 : decode cX12_wall 69 = .ok (.aload_n 0, 1) := by decide +kernel
theorem dX12_wall_70 : decode cX12_wall 70 = .ok (.getfield 21, 3) := by decide +kernel
theorem dX12_wall_73 : decode cX12_wall 73 = .ok (.iload_n 1, 1) := by decide +kernel
theorem dX12_wall_74 : decode cX12_wall 74 = .ok (.iastore, 1) := by decide +kernel
theorem dX12_wall_75 : decode cX12_wall 75 = .ok (.aload_n 0, 1) := by decide +kernel
theorem dX12_wall_76 : decode cX12_wall 76 = .ok (.getfield 60, 3) := by decide +kernel
theorem dX12_wall_79 : decode cX12_wall 79 = .ok (.aload_n 0, 1) := by decide +kernel
theorem dX12_wall_80 : decode cX12_wall 80 = .ok (.getfield 21, 3) := by decide +kernel
theorem dX12_wall_83 : decode cX12_wall 83 = .ok (.iload_n 2, 1) := by decide +kernel
theorem dX12_wall_84 : decode cX12_wall 84 = .ok (.iastore, 1) := by decide +kernel
theorem dX12_wall_85 : decode cX12_wall 85 = .ok (.aload_n 0, 1) := by decide +kernel
theorem dX12_wall_86 : decode cX12_wall 86 = .ok (.getfield 63, 3) := by decide +kernel
theorem dX12_wall_89 : decode cX12_wall 89 = .ok (.aload_n 0, 1) := by decide +kernel
theorem dX12_wall_90 : decode cX12_wall 90 = .ok (.getfield 21, 3) := by decide +kernel
theorem dX12_wall_93 : decode cX12_wall 93 = .ok (.iload_n 3, 1) := by decide +kernel
theorem dX12_wall_94 : decode cX12_wall 94 = .ok (.iastore, 1) := by decide +kernel
theorem dX12_wall_95 : decode cX12_wall 95 = .ok (.aload_n 0, 1) := by decide +kernel
theorem dX12_wall_96 : decode cX12_wall 96 = .ok (.getfield 66, 3) := by decide +kernel
theorem dX12_wall_99 : decode cX12_wall 99 = .ok (.aload_n 0, 1) := by decide +kernel
theorem dX12_wall_100 : decode cX12_wall 100 = .ok (.getfield 21, 3) := by decide +kernel
theorem dX12_wall_103 : decode cX12_wall 103 = .ok (.iload 4, 2) := by decide +kernel
theorem dX12_wall_105 : decode cX12_wall 105 = .ok (.iastore, 1) := by decide +kernel
theorem dX12_wall_106 : decode cX12_wall 106 = .ok (.aload_n 0, 1) := by decide +kernel
theorem dX12_wall_107 : decode cX12_wall 107 = .ok (.getfield 69, 3) := by decide +kernel
theorem dX12_wall_110 : decode cX12_wall 110 = .ok (.aload_n 0, 1) := by decide +kernel
theorem dX12_wall_111 : decode cX12_wall 111 = .ok (.getfield 21, 3) := by decide +kernel
theorem dX12_wall_114 : decode cX12_wall 114 = .ok (.iconst 1, 1) := by decide +kernel
theorem dX12_wall_115 : decode cX12_wall 115 = .ok (.iastore, 1) := by decide +kernel
theorem dX12_wall_116 : decode cX12_wall 116 = .ok (.aload_n 0, 1) := by decide +kernel
theorem dX12_wall_117 : decode cX12_wall 117 = .ok (.getfield 72, 3) := by decide +kernel
theorem dX12_wall_120 : decode cX12_wall 120 = .ok (.aload_n 0, 1) := by decide +kernel
theorem dX12_wall_121 : decode cX12_wall 121 = .ok (.getfield 21, 3) := by decide +kernel
theorem dX12_wall_124 : decode cX12_wall 124 = .ok (.iconst 0, 1) := by decide +kernel
theorem dX12_wall_125 : decode cX12_wall 125 = .ok (.iastore, 1) := by decide +kernel
theorem dX12_wall_126 : decode cX12_wall 126 = .ok (.aload_n 0, 1) := by decide +kernel
theorem dX12_wall_127 : decode cX12_wall 127 = .ok (.dup, 1) := by decide +kernel
theorem dX12_wall_128 : decode cX12_wall 128 = .ok (.getfield 21, 3) := by decide +kernel
theorem dX12_wall_131 : decode cX12_wall 131 = .ok (.iconst 1, 1) := by decide +kernel
theorem dX12_wall_132 : decode cX12_wall 132 = .ok (.iadd, 1) := by decide +kernel
theorem dX12_wall_133 : decode cX12_wall 133 = .ok (.putfield 21, 3) := by decide +kernel
theorem dX12_wall_136 : decode cX12_wall 136 = .ok (.aload_n 0, 1) := by decide +kernel
theorem dX12_wall_137 : decode cX12_wall 137 = .ok (.getfield 21, 3) := by decide +kernel
theorem dX12_wall_140 : decode cX12_wall 140 = .ok (.iconst 1, 1) := by decide +kernel
theorem dX12_wall_141 : decode cX12_wall 141 = .ok (.isub, 1) := by decide +kernel
theorem dX12_wall_142 : decode cX12_wall 142 = .ok (.ireturn, 1) := by decide +kernel
theorem dX12_lit_0 : decode cX12_lit 0 = .ok (.iload_n 2, 1) := by decide +kernel
theorem dX12_lit_1 : decode cX12_lit 1 = .ok (.i2l, 1) := by decide +kernel
theorem dX12_lit_2 : decode cX12_lit 2 = .ok (.aload_n 0, 1) := by decide +kernel
theorem dX12_lit_3 : decode cX12_lit 3 = .ok (.getfield 75, 3) := by decide +kernel
theorem dX12_lit_6 : decode cX12_lit 6 = .ok (.iconst 2, 1) := by decide +kernel
theorem dX12_lit_7 : decode cX12_lit 7 = .ok (.iaload, 1) := by decide +kernel
theorem dX12_lit_8 : decode cX12_lit 8 = .ok (.i2l, 1) := by decide +kernel
theorem dX12_lit_9 : decode cX12_lit 9 = .ok (.aload_n 0, 1) := by decide +kernel
theorem dX12_lit_10 : decode cX12_lit 10 = .ok (.getfield 75, 3) := by decide +kernel
theorem dX12_lit_13 : decode cX12_lit 13 = .ok (.iconst 3, 1) := by decide +kernel
theorem dX12_lit_14 : decode cX12_lit 14 = .ok (.iaload, 1) := by decide +kernel
theorem dX12_lit_15 : decode cX12_lit 15 = .ok (.i2l, 1) := by decide +kernel
theorem dX12_lit_16 : decode cX12_lit 16 = .ok (.invokestatic 17, 3) := by decide +kernel
theorem dX12_lit_19 : decode cX12_lit 19 = .ok (.istore_n 3, 1) := by decide +kernel
theorem dX12_lit_20 : decode cX12_lit 20 = .ok (.iload_n 3, 1) := by decide +kernel
theorem dX12_lit_21 : decode cX12_lit 21 = .ok (.ifCond .eq 39, 3) := by decide +kernel
theorem dX12_lit_24 : decode cX12_lit 24 = .ok (.iload_n 2, 1) := by decide +kernel
theorem dX12_lit_25 : decode cX12_lit 25 = .ok (.i2l, 1) := by decide +kernel
theorem dX12_lit_26 : decode cX12_lit 26 = .ok (.aload_n 0, 1) := by decide +kernel
theorem dX12_lit_27 : decode cX12_lit 27 = .ok (.getfield 69, 3) := by decide +kernel
theorem dX12_lit_30 : decode cX12_lit 30 = .ok (.iload_n 1, 1) := by decide +kernel
theorem dX12_lit_31 : decode cX12_lit 31 = .ok (.iaload, 1) := by decide +kernel
theorem dX12_lit_32 : decode cX12_lit 32 = .ok (.i2l, 1) := by decide +kernel
theorem dX12_lit_33 : decode cX12_lit 33 = .ok (.aload_n 0, 1) := by decide +kernel
theorem dX12_lit_34 : decode cX12_lit 34 = .ok (.getfield 72, 3) := by decide +kernel
theorem dX12_lit_37 : decode cX12_lit 37 = .ok (.iload_n 1, 1) := by decide +kernel
theorem dX12_lit_38 : decode cX12_lit 38 = .ok (.iaload, 1) := by decide +kernel
theorem dX12_lit_39 : decode cX12_lit 39 = .ok (.i2l, 1) := by decide +kernel
theorem dX12_lit_40 : decode cX12_lit 40 = .ok (.invokestatic 17, 3) := by decide +kernel
theorem dX12_lit_43 : decode cX12_lit 43 = .ok (.ifCond .ne 17, 3) := by decide +kernel
theorem dX12_lit_46 : decode cX12_lit 46 = .ok (.aload_n 0, 1) := by decide +kernel
theorem dX12_lit_47 : decode cX12_lit 47 = .ok (.getfield 78, 3) := by decide +kernel
theorem dX12_lit_50 : decode cX12_lit 50 = .ok (.bipush 24, 2) := by decide +kernel
theorem dX12_lit_52 : decode cX12_lit 52 = .ok (.iload_n 1, 1) := by decide +kernel
theorem dX12_lit_53 : decode cX12_lit 53 = .ok (.imul, 1) := by decide +kernel
theorem dX12_lit_54 : decode cX12_lit 54 = .ok (.iload_n 2, 1) := by decide +kernel
theorem dX12_lit_55 : decode cX12_lit 55 = .ok (.iadd, 1) := by decide +kernel
theorem dX12_lit_56 : decode cX12_lit 56 = .ok (.iaload, 1) := by decide +kernel
theorem dX12_lit_57 : decode cX12_lit 57 = .ok (.goto 4, 3) := by decide +kernel
theorem dX12_lit_60 : decode cX12_lit 60 = .ok (.iconst 0, 1) := by decide +kernel
theorem dX12_lit_61 : decode cX12_lit 61 = .ok (.ireturn, 1) := by decide +kernel
theorem dX12_daylight_0 : decode cX12_daylight 0 = .ok (.iconst 0, 1) := by decide +kernel
theorem dX12_daylight_1 : decode cX12_daylight 1 = .ok (.istore_n 2, 1) := by decide +kernel
theorem dX12_daylight_2 : decode cX12_daylight 2 = .ok (.iconst 0, 1) := by decide +kernel
theorem dX12_daylight_3 : decode cX12_daylight 3 = .ok (.istore_n 3, 1) := by decide +kernel
theorem dX12_daylight_4 : decode cX12_daylight 4 = .ok (.iload_n 3, 1) := by decide +kernel
theorem dX12_daylight_5 : decode cX12_daylight 5 = .ok (.bipush 24, 2) := by decide +kernel
theorem dX12_daylight_7 : decode cX12_daylight 7 = .ok (.if_icmp .ge 18, 3) := by decide +kernel
theorem dX12_daylight_10 : decode cX12_daylight 10 = .ok (.iload_n 2, 1) := by decide +kernel
theorem dX12_daylight_11 : decode cX12_daylight 11 = .ok (.aload_n 0, 1) := by decide +kernel
theorem dX12_daylight_12 : decode cX12_daylight 12 = .ok (.iload_n 1, 1) := by decide +kernel
theorem dX12_daylight_13 : decode cX12_daylight 13 = .ok (.iload_n 3, 1) := by decide +kernel
theorem dX12_daylight_14 : decode cX12_daylight 14 = .ok (.invokevirtual 81, 3) := by decide +kernel
theorem dX12_daylight_17 : decode cX12_daylight 17 = .ok (.iadd, 1) := by decide +kernel
theorem dX12_daylight_18 : decode cX12_daylight 18 = .ok (.istore_n 2, 1) := by decide +kernel
theorem dX12_daylight_19 : decode cX12_daylight 19 = .ok (.iinc 3 1, 3) := by decide +kernel
theorem dX12_daylight_22 : decode cX12_daylight 22 = .ok (.goto (-18), 3) := by decide +kernel
theorem dX12_daylight_25 : decode cX12_daylight 25 = .ok (.iload_n 2, 1) := by decide +kernel
theorem dX12_daylight_26 : decode cX12_daylight 26 = .ok (.ireturn, 1) := by decide +kernel
theorem dX12_peak_0 : decode cX12_peak 0 = .ok (.iconst 0, 1) := by decide +kernel
theorem dX12_peak_1 : decode cX12_peak 1 = .ok (.istore_n 2, 1) := by decide +kernel
theorem dX12_peak_2 : decode cX12_peak 2 = .ok (.iconst 0, 1) := by decide +kernel
theorem dX12_peak_3 : decode cX12_peak 3 = .ok (.istore_n 3, 1) := by decide +kernel
theorem dX12_peak_4 : decode cX12_peak 4 = .ok (.iload_n 3, 1) := by decide +kernel
theorem dX12_peak_5 : decode cX12_peak 5 = .ok (.bipush 24, 2) := by decide +kernel
theorem dX12_peak_7 : decode cX12_peak 7 = .ok (.if_icmp .ge 20, 3) := by decide +kernel
theorem dX12_peak_10 : decode cX12_peak 10 = .ok (.iload_n 2, 1) := by decide +kernel
theorem dX12_peak_11 : decode cX12_peak 11 = .ok (.aload_n 0, 1) := by decide +kernel
theorem dX12_peak_12 : decode cX12_peak 12 = .ok (.iload_n 1, 1) := by decide +kernel
theorem dX12_peak_13 : decode cX12_peak 13 = .ok (.iload_n 3, 1) := by decide +kernel
theorem dX12_peak_14 : decode cX12_peak 14 = .ok (.invokevirtual 81, 3) := by decide +kernel
theorem dX12_peak_17 : decode cX12_peak 17 = .ok (.invokestatic 85, 3) := by decide +kernel
theorem dX12_peak_20 : decode cX12_peak 20 = .ok (.istore_n 2, 1) := by decide +kernel
theorem dX12_peak_21 : decode cX12_peak 21 = .ok (.iinc 3 1, 3) := by decide +kernel
theorem dX12_peak_24 : decode cX12_peak 24 = .ok (.goto (-20), 3) := by decide +kernel
theorem dX12_peak_27 : decode cX12_peak 27 = .ok (.iload_n 2, 1) := by decide +kernel
theorem dX12_peak_28 : decode cX12_peak 28 = .ok (.ireturn, 1) := by decide +kernel
theorem dX12_light_0 : decode cX12_light 0 = .ok (.aload_n 0, 1) := by decide +kernel
theorem dX12_light_1 : decode cX12_light 1 = .ok (.iconst 0, 1) := by decide +kernel
theorem dX12_light_2 : decode cX12_light 2 = .ok (.putfield 1, 3) := by decide +kernel
theorem dX12_light_5 : decode cX12_light 5 = .ok (.aload_n 0, 1) := by decide +kernel
theorem dX12_light_6 : decode cX12_light 6 = .ok (.iload_n 1, 1) := by decide +kernel
theorem dX12_light_7 : decode cX12_light 7 = .ok (.invokevirtual 90, 3) := by decide +kernel
theorem dX12_light_10 : decode cX12_light 10 = .ok (.ifCond .eq 21, 3) := by decide +kernel
theorem dX12_light_13 : decode cX12_light 13 = .ok (.iload_n 2, 1) := by decide +kernel
theorem dX12_light_14 : decode cX12_light 14 = .ok (.i2l, 1) := by decide +kernel
theorem dX12_light_15 : decode cX12_light 15 = .ok (.lconst 0, 1) := by decide +kernel
theorem dX12_light_16 : decode cX12_light 16 = .ok (.ldc2_w 93, 3) := by decide +kernel
theorem dX12_light_19 : decode cX12_light 19 = .ok (.invokestatic 17, 3) := by decide +kernel
theorem dX12_light_22 : decode cX12_light 22 = .ok (.ifCond .eq 9, 3) := by decide +kernel
theorem dX12_light_25 : decode cX12_light 25 = .ok (.iload_n 3, 1) := by decide +kernel
theorem dX12_light_26 : decode cX12_light 26 = .ok (.bipush 24, 2) := by decide +kernel
theorem dX12_light_28 : decode cX12_light 28 = .ok (.if_icmp .le 5, 3) := by decide +kernel
theorem dX12_light_31 : decode cX12_light 31 = .ok (.iconst (-1), 1) := by decide +kernel
theorem dX12_light_32 : decode cX12_light 32 = .ok (.ireturn, 1) := by decide +kernel
theorem dX12_light_33 : decode cX12_light 33 = .ok (.iload_n 2, 1) := by decide +kernel
theorem dX12_light_34 : decode cX12_light 34 = .ok (.iconst 3, 1) := by decide +kernel
theorem dX12_light_35 : decode cX12_light 35 = .ok (.if_icmp .eq 10, 3) := by decide +kernel
theorem dX12_light_38 : decode cX12_light 38 = .ok (.iload_n 3, 1) := by decide +kernel
theorem dX12_light_39 : decode cX12_light 39 = .ok (.ifCond .ge 6, 3) := by decide +kernel
theorem dX12_light_42 : decode cX12_light 42 = .ok (.bipush (-2), 2) := by decide +kernel
theorem dX12_light_44 : decode cX12_light 44 = .ok (.ireturn, 1) := by decide +kernel
theorem dX12_light_45 : decode cX12_light 45 = .ok (.iload 4, 2) := by decide +kernel
theorem dX12_light_47 : decode cX12_light 47 = .ok (.istore 6, 2) := by decide +kernel
theorem dX12_light_49 : decode cX12_light 49 = .ok (.iconst 0, 1) := by decide +kernel
theorem dX12_light_50 : decode cX12_light 50 = .ok (.istore 7, 2) := by decide +kernel
theorem dX12_light_52 : decode cX12_light 52 = .ok (.iload 7, 2) := by decide +kernel
theorem dX12_light_54 : decode cX12_light 54 = .ok (.bipush 24, 2) := by decide +kernel
theorem dX12_light_56 : decode cX12_light 56 = .ok (.if_icmp .ge 80, 3) := by decide +kernel
theorem dX12_light_59 : decode cX12_light 59 = .ok (.iload_n 2, 1) := by decide +kernel
theorem dX12_light_60 : decode cX12_light 60 = .ok (.ifCond .ne 9, 3) := by decide +kernel
theorem dX12_light_63 : decode cX12_light 63 = .ok (.iload 6, 2) := by decide +kernel
theorem dX12_light_65 : decode cX12_light 65 = .ok (.i2b, 1) := by decide +kernel
theorem dX12_light_66 : decode cX12_light 66 = .ok (.goto 16, 3) := by decide +kernel
theorem dX12_light_69 : decode cX12_light 69 = .ok (.iload_n 2, 1) := by decide +kernel
theorem dX12_light_70 : decode cX12_light 70 = .ok (.iconst 1, 1) := by decide +kernel
theorem dX12_light_71 : decode cX12_light 71 = .ok (.if_icmp .ne 9, 3) := by decide +kernel
theorem dX12_light_74 : decode cX12_light 74 = .ok (.iload 6, 2) := by decide +kernel
theorem dX12_light_76 : decode cX12_light 76 = .ok (.i2s, 1) := by decide +kernel
theorem dX12_light_77 : decode cX12_light 77 = .ok (.goto 5, 3) := by decide +kernel
theorem dX12_light_80 : decode cX12_light 80 = .ok (.iload 6, 2) := by decide +kernel
theorem dX12_light_82 : decode cX12_light 82 = .ok (.istore 8, 2) := by decide +kernel
theorem dX12_light_84 : decode cX12_light 84 = .ok (.aload_n 0, 1) := by decide +kernel
theorem dX12_light_85 : decode cX12_light 85 = .ok (.getfield 78, 3) := by decide +kernel
theorem dX12_light_88 : decode cX12_light 88 = .ok (.bipush 24, 2) := by decide +kernel
theorem dX12_light_90 : decode cX12_light 90 = .ok (.iload_n 1, 1) := by decide +kernel
theorem dX12_light_91 : decode cX12_light 91 = .ok (.imul, 1) := by decide +kernel
theorem dX12_light_92 : decode cX12_light 92 = .ok (.iload 7, 2) := by decide +kernel
theorem dX12_light_94 : decode cX12_light 94 = .ok (.iadd, 1) := by decide +kernel
theorem dX12_light_95 : decode cX12_light 95 = .ok (.iload_n 2, 1) := by decide +kernel
theorem dX12_light_96 : decode cX12_light 96 = .ok (.iconst 3, 1) := by decide +kernel
theorem dX12_light_97 : decode cX12_light 97 = .ok (.if_icmp .eq 9, 3) := by decide +kernel
theorem dX12_light_100 : decode cX12_light 100 = .ok (.iload 7, 2) := by decide +kernel
theorem dX12_light_102 : decode cX12_light 102 = .ok (.iload_n 3, 1) := by decide +kernel
theorem dX12_light_103 : decode cX12_light 103 = .ok (.if_icmp .lt 7, 3) := by decide +kernel
theorem dX12_light_106 : decode cX12_light 106 = .ok (.iconst 0, 1) := by decide +kernel
theorem dX12_light_107 : decode cX12_light 107 = .ok (.goto 15, 3) := by decide +kernel
theorem dX12_light_110 : decode cX12_light 110 = .ok (.iconst 0, 1) := by decide +kernel
theorem dX12_light_111 : decode cX12_light 111 = .ok (.sipush 9999, 3) := by decide +kernel
theorem dX12_light_114 : decode cX12_light 114 = .ok (.iload 8, 2) := by decide +kernel
theorem dX12_light_116 : decode cX12_light 116 = .ok (.invokestatic 95, 3) := by decide +kernel
theorem dX12_light_119 : decode cX12_light 119 = .ok (.invokestatic 85, 3) := by decide +kernel
theorem dX12_light_122 : decode cX12_light 122 = .ok (.iastore, 1) := by decide +kernel
theorem dX12_light_123 : decode cX12_light 123 = .ok (.iload 6, 2) := by decide +kernel
theorem dX12_light_125 : decode cX12_light 125 = .ok (.iload 5, 2) := by decide +kernel
theorem dX12_light_127 : decode cX12_light 127 = .ok (.iadd, 1) := by decide +kernel
theorem dX12_light_128 : decode cX12_light 128 = .ok (.istore 6, 2) := by decide +kernel
theorem dX12_light_130 : decode cX12_light 130 = .ok (.iinc 7 1, 3) := by decide +kernel
theorem dX12_light_133 : decode cX12_light 133 = .ok (.goto (-81), 3) := by decide +kernel
theorem dX12_light_136 : decode cX12_light 136 = .ok (.iload_n 2, 1) := by decide +kernel
theorem dX12_light_137 : decode cX12_light 137 = .ok (.iconst 3, 1) := by decide +kernel
theorem dX12_light_138 : decode cX12_light 138 = .ok (.if_icmp .ne 8, 3) := by decide +kernel
theorem dX12_light_141 : decode cX12_light 141 = .ok (.bipush (-3), 2) := by decide +kernel
theorem dX12_light_143 : decode cX12_light 143 = .ok (.goto 8, 3) := by decide +kernel
theorem dX12_light_146 : decode cX12_light 146 = .ok (.aload_n 0, 1) := by decide +kernel
theorem dX12_light_147 : decode cX12_light 147 = .ok (.iload_n 1, 1) := by decide +kernel
theorem dX12_light_148 : decode cX12_light 148 = .ok (.invokevirtual 98, 3) := by decide +kernel
theorem dX12_light_151 : decode cX12_light 151 = .ok (.ireturn, 1) := by decide +kernel
theorem dX12_blind_0 : decode cX12_blind 0 = .ok (.aload_n 0, 1) := by decide +kernel
theorem dX12_blind_1 : decode cX12_blind 1 = .ok (.iconst 0, 1) := by decide +kernel
theorem dX12_blind_2 : decode cX12_blind 2 = .ok (.putfield 1, 3) := by decide +kernel
theorem dX12_blind_5 : decode cX12_blind 5 = .ok (.aload_n 0, 1) := by decide +kernel
theorem dX12_blind_6 : decode cX12_blind 6 = .ok (.iload_n 1, 1) := by decide +kernel
theorem dX12_blind_7 : decode cX12_blind 7 = .ok (.invokevirtual 90, 3) := by decide +kernel
theorem dX12_blind_10 : decode cX12_blind 10 = .ok (.ifCond .eq 27, 3) := by decide +kernel
theorem dX12_blind_13 : decode cX12_blind 13 = .ok (.iload_n 2, 1) := by decide +kernel
theorem dX12_blind_14 : decode cX12_blind 14 = .ok (.i2l, 1) := by decide +kernel
theorem dX12_blind_15 : decode cX12_blind 15 = .ok (.lconst 0, 1) := by decide +kernel
theorem dX12_blind_16 : decode cX12_blind 16 = .ok (.ldc2_w 102, 3) := by decide +kernel
theorem dX12_blind_19 : decode cX12_blind 19 = .ok (.invokestatic 17, 3) := by decide +kernel
theorem dX12_blind_22 : decode cX12_blind 22 = .ok (.ifCond .eq 15, 3) := by decide +kernel
theorem dX12_blind_25 : decode cX12_blind 25 = .ok (.iload_n 3, 1) := by decide +kernel
theorem dX12_blind_26 : decode cX12_blind 26 = .ok (.i2l, 1) := by decide +kernel
theorem dX12_blind_27 : decode cX12_blind 27 = .ok (.lconst 0, 1) := by decide +kernel
theorem dX12_blind_28 : decode cX12_blind 28 = .ok (.ldc2_w 102, 3) := by decide +kernel
theorem dX12_blind_31 : decode cX12_blind 31 = .ok (.invokestatic 17, 3) := by decide +kernel
theorem dX12_blind_34 : decode cX12_blind 34 = .ok (.ifCond .ne 5, 3) := by decide +kernel
theorem dX12_blind_37 : decode cX12_blind 37 = .ok (.iconst 0, 1) := by decide +kernel
theorem dX12_blind_38 : decode cX12_blind 38 = .ok (.ireturn, 1) := by decide +kernel
theorem dX12_blind_39 : decode cX12_blind 39 = .ok (.aload_n 0, 1) := by decide +kernel
theorem dX12_blind_40 : decode cX12_blind 40 = .ok (.getfield 69, 3) := by decide +kernel
theorem dX12_blind_43 : decode cX12_blind 43 = .ok (.iload_n 1, 1) := by decide +kernel
theorem dX12_blind_44 : decode cX12_blind 44 = .ok (.iload_n 2, 1) := by decide +kernel
theorem dX12_blind_45 : decode cX12_blind 45 = .ok (.iastore, 1) := by decide +kernel
theorem dX12_blind_46 : decode cX12_blind 46 = .ok (.aload_n 0, 1) := by decide +kernel
theorem dX12_blind_47 : decode cX12_blind 47 = .ok (.getfield 72, 3) := by decide +kernel
theorem dX12_blind_50 : decode cX12_blind 50 = .ok (.iload_n 1, 1) := by decide +kernel
theorem dX12_blind_51 : decode cX12_blind 51 = .ok (.iload_n 3, 1) := by decide +kernel
theorem dX12_blind_52 : decode cX12_blind 52 = .ok (.iastore, 1) := by decide +kernel
theorem dX12_blind_53 : decode cX12_blind 53 = .ok (.iconst 1, 1) := by decide +kernel
theorem dX12_blind_54 : decode cX12_blind 54 = .ok (.ireturn, 1) := by decide +kernel
theorem dX12_set_0 : decode cX12_set 0 = .ok (.aload_n 0, 1) := by decide +kernel
theorem dX12_set_1 : decode cX12_set 1 = .ok (.iconst 0, 1) := by decide +kernel
theorem dX12_set_2 : decode cX12_set 2 = .ok (.putfield 1, 3) := by decide +kernel
theorem dX12_set_5 : decode cX12_set 5 = .ok (.iload_n 1, 1) := by decide +kernel
theorem dX12_set_6 : decode cX12_set 6 = .ok (.ifCond .ne 17, 3) := by decide +kernel
theorem dX12_set_9 : decode cX12_set 9 = .ok (.iload_n 2, 1) := by decide +kernel
theorem dX12_set_10 : decode cX12_set 10 = .ok (.i2l, 1) := by decide +kernel
theorem dX12_set_11 : decode cX12_set 11 = .ok (.ldc2_w 32, 3) := by decide +kernel
theorem dX12_set_14 : decode cX12_set 14 = .ok (.ldc2_w 104, 3) := by decide +kernel
theorem dX12_set_17 : decode cX12_set 17 = .ok (.invokestatic 17, 3) := by decide +kernel
theorem dX12_set_20 : decode cX12_set 20 = .ok (.goto 69, 3) := by decide +kernel
theorem dX12_set_23 : decode cX12_set 23 = .ok (.iload_n 1, 1) := by decide +kernel
theorem dX12_set_24 : decode cX12_set 24 = .ok (.iconst 1, 1) := by decide +kernel
theorem dX12_set_25 : decode cX12_set 25 = .ok (.if_icmp .ne 15, 3) := by decide +kernel
theorem dX12_set_28 : decode cX12_set 28 = .ok (.iload_n 2, 1) := by decide +kernel
theorem dX12_set_29 : decode cX12_set 29 = .ok (.i2l, 1) := by decide +kernel
theorem dX12_set_30 : decode cX12_set 30 = .ok (.lconst 0, 1) := by decide +kernel
theorem dX12_set_31 : decode cX12_set 31 = .ok (.ldc2_w 106, 3) := by decide +kernel
theorem dX12_set_34 : decode cX12_set 34 = .ok (.invokestatic 17, 3) := by decide +kernel
theorem dX12_set_37 : decode cX12_set 37 = .ok (.goto 52, 3) := by decide +kernel
theorem dX12_set_40 : decode cX12_set 40 = .ok (.iload_n 1, 1) := by decide +kernel
theorem dX12_set_41 : decode cX12_set 41 = .ok (.iconst 2, 1) := by decide +kernel
theorem dX12_set_42 : decode cX12_set 42 = .ok (.if_icmp .ne 19, 3) := by decide +kernel
theorem dX12_set_45 : decode cX12_set 45 = .ok (.iload_n 2, 1) := by decide +kernel
theorem dX12_set_46 : decode cX12_set 46 = .ok (.i2l, 1) := by decide +kernel
theorem dX12_set_47 : decode cX12_set 47 = .ok (.lconst 0, 1) := by decide +kernel
theorem dX12_set_48 : decode cX12_set 48 = .ok (.aload_n 0, 1) := by decide +kernel
theorem dX12_set_49 : decode cX12_set 49 = .ok (.getfield 75, 3) := by decide +kernel
theorem dX12_set_52 : decode cX12_set 52 = .ok (.iconst 3, 1) := by decide +kernel
theorem dX12_set_53 : decode cX12_set 53 = .ok (.iaload, 1) := by decide +kernel
theorem dX12_set_54 : decode cX12_set 54 = .ok (.i2l, 1) := by decide +kernel
theorem dX12_set_55 : decode cX12_set 55 = .ok (.invokestatic 17, 3) := by decide +kernel
theorem dX12_set_58 : decode cX12_set 58 = .ok (.goto 31, 3) := by decide +kernel
theorem dX12_set_61 : decode cX12_set 61 = .ok (.iload_n 1, 1) := by decide +kernel
theorem dX12_set_62 : decode cX12_set 62 = .ok (.iconst 3, 1) := by decide +kernel
theorem dX12_set_63 : decode cX12_set 63 = .ok (.if_icmp .ne 25, 3) := by decide +kernel
theorem dX12_set_66 : decode cX12_set 66 = .ok (.iload_n 2, 1) := by decide +kernel
theorem dX12_set_67 : decode cX12_set 67 = .ok (.i2l, 1) := by decide +kernel
theorem dX12_set_68 : decode cX12_set 68 = .ok (.aload_n 0, 1) := by decide +kernel
theorem dX12_set_69 : decode cX12_set 69 = .ok (.getfield 75, 3) := by decide +kernel
theorem dX12_set_72 : decode cX12_set 72 = .ok (.iconst 2, 1) := by decide +kernel
theorem dX12_set_73 : decode cX12_set 73 = .ok (.iaload, 1) := by decide +kernel
theorem dX12_set_74 : decode cX12_set 74 = .ok (.i2l, 1) := by decide +kernel
theorem dX12_set_75 : decode cX12_set 75 = .ok (.ldc2_w 102, 3) := by decide +kernel
theorem dX12_set_78 : decode cX12_set 78 = .ok (.invokestatic 17, 3) := by decide +kernel
theorem dX12_set_81 : decode cX12_set 81 = .ok (.ifCond .eq 7, 3) := by decide +kernel
theorem dX12_set_84 : decode cX12_set 84 = .ok (.iconst 1, 1) := by decide +kernel
theorem dX12_set_85 : decode cX12_set 85 = .ok (.goto 4, 3) := by decide +kernel
theorem dX12_set_88 : decode cX12_set 88 = .ok (.iconst 0, 1) := by decide +kernel
theorem dX12_set_89 : decode cX12_set 89 = .ok (.istore_n 3, 1) := by decide +kernel
theorem dX12_set_90 : decode cX12_set 90 = .ok (.iload_n 3, 1) := by decide +kernel
theorem dX12_set_91 : decode cX12_set 91 = .ok (.ifCond .ne 5, 3) := by decide +kernel
theorem dX12_set_94 : decode cX12_set 94 = .ok (.iconst (-1), 1) := by decide +kernel
theorem dX12_set_95 : decode cX12_set 95 = .ok (.ireturn, 1) := by decide +kernel
theorem dX12_set_96 : decode cX12_set 96 = .ok (.aload_n 0, 1) := by decide +kernel
theorem dX12_set_97 : decode cX12_set 97 = .ok (.getfield 75, 3) := by decide +kernel
theorem dX12_set_100 : decode cX12_set 100 = .ok (.iload_n 1, 1) := by decide +kernel
theorem dX12_set_101 : decode cX12_set 101 = .ok (.iaload, 1) := by decide +kernel
theorem dX12_set_102 : decode cX12_set 102 = .ok (.istore 4, 2) := by decide +kernel
theorem dX12_set_104 : decode cX12_set 104 = .ok (.aload_n 0, 1) := by decide +kernel
theorem dX12_set_105 : decode cX12_set 105 = .ok (.getfield 75, 3) := by decide +kernel
theorem dX12_set_108 : decode cX12_set 108 = .ok (.iload_n 1, 1) := by decide +kernel
theorem dX12_set_109 : decode cX12_set 109 = .ok (.iload_n 2, 1) := by decide +kernel
theorem dX12_set_110 : decode cX12_set 110 = .ok (.iastore, 1) := by decide +kernel
theorem dX12_set_111 : decode cX12_set 111 = .ok (.iload 4, 2) := by decide +kernel
theorem dX12_set_113 : decode cX12_set 113 = .ok (.ireturn, 1) := by decide +kernel
theorem dX12_isPicture_0 : decode cX12_isPicture 0 = .ok (.iload_n 1, 1) := by decide +kernel
theorem dX12_isPicture_1 : decode cX12_isPicture 1 = .ok (.i2l, 1) := by decide +kernel
theorem dX12_isPicture_2 : decode cX12_isPicture 2 = .ok (.lconst 0, 1) := by decide +kernel
theorem dX12_isPicture_3 : decode cX12_isPicture 3 = .ok (.aload_n 0, 1) := by decide +kernel
theorem dX12_isPicture_4 : decode cX12_isPicture 4 = .ok (.getfield 108, 3) := by decide +kernel
theorem dX12_isPicture_7 : decode cX12_isPicture 7 = .ok (.iconst 1, 1) := by decide +kernel
theorem dX12_isPicture_8 : decode cX12_isPicture 8 = .ok (.isub, 1) := by decide +kernel
theorem dX12_isPicture_9 : decode cX12_isPicture 9 = .ok (.i2l, 1) := by decide +kernel
theorem dX12_isPicture_10 : decode cX12_isPicture 10 = .ok (.invokestatic 17, 3) := by decide +kernel
theorem dX12_isPicture_13 : decode cX12_isPicture 13 = .ok (.ireturn, 1) := by decide +kernel
theorem dX12_picture_0 : decode cX12_picture 0 = .ok (.aload_n 0, 1) := by decide +kernel
theorem dX12_picture_1 : decode cX12_picture 1 = .ok (.iconst 0, 1) := by decide +kernel
theorem dX12_picture_2 : decode cX12_picture 2 = .ok (.putfield 1, 3) := by decide +kernel
theorem dX12_picture_5 : decode cX12_picture 5 = .ok (.iload_n 1, 1) := by decide +kernel
theorem dX12_picture_6 : decode cX12_picture 6 = .ok (.i2l, 1) := by decide +kernel
theorem dX12_picture_7 : decode cX12_picture 7 = .ok (.ldc2_w 111, 3) := by decide +kernel
theorem dX12_picture_10 : decode cX12_picture 10 = .ok (.ldc2_w 113, 3) := by decide +kernel
theorem dX12_picture_13 : decode cX12_picture 13 = .ok (.invokestatic 17, 3) := by decide +kernel
theorem dX12_picture_16 : decode cX12_picture 16 = .ok (.ifCond .eq 85, 3) := by decide +kernel
theorem dX12_picture_19 : decode cX12_picture 19 = .ok (.iload_n 2, 1) := by decide +kernel
theorem dX12_picture_20 : decode cX12_picture 20 = .ok (.i2l, 1) := by decide +kernel
theorem dX12_picture_21 : decode cX12_picture 21 = .ok (.ldc2_w 111, 3) := by decide +kernel
theorem dX12_picture_24 : decode cX12_picture 24 = .ok (.ldc2_w 113, 3) := by decide +kernel
theorem dX12_picture_27 : decode cX12_picture 27 = .ok (.invokestatic 17, 3) := by decide +kernel
theorem dX12_picture_30 : decode cX12_picture 30 = .ok (.ifCond .eq 71, 3) := by decide +kernel
theorem dX12_picture_33 : decode cX12_picture 33 = .ok (.iload_n 3, 1) := by decide +kernel
theorem dX12_picture_34 : decode cX12_picture 34 = .ok (.i2l, 1) := by decide +kernel
theorem dX12_picture_35 : decode cX12_picture 35 = .ok (.lconst 1, 1) := by decide +kernel
theorem dX12_picture_36 : decode cX12_picture 36 = .ok (.ldc2_w 115, 3) := by decide +kernel
theorem dX12_picture_39 : decode cX12_picture 39 = .ok (.invokestatic 17, 3) := by decide +kernel
theorem dX12_picture_42 : decode cX12_picture 42 = .ok (.ifCond .eq 59, 3) := by decide +kernel
theorem dX12_picture_45 : decode cX12_picture 45 = .ok (.iload 4, 2) := by decide +kernel
theorem dX12_picture_47 : decode cX12_picture 47 = .ok (.i2l, 1) := by decide +kernel
theorem dX12_picture_48 : decode cX12_picture 48 = .ok (.lconst 0, 1) := by decide +kernel
theorem dX12_picture_49 : decode cX12_picture 49 = .ok (.ldc2_w 117, 3) := by decide +kernel
theorem dX12_picture_52 : decode cX12_picture 52 = .ok (.invokestatic 17, 3) := by decide +kernel
theorem dX12_picture_55 : decode cX12_picture 55 = .ok (.ifCond .eq 46, 3) := by decide +kernel
theorem dX12_picture_58 : decode cX12_picture 58 = .ok (.iload 5, 2) := by decide +kernel
theorem dX12_picture_60 : decode cX12_picture 60 = .ok (.i2l, 1) := by decide +kernel
theorem dX12_picture_61 : decode cX12_picture 61 = .ok (.lconst 0, 1) := by decide +kernel
theorem dX12_picture_62 : decode cX12_picture 62 = .ok (.ldc2_w 119, 3) := by decide +kernel
theorem dX12_picture_65 : decode cX12_picture 65 = .ok (.invokestatic 17, 3) := by decide +kernel
theorem dX12_picture_68 : decode cX12_picture 68 = .ok (.ifCond .eq 33, 3) := by decide +kernel
theorem dX12_picture_71 : decode cX12_picture 71 = .ok (.iload 6, 2) := by decide +kernel
theorem dX12_picture_73 : decode cX12_picture 73 = .ok (.i2l, 1) := by decide +kernel
theorem dX12_picture_74 : decode cX12_picture 74 = .ok (.lconst 0, 1) := by decide +kernel
theorem dX12_picture_75 : decode cX12_picture 75 = .ok (.ldc2_w 115, 3) := by decide +kernel
theorem dX12_picture_78 : decode cX12_picture 78 = .ok (.invokestatic 17, 3) := by decide +kernel
theorem dX12_picture_81 : decode cX12_picture 81 = .ok (.ifCond .eq 20, 3) := by decide +kernel
theorem dX12_picture_84 : decode cX12_picture 84 = .ok (.iload 7, 2) := by decide +kernel
theorem dX12_picture_86 : decode cX12_picture 86 = .ok (.i2l, 1) := by decide +kernel
theorem dX12_picture_87 : decode cX12_picture 87 = .ok (.lconst 0, 1) := by decide +kernel
theorem dX12_picture_88 : decode cX12_picture 88 = .ok (.ldc2_w 117, 3) := by decide +kernel
theorem dX12_picture_91 : decode cX12_picture 91 = .ok (.invokestatic 17, 3) := by decide +kernel
theorem dX12_picture_94 : decode cX12_picture 94 = .ok (.ifCond .eq 7, 3) := by decide +kernel
theorem dX12_picture_97 : decode cX12_picture 97 = .ok (.iconst 1, 1) := by decide +kernel
theorem dX12_picture_98 : decode cX12_picture 98 = .ok (.goto 4, 3) := by decide +kernel
theorem dX12_picture_101 : decode cX12_picture 101 = .ok (.iconst 0, 1) := by decide +kernel
theorem dX12_picture_102 : decode cX12_picture 102 = .ok (.istore 8, 2) := by decide +kernel
theorem dX12_picture_104 : decode cX12_picture 104 = .ok (.iload 8, 2) := by decide +kernel
theorem dX12_picture_106 : decode cX12_picture 106 = .ok (.ifCond .eq 12, 3) := by decide +kernel
theorem dX12_picture_109 : decode cX12_picture 109 = .ok (.aload_n 0, 1) := by decide +kernel
theorem dX12_picture_110 : decode cX12_picture 110 = .ok (.getfield 108, 3) := by decide +kernel
theorem dX12_picture_113 : decode cX12_picture 113 = .ok (.bipush 24, 2) := by decide +kernel
theorem dX12_picture_115 : decode cX12_picture 115 = .ok (.if_icmp .ne 5, 3) := by decide +kernel
theorem dX12_picture_118 : decode cX12_picture 118 = .ok (.iconst (-1), 1) := by decide +kernel
theorem dX12_picture_119 : decode cX12_picture 119 = .ok (.ireturn, 1) := by decide +kernel
theorem dX12_picture_120 : decode cX12_picture 120 = .ok (.aload_n 0, 1) := by decide +kernel
theorem dX12_picture_121 : decode cX12_picture 121 = .ok (.getfield 108, 3) := by decide +kernel
theorem dX12_picture_124 : decode cX12_picture 124 = .ok (.istore 9, 2) := by decide +kernel
theorem dX12_picture_126 : decode cX12_picture 126 = .ok (.aload_n 0, 1) := by decide +kernel
theorem dX12_picture_127 : decode cX12_picture 127 = .ok (.getfield 121, 3) := by decide +kernel
theorem dX12_picture_130 : decode cX12_picture 130 = .ok (.iload 9, 2) := by decide +kernel
theorem dX12_picture_132 : decode cX12_picture 132 = .ok (.iload_n 1, 1) := by decide +kernel
theorem dX12_picture_133 : decode cX12_picture 133 = .ok (.iastore, 1) := by decide +kernel
theorem dX12_picture_134 : decode cX12_picture 134 = .ok (.aload_n 0, 1) := by decide +kernel
theorem dX12_picture_135 : decode cX12_picture 135 = .ok (.getfield 124, 3) := by decide +kernel
theorem dX12_picture_138 : decode cX12_picture 138 = .ok (.iload 9, 2) := by decide +kernel
theorem dX12_picture_140 : decode cX12_picture 140 = .ok (.iload_n 2, 1) := by decide +kernel
theorem dX12_picture_141 : decode cX12_picture 141 = .ok (.iastore, 1) := by decide +kernel
theorem dX12_picture_142 : decode cX12_picture 142 = .ok (.aload_n 0, 1) := by decide +kernel
theorem dX12_picture_143 : decode cX12_picture 143 = .ok (.getfield 127, 3) := by decide +kernel
theorem dX12_picture_146 : decode cX12_picture 146 = .ok (.iload 9, 2) := by decide +kernel
theorem dX12_picture_148 : decode cX12_picture 148 = .ok (.iload_n 3, 1) := by decide +kernel
theorem dX12_picture_149 : decode cX12_picture 149 = .ok (.iastore, 1) := by decide +kernel
theorem dX12_picture_150 : decode cX12_picture 150 = .ok (.aload_n 0, 1) := by decide +kernel
theorem dX12_picture_151 : decode cX12_picture 151 = .ok (.getfield 130, 3) := by decide +kernel
theorem dX12_picture_154 : decode cX12_picture 154 = .ok (.iload 9, 2) := by decide +kernel
theorem dX12_picture_156 : decode cX12_picture 156 = .ok (.iload 4, 2) := by decide +kernel
theorem dX12_picture_158 : decode cX12_picture 158 = .ok (.iastore, 1) := by decide +kernel
theorem dX12_picture_159 : decode cX12_picture 159 = .ok (.aload_n 0, 1) := by decide +kernel
theorem dX12_picture_160 : decode cX12_picture 160 = .ok (.getfield 133, 3) := by decide +kernel
theorem dX12_picture_163 : decode cX12_picture 163 = .ok (.iload 9, 2) := by decide +kernel
theorem dX12_picture_165 : decode cX12_picture 165 = .ok (.iload 5, 2) := by decide +kernel
theorem dX12_picture_167 : decode cX12_picture 167 = .ok (.iastore, 1) := by decide +kernel
theorem dX12_picture_168 : decode cX12_picture 168 = .ok (.aload_n 0, 1) := by decide +kernel
theorem dX12_picture_169 : decode cX12_picture 169 = .ok (.getfield 136, 3) := by decide +kernel
theorem dX12_picture_172 : decode cX12_picture 172 = .ok (.iload 9, 2) := by decide +kernel
theorem dX12_picture_174 : decode cX12_picture 174 = .ok (.iload 6, 2) := by decide +kernel
theorem dX12_picture_176 : decode cX12_picture 176 = .ok (.iastore, 1) := by decide +kernel
theorem dX12_picture_177 : decode cX12_picture 177 = .ok (.aload_n 0, 1) := by decide +kernel
theorem dX12_picture_178 : decode cX12_picture 178 = .ok (.getfield 139, 3) := by decide +kernel
theorem dX12_picture_181 : decode cX12_picture 181 = .ok (.iload 9, 2) := by decide +kernel
theorem dX12_picture_183 : decode cX12_picture 183 = .ok (.iload 7, 2) := by decide +kernel
theorem dX12_picture_185 : decode cX12_picture 185 = .ok (.iastore, 1) := by decide +kernel
theorem dX12_picture_186 : decode cX12_picture 186 = .ok (.aload_n 0, 1) := by decide +kernel
theorem dX12_picture_187 : decode cX12_picture 187 = .ok (.getfield 142, 3) := by decide +kernel
theorem dX12_picture_190 : decode cX12_picture 190 = .ok (.iload 9, 2) := by decide +kernel
theorem dX12_picture_192 : decode cX12_picture 192 = .ok (.iconst (-1), 1) := by decide +kernel
theorem dX12_picture_193 : decode cX12_picture 193 = .ok (.iastore, 1) := by decide +kernel
theorem dX12_picture_194 : decode cX12_picture 194 = .ok (.aload_n 0, 1) := by decide +kernel
theorem dX12_picture_195 : decode cX12_picture 195 = .ok (.getfield 145, 3) := by decide +kernel
theorem dX12_picture_198 : decode cX12_picture 198 = .ok (.iload 9, 2) := by decide +kernel
theorem dX12_picture_200 : decode cX12_picture 200 = .ok (.iconst (-1), 1) := by decide +kernel
theorem dX12_picture_201 : decode cX12_picture 201 = .ok (.iastore, 1) := by decide +kernel
theorem dX12_picture_202 : decode cX12_picture 202 = .ok (.aload_n 0, 1) := by decide +kernel
theorem dX12_picture_203 : decode cX12_picture 203 = .ok (.getfield 148, 3) := by decide +kernel
theorem dX12_picture_206 : decode cX12_picture 206 = .ok (.iload 9, 2) := by decide +kernel
theorem dX12_picture_208 : decode cX12_picture 208 = .ok (.ldc 151, 2) := by decide +kernel
theorem dX12_picture_210 : decode cX12_picture 210 = .ok (.iastore, 1) := by decide +kernel
theorem dX12_picture_211 : decode cX12_picture 211 = .ok (.aload_n 0, 1) := by decide +kernel
theorem dX12_picture_212 : decode cX12_picture 212 = .ok (.getfield 152, 3) := by decide +kernel
theorem dX12_picture_215 : decode cX12_picture 215 = .ok (.iload 9, 2) := by decide +kernel
theorem dX12_picture_217 : decode cX12_picture 217 = .ok (.sipush 400, 3) := by decide +kernel
theorem dX12_picture_220 : decode cX12_picture 220 = .ok (.iastore, 1) := by decide +kernel
theorem dX12_picture_221 : decode cX12_picture 221 = .ok (.aload_n 0, 1) := by decide +kernel
theorem dX12_picture_222 : decode cX12_picture 222 = .ok (.getfield 155, 3) := by decide +kernel
theorem dX12_picture_225 : decode cX12_picture 225 = .ok (.iload 9, 2) := by decide +kernel
theorem dX12_picture_227 : decode cX12_picture 227 = .ok (.iconst (-1), 1) := by decide +kernel
theorem dX12_picture_228 : decode cX12_picture 228 = .ok (.iastore, 1) := by decide +kernel
theorem dX12_picture_229 : decode cX12_picture 229 = .ok (.aload_n 0, 1) := by decide +kernel
theorem dX12_picture_230 : decode cX12_picture 230 = .ok (.getfield 158, 3) := by decide +kernel
theorem dX12_picture_233 : decode cX12_picture 233 = .ok (.iload 9, 2) := by decide +kernel
theorem dX12_picture_235 : decode cX12_picture 235 = .ok (.iconst (-1), 1) := by decide +kernel
theorem dX12_picture_236 : decode cX12_picture 236 = .ok (.iastore, 1) := by decide +kernel
theorem dX12_picture_237 : decode cX12_picture 237 = .ok (.aload_n 0, 1) := by decide +kernel
theorem dX12_picture_238 : decode cX12_picture 238 = .ok (.dup, 1) := by decide +kernel
theorem dX12_picture_239 : decode cX12_picture 239 = .ok (.getfield 108, 3) := by decide +kernel
theorem dX12_picture_242 : decode cX12_picture 242 = .ok (.iconst 1, 1) := by decide +kernel
theorem dX12_picture_243 : decode cX12_picture 243 = .ok (.iadd, 1) := by decide +kernel
theorem dX12_picture_244 : decode cX12_picture 244 = .ok (.putfield 108, 3) := by decide +kernel
theorem dX12_picture_247 : decode cX12_picture 247 = .ok (.iload 9, 2) := by decide +kernel
theorem dX12_picture_249 : decode cX12_picture 249 = .ok (.ireturn, 1) := by decide +kernel
theorem dX12_parts_0 : decode cX12_parts 0 = .ok (.aload_n 0, 1) := by decide +kernel
theorem dX12_parts_1 : decode cX12_parts 1 = .ok (.getfield 142, 3) := by decide +kernel
theorem dX12_parts_4 : decode cX12_parts 4 = .ok (.iload_n 1, 1) := by decide +kernel
theorem dX12_parts_5 : decode cX12_parts 5 = .ok (.iaload, 1) := by decide +kernel
theorem dX12_parts_6 : decode cX12_parts 6 = .ok (.ifCond .lt 15, 3) := by decide +kernel
theorem dX12_parts_9 : decode cX12_parts 9 = .ok (.aload_n 0, 1) := by decide +kernel
theorem dX12_parts_10 : decode cX12_parts 10 = .ok (.getfield 142, 3) := by decide +kernel
theorem dX12_parts_13 : decode cX12_parts 13 = .ok (.aload_n 0, 1) := by decide +kernel
theorem dX12_parts_14 : decode cX12_parts 14 = .ok (.getfield 142, 3) := by decide +kernel
theorem dX12_parts_17 : decode cX12_parts 17 = .ok (.iload_n 1, 1) := by decide +kernel
theorem dX12_parts_18 : decode cX12_parts 18 = .ok (.iaload, 1) := by decide +kernel
theorem dX12_parts_19 : decode cX12_parts 19 = .ok (.iconst (-1), 1) := by decide +kernel
theorem dX12_parts_20 : decode cX12_parts 20 = .ok (.iastore, 1) := by decide +kernel
theorem dX12_parts_21 : decode cX12_parts 21 = .ok (.aload_n 0, 1) := by decide +kernel
theorem dX12_parts_22 : decode cX12_parts 22 = .ok (.getfield 142, 3) := by decide +kernel
theorem dX12_parts_25 : decode cX12_parts 25 = .ok (.iload_n 1, 1) := by decide +kernel
theorem dX12_parts_26 : decode cX12_parts 26 = .ok (.iconst (-1), 1) := by decide +kernel
theorem dX12_parts_27 : decode cX12_parts 27 = .ok (.iastore, 1) := by decide +kernel
theorem dX12_parts_28 : decode cX12_parts 28 = .ok (.return_, 1) := by decide +kernel
theorem dX12_tell_0 : decode cX12_tell 0 = .ok (.aload_n 0, 1) := by decide +kernel
theorem dX12_tell_1 : decode cX12_tell 1 = .ok (.iconst 0, 1) := by decide +kernel
theorem dX12_tell_2 : decode cX12_tell 2 = .ok (.putfield 1, 3) := by decide +kernel
theorem dX12_tell_5 : decode cX12_tell 5 = .ok (.aload_n 0, 1) := by decide +kernel
theorem dX12_tell_6 : decode cX12_tell 6 = .ok (.iload_n 1, 1) := by decide +kernel
theorem dX12_tell_7 : decode cX12_tell 7 = .ok (.invokevirtual 161, 3) := by decide +kernel
theorem dX12_tell_10 : decode cX12_tell 10 = .ok (.ifCond .eq 19, 3) := by decide +kernel
theorem dX12_tell_13 : decode cX12_tell 13 = .ok (.iload_n 2, 1) := by decide +kernel
theorem dX12_tell_14 : decode cX12_tell 14 = .ok (.i2l, 1) := by decide +kernel
theorem dX12_tell_15 : decode cX12_tell 15 = .ok (.lconst 0, 1) := by decide +kernel
theorem dX12_tell_16 : decode cX12_tell 16 = .ok (.ldc2_w 93, 3) := by decide +kernel
theorem dX12_tell_19 : decode cX12_tell 19 = .ok (.invokestatic 17, 3) := by decide +kernel
theorem dX12_tell_22 : decode cX12_tell 22 = .ok (.ifCond .eq 7, 3) := by decide +kernel
theorem dX12_tell_25 : decode cX12_tell 25 = .ok (.iconst 1, 1) := by decide +kernel
theorem dX12_tell_26 : decode cX12_tell 26 = .ok (.goto 4, 3) := by decide +kernel
theorem dX12_tell_29 : decode cX12_tell 29 = .ok (.iconst 0, 1) := by decide +kernel
theorem dX12_tell_30 : decode cX12_tell 30 = .ok (.istore 4, 2) := by decide +kernel
theorem dX12_tell_32 : decode cX12_tell 32 = .ok (.iload 4, 2) := by decide +kernel
theorem dX12_tell_34 : decode cX12_tell 34 = .ok (.ifCond .eq 56, 3) := by decide +kernel
theorem dX12_tell_37 : decode cX12_tell 37 = .ok (.iload_n 2, 1) := by decide +kernel
theorem dX12_tell_38 : decode cX12_tell 38 = .ok (.iconst 2, 1) := by decide +kernel
theorem dX12_tell_39 : decode cX12_tell 39 = .ok (.if_icmp .ge 24, 3) := by decide +kernel
theorem dX12_tell_42 : decode cX12_tell 42 = .ok (.iload_n 3, 1) := by decide +kernel
theorem dX12_tell_43 : decode cX12_tell 43 = .ok (.iconst (-1), 1) := by decide +kernel
theorem dX12_tell_44 : decode cX12_tell 44 = .ok (.if_icmp .eq 42, 3) := by decide +kernel
theorem dX12_tell_47 : decode cX12_tell 47 = .ok (.aload_n 0, 1) := by decide +kernel
theorem dX12_tell_48 : decode cX12_tell 48 = .ok (.iload_n 3, 1) := by decide +kernel
theorem dX12_tell_49 : decode cX12_tell 49 = .ok (.invokevirtual 161, 3) := by decide +kernel
theorem dX12_tell_52 : decode cX12_tell 52 = .ok (.ifCond .eq 38, 3) := by decide +kernel
theorem dX12_tell_55 : decode cX12_tell 55 = .ok (.iload_n 3, 1) := by decide +kernel
theorem dX12_tell_56 : decode cX12_tell 56 = .ok (.iload_n 1, 1) := by decide +kernel
theorem dX12_tell_57 : decode cX12_tell 57 = .ok (.if_icmp .eq 33, 3) := by decide +kernel
theorem dX12_tell_60 : decode cX12_tell 60 = .ok (.goto 26, 3) := by decide +kernel
theorem dX12_tell_63 : decode cX12_tell 63 = .ok (.iload_n 3, 1) := by decide +kernel
theorem dX12_tell_64 : decode cX12_tell 64 = .ok (.i2l, 1) := by decide +kernel
theorem dX12_tell_65 : decode cX12_tell 65 = .ok (.lconst 0, 1) := by decide +kernel
theorem dX12_tell_66 : decode cX12_tell 66 = .ok (.iload_n 2, 1) := by decide +kernel
theorem dX12_tell_67 : decode cX12_tell 67 = .ok (.iconst 2, 1) := by decide +kernel
theorem dX12_tell_68 : decode cX12_tell 68 = .ok (.if_icmp .ne 9, 3) := by decide +kernel
theorem dX12_tell_71 : decode cX12_tell 71 = .ok (.ldc2_w 164, 3) := by decide +kernel
theorem dX12_tell_74 : decode cX12_tell 74 = .ok (.goto 6, 3) := by decide +kernel
theorem dX12_tell_77 : decode cX12_tell 77 = .ok (.ldc2_w 30, 3) := by decide +kernel
theorem dX12_tell_80 : decode cX12_tell 80 = .ok (.invokestatic 17, 3) := by decide +kernel
theorem dX12_tell_83 : decode cX12_tell 83 = .ok (.ifCond .eq 7, 3) := by decide +kernel
theorem dX12_tell_86 : decode cX12_tell 86 = .ok (.iconst 1, 1) := by decide +kernel
theorem dX12_tell_87 : decode cX12_tell 87 = .ok (.goto 4, 3) := by decide +kernel
theorem dX12_tell_90 : decode cX12_tell 90 = .ok (.iconst 0, 1) := by decide +kernel
theorem dX12_tell_91 : decode cX12_tell 91 = .ok (.istore 4, 2) := by decide +kernel
theorem dX12_tell_93 : decode cX12_tell 93 = .ok (.iload 4, 2) := by decide +kernel
theorem dX12_tell_95 : decode cX12_tell 95 = .ok (.ifCond .ne 6, 3) := by decide +kernel
theorem dX12_tell_98 : decode cX12_tell 98 = .ok (.bipush (-2), 2) := by decide +kernel
theorem dX12_tell_100 : decode cX12_tell 100 = .ok (.ireturn, 1) := by decide +kernel
theorem dX12_tell_101 : decode cX12_tell 101 = .ok (.iload_n 2, 1) := by decide +kernel
theorem dX12_tell_102 : decode cX12_tell 102 = .ok (.ifCond .ne 12, 3) := by decide +kernel
theorem dX12_tell_105 : decode cX12_tell 105 = .ok (.aload_n 0, 1) := by decide +kernel
theorem dX12_tell_106 : decode cX12_tell 106 = .ok (.getfield 142, 3) := by decide +kernel
theorem dX12_tell_109 : decode cX12_tell 109 = .ok (.iload_n 1, 1) := by decide +kernel
theorem dX12_tell_110 : decode cX12_tell 110 = .ok (.iaload, 1) := by decide +kernel
theorem dX12_tell_111 : decode cX12_tell 111 = .ok (.goto 37, 3) := by decide +kernel
theorem dX12_tell_114 : decode cX12_tell 114 = .ok (.iload_n 2, 1) := by decide +kernel
theorem dX12_tell_115 : decode cX12_tell 115 = .ok (.iconst 1, 1) := by decide +kernel
theorem dX12_tell_116 : decode cX12_tell 116 = .ok (.if_icmp .ne 12, 3) := by decide +kernel
theorem dX12_tell_119 : decode cX12_tell 119 = .ok (.aload_n 0, 1) := by decide +kernel
theorem dX12_tell_120 : decode cX12_tell 120 = .ok (.getfield 145, 3) := by decide +kernel
theorem dX12_tell_123 : decode cX12_tell 123 = .ok (.iload_n 1, 1) := by decide +kernel
theorem dX12_tell_124 : decode cX12_tell 124 = .ok (.iaload, 1) := by decide +kernel
theorem dX12_tell_125 : decode cX12_tell 125 = .ok (.goto 23, 3) := by decide +kernel
theorem dX12_tell_128 : decode cX12_tell 128 = .ok (.iload_n 2, 1) := by decide +kernel
theorem dX12_tell_129 : decode cX12_tell 129 = .ok (.iconst 2, 1) := by decide +kernel
theorem dX12_tell_130 : decode cX12_tell 130 = .ok (.if_icmp .ne 12, 3) := by decide +kernel
theorem dX12_tell_133 : decode cX12_tell 133 = .ok (.aload_n 0, 1) := by decide +kernel
theorem dX12_tell_134 : decode cX12_tell 134 = .ok (.getfield 148, 3) := by decide +kernel
theorem dX12_tell_137 : decode cX12_tell 137 = .ok (.iload_n 1, 1) := by decide +kernel
theorem dX12_tell_138 : decode cX12_tell 138 = .ok (.iaload, 1) := by decide +kernel
theorem dX12_tell_139 : decode cX12_tell 139 = .ok (.goto 9, 3) := by decide +kernel
theorem dX12_tell_142 : decode cX12_tell 142 = .ok (.aload_n 0, 1) := by decide +kernel
theorem dX12_tell_143 : decode cX12_tell 143 = .ok (.getfield 152, 3) := by decide +kernel
theorem dX12_tell_146 : decode cX12_tell 146 = .ok (.iload_n 1, 1) := by decide +kernel
theorem dX12_tell_147 : decode cX12_tell 147 = .ok (.iaload, 1) := by decide +kernel
theorem dX12_tell_148 : decode cX12_tell 148 = .ok (.istore 5, 2) := by decide +kernel
theorem dX12_tell_150 : decode cX12_tell 150 = .ok (.iload_n 2, 1) := by decide +kernel
theorem dX12_tell_151 : decode cX12_tell 151 = .ok (.ifCond .ne 34, 3) := by decide +kernel
theorem dX12_tell_154 : decode cX12_tell 154 = .ok (.aload_n 0, 1) := by decide +kernel
theorem dX12_tell_155 : decode cX12_tell 155 = .ok (.iload_n 1, 1) := by decide +kernel
theorem dX12_tell_156 : decode cX12_tell 156 = .ok (.invokevirtual 166, 3) := by decide +kernel
theorem dX12_tell_159 : decode cX12_tell 159 = .ok (.iload_n 3, 1) := by decide +kernel
theorem dX12_tell_160 : decode cX12_tell 160 = .ok (.ifCond .lt 62, 3) := by decide +kernel
theorem dX12_tell_163 : decode cX12_tell 163 = .ok (.aload_n 0, 1) := by decide +kernel
theorem dX12_tell_164 : decode cX12_tell 164 = .ok (.iload_n 3, 1) := by decide +kernel
theorem dX12_tell_165 : decode cX12_tell 165 = .ok (.invokevirtual 166, 3) := by decide +kernel
theorem dX12_tell_168 : decode cX12_tell 168 = .ok (.aload_n 0, 1) := by decide +kernel
theorem dX12_tell_169 : decode cX12_tell 169 = .ok (.getfield 142, 3) := by decide +kernel
theorem dX12_tell_172 : decode cX12_tell 172 = .ok (.iload_n 3, 1) := by decide +kernel
theorem dX12_tell_173 : decode cX12_tell 173 = .ok (.iload_n 1, 1) := by decide +kernel
theorem dX12_tell_174 : decode cX12_tell 174 = .ok (.iastore, 1) := by decide +kernel
theorem dX12_tell_175 : decode cX12_tell 175 = .ok (.aload_n 0, 1) := by decide +kernel
theorem dX12_tell_176 : decode cX12_tell 176 = .ok (.getfield 142, 3) := by decide +kernel
theorem dX12_tell_179 : decode cX12_tell 179 = .ok (.iload_n 1, 1) := by decide +kernel
theorem dX12_tell_180 : decode cX12_tell 180 = .ok (.iload_n 3, 1) := by decide +kernel
theorem dX12_tell_181 : decode cX12_tell 181 = .ok (.iastore, 1) := by decide +kernel
theorem dX12_tell_182 : decode cX12_tell 182 = .ok (.goto 40, 3) := by decide +kernel
theorem dX12_tell_185 : decode cX12_tell 185 = .ok (.iload_n 2, 1) := by decide +kernel
theorem dX12_tell_186 : decode cX12_tell 186 = .ok (.iconst 1, 1) := by decide +kernel
theorem dX12_tell_187 : decode cX12_tell 187 = .ok (.if_icmp .ne 13, 3) := by decide +kernel
theorem dX12_tell_190 : decode cX12_tell 190 = .ok (.aload_n 0, 1) := by decide +kernel
theorem dX12_tell_191 : decode cX12_tell 191 = .ok (.getfield 145, 3) := by decide +kernel
theorem dX12_tell_194 : decode cX12_tell 194 = .ok (.iload_n 1, 1) := by decide +kernel
theorem dX12_tell_195 : decode cX12_tell 195 = .ok (.iload_n 3, 1) := by decide +kernel
theorem dX12_tell_196 : decode cX12_tell 196 = .ok (.iastore, 1) := by decide +kernel
theorem dX12_tell_197 : decode cX12_tell 197 = .ok (.goto 25, 3) := by decide +kernel
theorem dX12_tell_200 : decode cX12_tell 200 = .ok (.iload_n 2, 1) := by decide +kernel
theorem dX12_tell_201 : decode cX12_tell 201 = .ok (.iconst 2, 1) := by decide +kernel
theorem dX12_tell_202 : decode cX12_tell 202 = .ok (.if_icmp .ne 13, 3) := by decide +kernel
theorem dX12_tell_205 : decode cX12_tell 205 = .ok (.aload_n 0, 1) := by decide +kernel
theorem dX12_tell_206 : decode cX12_tell 206 = .ok (.getfield 148, 3) := by decide +kernel
theorem dX12_tell_209 : decode cX12_tell 209 = .ok (.iload_n 1, 1) := by decide +kernel
theorem dX12_tell_210 : decode cX12_tell 210 = .ok (.iload_n 3, 1) := by decide +kernel
theorem dX12_tell_211 : decode cX12_tell 211 = .ok (.iastore, 1) := by decide +kernel
theorem dX12_tell_212 : decode cX12_tell 212 = .ok (.goto 10, 3) := by decide +kernel
theorem dX12_tell_215 : decode cX12_tell 215 = .ok (.aload_n 0, 1) := by decide +kernel
theorem dX12_tell_216 : decode cX12_tell 216 = .ok (.getfield 152, 3) := by decide +kernel
theorem dX12_tell_219 : decode cX12_tell 219 = .ok (.iload_n 1, 1) := by decide +kernel
theorem dX12_tell_220 : decode cX12_tell 220 = .ok (.iload_n 3, 1) := by decide +kernel
theorem dX12_tell_221 : decode cX12_tell 221 = .ok (.iastore, 1) := by decide +kernel
theorem dX12_tell_222 : decode cX12_tell 222 = .ok (.iload 5, 2) := by decide +kernel
theorem dX12_tell_224 : decode cX12_tell 224 = .ok (.ireturn, 1) := by decide +kernel
theorem dX12_isOn_0 : decode cX12_isOn 0 = .ok (.aload_n 0, 1) := by decide +kernel
theorem dX12_isOn_1 : decode cX12_isOn 1 = .ok (.getfield 170, 3) := by decide +kernel
theorem dX12_isOn_4 : decode cX12_isOn 4 = .ok (.iload_n 1, 1) := by decide +kernel
theorem dX12_isOn_5 : decode cX12_isOn 5 = .ok (.iaload, 1) := by decide +kernel
theorem dX12_isOn_6 : decode cX12_isOn 6 = .ok (.iconst 1, 1) := by decide +kernel
theorem dX12_isOn_7 : decode cX12_isOn 7 = .ok (.if_icmp .ne 17, 3) := by decide +kernel
theorem dX12_isOn_10 : decode cX12_isOn 10 = .ok (.aload_n 0, 1) := by decide +kernel
theorem dX12_isOn_11 : decode cX12_isOn 11 = .ok (.getfield 155, 3) := by decide +kernel
theorem dX12_isOn_14 : decode cX12_isOn 14 = .ok (.iload_n 1, 1) := by decide +kernel
theorem dX12_isOn_15 : decode cX12_isOn 15 = .ok (.iaload, 1) := by decide +kernel
theorem dX12_isOn_16 : decode cX12_isOn 16 = .ok (.iload_n 2, 1) := by decide +kernel
theorem dX12_isOn_17 : decode cX12_isOn 17 = .ok (.if_icmp .ne 7, 3) := by decide +kernel
theorem dX12_isOn_20 : decode cX12_isOn 20 = .ok (.iconst 1, 1) := by decide +kernel
theorem dX12_isOn_21 : decode cX12_isOn 21 = .ok (.goto 4, 3) := by decide +kernel
theorem dX12_isOn_24 : decode cX12_isOn 24 = .ok (.iconst 0, 1) := by decide +kernel
theorem dX12_isOn_25 : decode cX12_isOn 25 = .ok (.ireturn, 1) := by decide +kernel
theorem dX12_isIn_0 : decode cX12_isIn 0 = .ok (.aload_n 0, 1) := by decide +kernel
theorem dX12_isIn_1 : decode cX12_isIn 1 = .ok (.getfield 170, 3) := by decide +kernel
theorem dX12_isIn_4 : decode cX12_isIn 4 = .ok (.iload_n 1, 1) := by decide +kernel
theorem dX12_isIn_5 : decode cX12_isIn 5 = .ok (.iaload, 1) := by decide +kernel
theorem dX12_isIn_6 : decode cX12_isIn 6 = .ok (.iconst 1, 1) := by decide +kernel
theorem dX12_isIn_7 : decode cX12_isIn 7 = .ok (.if_icmp .ne 22, 3) := by decide +kernel
theorem dX12_isIn_10 : decode cX12_isIn 10 = .ok (.aload_n 0, 1) := by decide +kernel
theorem dX12_isIn_11 : decode cX12_isIn 11 = .ok (.getfield 57, 3) := by decide +kernel
theorem dX12_isIn_14 : decode cX12_isIn 14 = .ok (.aload_n 0, 1) := by decide +kernel
theorem dX12_isIn_15 : decode cX12_isIn 15 = .ok (.getfield 155, 3) := by decide +kernel
theorem dX12_isIn_18 : decode cX12_isIn 18 = .ok (.iload_n 1, 1) := by decide +kernel
theorem dX12_isIn_19 : decode cX12_isIn 19 = .ok (.iaload, 1) := by decide +kernel
theorem dX12_isIn_20 : decode cX12_isIn 20 = .ok (.iaload, 1) := by decide +kernel
theorem dX12_isIn_21 : decode cX12_isIn 21 = .ok (.iload_n 2, 1) := by decide +kernel
theorem dX12_isIn_22 : decode cX12_isIn 22 = .ok (.if_icmp .ne 7, 3) := by decide +kernel
theorem dX12_isIn_25 : decode cX12_isIn 25 = .ok (.iconst 1, 1) := by decide +kernel
theorem dX12_isIn_26 : decode cX12_isIn 26 = .ok (.goto 4, 3) := by decide +kernel
theorem dX12_isIn_29 : decode cX12_isIn 29 = .ok (.iconst 0, 1) := by decide +kernel
theorem dX12_isIn_30 : decode cX12_isIn 30 = .ok (.ireturn, 1) := by decide +kernel
theorem dX12_beside_0 : decode cX12_beside 0 = .ok (.iconst (-1), 1) := by decide +kernel
theorem dX12_beside_1 : decode cX12_beside 1 = .ok (.istore 5, 2) := by decide +kernel
theorem dX12_beside_3 : decode cX12_beside 3 = .ok (.iconst 0, 1) := by decide +kernel
theorem dX12_beside_4 : decode cX12_beside 4 = .ok (.istore 6, 2) := by decide +kernel
theorem dX12_beside_6 : decode cX12_beside 6 = .ok (.iload 6, 2) := by decide +kernel
theorem dX12_beside_8 : decode cX12_beside 8 = .ok (.aload_n 0, 1) := by decide +kernel
theorem dX12_beside_9 : decode cX12_beside 9 = .ok (.getfield 108, 3) := by decide +kernel
theorem dX12_beside_12 : decode cX12_beside 12 = .ok (.if_icmp .ge 117, 3) := by decide +kernel
theorem dX12_beside_15 : decode cX12_beside 15 = .ok (.iload 6, 2) := by decide +kernel
theorem dX12_beside_17 : decode cX12_beside 17 = .ok (.iload_n 3, 1) := by decide +kernel
theorem dX12_beside_18 : decode cX12_beside 18 = .ok (.if_icmp .eq 105, 3) := by decide +kernel
theorem dX12_beside_21 : decode cX12_beside 21 = .ok (.aload_n 0, 1) := by decide +kernel
theorem dX12_beside_22 : decode cX12_beside 22 = .ok (.iload 6, 2) := by decide +kernel
theorem dX12_beside_24 : decode cX12_beside 24 = .ok (.iload_n 1, 1) := by decide +kernel
theorem dX12_beside_25 : decode cX12_beside 25 = .ok (.invokevirtual 173, 3) := by decide +kernel
theorem dX12_beside_28 : decode cX12_beside 28 = .ok (.ifCond .eq 95, 3) := by decide +kernel
theorem dX12_beside_31 : decode cX12_beside 31 = .ok (.aload_n 0, 1) := by decide +kernel
theorem dX12_beside_32 : decode cX12_beside 32 = .ok (.getfield 158, 3) := by decide +kernel
theorem dX12_beside_35 : decode cX12_beside 35 = .ok (.iload 6, 2) := by decide +kernel
theorem dX12_beside_37 : decode cX12_beside 37 = .ok (.iaload, 1) := by decide +kernel
theorem dX12_beside_38 : decode cX12_beside 38 = .ok (.iload_n 2, 1) := by decide +kernel
theorem dX12_beside_39 : decode cX12_beside 39 = .ok (.if_icmp .gt 7, 3) := by decide +kernel
theorem dX12_beside_42 : decode cX12_beside 42 = .ok (.iconst 1, 1) := by decide +kernel
theorem dX12_beside_43 : decode cX12_beside 43 = .ok (.goto 4, 3) := by decide +kernel
theorem dX12_beside_46 : decode cX12_beside 46 = .ok (.iconst 0, 1) := by decide +kernel
theorem dX12_beside_47 : decode cX12_beside 47 = .ok (.iload 4, 2) := by decide +kernel
theorem dX12_beside_49 : decode cX12_beside 49 = .ok (.if_icmp .eq 6, 3) := by decide +kernel
theorem dX12_beside_52 : decode cX12_beside 52 = .ok (.goto 71, 3) := by decide +kernel
theorem dX12_beside_55 : decode cX12_beside 55 = .ok (.iload 5, 2) := by decide +kernel
theorem dX12_beside_57 : decode cX12_beside 57 = .ok (.ifCond .lt 45, 3) := by decide +kernel
theorem dX12_beside_60 : decode cX12_beside 60 = .ok (.iload 4, 2) := by decide +kernel
theorem dX12_beside_62 : decode cX12_beside 62 = .ok (.ifCond .eq 23, 3) := by decide +kernel
theorem dX12_beside_65 : decode cX12_beside 65 = .ok (.aload_n 0, 1) := by decide +kernel
theorem dX12_beside_66 : decode cX12_beside 66 = .ok (.getfield 158, 3) := by decide +kernel
theorem dX12_beside_69 : decode cX12_beside 69 = .ok (.iload 6, 2) := by decide +kernel
theorem dX12_beside_71 : decode cX12_beside 71 = .ok (.iaload, 1) := by decide +kernel
theorem dX12_beside_72 : decode cX12_beside 72 = .ok (.aload_n 0, 1) := by decide +kernel
theorem dX12_beside_73 : decode cX12_beside 73 = .ok (.getfield 158, 3) := by decide +kernel
theorem dX12_beside_76 : decode cX12_beside 76 = .ok (.iload 5, 2) := by decide +kernel
theorem dX12_beside_78 : decode cX12_beside 78 = .ok (.iaload, 1) := by decide +kernel
theorem dX12_beside_79 : decode cX12_beside 79 = .ok (.if_icmp .lt 27, 3) := by decide +kernel
theorem dX12_beside_82 : decode cX12_beside 82 = .ok (.goto 20, 3) := by decide +kernel
theorem dX12_beside_85 : decode cX12_beside 85 = .ok (.aload_n 0, 1) := by decide +kernel
theorem dX12_beside_86 : decode cX12_beside 86 = .ok (.getfield 158, 3) := by decide +kernel
theorem dX12_beside_89 : decode cX12_beside 89 = .ok (.iload 6, 2) := by decide +kernel
theorem dX12_beside_91 : decode cX12_beside 91 = .ok (.iaload, 1) := by decide +kernel
theorem dX12_beside_92 : decode cX12_beside 92 = .ok (.aload_n 0, 1) := by decide +kernel
theorem dX12_beside_93 : decode cX12_beside 93 = .ok (.getfield 158, 3) := by decide +kernel
theorem dX12_beside_96 : decode cX12_beside 96 = .ok (.iload 5, 2) := by decide +kernel
theorem dX12_beside_98 : decode cX12_beside 98 = .ok (.iaload, 1) := by decide +kernel
theorem dX12_beside_99 : decode cX12_beside 99 = .ok (.if_icmp .ge 7, 3) := by decide +kernel
theorem dX12_beside_102 : decode cX12_beside 102 = .ok (.iconst 1, 1) := by decide +kernel
theorem dX12_beside_103 : decode cX12_beside 103 = .ok (.goto 4, 3) := by decide +kernel
theorem dX12_beside_106 : decode cX12_beside 106 = .ok (.iconst 0, 1) := by decide +kernel
theorem dX12_beside_107 : decode cX12_beside 107 = .ok (.istore 7, 2) := by decide +kernel
theorem dX12_beside_109 : decode cX12_beside 109 = .ok (.iload 7, 2) := by decide +kernel
theorem dX12_beside_111 : decode cX12_beside 111 = .ok (.ifCond .eq 8, 3) := by decide +kernel
theorem dX12_beside_114 : decode cX12_beside 114 = .ok (.iload 6, 2) := by decide +kernel
theorem dX12_beside_116 : decode cX12_beside 116 = .ok (.goto 5, 3) := by decide +kernel
theorem dX12_beside_119 : decode cX12_beside 119 = .ok (.iload 5, 2) := by decide +kernel
theorem dX12_beside_121 : decode cX12_beside 121 = .ok (.istore 5, 2) := by decide +kernel
theorem dX12_beside_123 : decode cX12_beside 123 = .ok (.iinc 6 1, 3) := by decide +kernel
theorem dX12_beside_126 : decode cX12_beside 126 = .ok (.goto (-120), 3) := by decide +kernel
theorem dX12_beside_129 : decode cX12_beside 129 = .ok (.iload 5, 2) := by decide +kernel
theorem dX12_beside_131 : decode cX12_beside 131 = .ok (.ireturn, 1) := by decide +kernel
theorem dX12_sign_0 : decode cX12_sign 0 = .ok (.aload_n 0, 1) := by decide +kernel
theorem dX12_sign_1 : decode cX12_sign 1 = .ok (.iconst 0, 1) := by decide +kernel
theorem dX12_sign_2 : decode cX12_sign 2 = .ok (.putfield 1, 3) := by decide +kernel
theorem dX12_sign_5 : decode cX12_sign 5 = .ok (.aload_n 0, 1) := by decide +kernel
theorem dX12_sign_6 : decode cX12_sign 6 = .ok (.getfield 177, 3) := by decide +kernel
theorem dX12_sign_9 : decode cX12_sign 9 = .ok (.bipush 96, 2) := by decide +kernel
theorem dX12_sign_11 : decode cX12_sign 11 = .ok (.if_icmp .le 5, 3) := by decide +kernel
theorem dX12_sign_14 : decode cX12_sign 14 = .ok (.iconst (-1), 1) := by decide +kernel
theorem dX12_sign_15 : decode cX12_sign 15 = .ok (.ireturn, 1) := by decide +kernel
theorem dX12_sign_16 : decode cX12_sign 16 = .ok (.iconst 0, 1) := by decide +kernel
theorem dX12_sign_17 : decode cX12_sign 17 = .ok (.istore_n 2, 1) := by decide +kernel
theorem dX12_sign_18 : decode cX12_sign 18 = .ok (.iload_n 2, 1) := by decide +kernel
theorem dX12_sign_19 : decode cX12_sign 19 = .ok (.iconst 4, 1) := by decide +kernel
theorem dX12_sign_20 : decode cX12_sign 20 = .ok (.if_icmp .ge 33, 3) := by decide +kernel
theorem dX12_sign_23 : decode cX12_sign 23 = .ok (.aload_n 0, 1) := by decide +kernel
theorem dX12_sign_24 : decode cX12_sign 24 = .ok (.getfield 180, 3) := by decide +kernel
theorem dX12_sign_27 : decode cX12_sign 27 = .ok (.aload_n 0, 1) := by decide +kernel
theorem dX12_sign_28 : decode cX12_sign 28 = .ok (.getfield 177, 3) := by decide +kernel
theorem dX12_sign_31 : decode cX12_sign 31 = .ok (.iload_n 2, 1) := by decide +kernel
theorem dX12_sign_32 : decode cX12_sign 32 = .ok (.iadd, 1) := by decide +kernel
theorem dX12_sign_33 : decode cX12_sign 33 = .ok (.iload_n 1, 1) := by decide +kernel
theorem dX12_sign_34 : decode cX12_sign 34 = .ok (.bipush 24, 2) := by decide +kernel
theorem dX12_sign_36 : decode cX12_sign 36 = .ok (.bipush 8, 2) := by decide +kernel
theorem dX12_sign_38 : decode cX12_sign 38 = .ok (.iload_n 2, 1) := by decide +kernel
theorem dX12_sign_39 : decode cX12_sign 39 = .ok (.imul, 1) := by decide +kernel
theorem dX12_sign_40 : decode cX12_sign 40 = .ok (.isub, 1) := by decide +kernel
theorem dX12_sign_41 : decode cX12_sign 41 = .ok (.ishr, 1) := by decide +kernel
theorem dX12_sign_42 : decode cX12_sign 42 = .ok (.sipush 255, 3) := by decide +kernel
theorem dX12_sign_45 : decode cX12_sign 45 = .ok (.iand, 1) := by decide +kernel
theorem dX12_sign_46 : decode cX12_sign 46 = .ok (.iastore, 1) := by decide +kernel
theorem dX12_sign_47 : decode cX12_sign 47 = .ok (.iinc 2 1, 3) := by decide +kernel
theorem dX12_sign_50 : decode cX12_sign 50 = .ok (.goto (-32), 3) := by decide +kernel
theorem dX12_sign_53 : decode cX12_sign 53 = .ok (.aload_n 0, 1) := by decide +kernel
theorem dX12_sign_54 : decode cX12_sign 54 = .ok (.dup, 1) := by decide +kernel
theorem dX12_sign_55 : decode cX12_sign 55 = .ok (.getfield 177, 3) := by decide +kernel
theorem dX12_sign_58 : decode cX12_sign 58 = .ok (.iconst 4, 1) := by decide +kernel
theorem dX12_sign_59 : decode cX12_sign 59 = .ok (.iadd, 1) := by decide +kernel
theorem dX12_sign_60 : decode cX12_sign 60 = .ok (.putfield 177, 3) := by decide +kernel
theorem dX12_sign_63 : decode cX12_sign 63 = .ok (.aload_n 0, 1) := by decide +kernel
theorem dX12_sign_64 : decode cX12_sign 64 = .ok (.getfield 177, 3) := by decide +kernel
theorem dX12_sign_67 : decode cX12_sign 67 = .ok (.ireturn, 1) := by decide +kernel
theorem dX12_end_0 : decode cX12_end 0 = .ok (.aload_n 0, 1) := by decide +kernel
theorem dX12_end_1 : decode cX12_end 1 = .ok (.iconst 0, 1) := by decide +kernel
theorem dX12_end_2 : decode cX12_end 2 = .ok (.putfield 1, 3) := by decide +kernel
theorem dX12_end_5 : decode cX12_end 5 = .ok (.iload_n 1, 1) := by decide +kernel
theorem dX12_end_6 : decode cX12_end 6 = .ok (.i2l, 1) := by decide +kernel
theorem dX12_end_7 : decode cX12_end 7 = .ok (.lconst 0, 1) := by decide +kernel
theorem dX12_end_8 : decode cX12_end 8 = .ok (.aload_n 0, 1) := by decide +kernel
theorem dX12_end_9 : decode cX12_end 9 = .ok (.getfield 177, 3) := by decide +kernel
theorem dX12_end_12 : decode cX12_end 12 = .ok (.i2l, 1) := by decide +kernel
theorem dX12_end_13 : decode cX12_end 13 = .ok (.invokestatic 17, 3) := by decide +kernel
theorem dX12_end_16 : decode cX12_end 16 = .ok (.ifCond .ne 5, 3) := by decide +kernel
theorem dX12_end_19 : decode cX12_end 19 = .ok (.iconst 0, 1) := by decide +kernel
theorem dX12_end_20 : decode cX12_end 20 = .ok (.ireturn, 1) := by decide +kernel
theorem dX12_end_21 : decode cX12_end 21 = .ok (.aload_n 0, 1) := by decide +kernel
theorem dX12_end_22 : decode cX12_end 22 = .ok (.iload_n 1, 1) := by decide +kernel
theorem dX12_end_23 : decode cX12_end 23 = .ok (.putfield 177, 3) := by decide +kernel
theorem dX12_end_26 : decode cX12_end 26 = .ok (.iconst 1, 1) := by decide +kernel
theorem dX12_end_27 : decode cX12_end 27 = .ok (.ireturn, 1) := by decide +kernel
theorem dX12_isSign_0 : decode cX12_isSign 0 = .ok (.aload_n 0, 1) := by decide +kernel
theorem dX12_isSign_1 : decode cX12_isSign 1 = .ok (.getfield 183, 3) := by decide +kernel
theorem dX12_isSign_4 : decode cX12_isSign 4 = .ok (.iload_n 1, 1) := by decide +kernel
theorem dX12_isSign_5 : decode cX12_isSign 5 = .ok (.if_icmp .ge 20, 3) := by decide +kernel
theorem dX12_isSign_8 : decode cX12_isSign 8 = .ok (.aload_n 0, 1) := by decide +kernel
theorem dX12_isSign_9 : decode cX12_isSign 9 = .ok (.getfield 180, 3) := by decide +kernel
theorem dX12_isSign_12 : decode cX12_isSign 12 = .ok (.aload_n 0, 1) := by decide +kernel
theorem dX12_isSign_13 : decode cX12_isSign 13 = .ok (.getfield 183, 3) := by decide +kernel
theorem dX12_isSign_16 : decode cX12_isSign 16 = .ok (.iaload, 1) := by decide +kernel
theorem dX12_isSign_17 : decode cX12_isSign 17 = .ok (.iload_n 2, 1) := by decide +kernel
theorem dX12_isSign_18 : decode cX12_isSign 18 = .ok (.if_icmp .ne 7, 3) := by decide +kernel
theorem dX12_isSign_21 : decode cX12_isSign 21 = .ok (.iconst 1, 1) := by decide +kernel
theorem dX12_isSign_22 : decode cX12_isSign 22 = .ok (.goto 4, 3) := by decide +kernel
theorem dX12_isSign_25 : decode cX12_isSign 25 = .ok (.iconst 0, 1) := by decide +kernel
theorem dX12_isSign_26 : decode cX12_isSign 26 = .ok (.ireturn, 1) := by decide +kernel
theorem dX12_isOf_0 : decode cX12_isOf 0 = .ok (.aload_n 0, 1) := by decide +kernel
theorem dX12_isOf_1 : decode cX12_isOf 1 = .ok (.getfield 183, 3) := by decide +kernel
theorem dX12_isOf_4 : decode cX12_isOf 4 = .ok (.iload_n 1, 1) := by decide +kernel
theorem dX12_isOf_5 : decode cX12_isOf 5 = .ok (.if_icmp .ge 35, 3) := by decide +kernel
theorem dX12_isOf_8 : decode cX12_isOf 8 = .ok (.aload_n 0, 1) := by decide +kernel
theorem dX12_isOf_9 : decode cX12_isOf 9 = .ok (.getfield 180, 3) := by decide +kernel
theorem dX12_isOf_12 : decode cX12_isOf 12 = .ok (.aload_n 0, 1) := by decide +kernel
theorem dX12_isOf_13 : decode cX12_isOf 13 = .ok (.getfield 183, 3) := by decide +kernel
theorem dX12_isOf_16 : decode cX12_isOf 16 = .ok (.iaload, 1) := by decide +kernel
theorem dX12_isOf_17 : decode cX12_isOf 17 = .ok (.ifCond .le 23, 3) := by decide +kernel
theorem dX12_isOf_20 : decode cX12_isOf 20 = .ok (.aload_n 2, 1) := by decide +kernel
theorem dX12_isOf_21 : decode cX12_isOf 21 = .ok (.aload_n 0, 1) := by decide +kernel
theorem dX12_isOf_22 : decode cX12_isOf 22 = .ok (.getfield 180, 3) := by decide +kernel
theorem dX12_isOf_25 : decode cX12_isOf 25 = .ok (.aload_n 0, 1) := by decide +kernel
theorem dX12_isOf_26 : decode cX12_isOf 26 = .ok (.getfield 183, 3) := by decide +kernel
theorem dX12_isOf_29 : decode cX12_isOf 29 = .ok (.iaload, 1) := by decide +kernel
theorem dX12_isOf_30 : decode cX12_isOf 30 = .ok (.invokevirtual 186, 3) := by decide +kernel
theorem dX12_isOf_33 : decode cX12_isOf 33 = .ok (.ifCond .lt 7, 3) := by decide +kernel
theorem dX12_isOf_36 : decode cX12_isOf 36 = .ok (.iconst 1, 1) := by decide +kernel
theorem dX12_isOf_37 : decode cX12_isOf 37 = .ok (.goto 4, 3) := by decide +kernel
theorem dX12_isOf_40 : decode cX12_isOf 40 = .ok (.iconst 0, 1) := by decide +kernel
theorem dX12_isOf_41 : decode cX12_isOf 41 = .ok (.ireturn, 1) := by decide +kernel
theorem dX12_marks_0 : decode cX12_marks 0 = .ok (.aload_n 0, 1) := by decide +kernel
theorem dX12_marks_1 : decode cX12_marks 1 = .ok (.getfield 191, 3) := by decide +kernel
theorem dX12_marks_4 : decode cX12_marks 4 = .ok (.bipush 64, 2) := by decide +kernel
theorem dX12_marks_6 : decode cX12_marks 6 = .ok (.aload_n 0, 1) := by decide +kernel
theorem dX12_marks_7 : decode cX12_marks 7 = .ok (.getfield 194, 3) := by decide +kernel
theorem dX12_marks_10 : decode cX12_marks 10 = .ok (.imul, 1) := by decide +kernel
theorem dX12_marks_11 : decode cX12_marks 11 = .ok (.aload_n 0, 1) := by decide +kernel
theorem dX12_marks_12 : decode cX12_marks 12 = .ok (.getfield 197, 3) := by decide +kernel
theorem dX12_marks_15 : decode cX12_marks 15 = .ok (.aload_n 0, 1) := by decide +kernel
theorem dX12_marks_16 : decode cX12_marks 16 = .ok (.getfield 194, 3) := by decide +kernel
theorem dX12_marks_19 : decode cX12_marks 19 = .ok (.iaload, 1) := by decide +kernel
theorem dX12_marks_20 : decode cX12_marks 20 = .ok (.iadd, 1) := by decide +kernel
theorem dX12_marks_21 : decode cX12_marks 21 = .ok (.iload_n 1, 1) := by decide +kernel
theorem dX12_marks_22 : decode cX12_marks 22 = .ok (.iastore, 1) := by decide +kernel
theorem dX12_marks_23 : decode cX12_marks 23 = .ok (.aload_n 0, 1) := by decide +kernel
theorem dX12_marks_24 : decode cX12_marks 24 = .ok (.getfield 197, 3) := by decide +kernel
theorem dX12_marks_27 : decode cX12_marks 27 = .ok (.aload_n 0, 1) := by decide +kernel
theorem dX12_marks_28 : decode cX12_marks 28 = .ok (.getfield 194, 3) := by decide +kernel
theorem dX12_marks_31 : decode cX12_marks 31 = .ok (.dup2, 1) := by decide +kernel
theorem dX12_marks_32 : decode cX12_marks 32 = .ok (.iaload, 1) := by decide +kernel
theorem dX12_marks_33 : decode cX12_marks 33 = .ok (.iconst 1, 1) := by decide +kernel
theorem dX12_marks_34 : decode cX12_marks 34 = .ok (.iadd, 1) := by decide +kernel
theorem dX12_marks_35 : decode cX12_marks 35 = .ok (.iastore, 1) := by decide +kernel
theorem dX12_marks_36 : decode cX12_marks 36 = .ok (.return_, 1) := by decide +kernel
theorem dX12_act_0 : decode cX12_act 0 = .ok (.iload_n 0, 1) := by decide +kernel
theorem dX12_act_1 : decode cX12_act 1 = .ok (.sipush 200, 3) := by decide +kernel
theorem dX12_act_4 : decode cX12_act 4 = .ok (.isub, 1) := by decide +kernel
theorem dX12_act_5 : decode cX12_act 5 = .ok (.ireturn, 1) := by decide +kernel
theorem dX12_thing_0 : decode cX12_thing 0 = .ok (.aload_n 0, 1) := by decide +kernel
theorem dX12_thing_1 : decode cX12_thing 1 = .ok (.iload_n 1, 1) := by decide +kernel
theorem dX12_thing_2 : decode cX12_thing 2 = .ok (.ldc 200, 2) := by decide +kernel
theorem dX12_thing_4 : decode cX12_thing 4 = .ok (.invokevirtual 202, 3) := by decide +kernel
theorem dX12_thing_7 : decode cX12_thing 7 = .ok (.ifCond .eq 35, 3) := by decide +kernel
theorem dX12_thing_10 : decode cX12_thing 10 = .ok (.aload_n 0, 1) := by decide +kernel
theorem dX12_thing_11 : decode cX12_thing 11 = .ok (.iconst (-1), 1) := by decide +kernel
theorem dX12_thing_12 : decode cX12_thing 12 = .ok (.ldc 200, 2) := by decide +kernel
theorem dX12_thing_14 : decode cX12_thing 14 = .ok (.aload_n 0, 1) := by decide +kernel
theorem dX12_thing_15 : decode cX12_thing 15 = .ok (.getfield 180, 3) := by decide +kernel
theorem dX12_thing_18 : decode cX12_thing 18 = .ok (.aload_n 0, 1) := by decide +kernel
theorem dX12_thing_19 : decode cX12_thing 19 = .ok (.getfield 183, 3) := by decide +kernel
theorem dX12_thing_22 : decode cX12_thing 22 = .ok (.iaload, 1) := by decide +kernel
theorem dX12_thing_23 : decode cX12_thing 23 = .ok (.invokevirtual 186, 3) := by decide +kernel
theorem dX12_thing_26 : decode cX12_thing 26 = .ok (.isub, 1) := by decide +kernel
theorem dX12_thing_27 : decode cX12_thing 27 = .ok (.invokevirtual 206, 3) := by decide +kernel
theorem dX12_thing_30 : decode cX12_thing 30 = .ok (.aload_n 0, 1) := by decide +kernel
theorem dX12_thing_31 : decode cX12_thing 31 = .ok (.dup, 1) := by decide +kernel
theorem dX12_thing_32 : decode cX12_thing 32 = .ok (.getfield 183, 3) := by decide +kernel
theorem dX12_thing_35 : decode cX12_thing 35 = .ok (.iconst 1, 1) := by decide +kernel
theorem dX12_thing_36 : decode cX12_thing 36 = .ok (.iadd, 1) := by decide +kernel
theorem dX12_thing_37 : decode cX12_thing 37 = .ok (.putfield 183, 3) := by decide +kernel
theorem dX12_thing_40 : decode cX12_thing 40 = .ok (.iconst 1, 1) := by decide +kernel
theorem dX12_thing_41 : decode cX12_thing 41 = .ok (.ireturn, 1) := by decide +kernel
theorem dX12_thing_42 : decode cX12_thing 42 = .ok (.aload_n 0, 1) := by decide +kernel
theorem dX12_thing_43 : decode cX12_thing 43 = .ok (.iload_n 1, 1) := by decide +kernel
theorem dX12_thing_44 : decode cX12_thing 44 = .ok (.ldc 209, 2) := by decide +kernel
theorem dX12_thing_46 : decode cX12_thing 46 = .ok (.invokevirtual 202, 3) := by decide +kernel
theorem dX12_thing_49 : decode cX12_thing 49 = .ok (.ifCond .eq 63, 3) := by decide +kernel
theorem dX12_thing_52 : decode cX12_thing 52 = .ok (.iconst 0, 1) := by decide +kernel
theorem dX12_thing_53 : decode cX12_thing 53 = .ok (.istore_n 2, 1) := by decide +kernel
theorem dX12_thing_54 : decode cX12_thing 54 = .ok (.iconst 0, 1) := by decide +kernel
theorem dX12_thing_55 : decode cX12_thing 55 = .ok (.istore_n 3, 1) := by decide +kernel
theorem dX12_thing_56 : decode cX12_thing 56 = .ok (.iload_n 3, 1) := by decide +kernel
theorem dX12_thing_57 : decode cX12_thing 57 = .ok (.iconst 4, 1) := by decide +kernel
theorem dX12_thing_58 : decode cX12_thing 58 = .ok (.if_icmp .ge 47, 3) := by decide +kernel
theorem dX12_thing_61 : decode cX12_thing 61 = .ok (.aload_n 0, 1) := by decide +kernel
theorem dX12_thing_62 : decode cX12_thing 62 = .ok (.iload_n 1, 1) := by decide +kernel
theorem dX12_thing_63 : decode cX12_thing 63 = .ok (.ldc 209, 2) := by decide +kernel
theorem dX12_thing_65 : decode cX12_thing 65 = .ok (.invokevirtual 202, 3) := by decide +kernel
theorem dX12_thing_68 : decode cX12_thing 68 = .ok (.ifCond .eq 37, 3) := by decide +kernel
theorem dX12_thing_71 : decode cX12_thing 71 = .ok (.bipush 10, 2) := by decide +kernel
theorem dX12_thing_73 : decode cX12_thing 73 = .ok (.iload_n 2, 1) := by decide +kernel
theorem dX12_thing_74 : decode cX12_thing 74 = .ok (.imul, 1) := by decide +kernel
theorem dX12_thing_75 : decode cX12_thing 75 = .ok (.aload_n 0, 1) := by decide +kernel
theorem dX12_thing_76 : decode cX12_thing 76 = .ok (.getfield 180, 3) := by decide +kernel
theorem dX12_thing_79 : decode cX12_thing 79 = .ok (.aload_n 0, 1) := by decide +kernel
theorem dX12_thing_80 : decode cX12_thing 80 = .ok (.getfield 183, 3) := by decide +kernel
theorem dX12_thing_83 : decode cX12_thing 83 = .ok (.iaload, 1) := by decide +kernel
theorem dX12_thing_84 : decode cX12_thing 84 = .ok (.iadd, 1) := by decide +kernel
theorem dX12_thing_85 : decode cX12_thing 85 = .ok (.bipush 48, 2) := by decide +kernel
theorem dX12_thing_87 : decode cX12_thing 87 = .ok (.isub, 1) := by decide +kernel
theorem dX12_thing_88 : decode cX12_thing 88 = .ok (.istore_n 2, 1) := by decide +kernel
theorem dX12_thing_89 : decode cX12_thing 89 = .ok (.aload_n 0, 1) := by decide +kernel
theorem dX12_thing_90 : decode cX12_thing 90 = .ok (.dup, 1) := by decide +kernel
theorem dX12_thing_91 : decode cX12_thing 91 = .ok (.getfield 183, 3) := by decide +kernel
theorem dX12_thing_94 : decode cX12_thing 94 = .ok (.iconst 1, 1) := by decide +kernel
theorem dX12_thing_95 : decode cX12_thing 95 = .ok (.iadd, 1) := by decide +kernel
theorem dX12_thing_96 : decode cX12_thing 96 = .ok (.putfield 183, 3) := by decide +kernel
theorem dX12_thing_99 : decode cX12_thing 99 = .ok (.iinc 3 1, 3) := by decide +kernel
theorem dX12_thing_102 : decode cX12_thing 102 = .ok (.goto (-46), 3) := by decide +kernel
theorem dX12_thing_105 : decode cX12_thing 105 = .ok (.aload_n 0, 1) := by decide +kernel
theorem dX12_thing_106 : decode cX12_thing 106 = .ok (.iload_n 2, 1) := by decide +kernel
theorem dX12_thing_107 : decode cX12_thing 107 = .ok (.invokevirtual 206, 3) := by decide +kernel
theorem dX12_thing_110 : decode cX12_thing 110 = .ok (.iconst 1, 1) := by decide +kernel
theorem dX12_thing_111 : decode cX12_thing 111 = .ok (.ireturn, 1) := by decide +kernel
theorem dX12_thing_112 : decode cX12_thing 112 = .ok (.aload_n 0, 1) := by decide +kernel
theorem dX12_thing_113 : decode cX12_thing 113 = .ok (.iload_n 1, 1) := by decide +kernel
theorem dX12_thing_114 : decode cX12_thing 114 = .ok (.bipush 40, 2) := by decide +kernel
theorem dX12_thing_116 : decode cX12_thing 116 = .ok (.invokevirtual 211, 3) := by decide +kernel
theorem dX12_thing_119 : decode cX12_thing 119 = .ok (.ifCond .ne 5, 3) := by decide +kernel
theorem dX12_thing_122 : decode cX12_thing 122 = .ok (.iconst 0, 1) := by decide +kernel
theorem dX12_thing_123 : decode cX12_thing 123 = .ok (.ireturn, 1) := by decide +kernel
theorem dX12_thing_124 : decode cX12_thing 124 = .ok (.aload_n 0, 1) := by decide +kernel
theorem dX12_thing_125 : decode cX12_thing 125 = .ok (.dup, 1) := by decide +kernel
theorem dX12_thing_126 : decode cX12_thing 126 = .ok (.getfield 183, 3) := by decide +kernel
theorem dX12_thing_129 : decode cX12_thing 129 = .ok (.iconst 1, 1) := by decide +kernel
theorem dX12_thing_130 : decode cX12_thing 130 = .ok (.iadd, 1) := by decide +kernel
theorem dX12_thing_131 : decode cX12_thing 131 = .ok (.putfield 183, 3) := by decide +kernel
theorem dX12_thing_134 : decode cX12_thing 134 = .ok (.aload_n 0, 1) := by decide +kernel
theorem dX12_thing_135 : decode cX12_thing 135 = .ok (.iload_n 1, 1) := by decide +kernel
theorem dX12_thing_136 : decode cX12_thing 136 = .ok (.invokevirtual 215, 3) := by decide +kernel
theorem dX12_thing_139 : decode cX12_thing 139 = .ok (.ifCond .eq 13, 3) := by decide +kernel
theorem dX12_thing_142 : decode cX12_thing 142 = .ok (.aload_n 0, 1) := by decide +kernel
theorem dX12_thing_143 : decode cX12_thing 143 = .ok (.iload_n 1, 1) := by decide +kernel
theorem dX12_thing_144 : decode cX12_thing 144 = .ok (.bipush 41, 2) := by decide +kernel
theorem dX12_thing_146 : decode cX12_thing 146 = .ok (.invokevirtual 211, 3) := by decide +kernel
theorem dX12_thing_149 : decode cX12_thing 149 = .ok (.ifCond .ne 5, 3) := by decide +kernel
theorem dX12_thing_152 : decode cX12_thing 152 = .ok (.iconst 0, 1) := by decide +kernel
theorem dX12_thing_153 : decode cX12_thing 153 = .ok (.ireturn, 1) := by decide +kernel
theorem dX12_thing_154 : decode cX12_thing 154 = .ok (.aload_n 0, 1) := by decide +kernel
theorem dX12_thing_155 : decode cX12_thing 155 = .ok (.dup, 1) := by decide +kernel
theorem dX12_thing_156 : decode cX12_thing 156 = .ok (.getfield 183, 3) := by decide +kernel
theorem dX12_thing_159 : decode cX12_thing 159 = .ok (.iconst 1, 1) := by decide +kernel
theorem dX12_thing_160 : decode cX12_thing 160 = .ok (.iadd, 1) := by decide +kernel
theorem dX12_thing_161 : decode cX12_thing 161 = .ok (.putfield 183, 3) := by decide +kernel
theorem dX12_thing_164 : decode cX12_thing 164 = .ok (.iconst 1, 1) := by decide +kernel
theorem dX12_thing_165 : decode cX12_thing 165 = .ok (.ireturn, 1) := by decide +kernel
theorem dX12_unary_0 : decode cX12_unary 0 = .ok (.aload_n 0, 1) := by decide +kernel
theorem dX12_unary_1 : decode cX12_unary 1 = .ok (.iload_n 1, 1) := by decide +kernel
theorem dX12_unary_2 : decode cX12_unary 2 = .ok (.ldc 218, 2) := by decide +kernel
theorem dX12_unary_4 : decode cX12_unary 4 = .ok (.invokevirtual 202, 3) := by decide +kernel
theorem dX12_unary_7 : decode cX12_unary 7 = .ok (.ifCond .ne 9, 3) := by decide +kernel
theorem dX12_unary_10 : decode cX12_unary 10 = .ok (.aload_n 0, 1) := by decide +kernel
theorem dX12_unary_11 : decode cX12_unary 11 = .ok (.iload_n 1, 1) := by decide +kernel
theorem dX12_unary_12 : decode cX12_unary 12 = .ok (.invokevirtual 220, 3) := by decide +kernel
theorem dX12_unary_15 : decode cX12_unary 15 = .ok (.ireturn, 1) := by decide +kernel
theorem dX12_unary_16 : decode cX12_unary 16 = .ok (.aload_n 0, 1) := by decide +kernel
theorem dX12_unary_17 : decode cX12_unary 17 = .ok (.getfield 180, 3) := by decide +kernel
theorem dX12_unary_20 : decode cX12_unary 20 = .ok (.aload_n 0, 1) := by decide +kernel
theorem dX12_unary_21 : decode cX12_unary 21 = .ok (.getfield 183, 3) := by decide +kernel
theorem dX12_unary_24 : decode cX12_unary 24 = .ok (.iaload, 1) := by decide +kernel
theorem dX12_unary_25 : decode cX12_unary 25 = .ok (.istore_n 2, 1) := by decide +kernel
theorem dX12_unary_26 : decode cX12_unary 26 = .ok (.aload_n 0, 1) := by decide +kernel
theorem dX12_unary_27 : decode cX12_unary 27 = .ok (.dup, 1) := by decide +kernel
theorem dX12_unary_28 : decode cX12_unary 28 = .ok (.getfield 183, 3) := by decide +kernel
theorem dX12_unary_31 : decode cX12_unary 31 = .ok (.iconst 1, 1) := by decide +kernel
theorem dX12_unary_32 : decode cX12_unary 32 = .ok (.iadd, 1) := by decide +kernel
theorem dX12_unary_33 : decode cX12_unary 33 = .ok (.putfield 183, 3) := by decide +kernel
theorem dX12_unary_36 : decode cX12_unary 36 = .ok (.aload_n 0, 1) := by decide +kernel
theorem dX12_unary_37 : decode cX12_unary 37 = .ok (.iload_n 1, 1) := by decide +kernel
theorem dX12_unary_38 : decode cX12_unary 38 = .ok (.invokevirtual 223, 3) := by decide +kernel
theorem dX12_unary_41 : decode cX12_unary 41 = .ok (.istore_n 3, 1) := by decide +kernel
theorem dX12_unary_42 : decode cX12_unary 42 = .ok (.iload_n 3, 1) := by decide +kernel
theorem dX12_unary_43 : decode cX12_unary 43 = .ok (.ifCond .eq 23, 3) := by decide +kernel
theorem dX12_unary_46 : decode cX12_unary 46 = .ok (.aload_n 0, 1) := by decide +kernel
theorem dX12_unary_47 : decode cX12_unary 47 = .ok (.iload_n 2, 1) := by decide +kernel
theorem dX12_unary_48 : decode cX12_unary 48 = .ok (.bipush 33, 2) := by decide +kernel
theorem dX12_unary_50 : decode cX12_unary 50 = .ok (.if_icmp .ne 8, 3) := by decide +kernel
theorem dX12_unary_53 : decode cX12_unary 53 = .ok (.bipush 33, 2) := by decide +kernel
theorem dX12_unary_55 : decode cX12_unary 55 = .ok (.goto 5, 3) := by decide +kernel
theorem dX12_unary_58 : decode cX12_unary 58 = .ok (.bipush 126, 2) := by decide +kernel
theorem dX12_unary_60 : decode cX12_unary 60 = .ok (.invokestatic 226, 3) := by decide +kernel
theorem dX12_unary_63 : decode cX12_unary 63 = .ok (.invokevirtual 206, 3) := by decide +kernel
theorem dX12_unary_66 : decode cX12_unary 66 = .ok (.iload_n 3, 1) := by decide +kernel
theorem dX12_unary_67 : decode cX12_unary 67 = .ok (.ireturn, 1) := by decide +kernel
theorem dX12_product_0 : decode cX12_product 0 = .ok (.aload_n 0, 1) := by decide +kernel
theorem dX12_product_1 : decode cX12_product 1 = .ok (.iload_n 1, 1) := by decide +kernel
theorem dX12_product_2 : decode cX12_product 2 = .ok (.invokevirtual 223, 3) := by decide +kernel
theorem dX12_product_5 : decode cX12_product 5 = .ok (.istore_n 2, 1) := by decide +kernel
theorem dX12_product_6 : decode cX12_product 6 = .ok (.iload_n 2, 1) := by decide +kernel
theorem dX12_product_7 : decode cX12_product 7 = .ok (.ifCond .eq 54, 3) := by decide +kernel
theorem dX12_product_10 : decode cX12_product 10 = .ok (.aload_n 0, 1) := by decide +kernel
theorem dX12_product_11 : decode cX12_product 11 = .ok (.iload_n 1, 1) := by decide +kernel
theorem dX12_product_12 : decode cX12_product 12 = .ok (.ldc 229, 2) := by decide +kernel
theorem dX12_product_14 : decode cX12_product 14 = .ok (.invokevirtual 202, 3) := by decide +kernel
theorem dX12_product_17 : decode cX12_product 17 = .ok (.ifCond .eq 44, 3) := by decide +kernel
theorem dX12_product_20 : decode cX12_product 20 = .ok (.aload_n 0, 1) := by decide +kernel
theorem dX12_product_21 : decode cX12_product 21 = .ok (.getfield 180, 3) := by decide +kernel
theorem dX12_product_24 : decode cX12_product 24 = .ok (.aload_n 0, 1) := by decide +kernel
theorem dX12_product_25 : decode cX12_product 25 = .ok (.getfield 183, 3) := by decide +kernel
theorem dX12_product_28 : decode cX12_product 28 = .ok (.iaload, 1) := by decide +kernel
theorem dX12_product_29 : decode cX12_product 29 = .ok (.istore_n 3, 1) := by decide +kernel
theorem dX12_product_30 : decode cX12_product 30 = .ok (.aload_n 0, 1) := by decide +kernel
theorem dX12_product_31 : decode cX12_product 31 = .ok (.dup, 1) := by decide +kernel
theorem dX12_product_32 : decode cX12_product 32 = .ok (.getfield 183, 3) := by decide +kernel
theorem dX12_product_35 : decode cX12_product 35 = .ok (.iconst 1, 1) := by decide +kernel
theorem dX12_product_36 : decode cX12_product 36 = .ok (.iadd, 1) := by decide +kernel
theorem dX12_product_37 : decode cX12_product 37 = .ok (.putfield 183, 3) := by decide +kernel
theorem dX12_product_40 : decode cX12_product 40 = .ok (.aload_n 0, 1) := by decide +kernel
theorem dX12_product_41 : decode cX12_product 41 = .ok (.iload_n 1, 1) := by decide +kernel
theorem dX12_product_42 : decode cX12_product 42 = .ok (.invokevirtual 223, 3) := by decide +kernel
theorem dX12_product_45 : decode cX12_product 45 = .ok (.istore_n 2, 1) := by decide +kernel
theorem dX12_product_46 : decode cX12_product 46 = .ok (.iload_n 2, 1) := by decide +kernel
theorem dX12_product_47 : decode cX12_product 47 = .ok (.ifCond .eq 11, 3) := by decide +kernel
theorem dX12_product_50 : decode cX12_product 50 = .ok (.aload_n 0, 1) := by decide +kernel
theorem dX12_product_51 : decode cX12_product 51 = .ok (.iload_n 3, 1) := by decide +kernel
theorem dX12_product_52 : decode cX12_product 52 = .ok (.invokestatic 226, 3) := by decide +kernel
theorem dX12_product_55 : decode cX12_product 55 = .ok (.invokevirtual 206, 3) := by decide +kernel
theorem dX12_product_58 : decode cX12_product 58 = .ok (.goto (-52), 3) := by decide +kernel
theorem dX12_product_61 : decode cX12_product 61 = .ok (.iload_n 2, 1) := by decide +kernel
theorem dX12_product_62 : decode cX12_product 62 = .ok (.ireturn, 1) := by decide +kernel
theorem dX12_total_0 : decode cX12_total 0 = .ok (.aload_n 0, 1) := by decide +kernel
theorem dX12_total_1 : decode cX12_total 1 = .ok (.iload_n 1, 1) := by decide +kernel
theorem dX12_total_2 : decode cX12_total 2 = .ok (.invokevirtual 231, 3) := by decide +kernel
theorem dX12_total_5 : decode cX12_total 5 = .ok (.istore_n 2, 1) := by decide +kernel
theorem dX12_total_6 : decode cX12_total 6 = .ok (.iload_n 2, 1) := by decide +kernel
theorem dX12_total_7 : decode cX12_total 7 = .ok (.ifCond .eq 54, 3) := by decide +kernel
theorem dX12_total_10 : decode cX12_total 10 = .ok (.aload_n 0, 1) := by decide +kernel
theorem dX12_total_11 : decode cX12_total 11 = .ok (.iload_n 1, 1) := by decide +kernel
theorem dX12_total_12 : decode cX12_total 12 = .ok (.ldc 234, 2) := by decide +kernel
theorem dX12_total_14 : decode cX12_total 14 = .ok (.invokevirtual 202, 3) := by decide +kernel
theorem dX12_total_17 : decode cX12_total 17 = .ok (.ifCond .eq 44, 3) := by decide +kernel
theorem dX12_total_20 : decode cX12_total 20 = .ok (.aload_n 0, 1) := by decide +kernel
theorem dX12_total_21 : decode cX12_total 21 = .ok (.getfield 180, 3) := by decide +kernel
theorem dX12_total_24 : decode cX12_total 24 = .ok (.aload_n 0, 1) := by decide +kernel
theorem dX12_total_25 : decode cX12_total 25 = .ok (.getfield 183, 3) := by decide +kernel
theorem dX12_total_28 : decode cX12_total 28 = .ok (.iaload, 1) := by decide +kernel
theorem dX12_total_29 : decode cX12_total 29 = .ok (.istore_n 3, 1) := by decide +kernel
theorem dX12_total_30 : decode cX12_total 30 = .ok (.aload_n 0, 1) := by decide +kernel
theorem dX12_total_31 : decode cX12_total 31 = .ok (.dup, 1) := by decide +kernel
theorem dX12_total_32 : decode cX12_total 32 = .ok (.getfield 183, 3) := by decide +kernel
theorem dX12_total_35 : decode cX12_total 35 = .ok (.iconst 1, 1) := by decide +kernel
theorem dX12_total_36 : decode cX12_total 36 = .ok (.iadd, 1) := by decide +kernel
theorem dX12_total_37 : decode cX12_total 37 = .ok (.putfield 183, 3) := by decide +kernel
theorem dX12_total_40 : decode cX12_total 40 = .ok (.aload_n 0, 1) := by decide +kernel
theorem dX12_total_41 : decode cX12_total 41 = .ok (.iload_n 1, 1) := by decide +kernel
theorem dX12_total_42 : decode cX12_total 42 = .ok (.invokevirtual 231, 3) := by decide +kernel
theorem dX12_total_45 : decode cX12_total 45 = .ok (.istore_n 2, 1) := by decide +kernel
theorem dX12_total_46 : decode cX12_total 46 = .ok (.iload_n 2, 1) := by decide +kernel
theorem dX12_total_47 : decode cX12_total 47 = .ok (.ifCond .eq 11, 3) := by decide +kernel
theorem dX12_total_50 : decode cX12_total 50 = .ok (.aload_n 0, 1) := by decide +kernel
theorem dX12_total_51 : decode cX12_total 51 = .ok (.iload_n 3, 1) := by decide +kernel
theorem dX12_total_52 : decode cX12_total 52 = .ok (.invokestatic 226, 3) := by decide +kernel
theorem dX12_total_55 : decode cX12_total 55 = .ok (.invokevirtual 206, 3) := by decide +kernel
theorem dX12_total_58 : decode cX12_total 58 = .ok (.goto (-52), 3) := by decide +kernel
theorem dX12_total_61 : decode cX12_total 61 = .ok (.iload_n 2, 1) := by decide +kernel
theorem dX12_total_62 : decode cX12_total 62 = .ok (.ireturn, 1) := by decide +kernel
theorem dX12_compared_0 : decode cX12_compared 0 = .ok (.aload_n 0, 1) := by decide +kernel
theorem dX12_compared_1 : decode cX12_compared 1 = .ok (.iload_n 1, 1) := by decide +kernel
theorem dX12_compared_2 : decode cX12_compared 2 = .ok (.invokevirtual 236, 3) := by decide +kernel
theorem dX12_compared_5 : decode cX12_compared 5 = .ok (.istore_n 2, 1) := by decide +kernel
theorem dX12_compared_6 : decode cX12_compared 6 = .ok (.iload_n 2, 1) := by decide +kernel
theorem dX12_compared_7 : decode cX12_compared 7 = .ok (.ifCond .eq 51, 3) := by decide +kernel
theorem dX12_compared_10 : decode cX12_compared 10 = .ok (.aload_n 0, 1) := by decide +kernel
theorem dX12_compared_11 : decode cX12_compared 11 = .ok (.iload_n 1, 1) := by decide +kernel
theorem dX12_compared_12 : decode cX12_compared 12 = .ok (.ldc 239, 2) := by decide +kernel
theorem dX12_compared_14 : decode cX12_compared 14 = .ok (.invokevirtual 202, 3) := by decide +kernel
theorem dX12_compared_17 : decode cX12_compared 17 = .ok (.ifCond .eq 41, 3) := by decide +kernel
theorem dX12_compared_20 : decode cX12_compared 20 = .ok (.aload_n 0, 1) := by decide +kernel
theorem dX12_compared_21 : decode cX12_compared 21 = .ok (.getfield 180, 3) := by decide +kernel
theorem dX12_compared_24 : decode cX12_compared 24 = .ok (.aload_n 0, 1) := by decide +kernel
theorem dX12_compared_25 : decode cX12_compared 25 = .ok (.getfield 183, 3) := by decide +kernel
theorem dX12_compared_28 : decode cX12_compared 28 = .ok (.iaload, 1) := by decide +kernel
theorem dX12_compared_29 : decode cX12_compared 29 = .ok (.istore_n 3, 1) := by decide +kernel
theorem dX12_compared_30 : decode cX12_compared 30 = .ok (.aload_n 0, 1) := by decide +kernel
theorem dX12_compared_31 : decode cX12_compared 31 = .ok (.dup, 1) := by decide +kernel
theorem dX12_compared_32 : decode cX12_compared 32 = .ok (.getfield 183, 3) := by decide +kernel
theorem dX12_compared_35 : decode cX12_compared 35 = .ok (.iconst 1, 1) := by decide +kernel
theorem dX12_compared_36 : decode cX12_compared 36 = .ok (.iadd, 1) := by decide +kernel
theorem dX12_compared_37 : decode cX12_compared 37 = .ok (.putfield 183, 3) := by decide +kernel
theorem dX12_compared_40 : decode cX12_compared 40 = .ok (.aload_n 0, 1) := by decide +kernel
theorem dX12_compared_41 : decode cX12_compared 41 = .ok (.iload_n 1, 1) := by decide +kernel
theorem dX12_compared_42 : decode cX12_compared 42 = .ok (.invokevirtual 236, 3) := by decide +kernel
theorem dX12_compared_45 : decode cX12_compared 45 = .ok (.istore_n 2, 1) := by decide +kernel
theorem dX12_compared_46 : decode cX12_compared 46 = .ok (.iload_n 2, 1) := by decide +kernel
theorem dX12_compared_47 : decode cX12_compared 47 = .ok (.ifCond .eq 11, 3) := by decide +kernel
theorem dX12_compared_50 : decode cX12_compared 50 = .ok (.aload_n 0, 1) := by decide +kernel
theorem dX12_compared_51 : decode cX12_compared 51 = .ok (.iload_n 3, 1) := by decide +kernel
theorem dX12_compared_52 : decode cX12_compared 52 = .ok (.invokestatic 226, 3) := by decide +kernel
theorem dX12_compared_55 : decode cX12_compared 55 = .ok (.invokevirtual 206, 3) := by decide +kernel
theorem dX12_compared_58 : decode cX12_compared 58 = .ok (.iload_n 2, 1) := by decide +kernel
theorem dX12_compared_59 : decode cX12_compared 59 = .ok (.ireturn, 1) := by decide +kernel
theorem dX12_every_0 : decode cX12_every 0 = .ok (.aload_n 0, 1) := by decide +kernel
theorem dX12_every_1 : decode cX12_every 1 = .ok (.iload_n 1, 1) := by decide +kernel
theorem dX12_every_2 : decode cX12_every 2 = .ok (.invokevirtual 241, 3) := by decide +kernel
theorem dX12_every_5 : decode cX12_every 5 = .ok (.istore_n 2, 1) := by decide +kernel
theorem dX12_every_6 : decode cX12_every 6 = .ok (.iload_n 2, 1) := by decide +kernel
theorem dX12_every_7 : decode cX12_every 7 = .ok (.ifCond .eq 45, 3) := by decide +kernel
theorem dX12_every_10 : decode cX12_every 10 = .ok (.aload_n 0, 1) := by decide +kernel
theorem dX12_every_11 : decode cX12_every 11 = .ok (.iload_n 1, 1) := by decide +kernel
theorem dX12_every_12 : decode cX12_every 12 = .ok (.bipush 38, 2) := by decide +kernel
theorem dX12_every_14 : decode cX12_every 14 = .ok (.invokevirtual 211, 3) := by decide +kernel
theorem dX12_every_17 : decode cX12_every 17 = .ok (.ifCond .eq 35, 3) := by decide +kernel
theorem dX12_every_20 : decode cX12_every 20 = .ok (.aload_n 0, 1) := by decide +kernel
theorem dX12_every_21 : decode cX12_every 21 = .ok (.dup, 1) := by decide +kernel
theorem dX12_every_22 : decode cX12_every 22 = .ok (.getfield 183, 3) := by decide +kernel
theorem dX12_every_25 : decode cX12_every 25 = .ok (.iconst 1, 1) := by decide +kernel
theorem dX12_every_26 : decode cX12_every 26 = .ok (.iadd, 1) := by decide +kernel
theorem dX12_every_27 : decode cX12_every 27 = .ok (.putfield 183, 3) := by decide +kernel
theorem dX12_every_30 : decode cX12_every 30 = .ok (.aload_n 0, 1) := by decide +kernel
theorem dX12_every_31 : decode cX12_every 31 = .ok (.iload_n 1, 1) := by decide +kernel
theorem dX12_every_32 : decode cX12_every 32 = .ok (.invokevirtual 241, 3) := by decide +kernel
theorem dX12_every_35 : decode cX12_every 35 = .ok (.istore_n 2, 1) := by decide +kernel
theorem dX12_every_36 : decode cX12_every 36 = .ok (.iload_n 2, 1) := by decide +kernel
theorem dX12_every_37 : decode cX12_every 37 = .ok (.ifCond .eq (-31), 3) := by decide +kernel
theorem dX12_every_40 : decode cX12_every 40 = .ok (.aload_n 0, 1) := by decide +kernel
theorem dX12_every_41 : decode cX12_every 41 = .ok (.bipush 38, 2) := by decide +kernel
theorem dX12_every_43 : decode cX12_every 43 = .ok (.invokestatic 226, 3) := by decide +kernel
theorem dX12_every_46 : decode cX12_every 46 = .ok (.invokevirtual 206, 3) := by decide +kernel
theorem dX12_every_49 : decode cX12_every 49 = .ok (.goto (-43), 3) := by decide +kernel
theorem dX12_every_52 : decode cX12_every 52 = .ok (.iload_n 2, 1) := by decide +kernel
theorem dX12_every_53 : decode cX12_every 53 = .ok (.ireturn, 1) := by decide +kernel
theorem dX12_some_0 : decode cX12_some 0 = .ok (.aload_n 0, 1) := by decide +kernel
theorem dX12_some_1 : decode cX12_some 1 = .ok (.iload_n 1, 1) := by decide +kernel
theorem dX12_some_2 : decode cX12_some 2 = .ok (.invokevirtual 244, 3) := by decide +kernel
theorem dX12_some_5 : decode cX12_some 5 = .ok (.istore_n 2, 1) := by decide +kernel
theorem dX12_some_6 : decode cX12_some 6 = .ok (.iload_n 2, 1) := by decide +kernel
theorem dX12_some_7 : decode cX12_some 7 = .ok (.ifCond .eq 45, 3) := by decide +kernel
theorem dX12_some_10 : decode cX12_some 10 = .ok (.aload_n 0, 1) := by decide +kernel
theorem dX12_some_11 : decode cX12_some 11 = .ok (.iload_n 1, 1) := by decide +kernel
theorem dX12_some_12 : decode cX12_some 12 = .ok (.bipush 124, 2) := by decide +kernel
theorem dX12_some_14 : decode cX12_some 14 = .ok (.invokevirtual 211, 3) := by decide +kernel
theorem dX12_some_17 : decode cX12_some 17 = .ok (.ifCond .eq 35, 3) := by decide +kernel
theorem dX12_some_20 : decode cX12_some 20 = .ok (.aload_n 0, 1) := by decide +kernel
theorem dX12_some_21 : decode cX12_some 21 = .ok (.dup, 1) := by decide +kernel
theorem dX12_some_22 : decode cX12_some 22 = .ok (.getfield 183, 3) := by decide +kernel
theorem dX12_some_25 : decode cX12_some 25 = .ok (.iconst 1, 1) := by decide +kernel
theorem dX12_some_26 : decode cX12_some 26 = .ok (.iadd, 1) := by decide +kernel
theorem dX12_some_27 : decode cX12_some 27 = .ok (.putfield 183, 3) := by decide +kernel
theorem dX12_some_30 : decode cX12_some 30 = .ok (.aload_n 0, 1) := by decide +kernel
theorem dX12_some_31 : decode cX12_some 31 = .ok (.iload_n 1, 1) := by decide +kernel
theorem dX12_some_32 : decode cX12_some 32 = .ok (.invokevirtual 244, 3) := by decide +kernel
theorem dX12_some_35 : decode cX12_some 35 = .ok (.istore_n 2, 1) := by decide +kernel
theorem dX12_some_36 : decode cX12_some 36 = .ok (.iload_n 2, 1) := by decide +kernel
theorem dX12_some_37 : decode cX12_some 37 = .ok (.ifCond .eq (-31), 3) := by decide +kernel
theorem dX12_some_40 : decode cX12_some 40 = .ok (.aload_n 0, 1) := by decide +kernel
theorem dX12_some_41 : decode cX12_some 41 = .ok (.bipush 124, 2) := by decide +kernel
theorem dX12_some_43 : decode cX12_some 43 = .ok (.invokestatic 226, 3) := by decide +kernel
theorem dX12_some_46 : decode cX12_some 46 = .ok (.invokevirtual 206, 3) := by decide +kernel
theorem dX12_some_49 : decode cX12_some 49 = .ok (.goto (-43), 3) := by decide +kernel
theorem dX12_some_52 : decode cX12_some 52 = .ok (.iload_n 2, 1) := by decide +kernel
theorem dX12_some_53 : decode cX12_some 53 = .ok (.ireturn, 1) := by decide +kernel
theorem dX12_all_0 : decode cX12_all 0 = .ok (.aload_n 0, 1) := by decide +kernel
theorem dX12_all_1 : decode cX12_all 1 = .ok (.iload_n 1, 1) := by decide +kernel
theorem dX12_all_2 : decode cX12_all 2 = .ok (.invokevirtual 215, 3) := by decide +kernel
theorem dX12_all_5 : decode cX12_all 5 = .ok (.istore_n 2, 1) := by decide +kernel
theorem dX12_all_6 : decode cX12_all 6 = .ok (.iload_n 2, 1) := by decide +kernel
theorem dX12_all_7 : decode cX12_all 7 = .ok (.ifCond .eq 39, 3) := by decide +kernel
theorem dX12_all_10 : decode cX12_all 10 = .ok (.aload_n 0, 1) := by decide +kernel
theorem dX12_all_11 : decode cX12_all 11 = .ok (.iload_n 1, 1) := by decide +kernel
theorem dX12_all_12 : decode cX12_all 12 = .ok (.bipush 59, 2) := by decide +kernel
theorem dX12_all_14 : decode cX12_all 14 = .ok (.invokevirtual 211, 3) := by decide +kernel
theorem dX12_all_17 : decode cX12_all 17 = .ok (.ifCond .eq 29, 3) := by decide +kernel
theorem dX12_all_20 : decode cX12_all 20 = .ok (.aload_n 0, 1) := by decide +kernel
theorem dX12_all_21 : decode cX12_all 21 = .ok (.dup, 1) := by decide +kernel
theorem dX12_all_22 : decode cX12_all 22 = .ok (.getfield 183, 3) := by decide +kernel
theorem dX12_all_25 : decode cX12_all 25 = .ok (.iconst 1, 1) := by decide +kernel
theorem dX12_all_26 : decode cX12_all 26 = .ok (.iadd, 1) := by decide +kernel
theorem dX12_all_27 : decode cX12_all 27 = .ok (.putfield 183, 3) := by decide +kernel
theorem dX12_all_30 : decode cX12_all 30 = .ok (.aload_n 0, 1) := by decide +kernel
theorem dX12_all_31 : decode cX12_all 31 = .ok (.sipush (-300), 3) := by decide +kernel
theorem dX12_all_34 : decode cX12_all 34 = .ok (.invokevirtual 206, 3) := by decide +kernel
theorem dX12_all_37 : decode cX12_all 37 = .ok (.aload_n 0, 1) := by decide +kernel
theorem dX12_all_38 : decode cX12_all 38 = .ok (.iload_n 1, 1) := by decide +kernel
theorem dX12_all_39 : decode cX12_all 39 = .ok (.invokevirtual 215, 3) := by decide +kernel
theorem dX12_all_42 : decode cX12_all 42 = .ok (.istore_n 2, 1) := by decide +kernel
theorem dX12_all_43 : decode cX12_all 43 = .ok (.goto (-37), 3) := by decide +kernel
theorem dX12_all_46 : decode cX12_all 46 = .ok (.iload_n 2, 1) := by decide +kernel
theorem dX12_all_47 : decode cX12_all 47 = .ok (.ifCond .eq 15, 3) := by decide +kernel
theorem dX12_all_50 : decode cX12_all 50 = .ok (.aload_n 0, 1) := by decide +kernel
theorem dX12_all_51 : decode cX12_all 51 = .ok (.getfield 183, 3) := by decide +kernel
theorem dX12_all_54 : decode cX12_all 54 = .ok (.iload_n 1, 1) := by decide +kernel
theorem dX12_all_55 : decode cX12_all 55 = .ok (.if_icmp .ne 7, 3) := by decide +kernel
theorem dX12_all_58 : decode cX12_all 58 = .ok (.iconst 1, 1) := by decide +kernel
theorem dX12_all_59 : decode cX12_all 59 = .ok (.goto 4, 3) := by decide +kernel
theorem dX12_all_62 : decode cX12_all 62 = .ok (.iconst 0, 1) := by decide +kernel
theorem dX12_all_63 : decode cX12_all 63 = .ok (.ireturn, 1) := by decide +kernel
theorem dX12_term_0 : decode cX12_term 0 = .ok (.aload_n 0, 1) := by decide +kernel
theorem dX12_term_1 : decode cX12_term 1 = .ok (.iconst 0, 1) := by decide +kernel
theorem dX12_term_2 : decode cX12_term 2 = .ok (.putfield 1, 3) := by decide +kernel
theorem dX12_term_5 : decode cX12_term 5 = .ok (.aload_n 0, 1) := by decide +kernel
theorem dX12_term_6 : decode cX12_term 6 = .ok (.getfield 177, 3) := by decide +kernel
theorem dX12_term_9 : decode cX12_term 9 = .ok (.istore_n 3, 1) := by decide +kernel
theorem dX12_term_10 : decode cX12_term 10 = .ok (.aload_n 0, 1) := by decide +kernel
theorem dX12_term_11 : decode cX12_term 11 = .ok (.iconst 0, 1) := by decide +kernel
theorem dX12_term_12 : decode cX12_term 12 = .ok (.putfield 177, 3) := by decide +kernel
theorem dX12_term_15 : decode cX12_term 15 = .ok (.aload_n 0, 1) := by decide +kernel
theorem dX12_term_16 : decode cX12_term 16 = .ok (.iload_n 1, 1) := by decide +kernel
theorem dX12_term_17 : decode cX12_term 17 = .ok (.invokevirtual 161, 3) := by decide +kernel
theorem dX12_term_20 : decode cX12_term 20 = .ok (.ifCond .eq 24, 3) := by decide +kernel
theorem dX12_term_23 : decode cX12_term 23 = .ok (.iload_n 2, 1) := by decide +kernel
theorem dX12_term_24 : decode cX12_term 24 = .ok (.i2l, 1) := by decide +kernel
theorem dX12_term_25 : decode cX12_term 25 = .ok (.lconst 0, 1) := by decide +kernel
theorem dX12_term_26 : decode cX12_term 26 = .ok (.ldc2_w 30, 3) := by decide +kernel
theorem dX12_term_29 : decode cX12_term 29 = .ok (.invokestatic 17, 3) := by decide +kernel
theorem dX12_term_32 : decode cX12_term 32 = .ok (.ifCond .eq 12, 3) := by decide +kernel
theorem dX12_term_35 : decode cX12_term 35 = .ok (.aload_n 0, 1) := by decide +kernel
theorem dX12_term_36 : decode cX12_term 36 = .ok (.getfield 247, 3) := by decide +kernel
theorem dX12_term_39 : decode cX12_term 39 = .ok (.bipush 30, 2) := by decide +kernel
theorem dX12_term_41 : decode cX12_term 41 = .ok (.if_icmp .ne 6, 3) := by decide +kernel
theorem dX12_term_44 : decode cX12_term 44 = .ok (.bipush (-100), 2) := by decide +kernel
theorem dX12_term_46 : decode cX12_term 46 = .ok (.ireturn, 1) := by decide +kernel
theorem dX12_term_47 : decode cX12_term 47 = .ok (.aload_n 0, 1) := by decide +kernel
theorem dX12_term_48 : decode cX12_term 48 = .ok (.aload_n 0, 1) := by decide +kernel
theorem dX12_term_49 : decode cX12_term 49 = .ok (.getfield 247, 3) := by decide +kernel
theorem dX12_term_52 : decode cX12_term 52 = .ok (.putfield 194, 3) := by decide +kernel
theorem dX12_term_55 : decode cX12_term 55 = .ok (.aload_n 0, 1) := by decide +kernel
theorem dX12_term_56 : decode cX12_term 56 = .ok (.getfield 197, 3) := by decide +kernel
theorem dX12_term_59 : decode cX12_term 59 = .ok (.aload_n 0, 1) := by decide +kernel
theorem dX12_term_60 : decode cX12_term 60 = .ok (.getfield 194, 3) := by decide +kernel
theorem dX12_term_63 : decode cX12_term 63 = .ok (.iconst 0, 1) := by decide +kernel
theorem dX12_term_64 : decode cX12_term 64 = .ok (.iastore, 1) := by decide +kernel
theorem dX12_term_65 : decode cX12_term 65 = .ok (.aload_n 0, 1) := by decide +kernel
theorem dX12_term_66 : decode cX12_term 66 = .ok (.iconst 0, 1) := by decide +kernel
theorem dX12_term_67 : decode cX12_term 67 = .ok (.putfield 183, 3) := by decide +kernel
theorem dX12_term_70 : decode cX12_term 70 = .ok (.aload_n 0, 1) := by decide +kernel
theorem dX12_term_71 : decode cX12_term 71 = .ok (.iload_n 3, 1) := by decide +kernel
theorem dX12_term_72 : decode cX12_term 72 = .ok (.bipush 60, 2) := by decide +kernel
theorem dX12_term_74 : decode cX12_term 74 = .ok (.invokestatic 95, 3) := by decide +kernel
theorem dX12_term_77 : decode cX12_term 77 = .ok (.invokevirtual 250, 3) := by decide +kernel
theorem dX12_term_80 : decode cX12_term 80 = .ok (.istore 4, 2) := by decide +kernel
theorem dX12_term_82 : decode cX12_term 82 = .ok (.iload_n 3, 1) := by decide +kernel
theorem dX12_term_83 : decode cX12_term 83 = .ok (.bipush 60, 2) := by decide +kernel
theorem dX12_term_85 : decode cX12_term 85 = .ok (.if_icmp .le 20, 3) := by decide +kernel
theorem dX12_term_88 : decode cX12_term 88 = .ok (.iload 4, 2) := by decide +kernel
theorem dX12_term_90 : decode cX12_term 90 = .ok (.ifCond .ne 12, 3) := by decide +kernel
theorem dX12_term_93 : decode cX12_term 93 = .ok (.aload_n 0, 1) := by decide +kernel
theorem dX12_term_94 : decode cX12_term 94 = .ok (.getfield 183, 3) := by decide +kernel
theorem dX12_term_97 : decode cX12_term 97 = .ok (.bipush 60, 2) := by decide +kernel
theorem dX12_term_99 : decode cX12_term 99 = .ok (.if_icmp .lt 6, 3) := by decide +kernel
theorem dX12_term_102 : decode cX12_term 102 = .ok (.bipush (-61), 2) := by decide +kernel
theorem dX12_term_104 : decode cX12_term 104 = .ok (.ireturn, 1) := by decide +kernel
theorem dX12_term_105 : decode cX12_term 105 = .ok (.iload 4, 2) := by decide +kernel
theorem dX12_term_107 : decode cX12_term 107 = .ok (.ifCond .ne 10, 3) := by decide +kernel
theorem dX12_term_110 : decode cX12_term 110 = .ok (.iconst (-1), 1) := by decide +kernel
theorem dX12_term_111 : decode cX12_term 111 = .ok (.aload_n 0, 1) := by decide +kernel
theorem dX12_term_112 : decode cX12_term 112 = .ok (.getfield 183, 3) := by decide +kernel
theorem dX12_term_115 : decode cX12_term 115 = .ok (.isub, 1) := by decide +kernel
theorem dX12_term_116 : decode cX12_term 116 = .ok (.ireturn, 1) := by decide +kernel
theorem dX12_term_117 : decode cX12_term 117 = .ok (.aload_n 0, 1) := by decide +kernel
theorem dX12_term_118 : decode cX12_term 118 = .ok (.getfield 253, 3) := by decide +kernel
theorem dX12_term_121 : decode cX12_term 121 = .ok (.aload_n 0, 1) := by decide +kernel
theorem dX12_term_122 : decode cX12_term 122 = .ok (.getfield 247, 3) := by decide +kernel
theorem dX12_term_125 : decode cX12_term 125 = .ok (.iload_n 1, 1) := by decide +kernel
theorem dX12_term_126 : decode cX12_term 126 = .ok (.iastore, 1) := by decide +kernel
theorem dX12_term_127 : decode cX12_term 127 = .ok (.aload_n 0, 1) := by decide +kernel
theorem dX12_term_128 : decode cX12_term 128 = .ok (.getfield 256, 3) := by decide +kernel
theorem dX12_term_131 : decode cX12_term 131 = .ok (.aload_n 0, 1) := by decide +kernel
theorem dX12_term_132 : decode cX12_term 132 = .ok (.getfield 247, 3) := by decide +kernel
theorem dX12_term_135 : decode cX12_term 135 = .ok (.iload_n 2, 1) := by decide +kernel
theorem dX12_term_136 : decode cX12_term 136 = .ok (.iastore, 1) := by decide +kernel
theorem dX12_term_137 : decode cX12_term 137 = .ok (.aload_n 0, 1) := by decide +kernel
theorem dX12_term_138 : decode cX12_term 138 = .ok (.dup, 1) := by decide +kernel
theorem dX12_term_139 : decode cX12_term 139 = .ok (.getfield 247, 3) := by decide +kernel
theorem dX12_term_142 : decode cX12_term 142 = .ok (.iconst 1, 1) := by decide +kernel
theorem dX12_term_143 : decode cX12_term 143 = .ok (.iadd, 1) := by decide +kernel
theorem dX12_term_144 : decode cX12_term 144 = .ok (.putfield 247, 3) := by decide +kernel
theorem dX12_term_147 : decode cX12_term 147 = .ok (.aload_n 0, 1) := by decide +kernel
theorem dX12_term_148 : decode cX12_term 148 = .ok (.getfield 247, 3) := by decide +kernel
theorem dX12_term_151 : decode cX12_term 151 = .ok (.iconst 1, 1) := by decide +kernel
theorem dX12_term_152 : decode cX12_term 152 = .ok (.isub, 1) := by decide +kernel
theorem dX12_term_153 : decode cX12_term 153 = .ok (.ireturn, 1) := by decide +kernel
theorem dX12_inForce_0 : decode cX12_inForce 0 = .ok (.iconst (-1), 1) := by decide +kernel
theorem dX12_inForce_1 : decode cX12_inForce 1 = .ok (.istore_n 2, 1) := by decide +kernel
theorem dX12_inForce_2 : decode cX12_inForce 2 = .ok (.iconst 0, 1) := by decide +kernel
theorem dX12_inForce_3 : decode cX12_inForce 3 = .ok (.istore_n 3, 1) := by decide +kernel
theorem dX12_inForce_4 : decode cX12_inForce 4 = .ok (.iload_n 3, 1) := by decide +kernel
theorem dX12_inForce_5 : decode cX12_inForce 5 = .ok (.aload_n 0, 1) := by decide +kernel
theorem dX12_inForce_6 : decode cX12_inForce 6 = .ok (.getfield 247, 3) := by decide +kernel
theorem dX12_inForce_9 : decode cX12_inForce 9 = .ok (.if_icmp .ge 53, 3) := by decide +kernel
theorem dX12_inForce_12 : decode cX12_inForce 12 = .ok (.aload_n 0, 1) := by decide +kernel
theorem dX12_inForce_13 : decode cX12_inForce 13 = .ok (.getfield 253, 3) := by decide +kernel
theorem dX12_inForce_16 : decode cX12_inForce 16 = .ok (.iload_n 3, 1) := by decide +kernel
theorem dX12_inForce_17 : decode cX12_inForce 17 = .ok (.iaload, 1) := by decide +kernel
theorem dX12_inForce_18 : decode cX12_inForce 18 = .ok (.iload_n 1, 1) := by decide +kernel
theorem dX12_inForce_19 : decode cX12_inForce 19 = .ok (.if_icmp .ne 37, 3) := by decide +kernel
theorem dX12_inForce_22 : decode cX12_inForce 22 = .ok (.aload_n 0, 1) := by decide +kernel
theorem dX12_inForce_23 : decode cX12_inForce 23 = .ok (.getfield 256, 3) := by decide +kernel
theorem dX12_inForce_26 : decode cX12_inForce 26 = .ok (.iload_n 3, 1) := by decide +kernel
theorem dX12_inForce_27 : decode cX12_inForce 27 = .ok (.iaload, 1) := by decide +kernel
theorem dX12_inForce_28 : decode cX12_inForce 28 = .ok (.aload_n 0, 1) := by decide +kernel
theorem dX12_inForce_29 : decode cX12_inForce 29 = .ok (.getfield 259, 3) := by decide +kernel
theorem dX12_inForce_32 : decode cX12_inForce 32 = .ok (.if_icmp .gt 24, 3) := by decide +kernel
theorem dX12_inForce_35 : decode cX12_inForce 35 = .ok (.iload_n 2, 1) := by decide +kernel
theorem dX12_inForce_36 : decode cX12_inForce 36 = .ok (.ifCond .lt 18, 3) := by decide +kernel
theorem dX12_inForce_39 : decode cX12_inForce 39 = .ok (.aload_n 0, 1) := by decide +kernel
theorem dX12_inForce_40 : decode cX12_inForce 40 = .ok (.getfield 256, 3) := by decide +kernel
theorem dX12_inForce_43 : decode cX12_inForce 43 = .ok (.iload_n 3, 1) := by decide +kernel
theorem dX12_inForce_44 : decode cX12_inForce 44 = .ok (.iaload, 1) := by decide +kernel
theorem dX12_inForce_45 : decode cX12_inForce 45 = .ok (.aload_n 0, 1) := by decide +kernel
theorem dX12_inForce_46 : decode cX12_inForce 46 = .ok (.getfield 256, 3) := by decide +kernel
theorem dX12_inForce_49 : decode cX12_inForce 49 = .ok (.iload_n 2, 1) := by decide +kernel
theorem dX12_inForce_50 : decode cX12_inForce 50 = .ok (.iaload, 1) := by decide +kernel
theorem dX12_inForce_51 : decode cX12_inForce 51 = .ok (.if_icmp .lt 5, 3) := by decide +kernel
theorem dX12_inForce_54 : decode cX12_inForce 54 = .ok (.iload_n 3, 1) := by decide +kernel
theorem dX12_inForce_55 : decode cX12_inForce 55 = .ok (.istore_n 2, 1) := by decide +kernel
theorem dX12_inForce_56 : decode cX12_inForce 56 = .ok (.iinc 3 1, 3) := by decide +kernel
theorem dX12_inForce_59 : decode cX12_inForce 59 = .ok (.goto (-55), 3) := by decide +kernel
theorem dX12_inForce_62 : decode cX12_inForce 62 = .ok (.iload_n 2, 1) := by decide +kernel
theorem dX12_inForce_63 : decode cX12_inForce 63 = .ok (.ireturn, 1) := by decide +kernel
theorem dX12_force_0 : decode cX12_force 0 = .ok (.aload_n 0, 1) := by decide +kernel
theorem dX12_force_1 : decode cX12_force 1 = .ok (.iconst 0, 1) := by decide +kernel
theorem dX12_force_2 : decode cX12_force 2 = .ok (.putfield 1, 3) := by decide +kernel
theorem dX12_force_5 : decode cX12_force 5 = .ok (.aload_n 0, 1) := by decide +kernel
theorem dX12_force_6 : decode cX12_force 6 = .ok (.iload_n 1, 1) := by decide +kernel
theorem dX12_force_7 : decode cX12_force 7 = .ok (.invokevirtual 161, 3) := by decide +kernel
theorem dX12_force_10 : decode cX12_force 10 = .ok (.ifCond .eq 11, 3) := by decide +kernel
theorem dX12_force_13 : decode cX12_force 13 = .ok (.aload_n 0, 1) := by decide +kernel
theorem dX12_force_14 : decode cX12_force 14 = .ok (.iload_n 1, 1) := by decide +kernel
theorem dX12_force_15 : decode cX12_force 15 = .ok (.invokevirtual 262, 3) := by decide +kernel
theorem dX12_force_18 : decode cX12_force 18 = .ok (.goto 4, 3) := by decide +kernel
theorem dX12_force_21 : decode cX12_force 21 = .ok (.iconst (-1), 1) := by decide +kernel
theorem dX12_force_22 : decode cX12_force 22 = .ok (.ireturn, 1) := by decide +kernel
theorem dX12_doorsTo_0 : decode cX12_doorsTo 0 = .ok (.iconst 0, 1) := by decide +kernel
theorem dX12_doorsTo_1 : decode cX12_doorsTo 1 = .ok (.istore_n 2, 1) := by decide +kernel
theorem dX12_doorsTo_2 : decode cX12_doorsTo 2 = .ok (.iload_n 2, 1) := by decide +kernel
theorem dX12_doorsTo_3 : decode cX12_doorsTo 3 = .ok (.aload_n 0, 1) := by decide +kernel
theorem dX12_doorsTo_4 : decode cX12_doorsTo 4 = .ok (.getfield 14, 3) := by decide +kernel
theorem dX12_doorsTo_7 : decode cX12_doorsTo 7 = .ok (.if_icmp .ge 25, 3) := by decide +kernel
theorem dX12_doorsTo_10 : decode cX12_doorsTo 10 = .ok (.aload_n 0, 1) := by decide +kernel
theorem dX12_doorsTo_11 : decode cX12_doorsTo 11 = .ok (.getfield 265, 3) := by decide +kernel
theorem dX12_doorsTo_14 : decode cX12_doorsTo 14 = .ok (.iload_n 2, 1) := by decide +kernel
theorem dX12_doorsTo_15 : decode cX12_doorsTo 15 = .ok (.iload_n 2, 1) := by decide +kernel
theorem dX12_doorsTo_16 : decode cX12_doorsTo 16 = .ok (.ifCond .ne 7, 3) := by decide +kernel
theorem dX12_doorsTo_19 : decode cX12_doorsTo 19 = .ok (.iconst 0, 1) := by decide +kernel
theorem dX12_doorsTo_20 : decode cX12_doorsTo 20 = .ok (.goto 5, 3) := by decide +kernel
theorem dX12_doorsTo_23 : decode cX12_doorsTo 23 = .ok (.bipush 99, 2) := by decide +kernel
theorem dX12_doorsTo_25 : decode cX12_doorsTo 25 = .ok (.iastore, 1) := by decide +kernel
theorem dX12_doorsTo_26 : decode cX12_doorsTo 26 = .ok (.iinc 2 1, 3) := by decide +kernel
theorem dX12_doorsTo_29 : decode cX12_doorsTo 29 = .ok (.goto (-27), 3) := by decide +kernel
theorem dX12_doorsTo_32 : decode cX12_doorsTo 32 = .ok (.iconst 0, 1) := by decide +kernel
theorem dX12_doorsTo_33 : decode cX12_doorsTo 33 = .ok (.istore_n 2, 1) := by decide +kernel
theorem dX12_doorsTo_34 : decode cX12_doorsTo 34 = .ok (.iload_n 2, 1) := by decide +kernel
theorem dX12_doorsTo_35 : decode cX12_doorsTo 35 = .ok (.aload_n 0, 1) := by decide +kernel
theorem dX12_doorsTo_36 : decode cX12_doorsTo 36 = .ok (.getfield 14, 3) := by decide +kernel
theorem dX12_doorsTo_39 : decode cX12_doorsTo 39 = .ok (.if_icmp .ge 101, 3) := by decide +kernel
theorem dX12_doorsTo_42 : decode cX12_doorsTo 42 = .ok (.iconst 0, 1) := by decide +kernel
theorem dX12_doorsTo_43 : decode cX12_doorsTo 43 = .ok (.istore_n 3, 1) := by decide +kernel
theorem dX12_doorsTo_44 : decode cX12_doorsTo 44 = .ok (.iload_n 3, 1) := by decide +kernel
theorem dX12_doorsTo_45 : decode cX12_doorsTo 45 = .ok (.aload_n 0, 1) := by decide +kernel
theorem dX12_doorsTo_46 : decode cX12_doorsTo 46 = .ok (.getfield 36, 3) := by decide +kernel
theorem dX12_doorsTo_49 : decode cX12_doorsTo 49 = .ok (.if_icmp .ge 85, 3) := by decide +kernel
theorem dX12_doorsTo_52 : decode cX12_doorsTo 52 = .ok (.aload_n 0, 1) := by decide +kernel
theorem dX12_doorsTo_53 : decode cX12_doorsTo 53 = .ok (.getfield 265, 3) := by decide +kernel
theorem dX12_doorsTo_56 : decode cX12_doorsTo 56 = .ok (.aload_n 0, 1) := by decide +kernel
theorem dX12_doorsTo_57 : decode cX12_doorsTo 57 = .ok (.getfield 39, 3) := by decide +kernel
theorem dX12_doorsTo_60 : decode cX12_doorsTo 60 = .ok (.iload_n 3, 1) := by decide +kernel
theorem dX12_doorsTo_61 : decode cX12_doorsTo 61 = .ok (.iaload, 1) := by decide +kernel
theorem dX12_doorsTo_62 : decode cX12_doorsTo 62 = .ok (.aload_n 0, 1) := by decide +kernel
theorem dX12_doorsTo_63 : decode cX12_doorsTo 63 = .ok (.getfield 265, 3) := by decide +kernel
theorem dX12_doorsTo_66 : decode cX12_doorsTo 66 = .ok (.aload_n 0, 1) := by decide +kernel
theorem dX12_doorsTo_67 : decode cX12_doorsTo 67 = .ok (.getfield 39, 3) := by decide +kernel
theorem dX12_doorsTo_70 : decode cX12_doorsTo 70 = .ok (.iload_n 3, 1) := by decide +kernel
theorem dX12_doorsTo_71 : decode cX12_doorsTo 71 = .ok (.iaload, 1) := by decide +kernel
theorem dX12_doorsTo_72 : decode cX12_doorsTo 72 = .ok (.iaload, 1) := by decide +kernel
theorem dX12_doorsTo_73 : decode cX12_doorsTo 73 = .ok (.aload_n 0, 1) := by decide +kernel
theorem dX12_doorsTo_74 : decode cX12_doorsTo 74 = .ok (.getfield 265, 3) := by decide +kernel
theorem dX12_doorsTo_77 : decode cX12_doorsTo 77 = .ok (.aload_n 0, 1) := by decide +kernel
theorem dX12_doorsTo_78 : decode cX12_doorsTo 78 = .ok (.getfield 42, 3) := by decide +kernel
theorem dX12_doorsTo_81 : decode cX12_doorsTo 81 = .ok (.iload_n 3, 1) := by decide +kernel
theorem dX12_doorsTo_82 : decode cX12_doorsTo 82 = .ok (.iaload, 1) := by decide +kernel
theorem dX12_doorsTo_83 : decode cX12_doorsTo 83 = .ok (.iaload, 1) := by decide +kernel
theorem dX12_doorsTo_84 : decode cX12_doorsTo 84 = .ok (.iconst 1, 1) := by decide +kernel
theorem dX12_doorsTo_85 : decode cX12_doorsTo 85 = .ok (.iadd, 1) := by decide +kernel
theorem dX12_doorsTo_86 : decode cX12_doorsTo 86 = .ok (.invokestatic 95, 3) := by decide +kernel
theorem dX12_doorsTo_89 : decode cX12_doorsTo 89 = .ok (.iastore, 1) := by decide +kernel
theorem dX12_doorsTo_90 : decode cX12_doorsTo 90 = .ok (.aload_n 0, 1) := by decide +kernel
theorem dX12_doorsTo_91 : decode cX12_doorsTo 91 = .ok (.getfield 265, 3) := by decide +kernel
theorem dX12_doorsTo_94 : decode cX12_doorsTo 94 = .ok (.aload_n 0, 1) := by decide +kernel
theorem dX12_doorsTo_95 : decode cX12_doorsTo 95 = .ok (.getfield 42, 3) := by decide +kernel
theorem dX12_doorsTo_98 : decode cX12_doorsTo 98 = .ok (.iload_n 3, 1) := by decide +kernel
theorem dX12_doorsTo_99 : decode cX12_doorsTo 99 = .ok (.iaload, 1) := by decide +kernel
theorem dX12_doorsTo_100 : decode cX12_doorsTo 100 = .ok (.aload_n 0, 1) := by decide +kernel
theorem dX12_doorsTo_101 : decode cX12_doorsTo 101 = .ok (.getfield 265, 3) := by decide +kernel
theorem dX12_doorsTo_104 : decode cX12_doorsTo 104 = .ok (.aload_n 0, 1) := by decide +kernel
theorem dX12_doorsTo_105 : decode cX12_doorsTo 105 = .ok (.getfield 42, 3) := by decide +kernel
theorem dX12_doorsTo_108 : decode cX12_doorsTo 108 = .ok (.iload_n 3, 1) := by decide +kernel
theorem dX12_doorsTo_109 : decode cX12_doorsTo 109 = .ok (.iaload, 1) := by decide +kernel
theorem dX12_doorsTo_110 : decode cX12_doorsTo 110 = .ok (.iaload, 1) := by decide +kernel
theorem dX12_doorsTo_111 : decode cX12_doorsTo 111 = .ok (.aload_n 0, 1) := by decide +kernel
theorem dX12_doorsTo_112 : decode cX12_doorsTo 112 = .ok (.getfield 265, 3) := by decide +kernel
theorem dX12_doorsTo_115 : decode cX12_doorsTo 115 = .ok (.aload_n 0, 1) := by decide +kernel
theorem dX12_doorsTo_116 : decode cX12_doorsTo 116 = .ok (.getfield 39, 3) := by decide +kernel
theorem dX12_doorsTo_119 : decode cX12_doorsTo 119 = .ok (.iload_n 3, 1) := by decide +kernel
theorem dX12_doorsTo_120 : decode cX12_doorsTo 120 = .ok (.iaload, 1) := by decide +kernel
theorem dX12_doorsTo_121 : decode cX12_doorsTo 121 = .ok (.iaload, 1) := by decide +kernel
theorem dX12_doorsTo_122 : decode cX12_doorsTo 122 = .ok (.iconst 1, 1) := by decide +kernel
theorem dX12_doorsTo_123 : decode cX12_doorsTo 123 = .ok (.iadd, 1) := by decide +kernel
theorem dX12_doorsTo_124 : decode cX12_doorsTo 124 = .ok (.invokestatic 95, 3) := by decide +kernel
theorem dX12_doorsTo_127 : decode cX12_doorsTo 127 = .ok (.iastore, 1) := by decide +kernel
theorem dX12_doorsTo_128 : decode cX12_doorsTo 128 = .ok (.iinc 3 1, 3) := by decide +kernel
theorem dX12_doorsTo_131 : decode cX12_doorsTo 131 = .ok (.goto (-87), 3) := by decide +kernel
theorem dX12_doorsTo_134 : decode cX12_doorsTo 134 = .ok (.iinc 2 1, 3) := by decide +kernel
theorem dX12_doorsTo_137 : decode cX12_doorsTo 137 = .ok (.goto (-103), 3) := by decide +kernel
theorem dX12_doorsTo_140 : decode cX12_doorsTo 140 = .ok (.bipush 99, 2) := by decide +kernel
theorem dX12_doorsTo_142 : decode cX12_doorsTo 142 = .ok (.aload_n 0, 1) := by decide +kernel
theorem dX12_doorsTo_143 : decode cX12_doorsTo 143 = .ok (.getfield 265, 3) := by decide +kernel
theorem dX12_doorsTo_146 : decode cX12_doorsTo 146 = .ok (.iload_n 1, 1) := by decide +kernel
theorem dX12_doorsTo_147 : decode cX12_doorsTo 147 = .ok (.iaload, 1) := by decide +kernel
theorem dX12_doorsTo_148 : decode cX12_doorsTo 148 = .ok (.invokestatic 95, 3) := by decide +kernel
theorem dX12_doorsTo_151 : decode cX12_doorsTo 151 = .ok (.ireturn, 1) := by decide +kernel
theorem dX12_acted_0 : decode cX12_acted 0 = .ok (.iload_n 0, 1) := by decide +kernel
theorem dX12_acted_1 : decode cX12_acted 1 = .ok (.tableswitch 214 37 62 #[135, 197, 214, 214, 214, 119, 147, 214, 151, 214, 123, 214, 214, 214, 214, 214, 214, 214, 214, 214, 214, 214, 214, 155, 183, 169], 119) := by decide +kernel
theorem dX12_acted_120 : decode cX12_acted 120 = .ok (.iload_n 1, 1) := by decide +kernel
theorem dX12_acted_121 : decode cX12_acted 121 = .ok (.iload_n 2, 1) := by decide +kernel
theorem dX12_acted_122 : decode cX12_acted 122 = .ok (.imul, 1) := by decide +kernel
theorem dX12_acted_123 : decode cX12_acted 123 = .ok (.ireturn, 1) := by decide +kernel
theorem dX12_acted_124 : decode cX12_acted 124 = .ok (.iload_n 2, 1) := by decide +kernel
theorem dX12_acted_125 : decode cX12_acted 125 = .ok (.ifCond .ne 7, 3) := by decide +kernel
theorem dX12_acted_128 : decode cX12_acted 128 = .ok (.iconst 0, 1) := by decide +kernel
theorem dX12_acted_129 : decode cX12_acted 129 = .ok (.goto 6, 3) := by decide +kernel
theorem dX12_acted_132 : decode cX12_acted 132 = .ok (.iload_n 1, 1) := by decide +kernel
theorem dX12_acted_133 : decode cX12_acted 133 = .ok (.iload_n 2, 1) := by decide +kernel
theorem dX12_acted_134 : decode cX12_acted 134 = .ok (.idiv, 1) := by decide +kernel
theorem dX12_acted_135 : decode cX12_acted 135 = .ok (.ireturn, 1) := by decide +kernel
theorem dX12_acted_136 : decode cX12_acted 136 = .ok (.iload_n 2, 1) := by decide +kernel
theorem dX12_acted_137 : decode cX12_acted 137 = .ok (.ifCond .ne 7, 3) := by decide +kernel
theorem dX12_acted_140 : decode cX12_acted 140 = .ok (.iconst 0, 1) := by decide +kernel
theorem dX12_acted_141 : decode cX12_acted 141 = .ok (.goto 6, 3) := by decide +kernel
theorem dX12_acted_144 : decode cX12_acted 144 = .ok (.iload_n 1, 1) := by decide +kernel
theorem dX12_acted_145 : decode cX12_acted 145 = .ok (.iload_n 2, 1) := by decide +kernel
theorem dX12_acted_146 : decode cX12_acted 146 = .ok (.irem, 1) := by decide +kernel
theorem dX12_acted_147 : decode cX12_acted 147 = .ok (.ireturn, 1) := by decide +kernel
theorem dX12_acted_148 : decode cX12_acted 148 = .ok (.iload_n 1, 1) := by decide +kernel
theorem dX12_acted_149 : decode cX12_acted 149 = .ok (.iload_n 2, 1) := by decide +kernel
theorem dX12_acted_150 : decode cX12_acted 150 = .ok (.iadd, 1) := by decide +kernel
theorem dX12_acted_151 : decode cX12_acted 151 = .ok (.ireturn, 1) := by decide +kernel
theorem dX12_acted_152 : decode cX12_acted 152 = .ok (.iload_n 1, 1) := by decide +kernel
theorem dX12_acted_153 : decode cX12_acted 153 = .ok (.iload_n 2, 1) := by decide +kernel
theorem dX12_acted_154 : decode cX12_acted 154 = .ok (.isub, 1) := by decide +kernel
theorem dX12_acted_155 : decode cX12_acted 155 = .ok (.ireturn, 1) := by decide +kernel
theorem dX12_acted_156 : decode cX12_acted 156 = .ok (.iload_n 1, 1) := by decide +kernel
theorem dX12_acted_157 : decode cX12_acted 157 = .ok (.iload_n 2, 1) := by decide +kernel
theorem dX12_acted_158 : decode cX12_acted 158 = .ok (.if_icmp .ge 7, 3) := by decide +kernel
theorem dX12_acted_161 : decode cX12_acted 161 = .ok (.iconst 1, 1) := by decide +kernel
theorem dX12_acted_162 : decode cX12_acted 162 = .ok (.goto 4, 3) := by decide +kernel
theorem dX12_acted_165 : decode cX12_acted 165 = .ok (.iconst 0, 1) := by decide +kernel
theorem dX12_acted_166 : decode cX12_acted 166 = .ok (.invokestatic 268, 3) := by decide +kernel
theorem dX12_acted_169 : decode cX12_acted 169 = .ok (.ireturn, 1) := by decide +kernel
theorem dX12_acted_170 : decode cX12_acted 170 = .ok (.iload_n 1, 1) := by decide +kernel
theorem dX12_acted_171 : decode cX12_acted 171 = .ok (.iload_n 2, 1) := by decide +kernel
theorem dX12_acted_172 : decode cX12_acted 172 = .ok (.if_icmp .le 7, 3) := by decide +kernel
theorem dX12_acted_175 : decode cX12_acted 175 = .ok (.iconst 1, 1) := by decide +kernel
theorem dX12_acted_176 : decode cX12_acted 176 = .ok (.goto 4, 3) := by decide +kernel
theorem dX12_acted_179 : decode cX12_acted 179 = .ok (.iconst 0, 1) := by decide +kernel
theorem dX12_acted_180 : decode cX12_acted 180 = .ok (.invokestatic 268, 3) := by decide +kernel
theorem dX12_acted_183 : decode cX12_acted 183 = .ok (.ireturn, 1) := by decide +kernel
theorem dX12_acted_184 : decode cX12_acted 184 = .ok (.iload_n 1, 1) := by decide +kernel
theorem dX12_acted_185 : decode cX12_acted 185 = .ok (.iload_n 2, 1) := by decide +kernel
theorem dX12_acted_186 : decode cX12_acted 186 = .ok (.if_icmp .ne 7, 3) := by decide +kernel
theorem dX12_acted_189 : decode cX12_acted 189 = .ok (.iconst 1, 1) := by decide +kernel
theorem dX12_acted_190 : decode cX12_acted 190 = .ok (.goto 4, 3) := by decide +kernel
theorem dX12_acted_193 : decode cX12_acted 193 = .ok (.iconst 0, 1) := by decide +kernel
theorem dX12_acted_194 : decode cX12_acted 194 = .ok (.invokestatic 268, 3) := by decide +kernel
theorem dX12_acted_197 : decode cX12_acted 197 = .ok (.ireturn, 1) := by decide +kernel
theorem dX12_acted_198 : decode cX12_acted 198 = .ok (.iload_n 1, 1) := by decide +kernel
theorem dX12_acted_199 : decode cX12_acted 199 = .ok (.ifCond .eq 11, 3) := by decide +kernel
theorem dX12_acted_202 : decode cX12_acted 202 = .ok (.iload_n 2, 1) := by decide +kernel
theorem dX12_acted_203 : decode cX12_acted 203 = .ok (.ifCond .eq 7, 3) := by decide +kernel
theorem dX12_acted_206 : decode cX12_acted 206 = .ok (.iconst 1, 1) := by decide +kernel
theorem dX12_acted_207 : decode cX12_acted 207 = .ok (.goto 4, 3) := by decide +kernel
theorem dX12_acted_210 : decode cX12_acted 210 = .ok (.iconst 0, 1) := by decide +kernel
theorem dX12_acted_211 : decode cX12_acted 211 = .ok (.invokestatic 268, 3) := by decide +kernel
theorem dX12_acted_214 : decode cX12_acted 214 = .ok (.ireturn, 1) := by decide +kernel
theorem dX12_acted_215 : decode cX12_acted 215 = .ok (.iload_n 1, 1) := by decide +kernel
theorem dX12_acted_216 : decode cX12_acted 216 = .ok (.ifCond .ne 7, 3) := by decide +kernel
theorem dX12_acted_219 : decode cX12_acted 219 = .ok (.iload_n 2, 1) := by decide +kernel
theorem dX12_acted_220 : decode cX12_acted 220 = .ok (.ifCond .eq 7, 3) := by decide +kernel
theorem dX12_acted_223 : decode cX12_acted 223 = .ok (.iconst 1, 1) := by decide +kernel
theorem dX12_acted_224 : decode cX12_acted 224 = .ok (.goto 4, 3) := by decide +kernel
theorem dX12_acted_227 : decode cX12_acted 227 = .ok (.iconst 0, 1) := by decide +kernel
theorem dX12_acted_228 : decode cX12_acted 228 = .ok (.invokestatic 268, 3) := by decide +kernel
theorem dX12_acted_231 : decode cX12_acted 231 = .ok (.ireturn, 1) := by decide +kernel
theorem dX12_worked_0 : decode cX12_worked 0 = .ok (.iconst 0, 1) := by decide +kernel
theorem dX12_worked_1 : decode cX12_worked 1 = .ok (.istore_n 3, 1) := by decide +kernel
theorem dX12_worked_2 : decode cX12_worked 2 = .ok (.iload_n 1, 1) := by decide +kernel
theorem dX12_worked_3 : decode cX12_worked 3 = .ok (.istore 4, 2) := by decide +kernel
theorem dX12_worked_5 : decode cX12_worked 5 = .ok (.iload 4, 2) := by decide +kernel
theorem dX12_worked_7 : decode cX12_worked 7 = .ok (.iload_n 2, 1) := by decide +kernel
theorem dX12_worked_8 : decode cX12_worked 8 = .ok (.if_icmp .ge 182, 3) := by decide +kernel
theorem dX12_worked_11 : decode cX12_worked 11 = .ok (.aload_n 0, 1) := by decide +kernel
theorem dX12_worked_12 : decode cX12_worked 12 = .ok (.getfield 191, 3) := by decide +kernel
theorem dX12_worked_15 : decode cX12_worked 15 = .ok (.iload 4, 2) := by decide +kernel
theorem dX12_worked_17 : decode cX12_worked 17 = .ok (.iaload, 1) := by decide +kernel
theorem dX12_worked_18 : decode cX12_worked 18 = .ok (.sipush (-300), 3) := by decide +kernel
theorem dX12_worked_21 : decode cX12_worked 21 = .ok (.if_icmp .eq 169, 3) := by decide +kernel
theorem dX12_worked_24 : decode cX12_worked 24 = .ok (.aload_n 0, 1) := by decide +kernel
theorem dX12_worked_25 : decode cX12_worked 25 = .ok (.getfield 191, 3) := by decide +kernel
theorem dX12_worked_28 : decode cX12_worked 28 = .ok (.iload 4, 2) := by decide +kernel
theorem dX12_worked_30 : decode cX12_worked 30 = .ok (.iaload, 1) := by decide +kernel
theorem dX12_worked_31 : decode cX12_worked 31 = .ok (.istore 5, 2) := by decide +kernel
theorem dX12_worked_33 : decode cX12_worked 33 = .ok (.iload 5, 2) := by decide +kernel
theorem dX12_worked_35 : decode cX12_worked 35 = .ok (.ifCond .lt 17, 3) := by decide +kernel
theorem dX12_worked_38 : decode cX12_worked 38 = .ok (.aload_n 0, 1) := by decide +kernel
theorem dX12_worked_39 : decode cX12_worked 39 = .ok (.getfield 272, 3) := by decide +kernel
theorem dX12_worked_42 : decode cX12_worked 42 = .ok (.iload_n 3, 1) := by decide +kernel
theorem dX12_worked_43 : decode cX12_worked 43 = .ok (.iload 5, 2) := by decide +kernel
theorem dX12_worked_45 : decode cX12_worked 45 = .ok (.iastore, 1) := by decide +kernel
theorem dX12_worked_46 : decode cX12_worked 46 = .ok (.iinc 3 1, 3) := by decide +kernel
theorem dX12_worked_49 : decode cX12_worked 49 = .ok (.goto 135, 3) := by decide +kernel
theorem dX12_worked_52 : decode cX12_worked 52 = .ok (.iload 5, 2) := by decide +kernel
theorem dX12_worked_54 : decode cX12_worked 54 = .ok (.bipush (-12), 2) := by decide +kernel
theorem dX12_worked_56 : decode cX12_worked 56 = .ok (.if_icmp .lt 24, 3) := by decide +kernel
theorem dX12_worked_59 : decode cX12_worked 59 = .ok (.aload_n 0, 1) := by decide +kernel
theorem dX12_worked_60 : decode cX12_worked 60 = .ok (.getfield 272, 3) := by decide +kernel
theorem dX12_worked_63 : decode cX12_worked 63 = .ok (.iload_n 3, 1) := by decide +kernel
theorem dX12_worked_64 : decode cX12_worked 64 = .ok (.aload_n 0, 1) := by decide +kernel
theorem dX12_worked_65 : decode cX12_worked 65 = .ok (.getfield 275, 3) := by decide +kernel
theorem dX12_worked_68 : decode cX12_worked 68 = .ok (.iconst (-1), 1) := by decide +kernel
theorem dX12_worked_69 : decode cX12_worked 69 = .ok (.iload 5, 2) := by decide +kernel
theorem dX12_worked_71 : decode cX12_worked 71 = .ok (.isub, 1) := by decide +kernel
theorem dX12_worked_72 : decode cX12_worked 72 = .ok (.iaload, 1) := by decide +kernel
theorem dX12_worked_73 : decode cX12_worked 73 = .ok (.iastore, 1) := by decide +kernel
theorem dX12_worked_74 : decode cX12_worked 74 = .ok (.iinc 3 1, 3) := by decide +kernel
theorem dX12_worked_77 : decode cX12_worked 77 = .ok (.goto 107, 3) := by decide +kernel
theorem dX12_worked_80 : decode cX12_worked 80 = .ok (.iload 5, 2) := by decide +kernel
theorem dX12_worked_82 : decode cX12_worked 82 = .ok (.bipush 33, 2) := by decide +kernel
theorem dX12_worked_84 : decode cX12_worked 84 = .ok (.invokestatic 226, 3) := by decide +kernel
theorem dX12_worked_87 : decode cX12_worked 87 = .ok (.if_icmp .ne 33, 3) := by decide +kernel
theorem dX12_worked_90 : decode cX12_worked 90 = .ok (.aload_n 0, 1) := by decide +kernel
theorem dX12_worked_91 : decode cX12_worked 91 = .ok (.getfield 272, 3) := by decide +kernel
theorem dX12_worked_94 : decode cX12_worked 94 = .ok (.iload_n 3, 1) := by decide +kernel
theorem dX12_worked_95 : decode cX12_worked 95 = .ok (.iconst 1, 1) := by decide +kernel
theorem dX12_worked_96 : decode cX12_worked 96 = .ok (.isub, 1) := by decide +kernel
theorem dX12_worked_97 : decode cX12_worked 97 = .ok (.aload_n 0, 1) := by decide +kernel
theorem dX12_worked_98 : decode cX12_worked 98 = .ok (.getfield 272, 3) := by decide +kernel
theorem dX12_worked_101 : decode cX12_worked 101 = .ok (.iload_n 3, 1) := by decide +kernel
theorem dX12_worked_102 : decode cX12_worked 102 = .ok (.iconst 1, 1) := by decide +kernel
theorem dX12_worked_103 : decode cX12_worked 103 = .ok (.isub, 1) := by decide +kernel
theorem dX12_worked_104 : decode cX12_worked 104 = .ok (.iaload, 1) := by decide +kernel
theorem dX12_worked_105 : decode cX12_worked 105 = .ok (.ifCond .ne 7, 3) := by decide +kernel
theorem dX12_worked_108 : decode cX12_worked 108 = .ok (.iconst 1, 1) := by decide +kernel
theorem dX12_worked_109 : decode cX12_worked 109 = .ok (.goto 4, 3) := by decide +kernel
theorem dX12_worked_112 : decode cX12_worked 112 = .ok (.iconst 0, 1) := by decide +kernel
theorem dX12_worked_113 : decode cX12_worked 113 = .ok (.invokestatic 268, 3) := by decide +kernel
theorem dX12_worked_116 : decode cX12_worked 116 = .ok (.iastore, 1) := by decide +kernel
theorem dX12_worked_117 : decode cX12_worked 117 = .ok (.goto 67, 3) := by decide +kernel
theorem dX12_worked_120 : decode cX12_worked 120 = .ok (.iload 5, 2) := by decide +kernel
theorem dX12_worked_122 : decode cX12_worked 122 = .ok (.bipush 126, 2) := by decide +kernel
theorem dX12_worked_124 : decode cX12_worked 124 = .ok (.invokestatic 226, 3) := by decide +kernel
theorem dX12_worked_127 : decode cX12_worked 127 = .ok (.if_icmp .ne 23, 3) := by decide +kernel
theorem dX12_worked_130 : decode cX12_worked 130 = .ok (.aload_n 0, 1) := by decide +kernel
theorem dX12_worked_131 : decode cX12_worked 131 = .ok (.getfield 272, 3) := by decide +kernel
theorem dX12_worked_134 : decode cX12_worked 134 = .ok (.iload_n 3, 1) := by decide +kernel
theorem dX12_worked_135 : decode cX12_worked 135 = .ok (.iconst 1, 1) := by decide +kernel
theorem dX12_worked_136 : decode cX12_worked 136 = .ok (.isub, 1) := by decide +kernel
theorem dX12_worked_137 : decode cX12_worked 137 = .ok (.aload_n 0, 1) := by decide +kernel
theorem dX12_worked_138 : decode cX12_worked 138 = .ok (.getfield 272, 3) := by decide +kernel
theorem dX12_worked_141 : decode cX12_worked 141 = .ok (.iload_n 3, 1) := by decide +kernel
theorem dX12_worked_142 : decode cX12_worked 142 = .ok (.iconst 1, 1) := by decide +kernel
theorem dX12_worked_143 : decode cX12_worked 143 = .ok (.isub, 1) := by decide +kernel
theorem dX12_worked_144 : decode cX12_worked 144 = .ok (.iaload, 1) := by decide +kernel
theorem dX12_worked_145 : decode cX12_worked 145 = .ok (.ineg, 1) := by decide +kernel
theorem dX12_worked_146 : decode cX12_worked 146 = .ok (.iastore, 1) := by decide +kernel
theorem dX12_worked_147 : decode cX12_worked 147 = .ok (.goto 37, 3) := by decide +kernel
theorem dX12_worked_150 : decode cX12_worked 150 = .ok (.iinc 3 (-1), 3) := by decide +kernel
theorem dX12_worked_153 : decode cX12_worked 153 = .ok (.aload_n 0, 1) := by decide +kernel
theorem dX12_worked_154 : decode cX12_worked 154 = .ok (.getfield 272, 3) := by decide +kernel
theorem dX12_worked_157 : decode cX12_worked 157 = .ok (.iload_n 3, 1) := by decide +kernel
theorem dX12_worked_158 : decode cX12_worked 158 = .ok (.iconst 1, 1) := by decide +kernel
theorem dX12_worked_159 : decode cX12_worked 159 = .ok (.isub, 1) := by decide +kernel
theorem dX12_worked_160 : decode cX12_worked 160 = .ok (.iload 5, 2) := by decide +kernel
theorem dX12_worked_162 : decode cX12_worked 162 = .ok (.sipush 200, 3) := by decide +kernel
theorem dX12_worked_165 : decode cX12_worked 165 = .ok (.iadd, 1) := by decide +kernel
theorem dX12_worked_166 : decode cX12_worked 166 = .ok (.aload_n 0, 1) := by decide +kernel
theorem dX12_worked_167 : decode cX12_worked 167 = .ok (.getfield 272, 3) := by decide +kernel
theorem dX12_worked_170 : decode cX12_worked 170 = .ok (.iload_n 3, 1) := by decide +kernel
theorem dX12_worked_171 : decode cX12_worked 171 = .ok (.iconst 1, 1) := by decide +kernel
theorem dX12_worked_172 : decode cX12_worked 172 = .ok (.isub, 1) := by decide +kernel
theorem dX12_worked_173 : decode cX12_worked 173 = .ok (.iaload, 1) := by decide +kernel
theorem dX12_worked_174 : decode cX12_worked 174 = .ok (.aload_n 0, 1) := by decide +kernel
theorem dX12_worked_175 : decode cX12_worked 175 = .ok (.getfield 272, 3) := by decide +kernel
theorem dX12_worked_178 : decode cX12_worked 178 = .ok (.iload_n 3, 1) := by decide +kernel
theorem dX12_worked_179 : decode cX12_worked 179 = .ok (.iaload, 1) := by decide +kernel
theorem dX12_worked_180 : decode cX12_worked 180 = .ok (.invokestatic 278, 3) := by decide +kernel
theorem dX12_worked_183 : decode cX12_worked 183 = .ok (.iastore, 1) := by decide +kernel
theorem dX12_worked_184 : decode cX12_worked 184 = .ok (.iinc 4 1, 3) := by decide +kernel
theorem dX12_worked_187 : decode cX12_worked 187 = .ok (.goto (-182), 3) := by decide +kernel
theorem dX12_worked_190 : decode cX12_worked 190 = .ok (.aload_n 0, 1) := by decide +kernel
theorem dX12_worked_191 : decode cX12_worked 191 = .ok (.iload 4, 2) := by decide +kernel
theorem dX12_worked_193 : decode cX12_worked 193 = .ok (.putfield 282, 3) := by decide +kernel
theorem dX12_worked_196 : decode cX12_worked 196 = .ok (.aload_n 0, 1) := by decide +kernel
theorem dX12_worked_197 : decode cX12_worked 197 = .ok (.getfield 272, 3) := by decide +kernel
theorem dX12_worked_200 : decode cX12_worked 200 = .ok (.iconst 0, 1) := by decide +kernel
theorem dX12_worked_201 : decode cX12_worked 201 = .ok (.iaload, 1) := by decide +kernel
theorem dX12_worked_202 : decode cX12_worked 202 = .ok (.ireturn, 1) := by decide +kernel
theorem dX12_others_0 : decode cX12_others 0 = .ok (.iconst 0, 1) := by decide +kernel
theorem dX12_others_1 : decode cX12_others 1 = .ok (.istore_n 3, 1) := by decide +kernel
theorem dX12_others_2 : decode cX12_others 2 = .ok (.iconst 0, 1) := by decide +kernel
theorem dX12_others_3 : decode cX12_others 3 = .ok (.istore 4, 2) := by decide +kernel
theorem dX12_others_5 : decode cX12_others 5 = .ok (.iload 4, 2) := by decide +kernel
theorem dX12_others_7 : decode cX12_others 7 = .ok (.aload_n 0, 1) := by decide +kernel
theorem dX12_others_8 : decode cX12_others 8 = .ok (.getfield 108, 3) := by decide +kernel
theorem dX12_others_11 : decode cX12_others 11 = .ok (.if_icmp .ge 36, 3) := by decide +kernel
theorem dX12_others_14 : decode cX12_others 14 = .ok (.iload_n 3, 1) := by decide +kernel
theorem dX12_others_15 : decode cX12_others 15 = .ok (.iload 4, 2) := by decide +kernel
theorem dX12_others_17 : decode cX12_others 17 = .ok (.iload_n 1, 1) := by decide +kernel
theorem dX12_others_18 : decode cX12_others 18 = .ok (.if_icmp .eq 17, 3) := by decide +kernel
theorem dX12_others_21 : decode cX12_others 21 = .ok (.aload_n 0, 1) := by decide +kernel
theorem dX12_others_22 : decode cX12_others 22 = .ok (.iload 4, 2) := by decide +kernel
theorem dX12_others_24 : decode cX12_others 24 = .ok (.iload_n 2, 1) := by decide +kernel
theorem dX12_others_25 : decode cX12_others 25 = .ok (.invokevirtual 285, 3) := by decide +kernel
theorem dX12_others_28 : decode cX12_others 28 = .ok (.ifCond .eq 7, 3) := by decide +kernel
theorem dX12_others_31 : decode cX12_others 31 = .ok (.iconst 1, 1) := by decide +kernel
theorem dX12_others_32 : decode cX12_others 32 = .ok (.goto 4, 3) := by decide +kernel
theorem dX12_others_35 : decode cX12_others 35 = .ok (.iconst 0, 1) := by decide +kernel
theorem dX12_others_36 : decode cX12_others 36 = .ok (.invokestatic 268, 3) := by decide +kernel
theorem dX12_others_39 : decode cX12_others 39 = .ok (.iadd, 1) := by decide +kernel
theorem dX12_others_40 : decode cX12_others 40 = .ok (.istore_n 3, 1) := by decide +kernel
theorem dX12_others_41 : decode cX12_others 41 = .ok (.iinc 4 1, 3) := by decide +kernel
theorem dX12_others_44 : decode cX12_others 44 = .ok (.goto (-39), 3) := by decide +kernel
theorem dX12_others_47 : decode cX12_others 47 = .ok (.iload_n 3, 1) := by decide +kernel
theorem dX12_others_48 : decode cX12_others 48 = .ok (.ireturn, 1) := by decide +kernel
theorem dX12_barring_0 : decode cX12_barring 0 = .ok (.aload_n 0, 1) := by decide +kernel
theorem dX12_barring_1 : decode cX12_barring 1 = .ok (.iload_n 1, 1) := by decide +kernel
theorem dX12_barring_2 : decode cX12_barring 2 = .ok (.invokevirtual 262, 3) := by decide +kernel
theorem dX12_barring_5 : decode cX12_barring 5 = .ok (.istore 4, 2) := by decide +kernel
theorem dX12_barring_7 : decode cX12_barring 7 = .ok (.iload 4, 2) := by decide +kernel
theorem dX12_barring_9 : decode cX12_barring 9 = .ok (.ifCond .ge 5, 3) := by decide +kernel
theorem dX12_barring_12 : decode cX12_barring 12 = .ok (.iconst (-1), 1) := by decide +kernel
theorem dX12_barring_13 : decode cX12_barring 13 = .ok (.ireturn, 1) := by decide +kernel
theorem dX12_barring_14 : decode cX12_barring 14 = .ok (.aload_n 0, 1) := by decide +kernel
theorem dX12_barring_15 : decode cX12_barring 15 = .ok (.iload_n 2, 1) := by decide +kernel
theorem dX12_barring_16 : decode cX12_barring 16 = .ok (.iload_n 3, 1) := by decide +kernel
theorem dX12_barring_17 : decode cX12_barring 17 = .ok (.iload_n 1, 1) := by decide +kernel
theorem dX12_barring_18 : decode cX12_barring 18 = .ok (.iconst 1, 1) := by decide +kernel
theorem dX12_barring_19 : decode cX12_barring 19 = .ok (.invokevirtual 288, 3) := by decide +kernel
theorem dX12_barring_22 : decode cX12_barring 22 = .ok (.istore 5, 2) := by decide +kernel
theorem dX12_barring_24 : decode cX12_barring 24 = .ok (.aload_n 0, 1) := by decide +kernel
theorem dX12_barring_25 : decode cX12_barring 25 = .ok (.iload_n 2, 1) := by decide +kernel
theorem dX12_barring_26 : decode cX12_barring 26 = .ok (.iload_n 3, 1) := by decide +kernel
theorem dX12_barring_27 : decode cX12_barring 27 = .ok (.iload_n 1, 1) := by decide +kernel
theorem dX12_barring_28 : decode cX12_barring 28 = .ok (.iconst 0, 1) := by decide +kernel
theorem dX12_barring_29 : decode cX12_barring 29 = .ok (.invokevirtual 288, 3) := by decide +kernel
theorem dX12_barring_32 : decode cX12_barring 32 = .ok (.istore 6, 2) := by decide +kernel
theorem dX12_barring_34 : decode cX12_barring 34 = .ok (.aload_n 0, 1) := by decide +kernel
theorem dX12_barring_35 : decode cX12_barring 35 = .ok (.getfield 275, 3) := by decide +kernel
theorem dX12_barring_38 : decode cX12_barring 38 = .ok (.iconst 0, 1) := by decide +kernel
theorem dX12_barring_39 : decode cX12_barring 39 = .ok (.aload_n 0, 1) := by decide +kernel
theorem dX12_barring_40 : decode cX12_barring 40 = .ok (.getfield 57, 3) := by decide +kernel
theorem dX12_barring_43 : decode cX12_barring 43 = .ok (.iload_n 2, 1) := by decide +kernel
theorem dX12_barring_44 : decode cX12_barring 44 = .ok (.iaload, 1) := by decide +kernel
theorem dX12_barring_45 : decode cX12_barring 45 = .ok (.iastore, 1) := by decide +kernel
theorem dX12_barring_46 : decode cX12_barring 46 = .ok (.aload_n 0, 1) := by decide +kernel
theorem dX12_barring_47 : decode cX12_barring 47 = .ok (.getfield 275, 3) := by decide +kernel
theorem dX12_barring_50 : decode cX12_barring 50 = .ok (.iconst 1, 1) := by decide +kernel
theorem dX12_barring_51 : decode cX12_barring 51 = .ok (.iload_n 2, 1) := by decide +kernel
theorem dX12_barring_52 : decode cX12_barring 52 = .ok (.iastore, 1) := by decide +kernel
theorem dX12_barring_53 : decode cX12_barring 53 = .ok (.aload_n 0, 1) := by decide +kernel
theorem dX12_barring_54 : decode cX12_barring 54 = .ok (.getfield 275, 3) := by decide +kernel
theorem dX12_barring_57 : decode cX12_barring 57 = .ok (.iconst 2, 1) := by decide +kernel
theorem dX12_barring_58 : decode cX12_barring 58 = .ok (.aload_n 0, 1) := by decide +kernel
theorem dX12_barring_59 : decode cX12_barring 59 = .ok (.iload_n 2, 1) := by decide +kernel
theorem dX12_barring_60 : decode cX12_barring 60 = .ok (.invokevirtual 292, 3) := by decide +kernel
theorem dX12_barring_63 : decode cX12_barring 63 = .ok (.iastore, 1) := by decide +kernel
theorem dX12_barring_64 : decode cX12_barring 64 = .ok (.aload_n 0, 1) := by decide +kernel
theorem dX12_barring_65 : decode cX12_barring 65 = .ok (.getfield 275, 3) := by decide +kernel
theorem dX12_barring_68 : decode cX12_barring 68 = .ok (.iconst 3, 1) := by decide +kernel
theorem dX12_barring_69 : decode cX12_barring 69 = .ok (.aload_n 0, 1) := by decide +kernel
theorem dX12_barring_70 : decode cX12_barring 70 = .ok (.iload_n 2, 1) := by decide +kernel
theorem dX12_barring_71 : decode cX12_barring 71 = .ok (.invokevirtual 98, 3) := by decide +kernel
theorem dX12_barring_74 : decode cX12_barring 74 = .ok (.iastore, 1) := by decide +kernel
theorem dX12_barring_75 : decode cX12_barring 75 = .ok (.aload_n 0, 1) := by decide +kernel
theorem dX12_barring_76 : decode cX12_barring 76 = .ok (.getfield 275, 3) := by decide +kernel
theorem dX12_barring_79 : decode cX12_barring 79 = .ok (.iconst 4, 1) := by decide +kernel
theorem dX12_barring_80 : decode cX12_barring 80 = .ok (.iload 5, 2) := by decide +kernel
theorem dX12_barring_82 : decode cX12_barring 82 = .ok (.ifCond .lt 7, 3) := by decide +kernel
theorem dX12_barring_85 : decode cX12_barring 85 = .ok (.iconst 1, 1) := by decide +kernel
theorem dX12_barring_86 : decode cX12_barring 86 = .ok (.goto 4, 3) := by decide +kernel
theorem dX12_barring_89 : decode cX12_barring 89 = .ok (.iconst 0, 1) := by decide +kernel
theorem dX12_barring_90 : decode cX12_barring 90 = .ok (.invokestatic 268, 3) := by decide +kernel
theorem dX12_barring_93 : decode cX12_barring 93 = .ok (.iload 6, 2) := by decide +kernel
theorem dX12_barring_95 : decode cX12_barring 95 = .ok (.ifCond .lt 7, 3) := by decide +kernel
theorem dX12_barring_98 : decode cX12_barring 98 = .ok (.iconst 1, 1) := by decide +kernel
theorem dX12_barring_99 : decode cX12_barring 99 = .ok (.goto 4, 3) := by decide +kernel
theorem dX12_barring_102 : decode cX12_barring 102 = .ok (.iconst 0, 1) := by decide +kernel
theorem dX12_barring_103 : decode cX12_barring 103 = .ok (.invokestatic 268, 3) := by decide +kernel
theorem dX12_barring_106 : decode cX12_barring 106 = .ok (.iadd, 1) := by decide +kernel
theorem dX12_barring_107 : decode cX12_barring 107 = .ok (.iastore, 1) := by decide +kernel
theorem dX12_barring_108 : decode cX12_barring 108 = .ok (.aload_n 0, 1) := by decide +kernel
theorem dX12_barring_109 : decode cX12_barring 109 = .ok (.getfield 275, 3) := by decide +kernel
theorem dX12_barring_112 : decode cX12_barring 112 = .ok (.iconst 5, 1) := by decide +kernel
theorem dX12_barring_113 : decode cX12_barring 113 = .ok (.iload 5, 2) := by decide +kernel
theorem dX12_barring_115 : decode cX12_barring 115 = .ok (.ifCond .lt 23, 3) := by decide +kernel
theorem dX12_barring_118 : decode cX12_barring 118 = .ok (.aload_n 0, 1) := by decide +kernel
theorem dX12_barring_119 : decode cX12_barring 119 = .ok (.getfield 130, 3) := by decide +kernel
theorem dX12_barring_122 : decode cX12_barring 122 = .ok (.iload 5, 2) := by decide +kernel
theorem dX12_barring_124 : decode cX12_barring 124 = .ok (.iaload, 1) := by decide +kernel
theorem dX12_barring_125 : decode cX12_barring 125 = .ok (.aload_n 0, 1) := by decide +kernel
theorem dX12_barring_126 : decode cX12_barring 126 = .ok (.getfield 130, 3) := by decide +kernel
theorem dX12_barring_129 : decode cX12_barring 129 = .ok (.iload_n 1, 1) := by decide +kernel
theorem dX12_barring_130 : decode cX12_barring 130 = .ok (.iaload, 1) := by decide +kernel
theorem dX12_barring_131 : decode cX12_barring 131 = .ok (.if_icmp .ne 7, 3) := by decide +kernel
theorem dX12_barring_134 : decode cX12_barring 134 = .ok (.iconst 1, 1) := by decide +kernel
theorem dX12_barring_135 : decode cX12_barring 135 = .ok (.goto 4, 3) := by decide +kernel
theorem dX12_barring_138 : decode cX12_barring 138 = .ok (.iconst 0, 1) := by decide +kernel
theorem dX12_barring_139 : decode cX12_barring 139 = .ok (.invokestatic 268, 3) := by decide +kernel
theorem dX12_barring_142 : decode cX12_barring 142 = .ok (.iload 6, 2) := by decide +kernel
theorem dX12_barring_144 : decode cX12_barring 144 = .ok (.ifCond .lt 23, 3) := by decide +kernel
theorem dX12_barring_147 : decode cX12_barring 147 = .ok (.aload_n 0, 1) := by decide +kernel
theorem dX12_barring_148 : decode cX12_barring 148 = .ok (.getfield 130, 3) := by decide +kernel
theorem dX12_barring_151 : decode cX12_barring 151 = .ok (.iload 6, 2) := by decide +kernel
theorem dX12_barring_153 : decode cX12_barring 153 = .ok (.iaload, 1) := by decide +kernel
theorem dX12_barring_154 : decode cX12_barring 154 = .ok (.aload_n 0, 1) := by decide +kernel
theorem dX12_barring_155 : decode cX12_barring 155 = .ok (.getfield 130, 3) := by decide +kernel
theorem dX12_barring_158 : decode cX12_barring 158 = .ok (.iload_n 1, 1) := by decide +kernel
theorem dX12_barring_159 : decode cX12_barring 159 = .ok (.iaload, 1) := by decide +kernel
theorem dX12_barring_160 : decode cX12_barring 160 = .ok (.if_icmp .ne 7, 3) := by decide +kernel
theorem dX12_barring_163 : decode cX12_barring 163 = .ok (.iconst 1, 1) := by decide +kernel
theorem dX12_barring_164 : decode cX12_barring 164 = .ok (.goto 4, 3) := by decide +kernel
theorem dX12_barring_167 : decode cX12_barring 167 = .ok (.iconst 0, 1) := by decide +kernel
theorem dX12_barring_168 : decode cX12_barring 168 = .ok (.invokestatic 268, 3) := by decide +kernel
theorem dX12_barring_171 : decode cX12_barring 171 = .ok (.iadd, 1) := by decide +kernel
theorem dX12_barring_172 : decode cX12_barring 172 = .ok (.iastore, 1) := by decide +kernel
theorem dX12_barring_173 : decode cX12_barring 173 = .ok (.aload_n 0, 1) := by decide +kernel
theorem dX12_barring_174 : decode cX12_barring 174 = .ok (.getfield 275, 3) := by decide +kernel
theorem dX12_barring_177 : decode cX12_barring 177 = .ok (.bipush 6, 2) := by decide +kernel
theorem dX12_barring_179 : decode cX12_barring 179 = .ok (.aload_n 0, 1) := by decide +kernel
theorem dX12_barring_180 : decode cX12_barring 180 = .ok (.getfield 142, 3) := by decide +kernel
theorem dX12_barring_183 : decode cX12_barring 183 = .ok (.iload_n 1, 1) := by decide +kernel
theorem dX12_barring_184 : decode cX12_barring 184 = .ok (.iaload, 1) := by decide +kernel
theorem dX12_barring_185 : decode cX12_barring 185 = .ok (.ifCond .lt 29, 3) := by decide +kernel
theorem dX12_barring_188 : decode cX12_barring 188 = .ok (.aload_n 0, 1) := by decide +kernel
theorem dX12_barring_189 : decode cX12_barring 189 = .ok (.getfield 142, 3) := by decide +kernel
theorem dX12_barring_192 : decode cX12_barring 192 = .ok (.iload_n 1, 1) := by decide +kernel
theorem dX12_barring_193 : decode cX12_barring 193 = .ok (.iaload, 1) := by decide +kernel
theorem dX12_barring_194 : decode cX12_barring 194 = .ok (.iload 5, 2) := by decide +kernel
theorem dX12_barring_196 : decode cX12_barring 196 = .ok (.if_icmp .eq 14, 3) := by decide +kernel
theorem dX12_barring_199 : decode cX12_barring 199 = .ok (.aload_n 0, 1) := by decide +kernel
theorem dX12_barring_200 : decode cX12_barring 200 = .ok (.getfield 142, 3) := by decide +kernel
theorem dX12_barring_203 : decode cX12_barring 203 = .ok (.iload_n 1, 1) := by decide +kernel
theorem dX12_barring_204 : decode cX12_barring 204 = .ok (.iaload, 1) := by decide +kernel
theorem dX12_barring_205 : decode cX12_barring 205 = .ok (.iload 6, 2) := by decide +kernel
theorem dX12_barring_207 : decode cX12_barring 207 = .ok (.if_icmp .ne 7, 3) := by decide +kernel
theorem dX12_barring_210 : decode cX12_barring 210 = .ok (.iconst 1, 1) := by decide +kernel
theorem dX12_barring_211 : decode cX12_barring 211 = .ok (.goto 4, 3) := by decide +kernel
theorem dX12_barring_214 : decode cX12_barring 214 = .ok (.iconst 0, 1) := by decide +kernel
theorem dX12_barring_215 : decode cX12_barring 215 = .ok (.invokestatic 268, 3) := by decide +kernel
theorem dX12_barring_218 : decode cX12_barring 218 = .ok (.iastore, 1) := by decide +kernel
theorem dX12_barring_219 : decode cX12_barring 219 = .ok (.aload_n 0, 1) := by decide +kernel
theorem dX12_barring_220 : decode cX12_barring 220 = .ok (.getfield 275, 3) := by decide +kernel
theorem dX12_barring_223 : decode cX12_barring 223 = .ok (.bipush 7, 2) := by decide +kernel
theorem dX12_barring_225 : decode cX12_barring 225 = .ok (.aload_n 0, 1) := by decide +kernel
theorem dX12_barring_226 : decode cX12_barring 226 = .ok (.iload_n 1, 1) := by decide +kernel
theorem dX12_barring_227 : decode cX12_barring 227 = .ok (.aload_n 0, 1) := by decide +kernel
theorem dX12_barring_228 : decode cX12_barring 228 = .ok (.getfield 57, 3) := by decide +kernel
theorem dX12_barring_231 : decode cX12_barring 231 = .ok (.iload_n 2, 1) := by decide +kernel
theorem dX12_barring_232 : decode cX12_barring 232 = .ok (.iaload, 1) := by decide +kernel
theorem dX12_barring_233 : decode cX12_barring 233 = .ok (.invokevirtual 295, 3) := by decide +kernel
theorem dX12_barring_236 : decode cX12_barring 236 = .ok (.iastore, 1) := by decide +kernel
theorem dX12_barring_237 : decode cX12_barring 237 = .ok (.aload_n 0, 1) := by decide +kernel
theorem dX12_barring_238 : decode cX12_barring 238 = .ok (.getfield 275, 3) := by decide +kernel
theorem dX12_barring_241 : decode cX12_barring 241 = .ok (.bipush 8, 2) := by decide +kernel
theorem dX12_barring_243 : decode cX12_barring 243 = .ok (.aload_n 0, 1) := by decide +kernel
theorem dX12_barring_244 : decode cX12_barring 244 = .ok (.getfield 148, 3) := by decide +kernel
theorem dX12_barring_247 : decode cX12_barring 247 = .ok (.iload_n 1, 1) := by decide +kernel
theorem dX12_barring_248 : decode cX12_barring 248 = .ok (.iaload, 1) := by decide +kernel
theorem dX12_barring_249 : decode cX12_barring 249 = .ok (.aload_n 0, 1) := by decide +kernel
theorem dX12_barring_250 : decode cX12_barring 250 = .ok (.getfield 298, 3) := by decide +kernel
theorem dX12_barring_253 : decode cX12_barring 253 = .ok (.iload_n 1, 1) := by decide +kernel
theorem dX12_barring_254 : decode cX12_barring 254 = .ok (.iaload, 1) := by decide +kernel
theorem dX12_barring_255 : decode cX12_barring 255 = .ok (.isub, 1) := by decide +kernel
theorem dX12_barring_256 : decode cX12_barring 256 = .ok (.iastore, 1) := by decide +kernel
theorem dX12_barring_257 : decode cX12_barring 257 = .ok (.aload_n 0, 1) := by decide +kernel
theorem dX12_barring_258 : decode cX12_barring 258 = .ok (.getfield 275, 3) := by decide +kernel
theorem dX12_barring_261 : decode cX12_barring 261 = .ok (.bipush 9, 2) := by decide +kernel
theorem dX12_barring_263 : decode cX12_barring 263 = .ok (.aload_n 0, 1) := by decide +kernel
theorem dX12_barring_264 : decode cX12_barring 264 = .ok (.getfield 259, 3) := by decide +kernel
theorem dX12_barring_267 : decode cX12_barring 267 = .ok (.iastore, 1) := by decide +kernel
theorem dX12_barring_268 : decode cX12_barring 268 = .ok (.aload_n 0, 1) := by decide +kernel
theorem dX12_barring_269 : decode cX12_barring 269 = .ok (.getfield 275, 3) := by decide +kernel
theorem dX12_barring_272 : decode cX12_barring 272 = .ok (.bipush 10, 2) := by decide +kernel
theorem dX12_barring_274 : decode cX12_barring 274 = .ok (.aload_n 0, 1) := by decide +kernel
theorem dX12_barring_275 : decode cX12_barring 275 = .ok (.getfield 133, 3) := by decide +kernel
theorem dX12_barring_278 : decode cX12_barring 278 = .ok (.iload_n 1, 1) := by decide +kernel
theorem dX12_barring_279 : decode cX12_barring 279 = .ok (.iaload, 1) := by decide +kernel
theorem dX12_barring_280 : decode cX12_barring 280 = .ok (.iastore, 1) := by decide +kernel
theorem dX12_barring_281 : decode cX12_barring 281 = .ok (.aload_n 0, 1) := by decide +kernel
theorem dX12_barring_282 : decode cX12_barring 282 = .ok (.getfield 275, 3) := by decide +kernel
theorem dX12_barring_285 : decode cX12_barring 285 = .ok (.bipush 11, 2) := by decide +kernel
theorem dX12_barring_287 : decode cX12_barring 287 = .ok (.aload_n 0, 1) := by decide +kernel
theorem dX12_barring_288 : decode cX12_barring 288 = .ok (.aload_n 0, 1) := by decide +kernel
theorem dX12_barring_289 : decode cX12_barring 289 = .ok (.getfield 57, 3) := by decide +kernel
theorem dX12_barring_292 : decode cX12_barring 292 = .ok (.iload_n 2, 1) := by decide +kernel
theorem dX12_barring_293 : decode cX12_barring 293 = .ok (.iaload, 1) := by decide +kernel
theorem dX12_barring_294 : decode cX12_barring 294 = .ok (.invokevirtual 301, 3) := by decide +kernel
theorem dX12_barring_297 : decode cX12_barring 297 = .ok (.iastore, 1) := by decide +kernel
theorem dX12_barring_298 : decode cX12_barring 298 = .ok (.bipush 64, 2) := by decide +kernel
theorem dX12_barring_300 : decode cX12_barring 300 = .ok (.iload 4, 2) := by decide +kernel
theorem dX12_barring_302 : decode cX12_barring 302 = .ok (.imul, 1) := by decide +kernel
theorem dX12_barring_303 : decode cX12_barring 303 = .ok (.istore 7, 2) := by decide +kernel
theorem dX12_barring_305 : decode cX12_barring 305 = .ok (.iload 7, 2) := by decide +kernel
theorem dX12_barring_307 : decode cX12_barring 307 = .ok (.aload_n 0, 1) := by decide +kernel
theorem dX12_barring_308 : decode cX12_barring 308 = .ok (.getfield 197, 3) := by decide +kernel
theorem dX12_barring_311 : decode cX12_barring 311 = .ok (.iload 4, 2) := by decide +kernel
theorem dX12_barring_313 : decode cX12_barring 313 = .ok (.iaload, 1) := by decide +kernel
theorem dX12_barring_314 : decode cX12_barring 314 = .ok (.iadd, 1) := by decide +kernel
theorem dX12_barring_315 : decode cX12_barring 315 = .ok (.istore 8, 2) := by decide +kernel
theorem dX12_barring_317 : decode cX12_barring 317 = .ok (.iconst 0, 1) := by decide +kernel
theorem dX12_barring_318 : decode cX12_barring 318 = .ok (.istore 9, 2) := by decide +kernel
theorem dX12_barring_320 : decode cX12_barring 320 = .ok (.iload 7, 2) := by decide +kernel
theorem dX12_barring_322 : decode cX12_barring 322 = .ok (.iload 8, 2) := by decide +kernel
theorem dX12_barring_324 : decode cX12_barring 324 = .ok (.if_icmp .ge 31, 3) := by decide +kernel
theorem dX12_barring_327 : decode cX12_barring 327 = .ok (.aload_n 0, 1) := by decide +kernel
theorem dX12_barring_328 : decode cX12_barring 328 = .ok (.iload 7, 2) := by decide +kernel
theorem dX12_barring_330 : decode cX12_barring 330 = .ok (.iload 8, 2) := by decide +kernel
theorem dX12_barring_332 : decode cX12_barring 332 = .ok (.invokevirtual 304, 3) := by decide +kernel
theorem dX12_barring_335 : decode cX12_barring 335 = .ok (.ifCond .ne 6, 3) := by decide +kernel
theorem dX12_barring_338 : decode cX12_barring 338 = .ok (.iload 9, 2) := by decide +kernel
theorem dX12_barring_340 : decode cX12_barring 340 = .ok (.ireturn, 1) := by decide +kernel
theorem dX12_barring_341 : decode cX12_barring 341 = .ok (.aload_n 0, 1) := by decide +kernel
theorem dX12_barring_342 : decode cX12_barring 342 = .ok (.getfield 282, 3) := by decide +kernel
theorem dX12_barring_345 : decode cX12_barring 345 = .ok (.iconst 1, 1) := by decide +kernel
theorem dX12_barring_346 : decode cX12_barring 346 = .ok (.iadd, 1) := by decide +kernel
theorem dX12_barring_347 : decode cX12_barring 347 = .ok (.istore 7, 2) := by decide +kernel
theorem dX12_barring_349 : decode cX12_barring 349 = .ok (.iinc 9 1, 3) := by decide +kernel
theorem dX12_barring_352 : decode cX12_barring 352 = .ok (.goto (-32), 3) := by decide +kernel
theorem dX12_barring_355 : decode cX12_barring 355 = .ok (.iconst (-1), 1) := by decide +kernel
theorem dX12_barring_356 : decode cX12_barring 356 = .ok (.ireturn, 1) := by decide +kernel
theorem dX12_why_0 : decode cX12_why 0 = .ok (.aload_n 0, 1) := by decide +kernel
theorem dX12_why_1 : decode cX12_why 1 = .ok (.iconst 0, 1) := by decide +kernel
theorem dX12_why_2 : decode cX12_why 2 = .ok (.putfield 1, 3) := by decide +kernel
theorem dX12_why_5 : decode cX12_why 5 = .ok (.aload_n 0, 1) := by decide +kernel
theorem dX12_why_6 : decode cX12_why 6 = .ok (.iload_n 1, 1) := by decide +kernel
theorem dX12_why_7 : decode cX12_why 7 = .ok (.invokevirtual 161, 3) := by decide +kernel
theorem dX12_why_10 : decode cX12_why 10 = .ok (.ifCond .eq 11, 3) := by decide +kernel
theorem dX12_why_13 : decode cX12_why 13 = .ok (.aload_n 0, 1) := by decide +kernel
theorem dX12_why_14 : decode cX12_why 14 = .ok (.iload_n 2, 1) := by decide +kernel
theorem dX12_why_15 : decode cX12_why 15 = .ok (.invokevirtual 90, 3) := by decide +kernel
theorem dX12_why_18 : decode cX12_why 18 = .ok (.ifCond .ne 5, 3) := by decide +kernel
theorem dX12_why_21 : decode cX12_why 21 = .ok (.iconst (-1), 1) := by decide +kernel
theorem dX12_why_22 : decode cX12_why 22 = .ok (.ireturn, 1) := by decide +kernel
theorem dX12_why_23 : decode cX12_why 23 = .ok (.aload_n 0, 1) := by decide +kernel
theorem dX12_why_24 : decode cX12_why 24 = .ok (.iload_n 1, 1) := by decide +kernel
theorem dX12_why_25 : decode cX12_why 25 = .ok (.iload_n 2, 1) := by decide +kernel
theorem dX12_why_26 : decode cX12_why 26 = .ok (.iload_n 3, 1) := by decide +kernel
theorem dX12_why_27 : decode cX12_why 27 = .ok (.invokevirtual 307, 3) := by decide +kernel
theorem dX12_why_30 : decode cX12_why 30 = .ok (.istore 4, 2) := by decide +kernel
theorem dX12_why_32 : decode cX12_why 32 = .ok (.iload 4, 2) := by decide +kernel
theorem dX12_why_34 : decode cX12_why 34 = .ok (.ifCond .ge 8, 3) := by decide +kernel
theorem dX12_why_37 : decode cX12_why 37 = .ok (.bipush (-2), 2) := by decide +kernel
theorem dX12_why_39 : decode cX12_why 39 = .ok (.goto 5, 3) := by decide +kernel
theorem dX12_why_42 : decode cX12_why 42 = .ok (.iload 4, 2) := by decide +kernel
theorem dX12_why_44 : decode cX12_why 44 = .ok (.ireturn, 1) := by decide +kernel
theorem dX12_isHigh_0 : decode cX12_isHigh 0 = .ok (.aload_n 0, 1) := by decide +kernel
theorem dX12_isHigh_1 : decode cX12_isHigh 1 = .ok (.getfield 124, 3) := by decide +kernel
theorem dX12_isHigh_4 : decode cX12_isHigh 4 = .ok (.iload_n 1, 1) := by decide +kernel
theorem dX12_isHigh_5 : decode cX12_isHigh 5 = .ok (.iaload, 1) := by decide +kernel
theorem dX12_isHigh_6 : decode cX12_isHigh 6 = .ok (.iconst 2, 1) := by decide +kernel
theorem dX12_isHigh_7 : decode cX12_isHigh 7 = .ok (.aload_n 0, 1) := by decide +kernel
theorem dX12_isHigh_8 : decode cX12_isHigh 8 = .ok (.getfield 75, 3) := by decide +kernel
theorem dX12_isHigh_11 : decode cX12_isHigh 11 = .ok (.iconst 0, 1) := by decide +kernel
theorem dX12_isHigh_12 : decode cX12_isHigh 12 = .ok (.iaload, 1) := by decide +kernel
theorem dX12_isHigh_13 : decode cX12_isHigh 13 = .ok (.imul, 1) := by decide +kernel
theorem dX12_isHigh_14 : decode cX12_isHigh 14 = .ok (.if_icmp .gt 31, 3) := by decide +kernel
theorem dX12_isHigh_17 : decode cX12_isHigh 17 = .ok (.aload_n 0, 1) := by decide +kernel
theorem dX12_isHigh_18 : decode cX12_isHigh 18 = .ok (.getfield 124, 3) := by decide +kernel
theorem dX12_isHigh_21 : decode cX12_isHigh 21 = .ok (.iload_n 1, 1) := by decide +kernel
theorem dX12_isHigh_22 : decode cX12_isHigh 22 = .ok (.iaload, 1) := by decide +kernel
theorem dX12_isHigh_23 : decode cX12_isHigh 23 = .ok (.iconst 2, 1) := by decide +kernel
theorem dX12_isHigh_24 : decode cX12_isHigh 24 = .ok (.aload_n 0, 1) := by decide +kernel
theorem dX12_isHigh_25 : decode cX12_isHigh 25 = .ok (.getfield 63, 3) := by decide +kernel
theorem dX12_isHigh_28 : decode cX12_isHigh 28 = .ok (.iload_n 2, 1) := by decide +kernel
theorem dX12_isHigh_29 : decode cX12_isHigh 29 = .ok (.iaload, 1) := by decide +kernel
theorem dX12_isHigh_30 : decode cX12_isHigh 30 = .ok (.aload_n 0, 1) := by decide +kernel
theorem dX12_isHigh_31 : decode cX12_isHigh 31 = .ok (.getfield 75, 3) := by decide +kernel
theorem dX12_isHigh_34 : decode cX12_isHigh 34 = .ok (.iconst 0, 1) := by decide +kernel
theorem dX12_isHigh_35 : decode cX12_isHigh 35 = .ok (.iaload, 1) := by decide +kernel
theorem dX12_isHigh_36 : decode cX12_isHigh 36 = .ok (.isub, 1) := by decide +kernel
theorem dX12_isHigh_37 : decode cX12_isHigh 37 = .ok (.imul, 1) := by decide +kernel
theorem dX12_isHigh_38 : decode cX12_isHigh 38 = .ok (.if_icmp .gt 7, 3) := by decide +kernel
theorem dX12_isHigh_41 : decode cX12_isHigh 41 = .ok (.iconst 1, 1) := by decide +kernel
theorem dX12_isHigh_42 : decode cX12_isHigh 42 = .ok (.goto 4, 3) := by decide +kernel
theorem dX12_isHigh_45 : decode cX12_isHigh 45 = .ok (.iconst 0, 1) := by decide +kernel
theorem dX12_isHigh_46 : decode cX12_isHigh 46 = .ok (.ireturn, 1) := by decide +kernel
theorem dX12_isFree_0 : decode cX12_isFree 0 = .ok (.iconst 1, 1) := by decide +kernel
theorem dX12_isFree_1 : decode cX12_isFree 1 = .ok (.istore 4, 2) := by decide +kernel
theorem dX12_isFree_3 : decode cX12_isFree 3 = .ok (.iconst 0, 1) := by decide +kernel
theorem dX12_isFree_4 : decode cX12_isFree 4 = .ok (.istore 5, 2) := by decide +kernel
theorem dX12_isFree_6 : decode cX12_isFree 6 = .ok (.iload 5, 2) := by decide +kernel
theorem dX12_isFree_8 : decode cX12_isFree 8 = .ok (.aload_n 0, 1) := by decide +kernel
theorem dX12_isFree_9 : decode cX12_isFree 9 = .ok (.getfield 108, 3) := by decide +kernel
theorem dX12_isFree_12 : decode cX12_isFree 12 = .ok (.if_icmp .ge 110, 3) := by decide +kernel
theorem dX12_isFree_15 : decode cX12_isFree 15 = .ok (.aload_n 0, 1) := by decide +kernel
theorem dX12_isFree_16 : decode cX12_isFree 16 = .ok (.getfield 158, 3) := by decide +kernel
theorem dX12_isFree_19 : decode cX12_isFree 19 = .ok (.iload 5, 2) := by decide +kernel
theorem dX12_isFree_21 : decode cX12_isFree 21 = .ok (.iaload, 1) := by decide +kernel
theorem dX12_isFree_22 : decode cX12_isFree 22 = .ok (.i2l, 1) := by decide +kernel
theorem dX12_isFree_23 : decode cX12_isFree 23 = .ok (.aload_n 0, 1) := by decide +kernel
theorem dX12_isFree_24 : decode cX12_isFree 24 = .ok (.getfield 121, 3) := by decide +kernel
theorem dX12_isFree_27 : decode cX12_isFree 27 = .ok (.iload 5, 2) := by decide +kernel
theorem dX12_isFree_29 : decode cX12_isFree 29 = .ok (.iaload, 1) := by decide +kernel
theorem dX12_isFree_30 : decode cX12_isFree 30 = .ok (.i2l, 1) := by decide +kernel
theorem dX12_isFree_31 : decode cX12_isFree 31 = .ok (.ladd, 1) := by decide +kernel
theorem dX12_isFree_32 : decode cX12_isFree 32 = .ok (.aload_n 0, 1) := by decide +kernel
theorem dX12_isFree_33 : decode cX12_isFree 33 = .ok (.getfield 75, 3) := by decide +kernel
theorem dX12_isFree_36 : decode cX12_isFree 36 = .ok (.iconst 1, 1) := by decide +kernel
theorem dX12_isFree_37 : decode cX12_isFree 37 = .ok (.iaload, 1) := by decide +kernel
theorem dX12_isFree_38 : decode cX12_isFree 38 = .ok (.i2l, 1) := by decide +kernel
theorem dX12_isFree_39 : decode cX12_isFree 39 = .ok (.ladd, 1) := by decide +kernel
theorem dX12_isFree_40 : decode cX12_isFree 40 = .ok (.iload_n 3, 1) := by decide +kernel
theorem dX12_isFree_41 : decode cX12_isFree 41 = .ok (.i2l, 1) := by decide +kernel
theorem dX12_isFree_42 : decode cX12_isFree 42 = .ok (.lcmp, 1) := by decide +kernel
theorem dX12_isFree_43 : decode cX12_isFree 43 = .ok (.ifCond .le 33, 3) := by decide +kernel
theorem dX12_isFree_46 : decode cX12_isFree 46 = .ok (.iload_n 3, 1) := by decide +kernel
theorem dX12_isFree_47 : decode cX12_isFree 47 = .ok (.i2l, 1) := by decide +kernel
theorem dX12_isFree_48 : decode cX12_isFree 48 = .ok (.aload_n 0, 1) := by decide +kernel
theorem dX12_isFree_49 : decode cX12_isFree 49 = .ok (.getfield 121, 3) := by decide +kernel
theorem dX12_isFree_52 : decode cX12_isFree 52 = .ok (.iload_n 1, 1) := by decide +kernel
theorem dX12_isFree_53 : decode cX12_isFree 53 = .ok (.iaload, 1) := by decide +kernel
theorem dX12_isFree_54 : decode cX12_isFree 54 = .ok (.i2l, 1) := by decide +kernel
theorem dX12_isFree_55 : decode cX12_isFree 55 = .ok (.ladd, 1) := by decide +kernel
theorem dX12_isFree_56 : decode cX12_isFree 56 = .ok (.aload_n 0, 1) := by decide +kernel
theorem dX12_isFree_57 : decode cX12_isFree 57 = .ok (.getfield 75, 3) := by decide +kernel
theorem dX12_isFree_60 : decode cX12_isFree 60 = .ok (.iconst 1, 1) := by decide +kernel
theorem dX12_isFree_61 : decode cX12_isFree 61 = .ok (.iaload, 1) := by decide +kernel
theorem dX12_isFree_62 : decode cX12_isFree 62 = .ok (.i2l, 1) := by decide +kernel
theorem dX12_isFree_63 : decode cX12_isFree 63 = .ok (.ladd, 1) := by decide +kernel
theorem dX12_isFree_64 : decode cX12_isFree 64 = .ok (.aload_n 0, 1) := by decide +kernel
theorem dX12_isFree_65 : decode cX12_isFree 65 = .ok (.getfield 158, 3) := by decide +kernel
theorem dX12_isFree_68 : decode cX12_isFree 68 = .ok (.iload 5, 2) := by decide +kernel
theorem dX12_isFree_70 : decode cX12_isFree 70 = .ok (.iaload, 1) := by decide +kernel
theorem dX12_isFree_71 : decode cX12_isFree 71 = .ok (.i2l, 1) := by decide +kernel
theorem dX12_isFree_72 : decode cX12_isFree 72 = .ok (.lcmp, 1) := by decide +kernel
theorem dX12_isFree_73 : decode cX12_isFree 73 = .ok (.ifCond .gt 7, 3) := by decide +kernel
theorem dX12_isFree_76 : decode cX12_isFree 76 = .ok (.iconst 1, 1) := by decide +kernel
theorem dX12_isFree_77 : decode cX12_isFree 77 = .ok (.goto 4, 3) := by decide +kernel
theorem dX12_isFree_80 : decode cX12_isFree 80 = .ok (.iconst 0, 1) := by decide +kernel
theorem dX12_isFree_81 : decode cX12_isFree 81 = .ok (.istore 6, 2) := by decide +kernel
theorem dX12_isFree_83 : decode cX12_isFree 83 = .ok (.iload 4, 2) := by decide +kernel
theorem dX12_isFree_85 : decode cX12_isFree 85 = .ok (.ifCond .eq 28, 3) := by decide +kernel
theorem dX12_isFree_88 : decode cX12_isFree 88 = .ok (.iload 5, 2) := by decide +kernel
theorem dX12_isFree_90 : decode cX12_isFree 90 = .ok (.iload_n 1, 1) := by decide +kernel
theorem dX12_isFree_91 : decode cX12_isFree 91 = .ok (.if_icmp .eq 18, 3) := by decide +kernel
theorem dX12_isFree_94 : decode cX12_isFree 94 = .ok (.aload_n 0, 1) := by decide +kernel
theorem dX12_isFree_95 : decode cX12_isFree 95 = .ok (.iload 5, 2) := by decide +kernel
theorem dX12_isFree_97 : decode cX12_isFree 97 = .ok (.iload_n 2, 1) := by decide +kernel
theorem dX12_isFree_98 : decode cX12_isFree 98 = .ok (.invokevirtual 173, 3) := by decide +kernel
theorem dX12_isFree_101 : decode cX12_isFree 101 = .ok (.ifCond .eq 8, 3) := by decide +kernel
theorem dX12_isFree_104 : decode cX12_isFree 104 = .ok (.iload 6, 2) := by decide +kernel
theorem dX12_isFree_106 : decode cX12_isFree 106 = .ok (.ifCond .eq 7, 3) := by decide +kernel
theorem dX12_isFree_109 : decode cX12_isFree 109 = .ok (.iconst 1, 1) := by decide +kernel
theorem dX12_isFree_110 : decode cX12_isFree 110 = .ok (.goto 4, 3) := by decide +kernel
theorem dX12_isFree_113 : decode cX12_isFree 113 = .ok (.iconst 0, 1) := by decide +kernel
theorem dX12_isFree_114 : decode cX12_isFree 114 = .ok (.istore 4, 2) := by decide +kernel
theorem dX12_isFree_116 : decode cX12_isFree 116 = .ok (.iinc 5 1, 3) := by decide +kernel
theorem dX12_isFree_119 : decode cX12_isFree 119 = .ok (.goto (-113), 3) := by decide +kernel
theorem dX12_isFree_122 : decode cX12_isFree 122 = .ok (.iload 4, 2) := by decide +kernel
theorem dX12_isFree_124 : decode cX12_isFree 124 = .ok (.ireturn, 1) := by decide +kernel
theorem dX12_weightOn_0 : decode cX12_weightOn 0 = .ok (.iconst 0, 1) := by decide +kernel
theorem dX12_weightOn_1 : decode cX12_weightOn 1 = .ok (.istore_n 3, 1) := by decide +kernel
theorem dX12_weightOn_2 : decode cX12_weightOn 2 = .ok (.iconst 0, 1) := by decide +kernel
theorem dX12_weightOn_3 : decode cX12_weightOn 3 = .ok (.istore 4, 2) := by decide +kernel
theorem dX12_weightOn_5 : decode cX12_weightOn 5 = .ok (.iload 4, 2) := by decide +kernel
theorem dX12_weightOn_7 : decode cX12_weightOn 7 = .ok (.aload_n 0, 1) := by decide +kernel
theorem dX12_weightOn_8 : decode cX12_weightOn 8 = .ok (.getfield 108, 3) := by decide +kernel
theorem dX12_weightOn_11 : decode cX12_weightOn 11 = .ok (.if_icmp .ge 39, 3) := by decide +kernel
theorem dX12_weightOn_14 : decode cX12_weightOn 14 = .ok (.iload_n 3, 1) := by decide +kernel
theorem dX12_weightOn_15 : decode cX12_weightOn 15 = .ok (.iload 4, 2) := by decide +kernel
theorem dX12_weightOn_17 : decode cX12_weightOn 17 = .ok (.iload_n 2, 1) := by decide +kernel
theorem dX12_weightOn_18 : decode cX12_weightOn 18 = .ok (.if_icmp .eq 23, 3) := by decide +kernel
theorem dX12_weightOn_21 : decode cX12_weightOn 21 = .ok (.aload_n 0, 1) := by decide +kernel
theorem dX12_weightOn_22 : decode cX12_weightOn 22 = .ok (.iload 4, 2) := by decide +kernel
theorem dX12_weightOn_24 : decode cX12_weightOn 24 = .ok (.iload_n 1, 1) := by decide +kernel
theorem dX12_weightOn_25 : decode cX12_weightOn 25 = .ok (.invokevirtual 173, 3) := by decide +kernel
theorem dX12_weightOn_28 : decode cX12_weightOn 28 = .ok (.ifCond .eq 13, 3) := by decide +kernel
theorem dX12_weightOn_31 : decode cX12_weightOn 31 = .ok (.aload_n 0, 1) := by decide +kernel
theorem dX12_weightOn_32 : decode cX12_weightOn 32 = .ok (.getfield 127, 3) := by decide +kernel
theorem dX12_weightOn_35 : decode cX12_weightOn 35 = .ok (.iload 4, 2) := by decide +kernel
theorem dX12_weightOn_37 : decode cX12_weightOn 37 = .ok (.iaload, 1) := by decide +kernel
theorem dX12_weightOn_38 : decode cX12_weightOn 38 = .ok (.goto 4, 3) := by decide +kernel
theorem dX12_weightOn_41 : decode cX12_weightOn 41 = .ok (.iconst 0, 1) := by decide +kernel
theorem dX12_weightOn_42 : decode cX12_weightOn 42 = .ok (.iadd, 1) := by decide +kernel
theorem dX12_weightOn_43 : decode cX12_weightOn 43 = .ok (.istore_n 3, 1) := by decide +kernel
theorem dX12_weightOn_44 : decode cX12_weightOn 44 = .ok (.iinc 4 1, 3) := by decide +kernel
theorem dX12_weightOn_47 : decode cX12_weightOn 47 = .ok (.goto (-42), 3) := by decide +kernel
theorem dX12_weightOn_50 : decode cX12_weightOn 50 = .ok (.iload_n 3, 1) := by decide +kernel
theorem dX12_weightOn_51 : decode cX12_weightOn 51 = .ok (.ireturn, 1) := by decide +kernel
theorem dX12_areFoes_0 : decode cX12_areFoes 0 = .ok (.aload_n 0, 1) := by decide +kernel
theorem dX12_areFoes_1 : decode cX12_areFoes 1 = .ok (.getfield 145, 3) := by decide +kernel
theorem dX12_areFoes_4 : decode cX12_areFoes 4 = .ok (.iload_n 1, 1) := by decide +kernel
theorem dX12_areFoes_5 : decode cX12_areFoes 5 = .ok (.iaload, 1) := by decide +kernel
theorem dX12_areFoes_6 : decode cX12_areFoes 6 = .ok (.iload_n 2, 1) := by decide +kernel
theorem dX12_areFoes_7 : decode cX12_areFoes 7 = .ok (.if_icmp .eq 13, 3) := by decide +kernel
theorem dX12_areFoes_10 : decode cX12_areFoes 10 = .ok (.aload_n 0, 1) := by decide +kernel
theorem dX12_areFoes_11 : decode cX12_areFoes 11 = .ok (.getfield 145, 3) := by decide +kernel
theorem dX12_areFoes_14 : decode cX12_areFoes 14 = .ok (.iload_n 2, 1) := by decide +kernel
theorem dX12_areFoes_15 : decode cX12_areFoes 15 = .ok (.iaload, 1) := by decide +kernel
theorem dX12_areFoes_16 : decode cX12_areFoes 16 = .ok (.iload_n 1, 1) := by decide +kernel
theorem dX12_areFoes_17 : decode cX12_areFoes 17 = .ok (.if_icmp .ne 7, 3) := by decide +kernel
theorem dX12_areFoes_20 : decode cX12_areFoes 20 = .ok (.iconst 1, 1) := by decide +kernel
theorem dX12_areFoes_21 : decode cX12_areFoes 21 = .ok (.goto 4, 3) := by decide +kernel
theorem dX12_areFoes_24 : decode cX12_areFoes 24 = .ok (.iconst 0, 1) := by decide +kernel
theorem dX12_areFoes_25 : decode cX12_areFoes 25 = .ok (.ireturn, 1) := by decide +kernel
theorem dX12_wrong_0 : decode cX12_wrong 0 = .ok (.iload_n 3, 1) := by decide +kernel
theorem dX12_wrong_1 : decode cX12_wrong 1 = .ok (.ifCond .lt 24, 3) := by decide +kernel
theorem dX12_wrong_4 : decode cX12_wrong 4 = .ok (.iload_n 3, 1) := by decide +kernel
theorem dX12_wrong_5 : decode cX12_wrong 5 = .ok (.i2l, 1) := by decide +kernel
theorem dX12_wrong_6 : decode cX12_wrong 6 = .ok (.aload_n 0, 1) := by decide +kernel
theorem dX12_wrong_7 : decode cX12_wrong 7 = .ok (.getfield 121, 3) := by decide +kernel
theorem dX12_wrong_10 : decode cX12_wrong 10 = .ok (.iload_n 1, 1) := by decide +kernel
theorem dX12_wrong_11 : decode cX12_wrong 11 = .ok (.iaload, 1) := by decide +kernel
theorem dX12_wrong_12 : decode cX12_wrong 12 = .ok (.i2l, 1) := by decide +kernel
theorem dX12_wrong_13 : decode cX12_wrong 13 = .ok (.ladd, 1) := by decide +kernel
theorem dX12_wrong_14 : decode cX12_wrong 14 = .ok (.aload_n 0, 1) := by decide +kernel
theorem dX12_wrong_15 : decode cX12_wrong 15 = .ok (.getfield 60, 3) := by decide +kernel
theorem dX12_wrong_18 : decode cX12_wrong 18 = .ok (.iload_n 2, 1) := by decide +kernel
theorem dX12_wrong_19 : decode cX12_wrong 19 = .ok (.iaload, 1) := by decide +kernel
theorem dX12_wrong_20 : decode cX12_wrong 20 = .ok (.i2l, 1) := by decide +kernel
theorem dX12_wrong_21 : decode cX12_wrong 21 = .ok (.lcmp, 1) := by decide +kernel
theorem dX12_wrong_22 : decode cX12_wrong 22 = .ok (.ifCond .le 5, 3) := by decide +kernel
theorem dX12_wrong_25 : decode cX12_wrong 25 = .ok (.iconst 1, 1) := by decide +kernel
theorem dX12_wrong_26 : decode cX12_wrong 26 = .ok (.ireturn, 1) := by decide +kernel
theorem dX12_wrong_27 : decode cX12_wrong 27 = .ok (.aload_n 0, 1) := by decide +kernel
theorem dX12_wrong_28 : decode cX12_wrong 28 = .ok (.iload_n 1, 1) := by decide +kernel
theorem dX12_wrong_29 : decode cX12_wrong 29 = .ok (.iload_n 2, 1) := by decide +kernel
theorem dX12_wrong_30 : decode cX12_wrong 30 = .ok (.invokevirtual 310, 3) := by decide +kernel
theorem dX12_wrong_33 : decode cX12_wrong 33 = .ok (.ifCond .ne 5, 3) := by decide +kernel
theorem dX12_wrong_36 : decode cX12_wrong 36 = .ok (.iconst 2, 1) := by decide +kernel
theorem dX12_wrong_37 : decode cX12_wrong 37 = .ok (.ireturn, 1) := by decide +kernel
theorem dX12_wrong_38 : decode cX12_wrong 38 = .ok (.aload_n 0, 1) := by decide +kernel
theorem dX12_wrong_39 : decode cX12_wrong 39 = .ok (.iload_n 1, 1) := by decide +kernel
theorem dX12_wrong_40 : decode cX12_wrong 40 = .ok (.iload_n 2, 1) := by decide +kernel
theorem dX12_wrong_41 : decode cX12_wrong 41 = .ok (.iload_n 3, 1) := by decide +kernel
theorem dX12_wrong_42 : decode cX12_wrong 42 = .ok (.invokevirtual 313, 3) := by decide +kernel
theorem dX12_wrong_45 : decode cX12_wrong 45 = .ok (.ifCond .ne 5, 3) := by decide +kernel
theorem dX12_wrong_48 : decode cX12_wrong 48 = .ok (.iconst 3, 1) := by decide +kernel
theorem dX12_wrong_49 : decode cX12_wrong 49 = .ok (.ireturn, 1) := by decide +kernel
theorem dX12_wrong_50 : decode cX12_wrong 50 = .ok (.aload_n 0, 1) := by decide +kernel
theorem dX12_wrong_51 : decode cX12_wrong 51 = .ok (.iload_n 2, 1) := by decide +kernel
theorem dX12_wrong_52 : decode cX12_wrong 52 = .ok (.iload_n 1, 1) := by decide +kernel
theorem dX12_wrong_53 : decode cX12_wrong 53 = .ok (.invokevirtual 317, 3) := by decide +kernel
theorem dX12_wrong_56 : decode cX12_wrong 56 = .ok (.aload_n 0, 1) := by decide +kernel
theorem dX12_wrong_57 : decode cX12_wrong 57 = .ok (.getfield 127, 3) := by decide +kernel
theorem dX12_wrong_60 : decode cX12_wrong 60 = .ok (.iload_n 1, 1) := by decide +kernel
theorem dX12_wrong_61 : decode cX12_wrong 61 = .ok (.iaload, 1) := by decide +kernel
theorem dX12_wrong_62 : decode cX12_wrong 62 = .ok (.iadd, 1) := by decide +kernel
theorem dX12_wrong_63 : decode cX12_wrong 63 = .ok (.aload_n 0, 1) := by decide +kernel
theorem dX12_wrong_64 : decode cX12_wrong 64 = .ok (.getfield 66, 3) := by decide +kernel
theorem dX12_wrong_67 : decode cX12_wrong 67 = .ok (.iload_n 2, 1) := by decide +kernel
theorem dX12_wrong_68 : decode cX12_wrong 68 = .ok (.iaload, 1) := by decide +kernel
theorem dX12_wrong_69 : decode cX12_wrong 69 = .ok (.if_icmp .le 5, 3) := by decide +kernel
theorem dX12_wrong_72 : decode cX12_wrong 72 = .ok (.iconst 4, 1) := by decide +kernel
theorem dX12_wrong_73 : decode cX12_wrong 73 = .ok (.ireturn, 1) := by decide +kernel
theorem dX12_wrong_74 : decode cX12_wrong 74 = .ok (.iconst 0, 1) := by decide +kernel
theorem dX12_wrong_75 : decode cX12_wrong 75 = .ok (.istore 5, 2) := by decide +kernel
theorem dX12_wrong_77 : decode cX12_wrong 77 = .ok (.iload 5, 2) := by decide +kernel
theorem dX12_wrong_79 : decode cX12_wrong 79 = .ok (.aload_n 0, 1) := by decide +kernel
theorem dX12_wrong_80 : decode cX12_wrong 80 = .ok (.getfield 108, 3) := by decide +kernel
theorem dX12_wrong_83 : decode cX12_wrong 83 = .ok (.if_icmp .ge 48, 3) := by decide +kernel
theorem dX12_wrong_86 : decode cX12_wrong 86 = .ok (.iload 4, 2) := by decide +kernel
theorem dX12_wrong_88 : decode cX12_wrong 88 = .ok (.iconst 4, 1) := by decide +kernel
theorem dX12_wrong_89 : decode cX12_wrong 89 = .ok (.if_icmp .le 42, 3) := by decide +kernel
theorem dX12_wrong_92 : decode cX12_wrong 92 = .ok (.iload 5, 2) := by decide +kernel
theorem dX12_wrong_94 : decode cX12_wrong 94 = .ok (.iload_n 1, 1) := by decide +kernel
theorem dX12_wrong_95 : decode cX12_wrong 95 = .ok (.if_icmp .eq 30, 3) := by decide +kernel
theorem dX12_wrong_98 : decode cX12_wrong 98 = .ok (.aload_n 0, 1) := by decide +kernel
theorem dX12_wrong_99 : decode cX12_wrong 99 = .ok (.iload 5, 2) := by decide +kernel
theorem dX12_wrong_101 : decode cX12_wrong 101 = .ok (.aload_n 0, 1) := by decide +kernel
theorem dX12_wrong_102 : decode cX12_wrong 102 = .ok (.getfield 57, 3) := by decide +kernel
theorem dX12_wrong_105 : decode cX12_wrong 105 = .ok (.iload_n 2, 1) := by decide +kernel
theorem dX12_wrong_106 : decode cX12_wrong 106 = .ok (.iaload, 1) := by decide +kernel
theorem dX12_wrong_107 : decode cX12_wrong 107 = .ok (.invokevirtual 285, 3) := by decide +kernel
theorem dX12_wrong_110 : decode cX12_wrong 110 = .ok (.ifCond .eq 15, 3) := by decide +kernel
theorem dX12_wrong_113 : decode cX12_wrong 113 = .ok (.aload_n 0, 1) := by decide +kernel
theorem dX12_wrong_114 : decode cX12_wrong 114 = .ok (.iload 5, 2) := by decide +kernel
theorem dX12_wrong_116 : decode cX12_wrong 116 = .ok (.iload_n 1, 1) := by decide +kernel
theorem dX12_wrong_117 : decode cX12_wrong 117 = .ok (.invokevirtual 320, 3) := by decide +kernel
theorem dX12_wrong_120 : decode cX12_wrong 120 = .ok (.ifCond .eq 5, 3) := by decide +kernel
theorem dX12_wrong_123 : decode cX12_wrong 123 = .ok (.iconst 5, 1) := by decide +kernel
theorem dX12_wrong_124 : decode cX12_wrong 124 = .ok (.ireturn, 1) := by decide +kernel
theorem dX12_wrong_125 : decode cX12_wrong 125 = .ok (.iinc 5 1, 3) := by decide +kernel
theorem dX12_wrong_128 : decode cX12_wrong 128 = .ok (.goto (-51), 3) := by decide +kernel
theorem dX12_wrong_131 : decode cX12_wrong 131 = .ok (.iload 4, 2) := by decide +kernel
theorem dX12_wrong_133 : decode cX12_wrong 133 = .ok (.iconst 5, 1) := by decide +kernel
theorem dX12_wrong_134 : decode cX12_wrong 134 = .ok (.if_icmp .le 18, 3) := by decide +kernel
theorem dX12_wrong_137 : decode cX12_wrong 137 = .ok (.aload_n 0, 1) := by decide +kernel
theorem dX12_wrong_138 : decode cX12_wrong 138 = .ok (.iload_n 1, 1) := by decide +kernel
theorem dX12_wrong_139 : decode cX12_wrong 139 = .ok (.iload_n 2, 1) := by decide +kernel
theorem dX12_wrong_140 : decode cX12_wrong 140 = .ok (.iload_n 3, 1) := by decide +kernel
theorem dX12_wrong_141 : decode cX12_wrong 141 = .ok (.invokevirtual 307, 3) := by decide +kernel
theorem dX12_wrong_144 : decode cX12_wrong 144 = .ok (.ifCond .lt 8, 3) := by decide +kernel
theorem dX12_wrong_147 : decode cX12_wrong 147 = .ok (.bipush 6, 2) := by decide +kernel
theorem dX12_wrong_149 : decode cX12_wrong 149 = .ok (.goto 4, 3) := by decide +kernel
theorem dX12_wrong_152 : decode cX12_wrong 152 = .ok (.iconst 0, 1) := by decide +kernel
theorem dX12_wrong_153 : decode cX12_wrong 153 = .ok (.ireturn, 1) := by decide +kernel
theorem dX12_isHere_0 : decode cX12_isHere 0 = .ok (.aload_n 0, 1) := by decide +kernel
theorem dX12_isHere_1 : decode cX12_isHere 1 = .ok (.iload_n 1, 1) := by decide +kernel
theorem dX12_isHere_2 : decode cX12_isHere 2 = .ok (.invokevirtual 161, 3) := by decide +kernel
theorem dX12_isHere_5 : decode cX12_isHere 5 = .ok (.ifCond .eq 17, 3) := by decide +kernel
theorem dX12_isHere_8 : decode cX12_isHere 8 = .ok (.aload_n 0, 1) := by decide +kernel
theorem dX12_isHere_9 : decode cX12_isHere 9 = .ok (.getfield 170, 3) := by decide +kernel
theorem dX12_isHere_12 : decode cX12_isHere 12 = .ok (.iload_n 1, 1) := by decide +kernel
theorem dX12_isHere_13 : decode cX12_isHere 13 = .ok (.iaload, 1) := by decide +kernel
theorem dX12_isHere_14 : decode cX12_isHere 14 = .ok (.iconst 2, 1) := by decide +kernel
theorem dX12_isHere_15 : decode cX12_isHere 15 = .ok (.if_icmp .ge 7, 3) := by decide +kernel
theorem dX12_isHere_18 : decode cX12_isHere 18 = .ok (.iconst 1, 1) := by decide +kernel
theorem dX12_isHere_19 : decode cX12_isHere 19 = .ok (.goto 4, 3) := by decide +kernel
theorem dX12_isHere_22 : decode cX12_isHere 22 = .ok (.iconst 0, 1) := by decide +kernel
theorem dX12_isHere_23 : decode cX12_isHere 23 = .ok (.ireturn, 1) := by decide +kernel
theorem dX12_fits_0 : decode cX12_fits 0 = .ok (.aload_n 0, 1) := by decide +kernel
theorem dX12_fits_1 : decode cX12_fits 1 = .ok (.iconst 0, 1) := by decide +kernel
theorem dX12_fits_2 : decode cX12_fits 2 = .ok (.putfield 1, 3) := by decide +kernel
theorem dX12_fits_5 : decode cX12_fits 5 = .ok (.aload_n 0, 1) := by decide +kernel
theorem dX12_fits_6 : decode cX12_fits 6 = .ok (.iload_n 1, 1) := by decide +kernel
theorem dX12_fits_7 : decode cX12_fits 7 = .ok (.invokevirtual 323, 3) := by decide +kernel
theorem dX12_fits_10 : decode cX12_fits 10 = .ok (.ifCond .eq 23, 3) := by decide +kernel
theorem dX12_fits_13 : decode cX12_fits 13 = .ok (.aload_n 0, 1) := by decide +kernel
theorem dX12_fits_14 : decode cX12_fits 14 = .ok (.iload_n 2, 1) := by decide +kernel
theorem dX12_fits_15 : decode cX12_fits 15 = .ok (.invokevirtual 90, 3) := by decide +kernel
theorem dX12_fits_18 : decode cX12_fits 18 = .ok (.ifCond .eq 15, 3) := by decide +kernel
theorem dX12_fits_21 : decode cX12_fits 21 = .ok (.aload_n 0, 1) := by decide +kernel
theorem dX12_fits_22 : decode cX12_fits 22 = .ok (.iload_n 1, 1) := by decide +kernel
theorem dX12_fits_23 : decode cX12_fits 23 = .ok (.iload_n 2, 1) := by decide +kernel
theorem dX12_fits_24 : decode cX12_fits 24 = .ok (.iload_n 3, 1) := by decide +kernel
theorem dX12_fits_25 : decode cX12_fits 25 = .ok (.bipush 6, 2) := by decide +kernel
theorem dX12_fits_27 : decode cX12_fits 27 = .ok (.invokevirtual 326, 3) := by decide +kernel
theorem dX12_fits_30 : decode cX12_fits 30 = .ok (.goto 4, 3) := by decide +kernel
theorem dX12_fits_33 : decode cX12_fits 33 = .ok (.iconst (-1), 1) := by decide +kernel
theorem dX12_fits_34 : decode cX12_fits 34 = .ok (.ireturn, 1) := by decide +kernel
theorem dX12_puts_0 : decode cX12_puts 0 = .ok (.aload_n 0, 1) := by decide +kernel
theorem dX12_puts_1 : decode cX12_puts 1 = .ok (.getfield 170, 3) := by decide +kernel
theorem dX12_puts_4 : decode cX12_puts 4 = .ok (.iload_n 1, 1) := by decide +kernel
theorem dX12_puts_5 : decode cX12_puts 5 = .ok (.iconst 1, 1) := by decide +kernel
theorem dX12_puts_6 : decode cX12_puts 6 = .ok (.iastore, 1) := by decide +kernel
theorem dX12_puts_7 : decode cX12_puts 7 = .ok (.aload_n 0, 1) := by decide +kernel
theorem dX12_puts_8 : decode cX12_puts 8 = .ok (.getfield 155, 3) := by decide +kernel
theorem dX12_puts_11 : decode cX12_puts 11 = .ok (.iload_n 1, 1) := by decide +kernel
theorem dX12_puts_12 : decode cX12_puts 12 = .ok (.iload_n 2, 1) := by decide +kernel
theorem dX12_puts_13 : decode cX12_puts 13 = .ok (.iastore, 1) := by decide +kernel
theorem dX12_puts_14 : decode cX12_puts 14 = .ok (.aload_n 0, 1) := by decide +kernel
theorem dX12_puts_15 : decode cX12_puts 15 = .ok (.getfield 158, 3) := by decide +kernel
theorem dX12_puts_18 : decode cX12_puts 18 = .ok (.iload_n 1, 1) := by decide +kernel
theorem dX12_puts_19 : decode cX12_puts 19 = .ok (.iload_n 3, 1) := by decide +kernel
theorem dX12_puts_20 : decode cX12_puts 20 = .ok (.iastore, 1) := by decide +kernel
theorem dX12_puts_21 : decode cX12_puts 21 = .ok (.return_, 1) := by decide +kernel
theorem dX12_takes_0 : decode cX12_takes 0 = .ok (.aload_n 0, 1) := by decide +kernel
theorem dX12_takes_1 : decode cX12_takes 1 = .ok (.getfield 170, 3) := by decide +kernel
theorem dX12_takes_4 : decode cX12_takes 4 = .ok (.iload_n 1, 1) := by decide +kernel
theorem dX12_takes_5 : decode cX12_takes 5 = .ok (.iload_n 2, 1) := by decide +kernel
theorem dX12_takes_6 : decode cX12_takes 6 = .ok (.iastore, 1) := by decide +kernel
theorem dX12_takes_7 : decode cX12_takes 7 = .ok (.aload_n 0, 1) := by decide +kernel
theorem dX12_takes_8 : decode cX12_takes 8 = .ok (.getfield 155, 3) := by decide +kernel
theorem dX12_takes_11 : decode cX12_takes 11 = .ok (.iload_n 1, 1) := by decide +kernel
theorem dX12_takes_12 : decode cX12_takes 12 = .ok (.iconst (-1), 1) := by decide +kernel
theorem dX12_takes_13 : decode cX12_takes 13 = .ok (.iastore, 1) := by decide +kernel
theorem dX12_takes_14 : decode cX12_takes 14 = .ok (.aload_n 0, 1) := by decide +kernel
theorem dX12_takes_15 : decode cX12_takes 15 = .ok (.getfield 158, 3) := by decide +kernel
theorem dX12_takes_18 : decode cX12_takes 18 = .ok (.iload_n 1, 1) := by decide +kernel
theorem dX12_takes_19 : decode cX12_takes 19 = .ok (.iconst (-1), 1) := by decide +kernel
theorem dX12_takes_20 : decode cX12_takes 20 = .ok (.iastore, 1) := by decide +kernel
theorem dX12_takes_21 : decode cX12_takes 21 = .ok (.return_, 1) := by decide +kernel
theorem dX12_hang_0 : decode cX12_hang 0 = .ok (.aload_n 0, 1) := by decide +kernel
theorem dX12_hang_1 : decode cX12_hang 1 = .ok (.iconst 0, 1) := by decide +kernel
theorem dX12_hang_2 : decode cX12_hang 2 = .ok (.putfield 1, 3) := by decide +kernel
theorem dX12_hang_5 : decode cX12_hang 5 = .ok (.aload_n 0, 1) := by decide +kernel
theorem dX12_hang_6 : decode cX12_hang 6 = .ok (.iload_n 1, 1) := by decide +kernel
theorem dX12_hang_7 : decode cX12_hang 7 = .ok (.invokevirtual 323, 3) := by decide +kernel
theorem dX12_hang_10 : decode cX12_hang 10 = .ok (.ifCond .eq 11, 3) := by decide +kernel
theorem dX12_hang_13 : decode cX12_hang 13 = .ok (.aload_n 0, 1) := by decide +kernel
theorem dX12_hang_14 : decode cX12_hang 14 = .ok (.iload_n 2, 1) := by decide +kernel
theorem dX12_hang_15 : decode cX12_hang 15 = .ok (.invokevirtual 90, 3) := by decide +kernel
theorem dX12_hang_18 : decode cX12_hang 18 = .ok (.ifCond .ne 5, 3) := by decide +kernel
theorem dX12_hang_21 : decode cX12_hang 21 = .ok (.iconst (-1), 1) := by decide +kernel
theorem dX12_hang_22 : decode cX12_hang 22 = .ok (.ireturn, 1) := by decide +kernel
theorem dX12_hang_23 : decode cX12_hang 23 = .ok (.aload_n 0, 1) := by decide +kernel
theorem dX12_hang_24 : decode cX12_hang 24 = .ok (.iload_n 1, 1) := by decide +kernel
theorem dX12_hang_25 : decode cX12_hang 25 = .ok (.iload_n 2, 1) := by decide +kernel
theorem dX12_hang_26 : decode cX12_hang 26 = .ok (.iload_n 3, 1) := by decide +kernel
theorem dX12_hang_27 : decode cX12_hang 27 = .ok (.bipush 6, 2) := by decide +kernel
theorem dX12_hang_29 : decode cX12_hang 29 = .ok (.invokevirtual 326, 3) := by decide +kernel
theorem dX12_hang_32 : decode cX12_hang 32 = .ok (.istore 4, 2) := by decide +kernel
theorem dX12_hang_34 : decode cX12_hang 34 = .ok (.iload 4, 2) := by decide +kernel
theorem dX12_hang_36 : decode cX12_hang 36 = .ok (.ifCond .ne 10, 3) := by decide +kernel
theorem dX12_hang_39 : decode cX12_hang 39 = .ok (.aload_n 0, 1) := by decide +kernel
theorem dX12_hang_40 : decode cX12_hang 40 = .ok (.iload_n 1, 1) := by decide +kernel
theorem dX12_hang_41 : decode cX12_hang 41 = .ok (.iload_n 2, 1) := by decide +kernel
theorem dX12_hang_42 : decode cX12_hang 42 = .ok (.iload_n 3, 1) := by decide +kernel
theorem dX12_hang_43 : decode cX12_hang 43 = .ok (.invokevirtual 330, 3) := by decide +kernel
theorem dX12_hang_46 : decode cX12_hang 46 = .ok (.iload 4, 2) := by decide +kernel
theorem dX12_hang_48 : decode cX12_hang 48 = .ok (.ireturn, 1) := by decide +kernel
theorem dX12_store_0 : decode cX12_store 0 = .ok (.aload_n 0, 1) := by decide +kernel
theorem dX12_store_1 : decode cX12_store 1 = .ok (.iconst 0, 1) := by decide +kernel
theorem dX12_store_2 : decode cX12_store 2 = .ok (.putfield 1, 3) := by decide +kernel
theorem dX12_store_5 : decode cX12_store 5 = .ok (.aload_n 0, 1) := by decide +kernel
theorem dX12_store_6 : decode cX12_store 6 = .ok (.iload_n 1, 1) := by decide +kernel
theorem dX12_store_7 : decode cX12_store 7 = .ok (.invokevirtual 161, 3) := by decide +kernel
theorem dX12_store_10 : decode cX12_store 10 = .ok (.ifCond .eq 22, 3) := by decide +kernel
theorem dX12_store_13 : decode cX12_store 13 = .ok (.aload_n 0, 1) := by decide +kernel
theorem dX12_store_14 : decode cX12_store 14 = .ok (.getfield 170, 3) := by decide +kernel
theorem dX12_store_17 : decode cX12_store 17 = .ok (.iload_n 1, 1) := by decide +kernel
theorem dX12_store_18 : decode cX12_store 18 = .ok (.iaload, 1) := by decide +kernel
theorem dX12_store_19 : decode cX12_store 19 = .ok (.ifCond .eq 13, 3) := by decide +kernel
theorem dX12_store_22 : decode cX12_store 22 = .ok (.aload_n 0, 1) := by decide +kernel
theorem dX12_store_23 : decode cX12_store 23 = .ok (.getfield 170, 3) := by decide +kernel
theorem dX12_store_26 : decode cX12_store 26 = .ok (.iload_n 1, 1) := by decide +kernel
theorem dX12_store_27 : decode cX12_store 27 = .ok (.iaload, 1) := by decide +kernel
theorem dX12_store_28 : decode cX12_store 28 = .ok (.iconst 3, 1) := by decide +kernel
theorem dX12_store_29 : decode cX12_store 29 = .ok (.if_icmp .ne 5, 3) := by decide +kernel
theorem dX12_store_32 : decode cX12_store 32 = .ok (.iconst 0, 1) := by decide +kernel
theorem dX12_store_33 : decode cX12_store 33 = .ok (.ireturn, 1) := by decide +kernel
theorem dX12_store_34 : decode cX12_store 34 = .ok (.aload_n 0, 1) := by decide +kernel
theorem dX12_store_35 : decode cX12_store 35 = .ok (.iload_n 1, 1) := by decide +kernel
theorem dX12_store_36 : decode cX12_store 36 = .ok (.iconst 0, 1) := by decide +kernel
theorem dX12_store_37 : decode cX12_store 37 = .ok (.invokevirtual 334, 3) := by decide +kernel
theorem dX12_store_40 : decode cX12_store 40 = .ok (.iconst 1, 1) := by decide +kernel
theorem dX12_store_41 : decode cX12_store 41 = .ok (.ireturn, 1) := by decide +kernel
theorem dX12_send_0 : decode cX12_send 0 = .ok (.aload_n 0, 1) := by decide +kernel
theorem dX12_send_1 : decode cX12_send 1 = .ok (.iconst 0, 1) := by decide +kernel
theorem dX12_send_2 : decode cX12_send 2 = .ok (.putfield 1, 3) := by decide +kernel
theorem dX12_send_5 : decode cX12_send 5 = .ok (.aload_n 0, 1) := by decide +kernel
theorem dX12_send_6 : decode cX12_send 6 = .ok (.iload_n 1, 1) := by decide +kernel
theorem dX12_send_7 : decode cX12_send 7 = .ok (.invokevirtual 323, 3) := by decide +kernel
theorem dX12_send_10 : decode cX12_send 10 = .ok (.ifCond .ne 5, 3) := by decide +kernel
theorem dX12_send_13 : decode cX12_send 13 = .ok (.iconst 0, 1) := by decide +kernel
theorem dX12_send_14 : decode cX12_send 14 = .ok (.ireturn, 1) := by decide +kernel
theorem dX12_send_15 : decode cX12_send 15 = .ok (.aload_n 0, 1) := by decide +kernel
theorem dX12_send_16 : decode cX12_send 16 = .ok (.iload_n 1, 1) := by decide +kernel
theorem dX12_send_17 : decode cX12_send 17 = .ok (.iconst 2, 1) := by decide +kernel
theorem dX12_send_18 : decode cX12_send 18 = .ok (.invokevirtual 334, 3) := by decide +kernel
theorem dX12_send_21 : decode cX12_send 21 = .ok (.iconst 1, 1) := by decide +kernel
theorem dX12_send_22 : decode cX12_send 22 = .ok (.ireturn, 1) := by decide +kernel
theorem dX12_at_0 : decode cX12_at 0 = .ok (.aload_n 0, 1) := by decide +kernel
theorem dX12_at_1 : decode cX12_at 1 = .ok (.iconst 0, 1) := by decide +kernel
theorem dX12_at_2 : decode cX12_at 2 = .ok (.putfield 1, 3) := by decide +kernel
theorem dX12_at_5 : decode cX12_at 5 = .ok (.aload_n 0, 1) := by decide +kernel
theorem dX12_at_6 : decode cX12_at 6 = .ok (.iload_n 1, 1) := by decide +kernel
theorem dX12_at_7 : decode cX12_at 7 = .ok (.invokevirtual 161, 3) := by decide +kernel
theorem dX12_at_10 : decode cX12_at 10 = .ok (.ifCond .ne 8, 3) := by decide +kernel
theorem dX12_at_13 : decode cX12_at 13 = .ok (.aload_n 0, 1) := by decide +kernel
theorem dX12_at_14 : decode cX12_at 14 = .ok (.invokevirtual 338, 3) := by decide +kernel
theorem dX12_at_17 : decode cX12_at 17 = .ok (.ireturn, 1) := by decide +kernel
theorem dX12_at_18 : decode cX12_at 18 = .ok (.aload_n 0, 1) := by decide +kernel
theorem dX12_at_19 : decode cX12_at 19 = .ok (.getfield 170, 3) := by decide +kernel
theorem dX12_at_22 : decode cX12_at 22 = .ok (.iload_n 1, 1) := by decide +kernel
theorem dX12_at_23 : decode cX12_at 23 = .ok (.iaload, 1) := by decide +kernel
theorem dX12_at_24 : decode cX12_at 24 = .ok (.iconst 1, 1) := by decide +kernel
theorem dX12_at_25 : decode cX12_at 25 = .ok (.if_icmp .ne 7, 3) := by decide +kernel
theorem dX12_at_28 : decode cX12_at 28 = .ok (.iconst 1, 1) := by decide +kernel
theorem dX12_at_29 : decode cX12_at 29 = .ok (.goto 4, 3) := by decide +kernel
theorem dX12_at_32 : decode cX12_at 32 = .ok (.iconst 0, 1) := by decide +kernel
theorem dX12_at_33 : decode cX12_at 33 = .ok (.istore_n 3, 1) := by decide +kernel
theorem dX12_at_34 : decode cX12_at 34 = .ok (.iload_n 2, 1) := by decide +kernel
theorem dX12_at_35 : decode cX12_at 35 = .ok (.tableswitch 154 0 7 #[45, 52, 59, 66, 73, 100, 127, 147], 45) := by decide +kernel
theorem dX12_at_80 : decode cX12_at 80 = .ok (.aload_n 0, 1) := by decide +kernel
theorem dX12_at_81 : decode cX12_at 81 = .ok (.getfield 170, 3) := by decide +kernel
theorem dX12_at_84 : decode cX12_at 84 = .ok (.iload_n 1, 1) := by decide +kernel
theorem dX12_at_85 : decode cX12_at 85 = .ok (.iaload, 1) := by decide +kernel
theorem dX12_at_86 : decode cX12_at 86 = .ok (.ireturn, 1) := by decide +kernel
theorem dX12_at_87 : decode cX12_at 87 = .ok (.aload_n 0, 1) := by decide +kernel
theorem dX12_at_88 : decode cX12_at 88 = .ok (.getfield 155, 3) := by decide +kernel
theorem dX12_at_91 : decode cX12_at 91 = .ok (.iload_n 1, 1) := by decide +kernel
theorem dX12_at_92 : decode cX12_at 92 = .ok (.iaload, 1) := by decide +kernel
theorem dX12_at_93 : decode cX12_at 93 = .ok (.ireturn, 1) := by decide +kernel
theorem dX12_at_94 : decode cX12_at 94 = .ok (.aload_n 0, 1) := by decide +kernel
theorem dX12_at_95 : decode cX12_at 95 = .ok (.getfield 158, 3) := by decide +kernel
theorem dX12_at_98 : decode cX12_at 98 = .ok (.iload_n 1, 1) := by decide +kernel
theorem dX12_at_99 : decode cX12_at 99 = .ok (.iaload, 1) := by decide +kernel
theorem dX12_at_100 : decode cX12_at 100 = .ok (.ireturn, 1) := by decide +kernel
theorem dX12_at_101 : decode cX12_at 101 = .ok (.aload_n 0, 1) := by decide +kernel
theorem dX12_at_102 : decode cX12_at 102 = .ok (.getfield 298, 3) := by decide +kernel
theorem dX12_at_105 : decode cX12_at 105 = .ok (.iload_n 1, 1) := by decide +kernel
theorem dX12_at_106 : decode cX12_at 106 = .ok (.iaload, 1) := by decide +kernel
theorem dX12_at_107 : decode cX12_at 107 = .ok (.ireturn, 1) := by decide +kernel
theorem dX12_at_108 : decode cX12_at 108 = .ok (.iload_n 3, 1) := by decide +kernel
theorem dX12_at_109 : decode cX12_at 109 = .ok (.ifCond .eq 24, 3) := by decide +kernel
theorem dX12_at_112 : decode cX12_at 112 = .ok (.aload_n 0, 1) := by decide +kernel
theorem dX12_at_113 : decode cX12_at 113 = .ok (.aload_n 0, 1) := by decide +kernel
theorem dX12_at_114 : decode cX12_at 114 = .ok (.getfield 155, 3) := by decide +kernel
theorem dX12_at_117 : decode cX12_at 117 = .ok (.iload_n 1, 1) := by decide +kernel
theorem dX12_at_118 : decode cX12_at 118 = .ok (.iaload, 1) := by decide +kernel
theorem dX12_at_119 : decode cX12_at 119 = .ok (.aload_n 0, 1) := by decide +kernel
theorem dX12_at_120 : decode cX12_at 120 = .ok (.getfield 158, 3) := by decide +kernel
theorem dX12_at_123 : decode cX12_at 123 = .ok (.iload_n 1, 1) := by decide +kernel
theorem dX12_at_124 : decode cX12_at 124 = .ok (.iaload, 1) := by decide +kernel
theorem dX12_at_125 : decode cX12_at 125 = .ok (.iload_n 1, 1) := by decide +kernel
theorem dX12_at_126 : decode cX12_at 126 = .ok (.iconst 1, 1) := by decide +kernel
theorem dX12_at_127 : decode cX12_at 127 = .ok (.invokevirtual 288, 3) := by decide +kernel
theorem dX12_at_130 : decode cX12_at 130 = .ok (.goto 4, 3) := by decide +kernel
theorem dX12_at_133 : decode cX12_at 133 = .ok (.iconst (-1), 1) := by decide +kernel
theorem dX12_at_134 : decode cX12_at 134 = .ok (.ireturn, 1) := by decide +kernel
theorem dX12_at_135 : decode cX12_at 135 = .ok (.iload_n 3, 1) := by decide +kernel
theorem dX12_at_136 : decode cX12_at 136 = .ok (.ifCond .eq 24, 3) := by decide +kernel
theorem dX12_at_139 : decode cX12_at 139 = .ok (.aload_n 0, 1) := by decide +kernel
theorem dX12_at_140 : decode cX12_at 140 = .ok (.aload_n 0, 1) := by decide +kernel
theorem dX12_at_141 : decode cX12_at 141 = .ok (.getfield 155, 3) := by decide +kernel
theorem dX12_at_144 : decode cX12_at 144 = .ok (.iload_n 1, 1) := by decide +kernel
theorem dX12_at_145 : decode cX12_at 145 = .ok (.iaload, 1) := by decide +kernel
theorem dX12_at_146 : decode cX12_at 146 = .ok (.aload_n 0, 1) := by decide +kernel
theorem dX12_at_147 : decode cX12_at 147 = .ok (.getfield 158, 3) := by decide +kernel
theorem dX12_at_150 : decode cX12_at 150 = .ok (.iload_n 1, 1) := by decide +kernel
theorem dX12_at_151 : decode cX12_at 151 = .ok (.iaload, 1) := by decide +kernel
theorem dX12_at_152 : decode cX12_at 152 = .ok (.iload_n 1, 1) := by decide +kernel
theorem dX12_at_153 : decode cX12_at 153 = .ok (.iconst 0, 1) := by decide +kernel
theorem dX12_at_154 : decode cX12_at 154 = .ok (.invokevirtual 288, 3) := by decide +kernel
theorem dX12_at_157 : decode cX12_at 157 = .ok (.goto 4, 3) := by decide +kernel
theorem dX12_at_160 : decode cX12_at 160 = .ok (.iconst (-1), 1) := by decide +kernel
theorem dX12_at_161 : decode cX12_at 161 = .ok (.ireturn, 1) := by decide +kernel
theorem dX12_at_162 : decode cX12_at 162 = .ok (.iload_n 3, 1) := by decide +kernel
theorem dX12_at_163 : decode cX12_at 163 = .ok (.ifCond .eq 17, 3) := by decide +kernel
theorem dX12_at_166 : decode cX12_at 166 = .ok (.aload_n 0, 1) := by decide +kernel
theorem dX12_at_167 : decode cX12_at 167 = .ok (.getfield 57, 3) := by decide +kernel
theorem dX12_at_170 : decode cX12_at 170 = .ok (.aload_n 0, 1) := by decide +kernel
theorem dX12_at_171 : decode cX12_at 171 = .ok (.getfield 155, 3) := by decide +kernel
theorem dX12_at_174 : decode cX12_at 174 = .ok (.iload_n 1, 1) := by decide +kernel
theorem dX12_at_175 : decode cX12_at 175 = .ok (.iaload, 1) := by decide +kernel
theorem dX12_at_176 : decode cX12_at 176 = .ok (.iaload, 1) := by decide +kernel
theorem dX12_at_177 : decode cX12_at 177 = .ok (.goto 4, 3) := by decide +kernel
theorem dX12_at_180 : decode cX12_at 180 = .ok (.iconst (-1), 1) := by decide +kernel
theorem dX12_at_181 : decode cX12_at 181 = .ok (.ireturn, 1) := by decide +kernel
theorem dX12_at_182 : decode cX12_at 182 = .ok (.aload_n 0, 1) := by decide +kernel
theorem dX12_at_183 : decode cX12_at 183 = .ok (.getfield 142, 3) := by decide +kernel
theorem dX12_at_186 : decode cX12_at 186 = .ok (.iload_n 1, 1) := by decide +kernel
theorem dX12_at_187 : decode cX12_at 187 = .ok (.iaload, 1) := by decide +kernel
theorem dX12_at_188 : decode cX12_at 188 = .ok (.ireturn, 1) := by decide +kernel
theorem dX12_at_189 : decode cX12_at 189 = .ok (.aload_n 0, 1) := by decide +kernel
theorem dX12_at_190 : decode cX12_at 190 = .ok (.invokevirtual 338, 3) := by decide +kernel
theorem dX12_at_193 : decode cX12_at 193 = .ok (.ireturn, 1) := by decide +kernel
theorem dX12_entersWall_0 : decode cX12_entersWall 0 = .ok (.aload_n 0, 1) := by decide +kernel
theorem dX12_entersWall_1 : decode cX12_entersWall 1 = .ok (.getfield 11, 3) := by decide +kernel
theorem dX12_entersWall_4 : decode cX12_entersWall 4 = .ok (.istore_n 2, 1) := by decide +kernel
theorem dX12_entersWall_5 : decode cX12_entersWall 5 = .ok (.iconst 0, 1) := by decide +kernel
theorem dX12_entersWall_6 : decode cX12_entersWall 6 = .ok (.istore_n 3, 1) := by decide +kernel
theorem dX12_entersWall_7 : decode cX12_entersWall 7 = .ok (.iload_n 3, 1) := by decide +kernel
theorem dX12_entersWall_8 : decode cX12_entersWall 8 = .ok (.aload_n 0, 1) := by decide +kernel
theorem dX12_entersWall_9 : decode cX12_entersWall 9 = .ok (.getfield 108, 3) := by decide +kernel
theorem dX12_entersWall_12 : decode cX12_entersWall 12 = .ok (.if_icmp .ge 96, 3) := by decide +kernel
theorem dX12_entersWall_15 : decode cX12_entersWall 15 = .ok (.aload_n 0, 1) := by decide +kernel
theorem dX12_entersWall_16 : decode cX12_entersWall 16 = .ok (.iload_n 3, 1) := by decide +kernel
theorem dX12_entersWall_17 : decode cX12_entersWall 17 = .ok (.iload_n 1, 1) := by decide +kernel
theorem dX12_entersWall_18 : decode cX12_entersWall 18 = .ok (.invokevirtual 173, 3) := by decide +kernel
theorem dX12_entersWall_21 : decode cX12_entersWall 21 = .ok (.ifCond .ne 6, 3) := by decide +kernel
theorem dX12_entersWall_24 : decode cX12_entersWall 24 = .ok (.goto 78, 3) := by decide +kernel
theorem dX12_entersWall_27 : decode cX12_entersWall 27 = .ok (.aload_n 0, 1) := by decide +kernel
theorem dX12_entersWall_28 : decode cX12_entersWall 28 = .ok (.getfield 11, 3) := by decide +kernel
theorem dX12_entersWall_31 : decode cX12_entersWall 31 = .ok (.istore 4, 2) := by decide +kernel
theorem dX12_entersWall_33 : decode cX12_entersWall 33 = .ok (.iload 4, 2) := by decide +kernel
theorem dX12_entersWall_35 : decode cX12_entersWall 35 = .ok (.iload_n 2, 1) := by decide +kernel
theorem dX12_entersWall_36 : decode cX12_entersWall 36 = .ok (.if_icmp .le 48, 3) := by decide +kernel
theorem dX12_entersWall_39 : decode cX12_entersWall 39 = .ok (.aload_n 0, 1) := by decide +kernel
theorem dX12_entersWall_40 : decode cX12_entersWall 40 = .ok (.getfield 158, 3) := by decide +kernel
theorem dX12_entersWall_43 : decode cX12_entersWall 43 = .ok (.aload_n 0, 1) := by decide +kernel
theorem dX12_entersWall_44 : decode cX12_entersWall 44 = .ok (.getfield 7, 3) := by decide +kernel
theorem dX12_entersWall_47 : decode cX12_entersWall 47 = .ok (.iload 4, 2) := by decide +kernel
theorem dX12_entersWall_49 : decode cX12_entersWall 49 = .ok (.iconst 1, 1) := by decide +kernel
theorem dX12_entersWall_50 : decode cX12_entersWall 50 = .ok (.isub, 1) := by decide +kernel
theorem dX12_entersWall_51 : decode cX12_entersWall 51 = .ok (.iaload, 1) := by decide +kernel
theorem dX12_entersWall_52 : decode cX12_entersWall 52 = .ok (.iaload, 1) := by decide +kernel
theorem dX12_entersWall_53 : decode cX12_entersWall 53 = .ok (.aload_n 0, 1) := by decide +kernel
theorem dX12_entersWall_54 : decode cX12_entersWall 54 = .ok (.getfield 158, 3) := by decide +kernel
theorem dX12_entersWall_57 : decode cX12_entersWall 57 = .ok (.iload_n 3, 1) := by decide +kernel
theorem dX12_entersWall_58 : decode cX12_entersWall 58 = .ok (.iaload, 1) := by decide +kernel
theorem dX12_entersWall_59 : decode cX12_entersWall 59 = .ok (.if_icmp .le 25, 3) := by decide +kernel
theorem dX12_entersWall_62 : decode cX12_entersWall 62 = .ok (.aload_n 0, 1) := by decide +kernel
theorem dX12_entersWall_63 : decode cX12_entersWall 63 = .ok (.getfield 7, 3) := by decide +kernel
theorem dX12_entersWall_66 : decode cX12_entersWall 66 = .ok (.iload 4, 2) := by decide +kernel
theorem dX12_entersWall_68 : decode cX12_entersWall 68 = .ok (.aload_n 0, 1) := by decide +kernel
theorem dX12_entersWall_69 : decode cX12_entersWall 69 = .ok (.getfield 7, 3) := by decide +kernel
theorem dX12_entersWall_72 : decode cX12_entersWall 72 = .ok (.iload 4, 2) := by decide +kernel
theorem dX12_entersWall_74 : decode cX12_entersWall 74 = .ok (.iconst 1, 1) := by decide +kernel
theorem dX12_entersWall_75 : decode cX12_entersWall 75 = .ok (.isub, 1) := by decide +kernel
theorem dX12_entersWall_76 : decode cX12_entersWall 76 = .ok (.iaload, 1) := by decide +kernel
theorem dX12_entersWall_77 : decode cX12_entersWall 77 = .ok (.iastore, 1) := by decide +kernel
theorem dX12_entersWall_78 : decode cX12_entersWall 78 = .ok (.iinc 4 (-1), 3) := by decide +kernel
theorem dX12_entersWall_81 : decode cX12_entersWall 81 = .ok (.goto (-48), 3) := by decide +kernel
theorem dX12_entersWall_84 : decode cX12_entersWall 84 = .ok (.aload_n 0, 1) := by decide +kernel
theorem dX12_entersWall_85 : decode cX12_entersWall 85 = .ok (.getfield 7, 3) := by decide +kernel
theorem dX12_entersWall_88 : decode cX12_entersWall 88 = .ok (.iload 4, 2) := by decide +kernel
theorem dX12_entersWall_90 : decode cX12_entersWall 90 = .ok (.iload_n 3, 1) := by decide +kernel
theorem dX12_entersWall_91 : decode cX12_entersWall 91 = .ok (.iastore, 1) := by decide +kernel
theorem dX12_entersWall_92 : decode cX12_entersWall 92 = .ok (.aload_n 0, 1) := by decide +kernel
theorem dX12_entersWall_93 : decode cX12_entersWall 93 = .ok (.dup, 1) := by decide +kernel
theorem dX12_entersWall_94 : decode cX12_entersWall 94 = .ok (.getfield 11, 3) := by decide +kernel
theorem dX12_entersWall_97 : decode cX12_entersWall 97 = .ok (.iconst 1, 1) := by decide +kernel
theorem dX12_entersWall_98 : decode cX12_entersWall 98 = .ok (.iadd, 1) := by decide +kernel
theorem dX12_entersWall_99 : decode cX12_entersWall 99 = .ok (.putfield 11, 3) := by decide +kernel
theorem dX12_entersWall_102 : decode cX12_entersWall 102 = .ok (.iinc 3 1, 3) := by decide +kernel
theorem dX12_entersWall_105 : decode cX12_entersWall 105 = .ok (.goto (-98), 3) := by decide +kernel
theorem dX12_entersWall_108 : decode cX12_entersWall 108 = .ok (.return_, 1) := by decide +kernel
theorem dX12_on_0 : decode cX12_on 0 = .ok (.aload_n 0, 1) := by decide +kernel
theorem dX12_on_1 : decode cX12_on 1 = .ok (.iconst 0, 1) := by decide +kernel
theorem dX12_on_2 : decode cX12_on 2 = .ok (.putfield 1, 3) := by decide +kernel
theorem dX12_on_5 : decode cX12_on 5 = .ok (.aload_n 0, 1) := by decide +kernel
theorem dX12_on_6 : decode cX12_on 6 = .ok (.iload_n 1, 1) := by decide +kernel
theorem dX12_on_7 : decode cX12_on 7 = .ok (.invokevirtual 90, 3) := by decide +kernel
theorem dX12_on_10 : decode cX12_on 10 = .ok (.ifCond .ne 5, 3) := by decide +kernel
theorem dX12_on_13 : decode cX12_on 13 = .ok (.iconst (-1), 1) := by decide +kernel
theorem dX12_on_14 : decode cX12_on 14 = .ok (.ireturn, 1) := by decide +kernel
theorem dX12_on_15 : decode cX12_on 15 = .ok (.aload_n 0, 1) := by decide +kernel
theorem dX12_on_16 : decode cX12_on 16 = .ok (.iconst 0, 1) := by decide +kernel
theorem dX12_on_17 : decode cX12_on 17 = .ok (.putfield 11, 3) := by decide +kernel
theorem dX12_on_20 : decode cX12_on 20 = .ok (.aload_n 0, 1) := by decide +kernel
theorem dX12_on_21 : decode cX12_on 21 = .ok (.iload_n 1, 1) := by decide +kernel
theorem dX12_on_22 : decode cX12_on 22 = .ok (.invokevirtual 342, 3) := by decide +kernel
theorem dX12_on_25 : decode cX12_on 25 = .ok (.aload_n 0, 1) := by decide +kernel
theorem dX12_on_26 : decode cX12_on 26 = .ok (.getfield 11, 3) := by decide +kernel
theorem dX12_on_29 : decode cX12_on 29 = .ok (.ireturn, 1) := by decide +kernel
theorem dX12_places_0 : decode cX12_places 0 = .ok (.aload_n 0, 1) := by decide +kernel
theorem dX12_places_1 : decode cX12_places 1 = .ok (.iconst 0, 1) := by decide +kernel
theorem dX12_places_2 : decode cX12_places 2 = .ok (.putfield 1, 3) := by decide +kernel
theorem dX12_places_5 : decode cX12_places 5 = .ok (.aload_n 0, 1) := by decide +kernel
theorem dX12_places_6 : decode cX12_places 6 = .ok (.iload_n 1, 1) := by decide +kernel
theorem dX12_places_7 : decode cX12_places 7 = .ok (.invokevirtual 323, 3) := by decide +kernel
theorem dX12_places_10 : decode cX12_places 10 = .ok (.ifCond .ne 5, 3) := by decide +kernel
theorem dX12_places_13 : decode cX12_places 13 = .ok (.iconst (-1), 1) := by decide +kernel
theorem dX12_places_14 : decode cX12_places 14 = .ok (.ireturn, 1) := by decide +kernel
theorem dX12_places_15 : decode cX12_places 15 = .ok (.aload_n 0, 1) := by decide +kernel
theorem dX12_places_16 : decode cX12_places 16 = .ok (.iconst 0, 1) := by decide +kernel
theorem dX12_places_17 : decode cX12_places 17 = .ok (.putfield 11, 3) := by decide +kernel
theorem dX12_places_20 : decode cX12_places 20 = .ok (.iconst 0, 1) := by decide +kernel
theorem dX12_places_21 : decode cX12_places 21 = .ok (.istore_n 2, 1) := by decide +kernel
theorem dX12_places_22 : decode cX12_places 22 = .ok (.iload_n 2, 1) := by decide +kernel
theorem dX12_places_23 : decode cX12_places 23 = .ok (.aload_n 0, 1) := by decide +kernel
theorem dX12_places_24 : decode cX12_places 24 = .ok (.getfield 21, 3) := by decide +kernel
theorem dX12_places_27 : decode cX12_places 27 = .ok (.if_icmp .ge 59, 3) := by decide +kernel
theorem dX12_places_30 : decode cX12_places 30 = .ok (.iconst 0, 1) := by decide +kernel
theorem dX12_places_31 : decode cX12_places 31 = .ok (.istore_n 3, 1) := by decide +kernel
theorem dX12_places_32 : decode cX12_places 32 = .ok (.iload_n 3, 1) := by decide +kernel
theorem dX12_places_33 : decode cX12_places 33 = .ok (.aload_n 0, 1) := by decide +kernel
theorem dX12_places_34 : decode cX12_places 34 = .ok (.getfield 60, 3) := by decide +kernel
theorem dX12_places_37 : decode cX12_places 37 = .ok (.iload_n 2, 1) := by decide +kernel
theorem dX12_places_38 : decode cX12_places 38 = .ok (.iaload, 1) := by decide +kernel
theorem dX12_places_39 : decode cX12_places 39 = .ok (.if_icmp .gt 21, 3) := by decide +kernel
theorem dX12_places_42 : decode cX12_places 42 = .ok (.aload_n 0, 1) := by decide +kernel
theorem dX12_places_43 : decode cX12_places 43 = .ok (.iload_n 1, 1) := by decide +kernel
theorem dX12_places_44 : decode cX12_places 44 = .ok (.iload_n 2, 1) := by decide +kernel
theorem dX12_places_45 : decode cX12_places 45 = .ok (.iload_n 3, 1) := by decide +kernel
theorem dX12_places_46 : decode cX12_places 46 = .ok (.bipush 6, 2) := by decide +kernel
theorem dX12_places_48 : decode cX12_places 48 = .ok (.invokevirtual 326, 3) := by decide +kernel
theorem dX12_places_51 : decode cX12_places 51 = .ok (.ifCond .eq 9, 3) := by decide +kernel
theorem dX12_places_54 : decode cX12_places 54 = .ok (.iinc 3 1, 3) := by decide +kernel
theorem dX12_places_57 : decode cX12_places 57 = .ok (.goto (-25), 3) := by decide +kernel
theorem dX12_places_60 : decode cX12_places 60 = .ok (.iload_n 3, 1) := by decide +kernel
theorem dX12_places_61 : decode cX12_places 61 = .ok (.aload_n 0, 1) := by decide +kernel
theorem dX12_places_62 : decode cX12_places 62 = .ok (.getfield 60, 3) := by decide +kernel
theorem dX12_places_65 : decode cX12_places 65 = .ok (.iload_n 2, 1) := by decide +kernel
theorem dX12_places_66 : decode cX12_places 66 = .ok (.iaload, 1) := by decide +kernel
theorem dX12_places_67 : decode cX12_places 67 = .ok (.if_icmp .gt 13, 3) := by decide +kernel
theorem dX12_places_70 : decode cX12_places 70 = .ok (.aload_n 0, 1) := by decide +kernel
theorem dX12_places_71 : decode cX12_places 71 = .ok (.iload_n 2, 1) := by decide +kernel
theorem dX12_places_72 : decode cX12_places 72 = .ok (.invokevirtual 345, 3) := by decide +kernel
theorem dX12_places_75 : decode cX12_places 75 = .ok (.aload_n 0, 1) := by decide +kernel
theorem dX12_places_76 : decode cX12_places 76 = .ok (.iload_n 3, 1) := by decide +kernel
theorem dX12_places_77 : decode cX12_places 77 = .ok (.invokevirtual 345, 3) := by decide +kernel
theorem dX12_places_80 : decode cX12_places 80 = .ok (.iinc 2 1, 3) := by decide +kernel
theorem dX12_places_83 : decode cX12_places 83 = .ok (.goto (-61), 3) := by decide +kernel
theorem dX12_places_86 : decode cX12_places 86 = .ok (.aload_n 0, 1) := by decide +kernel
theorem dX12_places_87 : decode cX12_places 87 = .ok (.getfield 11, 3) := by decide +kernel
theorem dX12_places_90 : decode cX12_places 90 = .ok (.iconst 2, 1) := by decide +kernel
theorem dX12_places_91 : decode cX12_places 91 = .ok (.idiv, 1) := by decide +kernel
theorem dX12_places_92 : decode cX12_places 92 = .ok (.ireturn, 1) := by decide +kernel
theorem dX12_of_0 : decode cX12_of 0 = .ok (.aload_n 0, 1) := by decide +kernel
theorem dX12_of_1 : decode cX12_of 1 = .ok (.iconst 0, 1) := by decide +kernel
theorem dX12_of_2 : decode cX12_of 2 = .ok (.putfield 1, 3) := by decide +kernel
theorem dX12_of_5 : decode cX12_of 5 = .ok (.aload_n 0, 1) := by decide +kernel
theorem dX12_of_6 : decode cX12_of 6 = .ok (.iload_n 1, 1) := by decide +kernel
theorem dX12_of_7 : decode cX12_of 7 = .ok (.invokevirtual 90, 3) := by decide +kernel
theorem dX12_of_10 : decode cX12_of 10 = .ok (.ifCond .ne 5, 3) := by decide +kernel
theorem dX12_of_13 : decode cX12_of 13 = .ok (.iconst (-1), 1) := by decide +kernel
theorem dX12_of_14 : decode cX12_of 14 = .ok (.ireturn, 1) := by decide +kernel
theorem dX12_of_15 : decode cX12_of 15 = .ok (.aload_n 0, 1) := by decide +kernel
theorem dX12_of_16 : decode cX12_of 16 = .ok (.getfield 60, 3) := by decide +kernel
theorem dX12_of_19 : decode cX12_of 19 = .ok (.iload_n 1, 1) := by decide +kernel
theorem dX12_of_20 : decode cX12_of 20 = .ok (.iaload, 1) := by decide +kernel
theorem dX12_of_21 : decode cX12_of 21 = .ok (.istore_n 3, 1) := by decide +kernel
theorem dX12_of_22 : decode cX12_of 22 = .ok (.iconst 0, 1) := by decide +kernel
theorem dX12_of_23 : decode cX12_of 23 = .ok (.istore 4, 2) := by decide +kernel
theorem dX12_of_25 : decode cX12_of 25 = .ok (.iload 4, 2) := by decide +kernel
theorem dX12_of_27 : decode cX12_of 27 = .ok (.aload_n 0, 1) := by decide +kernel
theorem dX12_of_28 : decode cX12_of 28 = .ok (.getfield 108, 3) := by decide +kernel
theorem dX12_of_31 : decode cX12_of 31 = .ok (.if_icmp .ge 33, 3) := by decide +kernel
theorem dX12_of_34 : decode cX12_of 34 = .ok (.iload_n 3, 1) := by decide +kernel
theorem dX12_of_35 : decode cX12_of 35 = .ok (.aload_n 0, 1) := by decide +kernel
theorem dX12_of_36 : decode cX12_of 36 = .ok (.iload 4, 2) := by decide +kernel
theorem dX12_of_38 : decode cX12_of 38 = .ok (.iload_n 1, 1) := by decide +kernel
theorem dX12_of_39 : decode cX12_of 39 = .ok (.invokevirtual 173, 3) := by decide +kernel
theorem dX12_of_42 : decode cX12_of 42 = .ok (.ifCond .eq 13, 3) := by decide +kernel
theorem dX12_of_45 : decode cX12_of 45 = .ok (.aload_n 0, 1) := by decide +kernel
theorem dX12_of_46 : decode cX12_of 46 = .ok (.getfield 121, 3) := by decide +kernel
theorem dX12_of_49 : decode cX12_of 49 = .ok (.iload 4, 2) := by decide +kernel
theorem dX12_of_51 : decode cX12_of 51 = .ok (.iaload, 1) := by decide +kernel
theorem dX12_of_52 : decode cX12_of 52 = .ok (.goto 4, 3) := by decide +kernel
theorem dX12_of_55 : decode cX12_of 55 = .ok (.iconst 0, 1) := by decide +kernel
theorem dX12_of_56 : decode cX12_of 56 = .ok (.isub, 1) := by decide +kernel
theorem dX12_of_57 : decode cX12_of 57 = .ok (.istore_n 3, 1) := by decide +kernel
theorem dX12_of_58 : decode cX12_of 58 = .ok (.iinc 4 1, 3) := by decide +kernel
theorem dX12_of_61 : decode cX12_of 61 = .ok (.goto (-36), 3) := by decide +kernel
theorem dX12_of_64 : decode cX12_of 64 = .ok (.iload_n 2, 1) := by decide +kernel
theorem dX12_of_65 : decode cX12_of 65 = .ok (.tableswitch 52 0 3 #[31, 37, 43, 50], 31) := by decide +kernel
theorem dX12_of_96 : decode cX12_of 96 = .ok (.aload_n 0, 1) := by decide +kernel
theorem dX12_of_97 : decode cX12_of 97 = .ok (.iload_n 1, 1) := by decide +kernel
theorem dX12_of_98 : decode cX12_of 98 = .ok (.invokevirtual 98, 3) := by decide +kernel
theorem dX12_of_101 : decode cX12_of 101 = .ok (.ireturn, 1) := by decide +kernel
theorem dX12_of_102 : decode cX12_of 102 = .ok (.aload_n 0, 1) := by decide +kernel
theorem dX12_of_103 : decode cX12_of 103 = .ok (.iload_n 1, 1) := by decide +kernel
theorem dX12_of_104 : decode cX12_of 104 = .ok (.invokevirtual 292, 3) := by decide +kernel
theorem dX12_of_107 : decode cX12_of 107 = .ok (.ireturn, 1) := by decide +kernel
theorem dX12_of_108 : decode cX12_of 108 = .ok (.aload_n 0, 1) := by decide +kernel
theorem dX12_of_109 : decode cX12_of 109 = .ok (.iload_n 1, 1) := by decide +kernel
theorem dX12_of_110 : decode cX12_of 110 = .ok (.iconst (-1), 1) := by decide +kernel
theorem dX12_of_111 : decode cX12_of 111 = .ok (.invokevirtual 317, 3) := by decide +kernel
theorem dX12_of_114 : decode cX12_of 114 = .ok (.ireturn, 1) := by decide +kernel
theorem dX12_of_115 : decode cX12_of 115 = .ok (.iload_n 3, 1) := by decide +kernel
theorem dX12_of_116 : decode cX12_of 116 = .ok (.ireturn, 1) := by decide +kernel
theorem dX12_of_117 : decode cX12_of 117 = .ok (.iconst (-1), 1) := by decide +kernel
theorem dX12_of_118 : decode cX12_of 118 = .ok (.ireturn, 1) := by decide +kernel
theorem dX12_step_0 : decode cX12_step 0 = .ok (.aload_n 0, 1) := by decide +kernel
theorem dX12_step_1 : decode cX12_step 1 = .ok (.iconst 0, 1) := by decide +kernel
theorem dX12_step_2 : decode cX12_step 2 = .ok (.putfield 1, 3) := by decide +kernel
theorem dX12_step_5 : decode cX12_step 5 = .ok (.iload_n 1, 1) := by decide +kernel
theorem dX12_step_6 : decode cX12_step 6 = .ok (.i2l, 1) := by decide +kernel
theorem dX12_step_7 : decode cX12_step 7 = .ok (.lconst 0, 1) := by decide +kernel
theorem dX12_step_8 : decode cX12_step 8 = .ok (.ldc2_w 32, 3) := by decide +kernel
theorem dX12_step_11 : decode cX12_step 11 = .ok (.invokestatic 17, 3) := by decide +kernel
theorem dX12_step_14 : decode cX12_step 14 = .ok (.ifCond .eq 15, 3) := by decide +kernel
theorem dX12_step_17 : decode cX12_step 17 = .ok (.aload_n 0, 1) := by decide +kernel
theorem dX12_step_18 : decode cX12_step 18 = .ok (.getfield 259, 3) := by decide +kernel
theorem dX12_step_21 : decode cX12_step 21 = .ok (.iload_n 1, 1) := by decide +kernel
theorem dX12_step_22 : decode cX12_step 22 = .ok (.iadd, 1) := by decide +kernel
theorem dX12_step_23 : decode cX12_step 23 = .ok (.sipush 400, 3) := by decide +kernel
theorem dX12_step_26 : decode cX12_step 26 = .ok (.if_icmp .le 5, 3) := by decide +kernel
theorem dX12_step_29 : decode cX12_step 29 = .ok (.iconst (-1), 1) := by decide +kernel
theorem dX12_step_30 : decode cX12_step 30 = .ok (.ireturn, 1) := by decide +kernel
theorem dX12_step_31 : decode cX12_step 31 = .ok (.iconst 0, 1) := by decide +kernel
theorem dX12_step_32 : decode cX12_step 32 = .ok (.istore_n 2, 1) := by decide +kernel
theorem dX12_step_33 : decode cX12_step 33 = .ok (.iload_n 2, 1) := by decide +kernel
theorem dX12_step_34 : decode cX12_step 34 = .ok (.iload_n 1, 1) := by decide +kernel
theorem dX12_step_35 : decode cX12_step 35 = .ok (.if_icmp .ge 115, 3) := by decide +kernel
theorem dX12_step_38 : decode cX12_step 38 = .ok (.iconst 0, 1) := by decide +kernel
theorem dX12_step_39 : decode cX12_step 39 = .ok (.istore_n 3, 1) := by decide +kernel
theorem dX12_step_40 : decode cX12_step 40 = .ok (.iload_n 3, 1) := by decide +kernel
theorem dX12_step_41 : decode cX12_step 41 = .ok (.aload_n 0, 1) := by decide +kernel
theorem dX12_step_42 : decode cX12_step 42 = .ok (.getfield 108, 3) := by decide +kernel
theorem dX12_step_45 : decode cX12_step 45 = .ok (.if_icmp .ge 54, 3) := by decide +kernel
theorem dX12_step_48 : decode cX12_step 48 = .ok (.aload_n 0, 1) := by decide +kernel
theorem dX12_step_49 : decode cX12_step 49 = .ok (.getfield 170, 3) := by decide +kernel
theorem dX12_step_52 : decode cX12_step 52 = .ok (.iload_n 3, 1) := by decide +kernel
theorem dX12_step_53 : decode cX12_step 53 = .ok (.iaload, 1) := by decide +kernel
theorem dX12_step_54 : decode cX12_step 54 = .ok (.iconst 1, 1) := by decide +kernel
theorem dX12_step_55 : decode cX12_step 55 = .ok (.if_icmp .ne 38, 3) := by decide +kernel
theorem dX12_step_58 : decode cX12_step 58 = .ok (.aload_n 0, 1) := by decide +kernel
theorem dX12_step_59 : decode cX12_step 59 = .ok (.getfield 298, 3) := by decide +kernel
theorem dX12_step_62 : decode cX12_step 62 = .ok (.iload_n 3, 1) := by decide +kernel
theorem dX12_step_63 : decode cX12_step 63 = .ok (.dup2, 1) := by decide +kernel
theorem dX12_step_64 : decode cX12_step 64 = .ok (.iaload, 1) := by decide +kernel
theorem dX12_step_65 : decode cX12_step 65 = .ok (.aload_n 0, 1) := by decide +kernel
theorem dX12_step_66 : decode cX12_step 66 = .ok (.aload_n 0, 1) := by decide +kernel
theorem dX12_step_67 : decode cX12_step 67 = .ok (.getfield 155, 3) := by decide +kernel
theorem dX12_step_70 : decode cX12_step 70 = .ok (.iload_n 3, 1) := by decide +kernel
theorem dX12_step_71 : decode cX12_step 71 = .ok (.iaload, 1) := by decide +kernel
theorem dX12_step_72 : decode cX12_step 72 = .ok (.invokevirtual 98, 3) := by decide +kernel
theorem dX12_step_75 : decode cX12_step 75 = .ok (.iadd, 1) := by decide +kernel
theorem dX12_step_76 : decode cX12_step 76 = .ok (.iastore, 1) := by decide +kernel
theorem dX12_step_77 : decode cX12_step 77 = .ok (.aload_n 0, 1) := by decide +kernel
theorem dX12_step_78 : decode cX12_step 78 = .ok (.getfield 348, 3) := by decide +kernel
theorem dX12_step_81 : decode cX12_step 81 = .ok (.sipush 400, 3) := by decide +kernel
theorem dX12_step_84 : decode cX12_step 84 = .ok (.iload_n 3, 1) := by decide +kernel
theorem dX12_step_85 : decode cX12_step 85 = .ok (.imul, 1) := by decide +kernel
theorem dX12_step_86 : decode cX12_step 86 = .ok (.aload_n 0, 1) := by decide +kernel
theorem dX12_step_87 : decode cX12_step 87 = .ok (.getfield 259, 3) := by decide +kernel
theorem dX12_step_90 : decode cX12_step 90 = .ok (.iadd, 1) := by decide +kernel
theorem dX12_step_91 : decode cX12_step 91 = .ok (.iconst 1, 1) := by decide +kernel
theorem dX12_step_92 : decode cX12_step 92 = .ok (.bastore, 1) := by decide +kernel
theorem dX12_step_93 : decode cX12_step 93 = .ok (.iinc 3 1, 3) := by decide +kernel
theorem dX12_step_96 : decode cX12_step 96 = .ok (.goto (-56), 3) := by decide +kernel
theorem dX12_step_99 : decode cX12_step 99 = .ok (.aload_n 0, 1) := by decide +kernel
theorem dX12_step_100 : decode cX12_step 100 = .ok (.dup, 1) := by decide +kernel
theorem dX12_step_101 : decode cX12_step 101 = .ok (.getfield 259, 3) := by decide +kernel
theorem dX12_step_104 : decode cX12_step 104 = .ok (.iconst 1, 1) := by decide +kernel
theorem dX12_step_105 : decode cX12_step 105 = .ok (.iadd, 1) := by decide +kernel
theorem dX12_step_106 : decode cX12_step 106 = .ok (.putfield 259, 3) := by decide +kernel
theorem dX12_step_109 : decode cX12_step 109 = .ok (.iconst 0, 1) := by decide +kernel
theorem dX12_step_110 : decode cX12_step 110 = .ok (.istore_n 3, 1) := by decide +kernel
theorem dX12_step_111 : decode cX12_step 111 = .ok (.iload_n 3, 1) := by decide +kernel
theorem dX12_step_112 : decode cX12_step 112 = .ok (.aload_n 0, 1) := by decide +kernel
theorem dX12_step_113 : decode cX12_step 113 = .ok (.getfield 108, 3) := by decide +kernel
theorem dX12_step_116 : decode cX12_step 116 = .ok (.if_icmp .ge 28, 3) := by decide +kernel
theorem dX12_step_119 : decode cX12_step 119 = .ok (.aload_n 0, 1) := by decide +kernel
theorem dX12_step_120 : decode cX12_step 120 = .ok (.getfield 152, 3) := by decide +kernel
theorem dX12_step_123 : decode cX12_step 123 = .ok (.iload_n 3, 1) := by decide +kernel
theorem dX12_step_124 : decode cX12_step 124 = .ok (.iaload, 1) := by decide +kernel
theorem dX12_step_125 : decode cX12_step 125 = .ok (.aload_n 0, 1) := by decide +kernel
theorem dX12_step_126 : decode cX12_step 126 = .ok (.getfield 259, 3) := by decide +kernel
theorem dX12_step_129 : decode cX12_step 129 = .ok (.if_icmp .gt 9, 3) := by decide +kernel
theorem dX12_step_132 : decode cX12_step 132 = .ok (.aload_n 0, 1) := by decide +kernel
theorem dX12_step_133 : decode cX12_step 133 = .ok (.iload_n 3, 1) := by decide +kernel
theorem dX12_step_134 : decode cX12_step 134 = .ok (.iconst 3, 1) := by decide +kernel
theorem dX12_step_135 : decode cX12_step 135 = .ok (.invokevirtual 334, 3) := by decide +kernel
theorem dX12_step_138 : decode cX12_step 138 = .ok (.iinc 3 1, 3) := by decide +kernel
theorem dX12_step_141 : decode cX12_step 141 = .ok (.goto (-30), 3) := by decide +kernel
theorem dX12_step_144 : decode cX12_step 144 = .ok (.iinc 2 1, 3) := by decide +kernel
theorem dX12_step_147 : decode cX12_step 147 = .ok (.goto (-114), 3) := by decide +kernel
theorem dX12_step_150 : decode cX12_step 150 = .ok (.aload_n 0, 1) := by decide +kernel
theorem dX12_step_151 : decode cX12_step 151 = .ok (.getfield 259, 3) := by decide +kernel
theorem dX12_step_154 : decode cX12_step 154 = .ok (.ireturn, 1) := by decide +kernel
theorem dX12_fades_0 : decode cX12_fades 0 = .ok (.aload_n 0, 1) := by decide +kernel
theorem dX12_fades_1 : decode cX12_fades 1 = .ok (.iconst 0, 1) := by decide +kernel
theorem dX12_fades_2 : decode cX12_fades 2 = .ok (.putfield 1, 3) := by decide +kernel
theorem dX12_fades_5 : decode cX12_fades 5 = .ok (.aload_n 0, 1) := by decide +kernel
theorem dX12_fades_6 : decode cX12_fades 6 = .ok (.iload_n 1, 1) := by decide +kernel
theorem dX12_fades_7 : decode cX12_fades 7 = .ok (.invokevirtual 161, 3) := by decide +kernel
theorem dX12_fades_10 : decode cX12_fades 10 = .ok (.ifCond .eq 13, 3) := by decide +kernel
theorem dX12_fades_13 : decode cX12_fades 13 = .ok (.aload_n 0, 1) := by decide +kernel
theorem dX12_fades_14 : decode cX12_fades 14 = .ok (.getfield 170, 3) := by decide +kernel
theorem dX12_fades_17 : decode cX12_fades 17 = .ok (.iload_n 1, 1) := by decide +kernel
theorem dX12_fades_18 : decode cX12_fades 18 = .ok (.iaload, 1) := by decide +kernel
theorem dX12_fades_19 : decode cX12_fades 19 = .ok (.iconst 1, 1) := by decide +kernel
theorem dX12_fades_20 : decode cX12_fades 20 = .ok (.if_icmp .eq 5, 3) := by decide +kernel
theorem dX12_fades_23 : decode cX12_fades 23 = .ok (.iconst (-1), 1) := by decide +kernel
theorem dX12_fades_24 : decode cX12_fades 24 = .ok (.ireturn, 1) := by decide +kernel
theorem dX12_fades_25 : decode cX12_fades 25 = .ok (.aload_n 0, 1) := by decide +kernel
theorem dX12_fades_26 : decode cX12_fades 26 = .ok (.getfield 298, 3) := by decide +kernel
theorem dX12_fades_29 : decode cX12_fades 29 = .ok (.iload_n 1, 1) := by decide +kernel
theorem dX12_fades_30 : decode cX12_fades 30 = .ok (.iaload, 1) := by decide +kernel
theorem dX12_fades_31 : decode cX12_fades 31 = .ok (.i2l, 1) := by decide +kernel
theorem dX12_fades_32 : decode cX12_fades 32 = .ok (.lstore_n 2, 1) := by decide +kernel
theorem dX12_fades_33 : decode cX12_fades 33 = .ok (.aload_n 0, 1) := by decide +kernel
theorem dX12_fades_34 : decode cX12_fades 34 = .ok (.aload_n 0, 1) := by decide +kernel
theorem dX12_fades_35 : decode cX12_fades 35 = .ok (.getfield 155, 3) := by decide +kernel
theorem dX12_fades_38 : decode cX12_fades 38 = .ok (.iload_n 1, 1) := by decide +kernel
theorem dX12_fades_39 : decode cX12_fades 39 = .ok (.iaload, 1) := by decide +kernel
theorem dX12_fades_40 : decode cX12_fades 40 = .ok (.invokevirtual 98, 3) := by decide +kernel
theorem dX12_fades_43 : decode cX12_fades 43 = .ok (.istore 4, 2) := by decide +kernel
theorem dX12_fades_45 : decode cX12_fades 45 = .ok (.aload_n 0, 1) := by decide +kernel
theorem dX12_fades_46 : decode cX12_fades 46 = .ok (.getfield 259, 3) := by decide +kernel
theorem dX12_fades_49 : decode cX12_fades 49 = .ok (.istore 5, 2) := by decide +kernel
theorem dX12_fades_51 : decode cX12_fades 51 = .ok (.iload 5, 2) := by decide +kernel
theorem dX12_fades_53 : decode cX12_fades 53 = .ok (.sipush 400, 3) := by decide +kernel
theorem dX12_fades_56 : decode cX12_fades 56 = .ok (.if_icmp .ge 46, 3) := by decide +kernel
theorem dX12_fades_59 : decode cX12_fades 59 = .ok (.lload_n 2, 1) := by decide +kernel
theorem dX12_fades_60 : decode cX12_fades 60 = .ok (.lload_n 2, 1) := by decide +kernel
theorem dX12_fades_61 : decode cX12_fades 61 = .ok (.aload_n 0, 1) := by decide +kernel
theorem dX12_fades_62 : decode cX12_fades 62 = .ok (.getfield 148, 3) := by decide +kernel
theorem dX12_fades_65 : decode cX12_fades 65 = .ok (.iload_n 1, 1) := by decide +kernel
theorem dX12_fades_66 : decode cX12_fades 66 = .ok (.iaload, 1) := by decide +kernel
theorem dX12_fades_67 : decode cX12_fades 67 = .ok (.i2l, 1) := by decide +kernel
theorem dX12_fades_68 : decode cX12_fades 68 = .ok (.lcmp, 1) := by decide +kernel
theorem dX12_fades_69 : decode cX12_fades 69 = .ok (.ifCond .le 7, 3) := by decide +kernel
theorem dX12_fades_72 : decode cX12_fades 72 = .ok (.lconst 0, 1) := by decide +kernel
theorem dX12_fades_73 : decode cX12_fades 73 = .ok (.goto 6, 3) := by decide +kernel
theorem dX12_fades_76 : decode cX12_fades 76 = .ok (.iload 4, 2) := by decide +kernel
theorem dX12_fades_78 : decode cX12_fades 78 = .ok (.i2l, 1) := by decide +kernel
theorem dX12_fades_79 : decode cX12_fades 79 = .ok (.ladd, 1) := by decide +kernel
theorem dX12_fades_80 : decode cX12_fades 80 = .ok (.lstore_n 2, 1) := by decide +kernel
theorem dX12_fades_81 : decode cX12_fades 81 = .ok (.lload_n 2, 1) := by decide +kernel
theorem dX12_fades_82 : decode cX12_fades 82 = .ok (.aload_n 0, 1) := by decide +kernel
theorem dX12_fades_83 : decode cX12_fades 83 = .ok (.getfield 148, 3) := by decide +kernel
theorem dX12_fades_86 : decode cX12_fades 86 = .ok (.iload_n 1, 1) := by decide +kernel
theorem dX12_fades_87 : decode cX12_fades 87 = .ok (.iaload, 1) := by decide +kernel
theorem dX12_fades_88 : decode cX12_fades 88 = .ok (.i2l, 1) := by decide +kernel
theorem dX12_fades_89 : decode cX12_fades 89 = .ok (.lcmp, 1) := by decide +kernel
theorem dX12_fades_90 : decode cX12_fades 90 = .ok (.ifCond .le 6, 3) := by decide +kernel
theorem dX12_fades_93 : decode cX12_fades 93 = .ok (.iload 5, 2) := by decide +kernel
theorem dX12_fades_95 : decode cX12_fades 95 = .ok (.ireturn, 1) := by decide +kernel
theorem dX12_fades_96 : decode cX12_fades 96 = .ok (.iinc 5 1, 3) := by decide +kernel
theorem dX12_fades_99 : decode cX12_fades 99 = .ok (.goto (-48), 3) := by decide +kernel
theorem dX12_fades_102 : decode cX12_fades 102 = .ok (.iconst (-1), 1) := by decide +kernel
theorem dX12_fades_103 : decode cX12_fades 103 = .ok (.ireturn, 1) := by decide +kernel
theorem dX12_shown_0 : decode cX12_shown 0 = .ok (.aload_n 0, 1) := by decide +kernel
theorem dX12_shown_1 : decode cX12_shown 1 = .ok (.iconst 0, 1) := by decide +kernel
theorem dX12_shown_2 : decode cX12_shown 2 = .ok (.putfield 1, 3) := by decide +kernel
theorem dX12_shown_5 : decode cX12_shown 5 = .ok (.aload_n 0, 1) := by decide +kernel
theorem dX12_shown_6 : decode cX12_shown 6 = .ok (.iload_n 1, 1) := by decide +kernel
theorem dX12_shown_7 : decode cX12_shown 7 = .ok (.invokevirtual 161, 3) := by decide +kernel
theorem dX12_shown_10 : decode cX12_shown 10 = .ok (.ifCond .eq 28, 3) := by decide +kernel
theorem dX12_shown_13 : decode cX12_shown 13 = .ok (.iload_n 2, 1) := by decide +kernel
theorem dX12_shown_14 : decode cX12_shown 14 = .ok (.i2l, 1) := by decide +kernel
theorem dX12_shown_15 : decode cX12_shown 15 = .ok (.lconst 0, 1) := by decide +kernel
theorem dX12_shown_16 : decode cX12_shown 16 = .ok (.ldc2_w 30, 3) := by decide +kernel
theorem dX12_shown_19 : decode cX12_shown 19 = .ok (.invokestatic 17, 3) := by decide +kernel
theorem dX12_shown_22 : decode cX12_shown 22 = .ok (.ifCond .eq 16, 3) := by decide +kernel
theorem dX12_shown_25 : decode cX12_shown 25 = .ok (.iload_n 3, 1) := by decide +kernel
theorem dX12_shown_26 : decode cX12_shown 26 = .ok (.i2l, 1) := by decide +kernel
theorem dX12_shown_27 : decode cX12_shown 27 = .ok (.iload_n 2, 1) := by decide +kernel
theorem dX12_shown_28 : decode cX12_shown 28 = .ok (.i2l, 1) := by decide +kernel
theorem dX12_shown_29 : decode cX12_shown 29 = .ok (.ldc2_w 30, 3) := by decide +kernel
theorem dX12_shown_32 : decode cX12_shown 32 = .ok (.invokestatic 17, 3) := by decide +kernel
theorem dX12_shown_35 : decode cX12_shown 35 = .ok (.ifCond .ne 5, 3) := by decide +kernel
theorem dX12_shown_38 : decode cX12_shown 38 = .ok (.iconst (-1), 1) := by decide +kernel
theorem dX12_shown_39 : decode cX12_shown 39 = .ok (.ireturn, 1) := by decide +kernel
theorem dX12_shown_40 : decode cX12_shown 40 = .ok (.iconst 0, 1) := by decide +kernel
theorem dX12_shown_41 : decode cX12_shown 41 = .ok (.istore 4, 2) := by decide +kernel
theorem dX12_shown_43 : decode cX12_shown 43 = .ok (.iload_n 2, 1) := by decide +kernel
theorem dX12_shown_44 : decode cX12_shown 44 = .ok (.istore 5, 2) := by decide +kernel
theorem dX12_shown_46 : decode cX12_shown 46 = .ok (.iload 5, 2) := by decide +kernel
theorem dX12_shown_48 : decode cX12_shown 48 = .ok (.iload_n 3, 1) := by decide +kernel
theorem dX12_shown_49 : decode cX12_shown 49 = .ok (.if_icmp .ge 30, 3) := by decide +kernel
theorem dX12_shown_52 : decode cX12_shown 52 = .ok (.iload 4, 2) := by decide +kernel
theorem dX12_shown_54 : decode cX12_shown 54 = .ok (.aload_n 0, 1) := by decide +kernel
theorem dX12_shown_55 : decode cX12_shown 55 = .ok (.getfield 348, 3) := by decide +kernel
theorem dX12_shown_58 : decode cX12_shown 58 = .ok (.sipush 400, 3) := by decide +kernel
theorem dX12_shown_61 : decode cX12_shown 61 = .ok (.iload_n 1, 1) := by decide +kernel
theorem dX12_shown_62 : decode cX12_shown 62 = .ok (.imul, 1) := by decide +kernel
theorem dX12_shown_63 : decode cX12_shown 63 = .ok (.iload 5, 2) := by decide +kernel
theorem dX12_shown_65 : decode cX12_shown 65 = .ok (.iadd, 1) := by decide +kernel
theorem dX12_shown_66 : decode cX12_shown 66 = .ok (.baload, 1) := by decide +kernel
theorem dX12_shown_67 : decode cX12_shown 67 = .ok (.invokestatic 268, 3) := by decide +kernel
theorem dX12_shown_70 : decode cX12_shown 70 = .ok (.iadd, 1) := by decide +kernel
theorem dX12_shown_71 : decode cX12_shown 71 = .ok (.istore 4, 2) := by decide +kernel
theorem dX12_shown_73 : decode cX12_shown 73 = .ok (.iinc 5 1, 3) := by decide +kernel
theorem dX12_shown_76 : decode cX12_shown 76 = .ok (.goto (-30), 3) := by decide +kernel
theorem dX12_shown_79 : decode cX12_shown 79 = .ok (.iload 4, 2) := by decide +kernel
theorem dX12_shown_81 : decode cX12_shown 81 = .ok (.ireturn, 1) := by decide +kernel
theorem dX12_owed_0 : decode cX12_owed 0 = .ok (.aload_n 0, 1) := by decide +kernel
theorem dX12_owed_1 : decode cX12_owed 1 = .ok (.iconst 0, 1) := by decide +kernel
theorem dX12_owed_2 : decode cX12_owed 2 = .ok (.putfield 1, 3) := by decide +kernel
theorem dX12_owed_5 : decode cX12_owed 5 = .ok (.iload_n 1, 1) := by decide +kernel
theorem dX12_owed_6 : decode cX12_owed 6 = .ok (.i2l, 1) := by decide +kernel
theorem dX12_owed_7 : decode cX12_owed 7 = .ok (.lconst 0, 1) := by decide +kernel
theorem dX12_owed_8 : decode cX12_owed 8 = .ok (.ldc2_w 117, 3) := by decide +kernel
theorem dX12_owed_11 : decode cX12_owed 11 = .ok (.invokestatic 17, 3) := by decide +kernel
theorem dX12_owed_14 : decode cX12_owed 14 = .ok (.ifCond .eq 17, 3) := by decide +kernel
theorem dX12_owed_17 : decode cX12_owed 17 = .ok (.iload_n 2, 1) := by decide +kernel
theorem dX12_owed_18 : decode cX12_owed 18 = .ok (.i2l, 1) := by decide +kernel
theorem dX12_owed_19 : decode cX12_owed 19 = .ok (.lconst 0, 1) := by decide +kernel
theorem dX12_owed_20 : decode cX12_owed 20 = .ok (.aload_n 0, 1) := by decide +kernel
theorem dX12_owed_21 : decode cX12_owed 21 = .ok (.getfield 259, 3) := by decide +kernel
theorem dX12_owed_24 : decode cX12_owed 24 = .ok (.i2l, 1) := by decide +kernel
theorem dX12_owed_25 : decode cX12_owed 25 = .ok (.invokestatic 17, 3) := by decide +kernel
theorem dX12_owed_28 : decode cX12_owed 28 = .ok (.ifCond .ne 5, 3) := by decide +kernel
theorem dX12_owed_31 : decode cX12_owed 31 = .ok (.iconst (-1), 1) := by decide +kernel
theorem dX12_owed_32 : decode cX12_owed 32 = .ok (.ireturn, 1) := by decide +kernel
theorem dX12_owed_33 : decode cX12_owed 33 = .ok (.iconst 0, 1) := by decide +kernel
theorem dX12_owed_34 : decode cX12_owed 34 = .ok (.istore_n 3, 1) := by decide +kernel
theorem dX12_owed_35 : decode cX12_owed 35 = .ok (.iconst 0, 1) := by decide +kernel
theorem dX12_owed_36 : decode cX12_owed 36 = .ok (.istore 4, 2) := by decide +kernel
theorem dX12_owed_38 : decode cX12_owed 38 = .ok (.iload 4, 2) := by decide +kernel
theorem dX12_owed_40 : decode cX12_owed 40 = .ok (.aload_n 0, 1) := by decide +kernel
theorem dX12_owed_41 : decode cX12_owed 41 = .ok (.getfield 108, 3) := by decide +kernel
theorem dX12_owed_44 : decode cX12_owed 44 = .ok (.if_icmp .ge 71, 3) := by decide +kernel
theorem dX12_owed_47 : decode cX12_owed 47 = .ok (.aload_n 0, 1) := by decide +kernel
theorem dX12_owed_48 : decode cX12_owed 48 = .ok (.getfield 259, 3) := by decide +kernel
theorem dX12_owed_51 : decode cX12_owed 51 = .ok (.iload_n 2, 1) := by decide +kernel
theorem dX12_owed_52 : decode cX12_owed 52 = .ok (.isub, 1) := by decide +kernel
theorem dX12_owed_53 : decode cX12_owed 53 = .ok (.istore 5, 2) := by decide +kernel
theorem dX12_owed_55 : decode cX12_owed 55 = .ok (.iload 5, 2) := by decide +kernel
theorem dX12_owed_57 : decode cX12_owed 57 = .ok (.aload_n 0, 1) := by decide +kernel
theorem dX12_owed_58 : decode cX12_owed 58 = .ok (.getfield 259, 3) := by decide +kernel
theorem dX12_owed_61 : decode cX12_owed 61 = .ok (.if_icmp .ge 48, 3) := by decide +kernel
theorem dX12_owed_64 : decode cX12_owed 64 = .ok (.aload_n 0, 1) := by decide +kernel
theorem dX12_owed_65 : decode cX12_owed 65 = .ok (.getfield 139, 3) := by decide +kernel
theorem dX12_owed_68 : decode cX12_owed 68 = .ok (.iload 4, 2) := by decide +kernel
theorem dX12_owed_70 : decode cX12_owed 70 = .ok (.iaload, 1) := by decide +kernel
theorem dX12_owed_71 : decode cX12_owed 71 = .ok (.iload_n 1, 1) := by decide +kernel
theorem dX12_owed_72 : decode cX12_owed 72 = .ok (.if_icmp .ne 37, 3) := by decide +kernel
theorem dX12_owed_75 : decode cX12_owed 75 = .ok (.iload_n 3, 1) := by decide +kernel
theorem dX12_owed_76 : decode cX12_owed 76 = .ok (.aload_n 0, 1) := by decide +kernel
theorem dX12_owed_77 : decode cX12_owed 77 = .ok (.getfield 348, 3) := by decide +kernel
theorem dX12_owed_80 : decode cX12_owed 80 = .ok (.sipush 400, 3) := by decide +kernel
theorem dX12_owed_83 : decode cX12_owed 83 = .ok (.iload 4, 2) := by decide +kernel
theorem dX12_owed_85 : decode cX12_owed 85 = .ok (.imul, 1) := by decide +kernel
theorem dX12_owed_86 : decode cX12_owed 86 = .ok (.iload 5, 2) := by decide +kernel
theorem dX12_owed_88 : decode cX12_owed 88 = .ok (.iadd, 1) := by decide +kernel
theorem dX12_owed_89 : decode cX12_owed 89 = .ok (.baload, 1) := by decide +kernel
theorem dX12_owed_90 : decode cX12_owed 90 = .ok (.ifCond .ne 7, 3) := by decide +kernel
theorem dX12_owed_93 : decode cX12_owed 93 = .ok (.iconst 1, 1) := by decide +kernel
theorem dX12_owed_94 : decode cX12_owed 94 = .ok (.goto 4, 3) := by decide +kernel
theorem dX12_owed_97 : decode cX12_owed 97 = .ok (.iconst 0, 1) := by decide +kernel
theorem dX12_owed_98 : decode cX12_owed 98 = .ok (.invokestatic 268, 3) := by decide +kernel
theorem dX12_owed_101 : decode cX12_owed 101 = .ok (.iadd, 1) := by decide +kernel
theorem dX12_owed_102 : decode cX12_owed 102 = .ok (.istore_n 3, 1) := by decide +kernel
theorem dX12_owed_103 : decode cX12_owed 103 = .ok (.iinc 5 1, 3) := by decide +kernel
theorem dX12_owed_106 : decode cX12_owed 106 = .ok (.goto (-51), 3) := by decide +kernel
theorem dX12_owed_109 : decode cX12_owed 109 = .ok (.iinc 4 1, 3) := by decide +kernel
theorem dX12_owed_112 : decode cX12_owed 112 = .ok (.goto (-74), 3) := by decide +kernel
theorem dX12_owed_115 : decode cX12_owed 115 = .ok (.iload_n 3, 1) := by decide +kernel
theorem dX12_owed_116 : decode cX12_owed 116 = .ok (.ireturn, 1) := by decide +kernel
theorem dX12_like_0 : decode cX12_like 0 = .ok (.aload_n 0, 1) := by decide +kernel
theorem dX12_like_1 : decode cX12_like 1 = .ok (.iconst 0, 1) := by decide +kernel
theorem dX12_like_2 : decode cX12_like 2 = .ok (.putfield 1, 3) := by decide +kernel
theorem dX12_like_5 : decode cX12_like 5 = .ok (.iload_n 1, 1) := by decide +kernel
theorem dX12_like_6 : decode cX12_like 6 = .ok (.i2l, 1) := by decide +kernel
theorem dX12_like_7 : decode cX12_like 7 = .ok (.lconst 0, 1) := by decide +kernel
theorem dX12_like_8 : decode cX12_like 8 = .ok (.ldc2_w 117, 3) := by decide +kernel
theorem dX12_like_11 : decode cX12_like 11 = .ok (.invokestatic 17, 3) := by decide +kernel
theorem dX12_like_14 : decode cX12_like 14 = .ok (.ifCond .eq 29, 3) := by decide +kernel
theorem dX12_like_17 : decode cX12_like 17 = .ok (.iload_n 2, 1) := by decide +kernel
theorem dX12_like_18 : decode cX12_like 18 = .ok (.i2l, 1) := by decide +kernel
theorem dX12_like_19 : decode cX12_like 19 = .ok (.lconst 0, 1) := by decide +kernel
theorem dX12_like_20 : decode cX12_like 20 = .ok (.ldc2_w 117, 3) := by decide +kernel
theorem dX12_like_23 : decode cX12_like 23 = .ok (.invokestatic 17, 3) := by decide +kernel
theorem dX12_like_26 : decode cX12_like 26 = .ok (.ifCond .eq 17, 3) := by decide +kernel
theorem dX12_like_29 : decode cX12_like 29 = .ok (.iload_n 3, 1) := by decide +kernel
theorem dX12_like_30 : decode cX12_like 30 = .ok (.i2l, 1) := by decide +kernel
theorem dX12_like_31 : decode cX12_like 31 = .ok (.ldc2_w 352, 3) := by decide +kernel
theorem dX12_like_34 : decode cX12_like 34 = .ok (.ldc2_w 106, 3) := by decide +kernel
theorem dX12_like_37 : decode cX12_like 37 = .ok (.invokestatic 17, 3) := by decide +kernel
theorem dX12_like_40 : decode cX12_like 40 = .ok (.ifCond .ne 8, 3) := by decide +kernel
theorem dX12_like_43 : decode cX12_like 43 = .ok (.aload_n 0, 1) := by decide +kernel
theorem dX12_like_44 : decode cX12_like 44 = .ok (.invokevirtual 338, 3) := by decide +kernel
theorem dX12_like_47 : decode cX12_like 47 = .ok (.ireturn, 1) := by decide +kernel
theorem dX12_like_48 : decode cX12_like 48 = .ok (.aload_n 0, 1) := by decide +kernel
theorem dX12_like_49 : decode cX12_like 49 = .ok (.getfield 354, 3) := by decide +kernel
theorem dX12_like_52 : decode cX12_like 52 = .ok (.bipush 8, 2) := by decide +kernel
theorem dX12_like_54 : decode cX12_like 54 = .ok (.iload_n 1, 1) := by decide +kernel
theorem dX12_like_55 : decode cX12_like 55 = .ok (.imul, 1) := by decide +kernel
theorem dX12_like_56 : decode cX12_like 56 = .ok (.iload_n 2, 1) := by decide +kernel
theorem dX12_like_57 : decode cX12_like 57 = .ok (.iadd, 1) := by decide +kernel
theorem dX12_like_58 : decode cX12_like 58 = .ok (.iaload, 1) := by decide +kernel
theorem dX12_like_59 : decode cX12_like 59 = .ok (.istore 4, 2) := by decide +kernel
theorem dX12_like_61 : decode cX12_like 61 = .ok (.aload_n 0, 1) := by decide +kernel
theorem dX12_like_62 : decode cX12_like 62 = .ok (.getfield 354, 3) := by decide +kernel
theorem dX12_like_65 : decode cX12_like 65 = .ok (.bipush 8, 2) := by decide +kernel
theorem dX12_like_67 : decode cX12_like 67 = .ok (.iload_n 1, 1) := by decide +kernel
theorem dX12_like_68 : decode cX12_like 68 = .ok (.imul, 1) := by decide +kernel
theorem dX12_like_69 : decode cX12_like 69 = .ok (.iload_n 2, 1) := by decide +kernel
theorem dX12_like_70 : decode cX12_like 70 = .ok (.iadd, 1) := by decide +kernel
theorem dX12_like_71 : decode cX12_like 71 = .ok (.iload_n 3, 1) := by decide +kernel
theorem dX12_like_72 : decode cX12_like 72 = .ok (.iastore, 1) := by decide +kernel
theorem dX12_like_73 : decode cX12_like 73 = .ok (.aload_n 0, 1) := by decide +kernel
theorem dX12_like_74 : decode cX12_like 74 = .ok (.getfield 354, 3) := by decide +kernel
theorem dX12_like_77 : decode cX12_like 77 = .ok (.bipush 8, 2) := by decide +kernel
theorem dX12_like_79 : decode cX12_like 79 = .ok (.iload_n 2, 1) := by decide +kernel
theorem dX12_like_80 : decode cX12_like 80 = .ok (.imul, 1) := by decide +kernel
theorem dX12_like_81 : decode cX12_like 81 = .ok (.iload_n 1, 1) := by decide +kernel
theorem dX12_like_82 : decode cX12_like 82 = .ok (.iadd, 1) := by decide +kernel
theorem dX12_like_83 : decode cX12_like 83 = .ok (.iload_n 3, 1) := by decide +kernel
theorem dX12_like_84 : decode cX12_like 84 = .ok (.iastore, 1) := by decide +kernel
theorem dX12_like_85 : decode cX12_like 85 = .ok (.iload 4, 2) := by decide +kernel
theorem dX12_like_87 : decode cX12_like 87 = .ok (.ireturn, 1) := by decide +kernel
theorem dX12_likes_0 : decode cX12_likes 0 = .ok (.aload_n 0, 1) := by decide +kernel
theorem dX12_likes_1 : decode cX12_likes 1 = .ok (.getfield 354, 3) := by decide +kernel
theorem dX12_likes_4 : decode cX12_likes 4 = .ok (.bipush 8, 2) := by decide +kernel
theorem dX12_likes_6 : decode cX12_likes 6 = .ok (.aload_n 0, 1) := by decide +kernel
theorem dX12_likes_7 : decode cX12_likes 7 = .ok (.getfield 130, 3) := by decide +kernel
theorem dX12_likes_10 : decode cX12_likes 10 = .ok (.iload_n 1, 1) := by decide +kernel
theorem dX12_likes_11 : decode cX12_likes 11 = .ok (.iaload, 1) := by decide +kernel
theorem dX12_likes_12 : decode cX12_likes 12 = .ok (.imul, 1) := by decide +kernel
theorem dX12_likes_13 : decode cX12_likes 13 = .ok (.aload_n 0, 1) := by decide +kernel
theorem dX12_likes_14 : decode cX12_likes 14 = .ok (.getfield 130, 3) := by decide +kernel
theorem dX12_likes_17 : decode cX12_likes 17 = .ok (.iload_n 2, 1) := by decide +kernel
theorem dX12_likes_18 : decode cX12_likes 18 = .ok (.iaload, 1) := by decide +kernel
theorem dX12_likes_19 : decode cX12_likes 19 = .ok (.iadd, 1) := by decide +kernel
theorem dX12_likes_20 : decode cX12_likes 20 = .ok (.iaload, 1) := by decide +kernel
theorem dX12_likes_21 : decode cX12_likes 21 = .ok (.ireturn, 1) := by decide +kernel
theorem dX12_areBeside_0 : decode cX12_areBeside 0 = .ok (.iconst 1, 1) := by decide +kernel
theorem dX12_areBeside_1 : decode cX12_areBeside 1 = .ok (.istore_n 1, 1) := by decide +kernel
theorem dX12_areBeside_2 : decode cX12_areBeside 2 = .ok (.iconst 0, 1) := by decide +kernel
theorem dX12_areBeside_3 : decode cX12_areBeside 3 = .ok (.istore_n 2, 1) := by decide +kernel
theorem dX12_areBeside_4 : decode cX12_areBeside 4 = .ok (.iload_n 2, 1) := by decide +kernel
theorem dX12_areBeside_5 : decode cX12_areBeside 5 = .ok (.aload_n 0, 1) := by decide +kernel
theorem dX12_areBeside_6 : decode cX12_areBeside 6 = .ok (.getfield 357, 3) := by decide +kernel
theorem dX12_areBeside_9 : decode cX12_areBeside 9 = .ok (.if_icmp .ge 65, 3) := by decide +kernel
theorem dX12_areBeside_12 : decode cX12_areBeside 12 = .ok (.iconst 0, 1) := by decide +kernel
theorem dX12_areBeside_13 : decode cX12_areBeside 13 = .ok (.istore_n 3, 1) := by decide +kernel
theorem dX12_areBeside_14 : decode cX12_areBeside 14 = .ok (.iload_n 3, 1) := by decide +kernel
theorem dX12_areBeside_15 : decode cX12_areBeside 15 = .ok (.aload_n 0, 1) := by decide +kernel
theorem dX12_areBeside_16 : decode cX12_areBeside 16 = .ok (.getfield 357, 3) := by decide +kernel
theorem dX12_areBeside_19 : decode cX12_areBeside 19 = .ok (.if_icmp .ge 49, 3) := by decide +kernel
theorem dX12_areBeside_22 : decode cX12_areBeside 22 = .ok (.iload_n 1, 1) := by decide +kernel
theorem dX12_areBeside_23 : decode cX12_areBeside 23 = .ok (.ifCond .eq 37, 3) := by decide +kernel
theorem dX12_areBeside_26 : decode cX12_areBeside 26 = .ok (.aload_n 0, 1) := by decide +kernel
theorem dX12_areBeside_27 : decode cX12_areBeside 27 = .ok (.getfield 142, 3) := by decide +kernel
theorem dX12_areBeside_30 : decode cX12_areBeside 30 = .ok (.aload_n 0, 1) := by decide +kernel
theorem dX12_areBeside_31 : decode cX12_areBeside 31 = .ok (.getfield 360, 3) := by decide +kernel
theorem dX12_areBeside_34 : decode cX12_areBeside 34 = .ok (.iload_n 2, 1) := by decide +kernel
theorem dX12_areBeside_35 : decode cX12_areBeside 35 = .ok (.iaload, 1) := by decide +kernel
theorem dX12_areBeside_36 : decode cX12_areBeside 36 = .ok (.iaload, 1) := by decide +kernel
theorem dX12_areBeside_37 : decode cX12_areBeside 37 = .ok (.aload_n 0, 1) := by decide +kernel
theorem dX12_areBeside_38 : decode cX12_areBeside 38 = .ok (.getfield 360, 3) := by decide +kernel
theorem dX12_areBeside_41 : decode cX12_areBeside 41 = .ok (.iload_n 3, 1) := by decide +kernel
theorem dX12_areBeside_42 : decode cX12_areBeside 42 = .ok (.iaload, 1) := by decide +kernel
theorem dX12_areBeside_43 : decode cX12_areBeside 43 = .ok (.if_icmp .ne 13, 3) := by decide +kernel
theorem dX12_areBeside_46 : decode cX12_areBeside 46 = .ok (.iload_n 2, 1) := by decide +kernel
theorem dX12_areBeside_47 : decode cX12_areBeside 47 = .ok (.iload_n 3, 1) := by decide +kernel
theorem dX12_areBeside_48 : decode cX12_areBeside 48 = .ok (.isub, 1) := by decide +kernel
theorem dX12_areBeside_49 : decode cX12_areBeside 49 = .ok (.invokestatic 363, 3) := by decide +kernel
theorem dX12_areBeside_52 : decode cX12_areBeside 52 = .ok (.iconst 1, 1) := by decide +kernel
theorem dX12_areBeside_53 : decode cX12_areBeside 53 = .ok (.if_icmp .ne 7, 3) := by decide +kernel
theorem dX12_areBeside_56 : decode cX12_areBeside 56 = .ok (.iconst 1, 1) := by decide +kernel
theorem dX12_areBeside_57 : decode cX12_areBeside 57 = .ok (.goto 4, 3) := by decide +kernel
theorem dX12_areBeside_60 : decode cX12_areBeside 60 = .ok (.iconst 0, 1) := by decide +kernel
theorem dX12_areBeside_61 : decode cX12_areBeside 61 = .ok (.istore_n 1, 1) := by decide +kernel
theorem dX12_areBeside_62 : decode cX12_areBeside 62 = .ok (.iinc 3 1, 3) := by decide +kernel
theorem dX12_areBeside_65 : decode cX12_areBeside 65 = .ok (.goto (-51), 3) := by decide +kernel
theorem dX12_areBeside_68 : decode cX12_areBeside 68 = .ok (.iinc 2 1, 3) := by decide +kernel
theorem dX12_areBeside_71 : decode cX12_areBeside 71 = .ok (.goto (-67), 3) := by decide +kernel
theorem dX12_areBeside_74 : decode cX12_areBeside 74 = .ok (.iload_n 1, 1) := by decide +kernel
theorem dX12_areBeside_75 : decode cX12_areBeside 75 = .ok (.ireturn, 1) := by decide +kernel
theorem dX12_permutes_0 : decode cX12_permutes 0 = .ok (.iload_n 1, 1) := by decide +kernel
theorem dX12_permutes_1 : decode cX12_permutes 1 = .ok (.aload_n 0, 1) := by decide +kernel
theorem dX12_permutes_2 : decode cX12_permutes 2 = .ok (.getfield 357, 3) := by decide +kernel
theorem dX12_permutes_5 : decode cX12_permutes 5 = .ok (.if_icmp .ne 111, 3) := by decide +kernel
theorem dX12_permutes_8 : decode cX12_permutes 8 = .ok (.iconst 0, 1) := by decide +kernel
theorem dX12_permutes_9 : decode cX12_permutes 9 = .ok (.istore_n 3, 1) := by decide +kernel
theorem dX12_permutes_10 : decode cX12_permutes 10 = .ok (.iconst 1, 1) := by decide +kernel
theorem dX12_permutes_11 : decode cX12_permutes 11 = .ok (.istore 4, 2) := by decide +kernel
theorem dX12_permutes_13 : decode cX12_permutes 13 = .ok (.iload 4, 2) := by decide +kernel
theorem dX12_permutes_15 : decode cX12_permutes 15 = .ok (.aload_n 0, 1) := by decide +kernel
theorem dX12_permutes_16 : decode cX12_permutes 16 = .ok (.getfield 357, 3) := by decide +kernel
theorem dX12_permutes_19 : decode cX12_permutes 19 = .ok (.if_icmp .ge 32, 3) := by decide +kernel
theorem dX12_permutes_22 : decode cX12_permutes 22 = .ok (.iload_n 3, 1) := by decide +kernel
theorem dX12_permutes_23 : decode cX12_permutes 23 = .ok (.aload_n 0, 1) := by decide +kernel
theorem dX12_permutes_24 : decode cX12_permutes 24 = .ok (.aload_n 0, 1) := by decide +kernel
theorem dX12_permutes_25 : decode cX12_permutes 25 = .ok (.getfield 360, 3) := by decide +kernel
theorem dX12_permutes_28 : decode cX12_permutes 28 = .ok (.iload 4, 2) := by decide +kernel
theorem dX12_permutes_30 : decode cX12_permutes 30 = .ok (.iconst 1, 1) := by decide +kernel
theorem dX12_permutes_31 : decode cX12_permutes 31 = .ok (.isub, 1) := by decide +kernel
theorem dX12_permutes_32 : decode cX12_permutes 32 = .ok (.iaload, 1) := by decide +kernel
theorem dX12_permutes_33 : decode cX12_permutes 33 = .ok (.aload_n 0, 1) := by decide +kernel
theorem dX12_permutes_34 : decode cX12_permutes 34 = .ok (.getfield 360, 3) := by decide +kernel
theorem dX12_permutes_37 : decode cX12_permutes 37 = .ok (.iload 4, 2) := by decide +kernel
theorem dX12_permutes_39 : decode cX12_permutes 39 = .ok (.iaload, 1) := by decide +kernel
theorem dX12_permutes_40 : decode cX12_permutes 40 = .ok (.invokevirtual 366, 3) := by decide +kernel
theorem dX12_permutes_43 : decode cX12_permutes 43 = .ok (.iadd, 1) := by decide +kernel
theorem dX12_permutes_44 : decode cX12_permutes 44 = .ok (.istore_n 3, 1) := by decide +kernel
theorem dX12_permutes_45 : decode cX12_permutes 45 = .ok (.iinc 4 1, 3) := by decide +kernel
theorem dX12_permutes_48 : decode cX12_permutes 48 = .ok (.goto (-35), 3) := by decide +kernel
theorem dX12_permutes_51 : decode cX12_permutes 51 = .ok (.aload_n 0, 1) := by decide +kernel
theorem dX12_permutes_52 : decode cX12_permutes 52 = .ok (.invokevirtual 369, 3) := by decide +kernel
theorem dX12_permutes_55 : decode cX12_permutes 55 = .ok (.ifCond .eq 60, 3) := by decide +kernel
theorem dX12_permutes_58 : decode cX12_permutes 58 = .ok (.aload_n 0, 1) := by decide +kernel
theorem dX12_permutes_59 : decode cX12_permutes 59 = .ok (.getfield 373, 3) := by decide +kernel
theorem dX12_permutes_62 : decode cX12_permutes 62 = .ok (.ifCond .eq 11, 3) := by decide +kernel
theorem dX12_permutes_65 : decode cX12_permutes 65 = .ok (.iload_n 3, 1) := by decide +kernel
theorem dX12_permutes_66 : decode cX12_permutes 66 = .ok (.aload_n 0, 1) := by decide +kernel
theorem dX12_permutes_67 : decode cX12_permutes 67 = .ok (.getfield 377, 3) := by decide +kernel
theorem dX12_permutes_70 : decode cX12_permutes 70 = .ok (.if_icmp .le 45, 3) := by decide +kernel
theorem dX12_permutes_73 : decode cX12_permutes 73 = .ok (.aload_n 0, 1) := by decide +kernel
theorem dX12_permutes_74 : decode cX12_permutes 74 = .ok (.iconst 1, 1) := by decide +kernel
theorem dX12_permutes_75 : decode cX12_permutes 75 = .ok (.putfield 373, 3) := by decide +kernel
theorem dX12_permutes_78 : decode cX12_permutes 78 = .ok (.aload_n 0, 1) := by decide +kernel
theorem dX12_permutes_79 : decode cX12_permutes 79 = .ok (.iload_n 3, 1) := by decide +kernel
theorem dX12_permutes_80 : decode cX12_permutes 80 = .ok (.putfield 377, 3) := by decide +kernel
theorem dX12_permutes_83 : decode cX12_permutes 83 = .ok (.iconst 0, 1) := by decide +kernel
theorem dX12_permutes_84 : decode cX12_permutes 84 = .ok (.istore 4, 2) := by decide +kernel
theorem dX12_permutes_86 : decode cX12_permutes 86 = .ok (.iload 4, 2) := by decide +kernel
theorem dX12_permutes_88 : decode cX12_permutes 88 = .ok (.aload_n 0, 1) := by decide +kernel
theorem dX12_permutes_89 : decode cX12_permutes 89 = .ok (.getfield 357, 3) := by decide +kernel
theorem dX12_permutes_92 : decode cX12_permutes 92 = .ok (.if_icmp .ge 23, 3) := by decide +kernel
theorem dX12_permutes_95 : decode cX12_permutes 95 = .ok (.aload_n 0, 1) := by decide +kernel
theorem dX12_permutes_96 : decode cX12_permutes 96 = .ok (.getfield 380, 3) := by decide +kernel
theorem dX12_permutes_99 : decode cX12_permutes 99 = .ok (.iload 4, 2) := by decide +kernel
theorem dX12_permutes_101 : decode cX12_permutes 101 = .ok (.aload_n 0, 1) := by decide +kernel
theorem dX12_permutes_102 : decode cX12_permutes 102 = .ok (.getfield 360, 3) := by decide +kernel
theorem dX12_permutes_105 : decode cX12_permutes 105 = .ok (.iload 4, 2) := by decide +kernel
theorem dX12_permutes_107 : decode cX12_permutes 107 = .ok (.iaload, 1) := by decide +kernel
theorem dX12_permutes_108 : decode cX12_permutes 108 = .ok (.iastore, 1) := by decide +kernel
theorem dX12_permutes_109 : decode cX12_permutes 109 = .ok (.iinc 4 1, 3) := by decide +kernel
theorem dX12_permutes_112 : decode cX12_permutes 112 = .ok (.goto (-26), 3) := by decide +kernel
theorem dX12_permutes_115 : decode cX12_permutes 115 = .ok (.return_, 1) := by decide +kernel
theorem dX12_permutes_116 : decode cX12_permutes 116 = .ok (.iconst 0, 1) := by decide +kernel
theorem dX12_permutes_117 : decode cX12_permutes 117 = .ok (.istore_n 3, 1) := by decide +kernel
theorem dX12_permutes_118 : decode cX12_permutes 118 = .ok (.iload_n 3, 1) := by decide +kernel
theorem dX12_permutes_119 : decode cX12_permutes 119 = .ok (.aload_n 0, 1) := by decide +kernel
theorem dX12_permutes_120 : decode cX12_permutes 120 = .ok (.getfield 108, 3) := by decide +kernel
theorem dX12_permutes_123 : decode cX12_permutes 123 = .ok (.if_icmp .ge 39, 3) := by decide +kernel
theorem dX12_permutes_126 : decode cX12_permutes 126 = .ok (.iload_n 2, 1) := by decide +kernel
theorem dX12_permutes_127 : decode cX12_permutes 127 = .ok (.iload_n 3, 1) := by decide +kernel
theorem dX12_permutes_128 : decode cX12_permutes 128 = .ok (.ishr, 1) := by decide +kernel
theorem dX12_permutes_129 : decode cX12_permutes 129 = .ok (.iconst 1, 1) := by decide +kernel
theorem dX12_permutes_130 : decode cX12_permutes 130 = .ok (.iand, 1) := by decide +kernel
theorem dX12_permutes_131 : decode cX12_permutes 131 = .ok (.iconst 1, 1) := by decide +kernel
theorem dX12_permutes_132 : decode cX12_permutes 132 = .ok (.if_icmp .ne 24, 3) := by decide +kernel
theorem dX12_permutes_135 : decode cX12_permutes 135 = .ok (.aload_n 0, 1) := by decide +kernel
theorem dX12_permutes_136 : decode cX12_permutes 136 = .ok (.getfield 360, 3) := by decide +kernel
theorem dX12_permutes_139 : decode cX12_permutes 139 = .ok (.iload_n 1, 1) := by decide +kernel
theorem dX12_permutes_140 : decode cX12_permutes 140 = .ok (.iload_n 3, 1) := by decide +kernel
theorem dX12_permutes_141 : decode cX12_permutes 141 = .ok (.iastore, 1) := by decide +kernel
theorem dX12_permutes_142 : decode cX12_permutes 142 = .ok (.aload_n 0, 1) := by decide +kernel
theorem dX12_permutes_143 : decode cX12_permutes 143 = .ok (.iload_n 1, 1) := by decide +kernel
theorem dX12_permutes_144 : decode cX12_permutes 144 = .ok (.iconst 1, 1) := by decide +kernel
theorem dX12_permutes_145 : decode cX12_permutes 145 = .ok (.iadd, 1) := by decide +kernel
theorem dX12_permutes_146 : decode cX12_permutes 146 = .ok (.iload_n 2, 1) := by decide +kernel
theorem dX12_permutes_147 : decode cX12_permutes 147 = .ok (.iconst 1, 1) := by decide +kernel
theorem dX12_permutes_148 : decode cX12_permutes 148 = .ok (.iload_n 3, 1) := by decide +kernel
theorem dX12_permutes_149 : decode cX12_permutes 149 = .ok (.ishl, 1) := by decide +kernel
theorem dX12_permutes_150 : decode cX12_permutes 150 = .ok (.iconst (-1), 1) := by decide +kernel
theorem dX12_permutes_151 : decode cX12_permutes 151 = .ok (.ixor, 1) := by decide +kernel
theorem dX12_permutes_152 : decode cX12_permutes 152 = .ok (.iand, 1) := by decide +kernel
theorem dX12_permutes_153 : decode cX12_permutes 153 = .ok (.invokevirtual 383, 3) := by decide +kernel
theorem dX12_permutes_156 : decode cX12_permutes 156 = .ok (.iinc 3 1, 3) := by decide +kernel
theorem dX12_permutes_159 : decode cX12_permutes 159 = .ok (.goto (-41), 3) := by decide +kernel
theorem dX12_permutes_162 : decode cX12_permutes 162 = .ok (.return_, 1) := by decide +kernel
theorem dX12_canBe_0 : decode cX12_canBe 0 = .ok (.aload_n 0, 1) := by decide +kernel
theorem dX12_canBe_1 : decode cX12_canBe 1 = .ok (.getfield 75, 3) := by decide +kernel
theorem dX12_canBe_4 : decode cX12_canBe 4 = .ok (.iconst 1, 1) := by decide +kernel
theorem dX12_canBe_5 : decode cX12_canBe 5 = .ok (.iaload, 1) := by decide +kernel
theorem dX12_canBe_6 : decode cX12_canBe 6 = .ok (.aload_n 0, 1) := by decide +kernel
theorem dX12_canBe_7 : decode cX12_canBe 7 = .ok (.getfield 357, 3) := by decide +kernel
theorem dX12_canBe_10 : decode cX12_canBe 10 = .ok (.iconst 1, 1) := by decide +kernel
theorem dX12_canBe_11 : decode cX12_canBe 11 = .ok (.isub, 1) := by decide +kernel
theorem dX12_canBe_12 : decode cX12_canBe 12 = .ok (.imul, 1) := by decide +kernel
theorem dX12_canBe_13 : decode cX12_canBe 13 = .ok (.istore_n 3, 1) := by decide +kernel
theorem dX12_canBe_14 : decode cX12_canBe 14 = .ok (.iconst 0, 1) := by decide +kernel
theorem dX12_canBe_15 : decode cX12_canBe 15 = .ok (.istore 4, 2) := by decide +kernel
theorem dX12_canBe_17 : decode cX12_canBe 17 = .ok (.iconst 1, 1) := by decide +kernel
theorem dX12_canBe_18 : decode cX12_canBe 18 = .ok (.istore 5, 2) := by decide +kernel
theorem dX12_canBe_20 : decode cX12_canBe 20 = .ok (.iconst 0, 1) := by decide +kernel
theorem dX12_canBe_21 : decode cX12_canBe 21 = .ok (.istore 6, 2) := by decide +kernel
theorem dX12_canBe_23 : decode cX12_canBe 23 = .ok (.iload 6, 2) := by decide +kernel
theorem dX12_canBe_25 : decode cX12_canBe 25 = .ok (.aload_n 0, 1) := by decide +kernel
theorem dX12_canBe_26 : decode cX12_canBe 26 = .ok (.getfield 108, 3) := by decide +kernel
theorem dX12_canBe_29 : decode cX12_canBe 29 = .ok (.if_icmp .ge 113, 3) := by decide +kernel
theorem dX12_canBe_32 : decode cX12_canBe 32 = .ok (.iload_n 2, 1) := by decide +kernel
theorem dX12_canBe_33 : decode cX12_canBe 33 = .ok (.iload 6, 2) := by decide +kernel
theorem dX12_canBe_35 : decode cX12_canBe 35 = .ok (.ishr, 1) := by decide +kernel
theorem dX12_canBe_36 : decode cX12_canBe 36 = .ok (.iconst 1, 1) := by decide +kernel
theorem dX12_canBe_37 : decode cX12_canBe 37 = .ok (.iand, 1) := by decide +kernel
theorem dX12_canBe_38 : decode cX12_canBe 38 = .ok (.ifCond .ne 6, 3) := by decide +kernel
theorem dX12_canBe_41 : decode cX12_canBe 41 = .ok (.goto 95, 3) := by decide +kernel
theorem dX12_canBe_44 : decode cX12_canBe 44 = .ok (.iload_n 3, 1) := by decide +kernel
theorem dX12_canBe_45 : decode cX12_canBe 45 = .ok (.aload_n 0, 1) := by decide +kernel
theorem dX12_canBe_46 : decode cX12_canBe 46 = .ok (.getfield 121, 3) := by decide +kernel
theorem dX12_canBe_49 : decode cX12_canBe 49 = .ok (.iload 6, 2) := by decide +kernel
theorem dX12_canBe_51 : decode cX12_canBe 51 = .ok (.iaload, 1) := by decide +kernel
theorem dX12_canBe_52 : decode cX12_canBe 52 = .ok (.iadd, 1) := by decide +kernel
theorem dX12_canBe_53 : decode cX12_canBe 53 = .ok (.istore_n 3, 1) := by decide +kernel
theorem dX12_canBe_54 : decode cX12_canBe 54 = .ok (.iload 4, 2) := by decide +kernel
theorem dX12_canBe_56 : decode cX12_canBe 56 = .ok (.aload_n 0, 1) := by decide +kernel
theorem dX12_canBe_57 : decode cX12_canBe 57 = .ok (.getfield 127, 3) := by decide +kernel
theorem dX12_canBe_60 : decode cX12_canBe 60 = .ok (.iload 6, 2) := by decide +kernel
theorem dX12_canBe_62 : decode cX12_canBe 62 = .ok (.iaload, 1) := by decide +kernel
theorem dX12_canBe_63 : decode cX12_canBe 63 = .ok (.iadd, 1) := by decide +kernel
theorem dX12_canBe_64 : decode cX12_canBe 64 = .ok (.istore 4, 2) := by decide +kernel
theorem dX12_canBe_66 : decode cX12_canBe 66 = .ok (.iload 5, 2) := by decide +kernel
theorem dX12_canBe_68 : decode cX12_canBe 68 = .ok (.ifCond .eq 17, 3) := by decide +kernel
theorem dX12_canBe_71 : decode cX12_canBe 71 = .ok (.aload_n 0, 1) := by decide +kernel
theorem dX12_canBe_72 : decode cX12_canBe 72 = .ok (.iload 6, 2) := by decide +kernel
theorem dX12_canBe_74 : decode cX12_canBe 74 = .ok (.iload_n 1, 1) := by decide +kernel
theorem dX12_canBe_75 : decode cX12_canBe 75 = .ok (.invokevirtual 310, 3) := by decide +kernel
theorem dX12_canBe_78 : decode cX12_canBe 78 = .ok (.ifCond .eq 7, 3) := by decide +kernel
theorem dX12_canBe_81 : decode cX12_canBe 81 = .ok (.iconst 1, 1) := by decide +kernel
theorem dX12_canBe_82 : decode cX12_canBe 82 = .ok (.goto 4, 3) := by decide +kernel
theorem dX12_canBe_85 : decode cX12_canBe 85 = .ok (.iconst 0, 1) := by decide +kernel
theorem dX12_canBe_86 : decode cX12_canBe 86 = .ok (.istore 5, 2) := by decide +kernel
theorem dX12_canBe_88 : decode cX12_canBe 88 = .ok (.iconst 0, 1) := by decide +kernel
theorem dX12_canBe_89 : decode cX12_canBe 89 = .ok (.istore 7, 2) := by decide +kernel
theorem dX12_canBe_91 : decode cX12_canBe 91 = .ok (.iload 7, 2) := by decide +kernel
theorem dX12_canBe_93 : decode cX12_canBe 93 = .ok (.iload 6, 2) := by decide +kernel
theorem dX12_canBe_95 : decode cX12_canBe 95 = .ok (.if_icmp .ge 41, 3) := by decide +kernel
theorem dX12_canBe_98 : decode cX12_canBe 98 = .ok (.iload 5, 2) := by decide +kernel
theorem dX12_canBe_100 : decode cX12_canBe 100 = .ok (.ifCond .eq 27, 3) := by decide +kernel
theorem dX12_canBe_103 : decode cX12_canBe 103 = .ok (.iload_n 2, 1) := by decide +kernel
theorem dX12_canBe_104 : decode cX12_canBe 104 = .ok (.iload 7, 2) := by decide +kernel
theorem dX12_canBe_106 : decode cX12_canBe 106 = .ok (.ishr, 1) := by decide +kernel
theorem dX12_canBe_107 : decode cX12_canBe 107 = .ok (.iconst 1, 1) := by decide +kernel
theorem dX12_canBe_108 : decode cX12_canBe 108 = .ok (.iand, 1) := by decide +kernel
theorem dX12_canBe_109 : decode cX12_canBe 109 = .ok (.ifCond .eq 14, 3) := by decide +kernel
theorem dX12_canBe_112 : decode cX12_canBe 112 = .ok (.aload_n 0, 1) := by decide +kernel
theorem dX12_canBe_113 : decode cX12_canBe 113 = .ok (.iload 7, 2) := by decide +kernel
theorem dX12_canBe_115 : decode cX12_canBe 115 = .ok (.iload 6, 2) := by decide +kernel
theorem dX12_canBe_117 : decode cX12_canBe 117 = .ok (.invokevirtual 320, 3) := by decide +kernel
theorem dX12_canBe_120 : decode cX12_canBe 120 = .ok (.ifCond .ne 7, 3) := by decide +kernel
theorem dX12_canBe_123 : decode cX12_canBe 123 = .ok (.iconst 1, 1) := by decide +kernel
theorem dX12_canBe_124 : decode cX12_canBe 124 = .ok (.goto 4, 3) := by decide +kernel
theorem dX12_canBe_127 : decode cX12_canBe 127 = .ok (.iconst 0, 1) := by decide +kernel
theorem dX12_canBe_128 : decode cX12_canBe 128 = .ok (.istore 5, 2) := by decide +kernel
theorem dX12_canBe_130 : decode cX12_canBe 130 = .ok (.iinc 7 1, 3) := by decide +kernel
theorem dX12_canBe_133 : decode cX12_canBe 133 = .ok (.goto (-42), 3) := by decide +kernel
theorem dX12_canBe_136 : decode cX12_canBe 136 = .ok (.iinc 6 1, 3) := by decide +kernel
theorem dX12_canBe_139 : decode cX12_canBe 139 = .ok (.goto (-116), 3) := by decide +kernel
theorem dX12_canBe_142 : decode cX12_canBe 142 = .ok (.iload 5, 2) := by decide +kernel
theorem dX12_canBe_144 : decode cX12_canBe 144 = .ok (.ifCond .eq 28, 3) := by decide +kernel
theorem dX12_canBe_147 : decode cX12_canBe 147 = .ok (.iload_n 3, 1) := by decide +kernel
theorem dX12_canBe_148 : decode cX12_canBe 148 = .ok (.aload_n 0, 1) := by decide +kernel
theorem dX12_canBe_149 : decode cX12_canBe 149 = .ok (.getfield 60, 3) := by decide +kernel
theorem dX12_canBe_152 : decode cX12_canBe 152 = .ok (.iload_n 1, 1) := by decide +kernel
theorem dX12_canBe_153 : decode cX12_canBe 153 = .ok (.iaload, 1) := by decide +kernel
theorem dX12_canBe_154 : decode cX12_canBe 154 = .ok (.if_icmp .gt 18, 3) := by decide +kernel
theorem dX12_canBe_157 : decode cX12_canBe 157 = .ok (.iload 4, 2) := by decide +kernel
theorem dX12_canBe_159 : decode cX12_canBe 159 = .ok (.aload_n 0, 1) := by decide +kernel
theorem dX12_canBe_160 : decode cX12_canBe 160 = .ok (.getfield 66, 3) := by decide +kernel
theorem dX12_canBe_163 : decode cX12_canBe 163 = .ok (.iload_n 1, 1) := by decide +kernel
theorem dX12_canBe_164 : decode cX12_canBe 164 = .ok (.iaload, 1) := by decide +kernel
theorem dX12_canBe_165 : decode cX12_canBe 165 = .ok (.if_icmp .gt 7, 3) := by decide +kernel
theorem dX12_canBe_168 : decode cX12_canBe 168 = .ok (.iconst 1, 1) := by decide +kernel
theorem dX12_canBe_169 : decode cX12_canBe 169 = .ok (.goto 4, 3) := by decide +kernel
theorem dX12_canBe_172 : decode cX12_canBe 172 = .ok (.iconst 0, 1) := by decide +kernel
theorem dX12_canBe_173 : decode cX12_canBe 173 = .ok (.ireturn, 1) := by decide +kernel
theorem dX12_best_0 : decode cX12_best 0 = .ok (.aload_n 0, 1) := by decide +kernel
theorem dX12_best_1 : decode cX12_best 1 = .ok (.iconst 0, 1) := by decide +kernel
theorem dX12_best_2 : decode cX12_best 2 = .ok (.putfield 1, 3) := by decide +kernel
theorem dX12_best_5 : decode cX12_best 5 = .ok (.aload_n 0, 1) := by decide +kernel
theorem dX12_best_6 : decode cX12_best 6 = .ok (.iload_n 1, 1) := by decide +kernel
theorem dX12_best_7 : decode cX12_best 7 = .ok (.invokevirtual 90, 3) := by decide +kernel
theorem dX12_best_10 : decode cX12_best 10 = .ok (.ifCond .eq 30, 3) := by decide +kernel
theorem dX12_best_13 : decode cX12_best 13 = .ok (.iload_n 2, 1) := by decide +kernel
theorem dX12_best_14 : decode cX12_best 14 = .ok (.i2l, 1) := by decide +kernel
theorem dX12_best_15 : decode cX12_best 15 = .ok (.lconst 1, 1) := by decide +kernel
theorem dX12_best_16 : decode cX12_best 16 = .ok (.iconst 1, 1) := by decide +kernel
theorem dX12_best_17 : decode cX12_best 17 = .ok (.aload_n 0, 1) := by decide +kernel
theorem dX12_best_18 : decode cX12_best 18 = .ok (.getfield 108, 3) := by decide +kernel
theorem dX12_best_21 : decode cX12_best 21 = .ok (.ishl, 1) := by decide +kernel
theorem dX12_best_22 : decode cX12_best 22 = .ok (.iconst 1, 1) := by decide +kernel
theorem dX12_best_23 : decode cX12_best 23 = .ok (.isub, 1) := by decide +kernel
theorem dX12_best_24 : decode cX12_best 24 = .ok (.i2l, 1) := by decide +kernel
theorem dX12_best_25 : decode cX12_best 25 = .ok (.invokestatic 17, 3) := by decide +kernel
theorem dX12_best_28 : decode cX12_best 28 = .ok (.ifCond .eq 12, 3) := by decide +kernel
theorem dX12_best_31 : decode cX12_best 31 = .ok (.iload_n 2, 1) := by decide +kernel
theorem dX12_best_32 : decode cX12_best 32 = .ok (.invokestatic 386, 3) := by decide +kernel
theorem dX12_best_35 : decode cX12_best 35 = .ok (.bipush 7, 2) := by decide +kernel
theorem dX12_best_37 : decode cX12_best 37 = .ok (.if_icmp .le 8, 3) := by decide +kernel
theorem dX12_best_40 : decode cX12_best 40 = .ok (.aload_n 0, 1) := by decide +kernel
theorem dX12_best_41 : decode cX12_best 41 = .ok (.invokevirtual 338, 3) := by decide +kernel
theorem dX12_best_44 : decode cX12_best 44 = .ok (.ireturn, 1) := by decide +kernel
theorem dX12_best_45 : decode cX12_best 45 = .ok (.iconst 0, 1) := by decide +kernel
theorem dX12_best_46 : decode cX12_best 46 = .ok (.istore_n 3, 1) := by decide +kernel
theorem dX12_best_47 : decode cX12_best 47 = .ok (.iload_n 3, 1) := by decide +kernel
theorem dX12_best_48 : decode cX12_best 48 = .ok (.aload_n 0, 1) := by decide +kernel
theorem dX12_best_49 : decode cX12_best 49 = .ok (.getfield 108, 3) := by decide +kernel
theorem dX12_best_52 : decode cX12_best 52 = .ok (.if_icmp .ge 31, 3) := by decide +kernel
theorem dX12_best_55 : decode cX12_best 55 = .ok (.iload_n 2, 1) := by decide +kernel
theorem dX12_best_56 : decode cX12_best 56 = .ok (.iload_n 3, 1) := by decide +kernel
theorem dX12_best_57 : decode cX12_best 57 = .ok (.ishr, 1) := by decide +kernel
theorem dX12_best_58 : decode cX12_best 58 = .ok (.iconst 1, 1) := by decide +kernel
theorem dX12_best_59 : decode cX12_best 59 = .ok (.iand, 1) := by decide +kernel
theorem dX12_best_60 : decode cX12_best 60 = .ok (.iconst 1, 1) := by decide +kernel
theorem dX12_best_61 : decode cX12_best 61 = .ok (.if_icmp .ne 16, 3) := by decide +kernel
theorem dX12_best_64 : decode cX12_best 64 = .ok (.aload_n 0, 1) := by decide +kernel
theorem dX12_best_65 : decode cX12_best 65 = .ok (.iload_n 3, 1) := by decide +kernel
theorem dX12_best_66 : decode cX12_best 66 = .ok (.invokevirtual 323, 3) := by decide +kernel
theorem dX12_best_69 : decode cX12_best 69 = .ok (.ifCond .ne 8, 3) := by decide +kernel
theorem dX12_best_72 : decode cX12_best 72 = .ok (.aload_n 0, 1) := by decide +kernel
theorem dX12_best_73 : decode cX12_best 73 = .ok (.invokevirtual 338, 3) := by decide +kernel
theorem dX12_best_76 : decode cX12_best 76 = .ok (.ireturn, 1) := by decide +kernel
theorem dX12_best_77 : decode cX12_best 77 = .ok (.iinc 3 1, 3) := by decide +kernel
theorem dX12_best_80 : decode cX12_best 80 = .ok (.goto (-33), 3) := by decide +kernel
theorem dX12_best_83 : decode cX12_best 83 = .ok (.aload_n 0, 1) := by decide +kernel
theorem dX12_best_84 : decode cX12_best 84 = .ok (.iload_n 2, 1) := by decide +kernel
theorem dX12_best_85 : decode cX12_best 85 = .ok (.invokestatic 386, 3) := by decide +kernel
theorem dX12_best_88 : decode cX12_best 88 = .ok (.putfield 357, 3) := by decide +kernel
theorem dX12_best_91 : decode cX12_best 91 = .ok (.aload_n 0, 1) := by decide +kernel
theorem dX12_best_92 : decode cX12_best 92 = .ok (.iconst 0, 1) := by decide +kernel
theorem dX12_best_93 : decode cX12_best 93 = .ok (.putfield 373, 3) := by decide +kernel
theorem dX12_best_96 : decode cX12_best 96 = .ok (.aload_n 0, 1) := by decide +kernel
theorem dX12_best_97 : decode cX12_best 97 = .ok (.iload_n 1, 1) := by decide +kernel
theorem dX12_best_98 : decode cX12_best 98 = .ok (.iload_n 2, 1) := by decide +kernel
theorem dX12_best_99 : decode cX12_best 99 = .ok (.invokevirtual 391, 3) := by decide +kernel
theorem dX12_best_102 : decode cX12_best 102 = .ok (.ifCond .eq 9, 3) := by decide +kernel
theorem dX12_best_105 : decode cX12_best 105 = .ok (.aload_n 0, 1) := by decide +kernel
theorem dX12_best_106 : decode cX12_best 106 = .ok (.iconst 0, 1) := by decide +kernel
theorem dX12_best_107 : decode cX12_best 107 = .ok (.iload_n 2, 1) := by decide +kernel
theorem dX12_best_108 : decode cX12_best 108 = .ok (.invokevirtual 383, 3) := by decide +kernel
theorem dX12_best_111 : decode cX12_best 111 = .ok (.aload_n 0, 1) := by decide +kernel
theorem dX12_best_112 : decode cX12_best 112 = .ok (.getfield 373, 3) := by decide +kernel
theorem dX12_best_115 : decode cX12_best 115 = .ok (.ifCond .ne 8, 3) := by decide +kernel
theorem dX12_best_118 : decode cX12_best 118 = .ok (.aload_n 0, 1) := by decide +kernel
theorem dX12_best_119 : decode cX12_best 119 = .ok (.invokevirtual 338, 3) := by decide +kernel
theorem dX12_best_122 : decode cX12_best 122 = .ok (.ireturn, 1) := by decide +kernel
theorem dX12_best_123 : decode cX12_best 123 = .ok (.aload_n 0, 1) := by decide +kernel
theorem dX12_best_124 : decode cX12_best 124 = .ok (.getfield 75, 3) := by decide +kernel
theorem dX12_best_127 : decode cX12_best 127 = .ok (.iconst 1, 1) := by decide +kernel
theorem dX12_best_128 : decode cX12_best 128 = .ok (.iaload, 1) := by decide +kernel
theorem dX12_best_129 : decode cX12_best 129 = .ok (.aload_n 0, 1) := by decide +kernel
theorem dX12_best_130 : decode cX12_best 130 = .ok (.getfield 357, 3) := by decide +kernel
theorem dX12_best_133 : decode cX12_best 133 = .ok (.iconst 1, 1) := by decide +kernel
theorem dX12_best_134 : decode cX12_best 134 = .ok (.isub, 1) := by decide +kernel
theorem dX12_best_135 : decode cX12_best 135 = .ok (.imul, 1) := by decide +kernel
theorem dX12_best_136 : decode cX12_best 136 = .ok (.istore_n 3, 1) := by decide +kernel
theorem dX12_best_137 : decode cX12_best 137 = .ok (.iconst 0, 1) := by decide +kernel
theorem dX12_best_138 : decode cX12_best 138 = .ok (.istore 4, 2) := by decide +kernel
theorem dX12_best_140 : decode cX12_best 140 = .ok (.iload 4, 2) := by decide +kernel
theorem dX12_best_142 : decode cX12_best 142 = .ok (.aload_n 0, 1) := by decide +kernel
theorem dX12_best_143 : decode cX12_best 143 = .ok (.getfield 357, 3) := by decide +kernel
theorem dX12_best_146 : decode cX12_best 146 = .ok (.if_icmp .ge 24, 3) := by decide +kernel
theorem dX12_best_149 : decode cX12_best 149 = .ok (.iload_n 3, 1) := by decide +kernel
theorem dX12_best_150 : decode cX12_best 150 = .ok (.aload_n 0, 1) := by decide +kernel
theorem dX12_best_151 : decode cX12_best 151 = .ok (.getfield 121, 3) := by decide +kernel
theorem dX12_best_154 : decode cX12_best 154 = .ok (.aload_n 0, 1) := by decide +kernel
theorem dX12_best_155 : decode cX12_best 155 = .ok (.getfield 380, 3) := by decide +kernel
theorem dX12_best_158 : decode cX12_best 158 = .ok (.iload 4, 2) := by decide +kernel
theorem dX12_best_160 : decode cX12_best 160 = .ok (.iaload, 1) := by decide +kernel
theorem dX12_best_161 : decode cX12_best 161 = .ok (.iaload, 1) := by decide +kernel
theorem dX12_best_162 : decode cX12_best 162 = .ok (.iadd, 1) := by decide +kernel
theorem dX12_best_163 : decode cX12_best 163 = .ok (.istore_n 3, 1) := by decide +kernel
theorem dX12_best_164 : decode cX12_best 164 = .ok (.iinc 4 1, 3) := by decide +kernel
theorem dX12_best_167 : decode cX12_best 167 = .ok (.goto (-27), 3) := by decide +kernel
theorem dX12_best_170 : decode cX12_best 170 = .ok (.aload_n 0, 1) := by decide +kernel
theorem dX12_best_171 : decode cX12_best 171 = .ok (.getfield 60, 3) := by decide +kernel
theorem dX12_best_174 : decode cX12_best 174 = .ok (.iload_n 1, 1) := by decide +kernel
theorem dX12_best_175 : decode cX12_best 175 = .ok (.iaload, 1) := by decide +kernel
theorem dX12_best_176 : decode cX12_best 176 = .ok (.iload_n 3, 1) := by decide +kernel
theorem dX12_best_177 : decode cX12_best 177 = .ok (.isub, 1) := by decide +kernel
theorem dX12_best_178 : decode cX12_best 178 = .ok (.iconst 2, 1) := by decide +kernel
theorem dX12_best_179 : decode cX12_best 179 = .ok (.idiv, 1) := by decide +kernel
theorem dX12_best_180 : decode cX12_best 180 = .ok (.istore 4, 2) := by decide +kernel
theorem dX12_best_182 : decode cX12_best 182 = .ok (.aload_n 0, 1) := by decide +kernel
theorem dX12_best_183 : decode cX12_best 183 = .ok (.iconst 0, 1) := by decide +kernel
theorem dX12_best_184 : decode cX12_best 184 = .ok (.putfield 11, 3) := by decide +kernel
theorem dX12_best_187 : decode cX12_best 187 = .ok (.aload_n 0, 1) := by decide +kernel
theorem dX12_best_188 : decode cX12_best 188 = .ok (.aload_n 0, 1) := by decide +kernel
theorem dX12_best_189 : decode cX12_best 189 = .ok (.getfield 357, 3) := by decide +kernel
theorem dX12_best_192 : decode cX12_best 192 = .ok (.putfield 394, 3) := by decide +kernel
theorem dX12_best_195 : decode cX12_best 195 = .ok (.aload_n 0, 1) := by decide +kernel
theorem dX12_best_196 : decode cX12_best 196 = .ok (.iload_n 1, 1) := by decide +kernel
theorem dX12_best_197 : decode cX12_best 197 = .ok (.putfield 397, 3) := by decide +kernel
theorem dX12_best_200 : decode cX12_best 200 = .ok (.aload_n 0, 1) := by decide +kernel
theorem dX12_best_201 : decode cX12_best 201 = .ok (.iconst 1, 1) := by decide +kernel
theorem dX12_best_202 : decode cX12_best 202 = .ok (.putfield 400, 3) := by decide +kernel
theorem dX12_best_205 : decode cX12_best 205 = .ok (.iconst 0, 1) := by decide +kernel
theorem dX12_best_206 : decode cX12_best 206 = .ok (.istore 5, 2) := by decide +kernel
theorem dX12_best_208 : decode cX12_best 208 = .ok (.iload 5, 2) := by decide +kernel
theorem dX12_best_210 : decode cX12_best 210 = .ok (.aload_n 0, 1) := by decide +kernel
theorem dX12_best_211 : decode cX12_best 211 = .ok (.getfield 357, 3) := by decide +kernel
theorem dX12_best_214 : decode cX12_best 214 = .ok (.if_icmp .ge 67, 3) := by decide +kernel
theorem dX12_best_217 : decode cX12_best 217 = .ok (.aload_n 0, 1) := by decide +kernel
theorem dX12_best_218 : decode cX12_best 218 = .ok (.aload_n 0, 1) := by decide +kernel
theorem dX12_best_219 : decode cX12_best 219 = .ok (.getfield 380, 3) := by decide +kernel
theorem dX12_best_222 : decode cX12_best 222 = .ok (.iload 5, 2) := by decide +kernel
theorem dX12_best_224 : decode cX12_best 224 = .ok (.iaload, 1) := by decide +kernel
theorem dX12_best_225 : decode cX12_best 225 = .ok (.invokevirtual 345, 3) := by decide +kernel
theorem dX12_best_228 : decode cX12_best 228 = .ok (.aload_n 0, 1) := by decide +kernel
theorem dX12_best_229 : decode cX12_best 229 = .ok (.getfield 403, 3) := by decide +kernel
theorem dX12_best_232 : decode cX12_best 232 = .ok (.iload 5, 2) := by decide +kernel
theorem dX12_best_234 : decode cX12_best 234 = .ok (.aload_n 0, 1) := by decide +kernel
theorem dX12_best_235 : decode cX12_best 235 = .ok (.getfield 380, 3) := by decide +kernel
theorem dX12_best_238 : decode cX12_best 238 = .ok (.iload 5, 2) := by decide +kernel
theorem dX12_best_240 : decode cX12_best 240 = .ok (.iaload, 1) := by decide +kernel
theorem dX12_best_241 : decode cX12_best 241 = .ok (.iastore, 1) := by decide +kernel
theorem dX12_best_242 : decode cX12_best 242 = .ok (.aload_n 0, 1) := by decide +kernel
theorem dX12_best_243 : decode cX12_best 243 = .ok (.getfield 406, 3) := by decide +kernel
theorem dX12_best_246 : decode cX12_best 246 = .ok (.iload 5, 2) := by decide +kernel
theorem dX12_best_248 : decode cX12_best 248 = .ok (.iload 4, 2) := by decide +kernel
theorem dX12_best_250 : decode cX12_best 250 = .ok (.iastore, 1) := by decide +kernel
theorem dX12_best_251 : decode cX12_best 251 = .ok (.iload 4, 2) := by decide +kernel
theorem dX12_best_253 : decode cX12_best 253 = .ok (.aload_n 0, 1) := by decide +kernel
theorem dX12_best_254 : decode cX12_best 254 = .ok (.getfield 121, 3) := by decide +kernel
theorem dX12_best_257 : decode cX12_best 257 = .ok (.aload_n 0, 1) := by decide +kernel
theorem dX12_best_258 : decode cX12_best 258 = .ok (.getfield 380, 3) := by decide +kernel
theorem dX12_best_261 : decode cX12_best 261 = .ok (.iload 5, 2) := by decide +kernel
theorem dX12_best_263 : decode cX12_best 263 = .ok (.iaload, 1) := by decide +kernel
theorem dX12_best_264 : decode cX12_best 264 = .ok (.iaload, 1) := by decide +kernel
theorem dX12_best_265 : decode cX12_best 265 = .ok (.aload_n 0, 1) := by decide +kernel
theorem dX12_best_266 : decode cX12_best 266 = .ok (.getfield 75, 3) := by decide +kernel
theorem dX12_best_269 : decode cX12_best 269 = .ok (.iconst 1, 1) := by decide +kernel
theorem dX12_best_270 : decode cX12_best 270 = .ok (.iaload, 1) := by decide +kernel
theorem dX12_best_271 : decode cX12_best 271 = .ok (.iadd, 1) := by decide +kernel
theorem dX12_best_272 : decode cX12_best 272 = .ok (.iadd, 1) := by decide +kernel
theorem dX12_best_273 : decode cX12_best 273 = .ok (.istore 4, 2) := by decide +kernel
theorem dX12_best_275 : decode cX12_best 275 = .ok (.iinc 5 1, 3) := by decide +kernel
theorem dX12_best_278 : decode cX12_best 278 = .ok (.goto (-70), 3) := by decide +kernel
theorem dX12_best_281 : decode cX12_best 281 = .ok (.aload_n 0, 1) := by decide +kernel
theorem dX12_best_282 : decode cX12_best 282 = .ok (.getfield 377, 3) := by decide +kernel
theorem dX12_best_285 : decode cX12_best 285 = .ok (.ireturn, 1) := by decide +kernel
theorem dX12_lay_0 : decode cX12_lay 0 = .ok (.aload_n 0, 1) := by decide +kernel
theorem dX12_lay_1 : decode cX12_lay 1 = .ok (.iconst 0, 1) := by decide +kernel
theorem dX12_lay_2 : decode cX12_lay 2 = .ok (.putfield 1, 3) := by decide +kernel
theorem dX12_lay_5 : decode cX12_lay 5 = .ok (.iconst 0, 1) := by decide +kernel
theorem dX12_lay_6 : decode cX12_lay 6 = .ok (.istore_n 1, 1) := by decide +kernel
theorem dX12_lay_7 : decode cX12_lay 7 = .ok (.iload_n 1, 1) := by decide +kernel
theorem dX12_lay_8 : decode cX12_lay 8 = .ok (.aload_n 0, 1) := by decide +kernel
theorem dX12_lay_9 : decode cX12_lay 9 = .ok (.getfield 394, 3) := by decide +kernel
theorem dX12_lay_12 : decode cX12_lay 12 = .ok (.if_icmp .ge 24, 3) := by decide +kernel
theorem dX12_lay_15 : decode cX12_lay 15 = .ok (.aload_n 0, 1) := by decide +kernel
theorem dX12_lay_16 : decode cX12_lay 16 = .ok (.aload_n 0, 1) := by decide +kernel
theorem dX12_lay_17 : decode cX12_lay 17 = .ok (.getfield 403, 3) := by decide +kernel
theorem dX12_lay_20 : decode cX12_lay 20 = .ok (.iload_n 1, 1) := by decide +kernel
theorem dX12_lay_21 : decode cX12_lay 21 = .ok (.iaload, 1) := by decide +kernel
theorem dX12_lay_22 : decode cX12_lay 22 = .ok (.invokevirtual 323, 3) := by decide +kernel
theorem dX12_lay_25 : decode cX12_lay 25 = .ok (.ifCond .ne 5, 3) := by decide +kernel
theorem dX12_lay_28 : decode cX12_lay 28 = .ok (.iconst (-1), 1) := by decide +kernel
theorem dX12_lay_29 : decode cX12_lay 29 = .ok (.ireturn, 1) := by decide +kernel
theorem dX12_lay_30 : decode cX12_lay 30 = .ok (.iinc 1 1, 3) := by decide +kernel
theorem dX12_lay_33 : decode cX12_lay 33 = .ok (.goto (-26), 3) := by decide +kernel
theorem dX12_lay_36 : decode cX12_lay 36 = .ok (.aload_n 0, 1) := by decide +kernel
theorem dX12_lay_37 : decode cX12_lay 37 = .ok (.getfield 400, 3) := by decide +kernel
theorem dX12_lay_40 : decode cX12_lay 40 = .ok (.ifCond .ne 5, 3) := by decide +kernel
theorem dX12_lay_43 : decode cX12_lay 43 = .ok (.iconst (-1), 1) := by decide +kernel
theorem dX12_lay_44 : decode cX12_lay 44 = .ok (.ireturn, 1) := by decide +kernel
theorem dX12_lay_45 : decode cX12_lay 45 = .ok (.iconst 0, 1) := by decide +kernel
theorem dX12_lay_46 : decode cX12_lay 46 = .ok (.istore_n 1, 1) := by decide +kernel
theorem dX12_lay_47 : decode cX12_lay 47 = .ok (.iload_n 1, 1) := by decide +kernel
theorem dX12_lay_48 : decode cX12_lay 48 = .ok (.aload_n 0, 1) := by decide +kernel
theorem dX12_lay_49 : decode cX12_lay 49 = .ok (.getfield 108, 3) := by decide +kernel
theorem dX12_lay_52 : decode cX12_lay 52 = .ok (.if_icmp .ge 27, 3) := by decide +kernel
theorem dX12_lay_55 : decode cX12_lay 55 = .ok (.aload_n 0, 1) := by decide +kernel
theorem dX12_lay_56 : decode cX12_lay 56 = .ok (.iload_n 1, 1) := by decide +kernel
theorem dX12_lay_57 : decode cX12_lay 57 = .ok (.aload_n 0, 1) := by decide +kernel
theorem dX12_lay_58 : decode cX12_lay 58 = .ok (.getfield 397, 3) := by decide +kernel
theorem dX12_lay_61 : decode cX12_lay 61 = .ok (.invokevirtual 173, 3) := by decide +kernel
theorem dX12_lay_64 : decode cX12_lay 64 = .ok (.ifCond .eq 9, 3) := by decide +kernel
theorem dX12_lay_67 : decode cX12_lay 67 = .ok (.aload_n 0, 1) := by decide +kernel
theorem dX12_lay_68 : decode cX12_lay 68 = .ok (.iload_n 1, 1) := by decide +kernel
theorem dX12_lay_69 : decode cX12_lay 69 = .ok (.iconst 0, 1) := by decide +kernel
theorem dX12_lay_70 : decode cX12_lay 70 = .ok (.invokevirtual 334, 3) := by decide +kernel
theorem dX12_lay_73 : decode cX12_lay 73 = .ok (.iinc 1 1, 3) := by decide +kernel
theorem dX12_lay_76 : decode cX12_lay 76 = .ok (.goto (-29), 3) := by decide +kernel
theorem dX12_lay_79 : decode cX12_lay 79 = .ok (.iconst 0, 1) := by decide +kernel
theorem dX12_lay_80 : decode cX12_lay 80 = .ok (.istore_n 1, 1) := by decide +kernel
theorem dX12_lay_81 : decode cX12_lay 81 = .ok (.iload_n 1, 1) := by decide +kernel
theorem dX12_lay_82 : decode cX12_lay 82 = .ok (.aload_n 0, 1) := by decide +kernel
theorem dX12_lay_83 : decode cX12_lay 83 = .ok (.getfield 394, 3) := by decide +kernel
theorem dX12_lay_86 : decode cX12_lay 86 = .ok (.if_icmp .ge 29, 3) := by decide +kernel
theorem dX12_lay_89 : decode cX12_lay 89 = .ok (.aload_n 0, 1) := by decide +kernel
theorem dX12_lay_90 : decode cX12_lay 90 = .ok (.aload_n 0, 1) := by decide +kernel
theorem dX12_lay_91 : decode cX12_lay 91 = .ok (.getfield 403, 3) := by decide +kernel
theorem dX12_lay_94 : decode cX12_lay 94 = .ok (.iload_n 1, 1) := by decide +kernel
theorem dX12_lay_95 : decode cX12_lay 95 = .ok (.iaload, 1) := by decide +kernel
theorem dX12_lay_96 : decode cX12_lay 96 = .ok (.aload_n 0, 1) := by decide +kernel
theorem dX12_lay_97 : decode cX12_lay 97 = .ok (.getfield 397, 3) := by decide +kernel
theorem dX12_lay_100 : decode cX12_lay 100 = .ok (.aload_n 0, 1) := by decide +kernel
theorem dX12_lay_101 : decode cX12_lay 101 = .ok (.getfield 406, 3) := by decide +kernel
theorem dX12_lay_104 : decode cX12_lay 104 = .ok (.iload_n 1, 1) := by decide +kernel
theorem dX12_lay_105 : decode cX12_lay 105 = .ok (.iaload, 1) := by decide +kernel
theorem dX12_lay_106 : decode cX12_lay 106 = .ok (.invokevirtual 330, 3) := by decide +kernel
theorem dX12_lay_109 : decode cX12_lay 109 = .ok (.iinc 1 1, 3) := by decide +kernel
theorem dX12_lay_112 : decode cX12_lay 112 = .ok (.goto (-31), 3) := by decide +kernel
theorem dX12_lay_115 : decode cX12_lay 115 = .ok (.aload_n 0, 1) := by decide +kernel
theorem dX12_lay_116 : decode cX12_lay 116 = .ok (.iconst 0, 1) := by decide +kernel
theorem dX12_lay_117 : decode cX12_lay 117 = .ok (.putfield 400, 3) := by decide +kernel
theorem dX12_lay_120 : decode cX12_lay 120 = .ok (.aload_n 0, 1) := by decide +kernel
theorem dX12_lay_121 : decode cX12_lay 121 = .ok (.getfield 394, 3) := by decide +kernel
theorem dX12_lay_124 : decode cX12_lay 124 = .ok (.ireturn, 1) := by decide +kernel
theorem dX12_isThere_0 : decode cX12_isThere 0 = .ok (.iconst 0, 1) := by decide +kernel
theorem dX12_isThere_1 : decode cX12_isThere 1 = .ok (.istore_n 3, 1) := by decide +kernel
theorem dX12_isThere_2 : decode cX12_isThere 2 = .ok (.iconst 0, 1) := by decide +kernel
theorem dX12_isThere_3 : decode cX12_isThere 3 = .ok (.istore 4, 2) := by decide +kernel
theorem dX12_isThere_5 : decode cX12_isThere 5 = .ok (.iload 4, 2) := by decide +kernel
theorem dX12_isThere_7 : decode cX12_isThere 7 = .ok (.iload_n 1, 1) := by decide +kernel
theorem dX12_isThere_8 : decode cX12_isThere 8 = .ok (.if_icmp .ge 27, 3) := by decide +kernel
theorem dX12_isThere_11 : decode cX12_isThere 11 = .ok (.iload_n 3, 1) := by decide +kernel
theorem dX12_isThere_12 : decode cX12_isThere 12 = .ok (.ifCond .ne 11, 3) := by decide +kernel
theorem dX12_isThere_15 : decode cX12_isThere 15 = .ok (.aload_n 0, 1) := by decide +kernel
theorem dX12_isThere_16 : decode cX12_isThere 16 = .ok (.iload 4, 2) := by decide +kernel
theorem dX12_isThere_18 : decode cX12_isThere 18 = .ok (.iaload, 1) := by decide +kernel
theorem dX12_isThere_19 : decode cX12_isThere 19 = .ok (.iload_n 2, 1) := by decide +kernel
theorem dX12_isThere_20 : decode cX12_isThere 20 = .ok (.if_icmp .ne 7, 3) := by decide +kernel
theorem dX12_isThere_23 : decode cX12_isThere 23 = .ok (.iconst 1, 1) := by decide +kernel
theorem dX12_isThere_24 : decode cX12_isThere 24 = .ok (.goto 4, 3) := by decide +kernel
theorem dX12_isThere_27 : decode cX12_isThere 27 = .ok (.iconst 0, 1) := by decide +kernel
theorem dX12_isThere_28 : decode cX12_isThere 28 = .ok (.istore_n 3, 1) := by decide +kernel
theorem dX12_isThere_29 : decode cX12_isThere 29 = .ok (.iinc 4 1, 3) := by decide +kernel
theorem dX12_isThere_32 : decode cX12_isThere 32 = .ok (.goto (-27), 3) := by decide +kernel
theorem dX12_isThere_35 : decode cX12_isThere 35 = .ok (.iload_n 3, 1) := by decide +kernel
theorem dX12_isThere_36 : decode cX12_isThere 36 = .ok (.ireturn, 1) := by decide +kernel
theorem dX12_tale_0 : decode cX12_tale 0 = .ok (.aload_n 0, 1) := by decide +kernel
theorem dX12_tale_1 : decode cX12_tale 1 = .ok (.iconst 0, 1) := by decide +kernel
theorem dX12_tale_2 : decode cX12_tale 2 = .ok (.putfield 1, 3) := by decide +kernel
theorem dX12_tale_5 : decode cX12_tale 5 = .ok (.aload_n 0, 1) := by decide +kernel
theorem dX12_tale_6 : decode cX12_tale 6 = .ok (.iload_n 1, 1) := by decide +kernel
theorem dX12_tale_7 : decode cX12_tale 7 = .ok (.invokevirtual 161, 3) := by decide +kernel
theorem dX12_tale_10 : decode cX12_tale 10 = .ok (.ifCond .eq 27, 3) := by decide +kernel
theorem dX12_tale_13 : decode cX12_tale 13 = .ok (.aload_n 0, 1) := by decide +kernel
theorem dX12_tale_14 : decode cX12_tale 14 = .ok (.getfield 409, 3) := by decide +kernel
theorem dX12_tale_17 : decode cX12_tale 17 = .ok (.aload_n 0, 1) := by decide +kernel
theorem dX12_tale_18 : decode cX12_tale 18 = .ok (.getfield 412, 3) := by decide +kernel
theorem dX12_tale_21 : decode cX12_tale 21 = .ok (.iload_n 1, 1) := by decide +kernel
theorem dX12_tale_22 : decode cX12_tale 22 = .ok (.invokestatic 415, 3) := by decide +kernel
theorem dX12_tale_25 : decode cX12_tale 25 = .ok (.ifCond .ne 12, 3) := by decide +kernel
theorem dX12_tale_28 : decode cX12_tale 28 = .ok (.aload_n 0, 1) := by decide +kernel
theorem dX12_tale_29 : decode cX12_tale 29 = .ok (.getfield 412, 3) := by decide +kernel
theorem dX12_tale_32 : decode cX12_tale 32 = .ok (.bipush 12, 2) := by decide +kernel
theorem dX12_tale_34 : decode cX12_tale 34 = .ok (.if_icmp .ne 5, 3) := by decide +kernel
theorem dX12_tale_37 : decode cX12_tale 37 = .ok (.iconst (-1), 1) := by decide +kernel
theorem dX12_tale_38 : decode cX12_tale 38 = .ok (.ireturn, 1) := by decide +kernel
theorem dX12_tale_39 : decode cX12_tale 39 = .ok (.aload_n 0, 1) := by decide +kernel
theorem dX12_tale_40 : decode cX12_tale 40 = .ok (.getfield 409, 3) := by decide +kernel
theorem dX12_tale_43 : decode cX12_tale 43 = .ok (.aload_n 0, 1) := by decide +kernel
theorem dX12_tale_44 : decode cX12_tale 44 = .ok (.getfield 412, 3) := by decide +kernel
theorem dX12_tale_47 : decode cX12_tale 47 = .ok (.iload_n 1, 1) := by decide +kernel
theorem dX12_tale_48 : decode cX12_tale 48 = .ok (.iastore, 1) := by decide +kernel
theorem dX12_tale_49 : decode cX12_tale 49 = .ok (.aload_n 0, 1) := by decide +kernel
theorem dX12_tale_50 : decode cX12_tale 50 = .ok (.dup, 1) := by decide +kernel
theorem dX12_tale_51 : decode cX12_tale 51 = .ok (.getfield 412, 3) := by decide +kernel
theorem dX12_tale_54 : decode cX12_tale 54 = .ok (.iconst 1, 1) := by decide +kernel
theorem dX12_tale_55 : decode cX12_tale 55 = .ok (.iadd, 1) := by decide +kernel
theorem dX12_tale_56 : decode cX12_tale 56 = .ok (.putfield 412, 3) := by decide +kernel
theorem dX12_tale_59 : decode cX12_tale 59 = .ok (.aload_n 0, 1) := by decide +kernel
theorem dX12_tale_60 : decode cX12_tale 60 = .ok (.getfield 412, 3) := by decide +kernel
theorem dX12_tale_63 : decode cX12_tale 63 = .ok (.ireturn, 1) := by decide +kernel
theorem dX12_route_0 : decode cX12_route 0 = .ok (.aload_n 0, 1) := by decide +kernel
theorem dX12_route_1 : decode cX12_route 1 = .ok (.iconst 0, 1) := by decide +kernel
theorem dX12_route_2 : decode cX12_route 2 = .ok (.putfield 1, 3) := by decide +kernel
theorem dX12_route_5 : decode cX12_route 5 = .ok (.aload_n 0, 1) := by decide +kernel
theorem dX12_route_6 : decode cX12_route 6 = .ok (.iload_n 1, 1) := by decide +kernel
theorem dX12_route_7 : decode cX12_route 7 = .ok (.invokevirtual 24, 3) := by decide +kernel
theorem dX12_route_10 : decode cX12_route 10 = .ok (.ifCond .eq 27, 3) := by decide +kernel
theorem dX12_route_13 : decode cX12_route 13 = .ok (.aload_n 0, 1) := by decide +kernel
theorem dX12_route_14 : decode cX12_route 14 = .ok (.getfield 419, 3) := by decide +kernel
theorem dX12_route_17 : decode cX12_route 17 = .ok (.aload_n 0, 1) := by decide +kernel
theorem dX12_route_18 : decode cX12_route 18 = .ok (.getfield 422, 3) := by decide +kernel
theorem dX12_route_21 : decode cX12_route 21 = .ok (.iload_n 1, 1) := by decide +kernel
theorem dX12_route_22 : decode cX12_route 22 = .ok (.invokestatic 415, 3) := by decide +kernel
theorem dX12_route_25 : decode cX12_route 25 = .ok (.ifCond .ne 12, 3) := by decide +kernel
theorem dX12_route_28 : decode cX12_route 28 = .ok (.aload_n 0, 1) := by decide +kernel
theorem dX12_route_29 : decode cX12_route 29 = .ok (.getfield 422, 3) := by decide +kernel
theorem dX12_route_32 : decode cX12_route 32 = .ok (.bipush 10, 2) := by decide +kernel
theorem dX12_route_34 : decode cX12_route 34 = .ok (.if_icmp .ne 5, 3) := by decide +kernel
theorem dX12_route_37 : decode cX12_route 37 = .ok (.iconst (-1), 1) := by decide +kernel
theorem dX12_route_38 : decode cX12_route 38 = .ok (.ireturn, 1) := by decide +kernel
theorem dX12_route_39 : decode cX12_route 39 = .ok (.aload_n 0, 1) := by decide +kernel
theorem dX12_route_40 : decode cX12_route 40 = .ok (.getfield 419, 3) := by decide +kernel
theorem dX12_route_43 : decode cX12_route 43 = .ok (.aload_n 0, 1) := by decide +kernel
theorem dX12_route_44 : decode cX12_route 44 = .ok (.getfield 422, 3) := by decide +kernel
theorem dX12_route_47 : decode cX12_route 47 = .ok (.iload_n 1, 1) := by decide +kernel
theorem dX12_route_48 : decode cX12_route 48 = .ok (.iastore, 1) := by decide +kernel
theorem dX12_route_49 : decode cX12_route 49 = .ok (.aload_n 0, 1) := by decide +kernel
theorem dX12_route_50 : decode cX12_route 50 = .ok (.dup, 1) := by decide +kernel
theorem dX12_route_51 : decode cX12_route 51 = .ok (.getfield 422, 3) := by decide +kernel
theorem dX12_route_54 : decode cX12_route 54 = .ok (.iconst 1, 1) := by decide +kernel
theorem dX12_route_55 : decode cX12_route 55 = .ok (.iadd, 1) := by decide +kernel
theorem dX12_route_56 : decode cX12_route 56 = .ok (.putfield 422, 3) := by decide +kernel
theorem dX12_route_59 : decode cX12_route 59 = .ok (.aload_n 0, 1) := by decide +kernel
theorem dX12_route_60 : decode cX12_route 60 = .ok (.getfield 422, 3) := by decide +kernel
theorem dX12_route_63 : decode cX12_route 63 = .ok (.ireturn, 1) := by decide +kernel
theorem dX12_breaks_0 : decode cX12_breaks 0 = .ok (.aload_n 0, 1) := by decide +kernel
theorem dX12_breaks_1 : decode cX12_breaks 1 = .ok (.iconst 0, 1) := by decide +kernel
theorem dX12_breaks_2 : decode cX12_breaks 2 = .ok (.putfield 1, 3) := by decide +kernel
theorem dX12_breaks_5 : decode cX12_breaks 5 = .ok (.iconst 0, 1) := by decide +kernel
theorem dX12_breaks_6 : decode cX12_breaks 6 = .ok (.istore_n 1, 1) := by decide +kernel
theorem dX12_breaks_7 : decode cX12_breaks 7 = .ok (.iconst 0, 1) := by decide +kernel
theorem dX12_breaks_8 : decode cX12_breaks 8 = .ok (.istore_n 2, 1) := by decide +kernel
theorem dX12_breaks_9 : decode cX12_breaks 9 = .ok (.iconst 0, 1) := by decide +kernel
theorem dX12_breaks_10 : decode cX12_breaks 10 = .ok (.istore_n 3, 1) := by decide +kernel
theorem dX12_breaks_11 : decode cX12_breaks 11 = .ok (.aload_n 0, 1) := by decide +kernel
theorem dX12_breaks_12 : decode cX12_breaks 12 = .ok (.iconst 0, 1) := by decide +kernel
theorem dX12_breaks_13 : decode cX12_breaks 13 = .ok (.putfield 11, 3) := by decide +kernel
theorem dX12_breaks_16 : decode cX12_breaks 16 = .ok (.iconst 0, 1) := by decide +kernel
theorem dX12_breaks_17 : decode cX12_breaks 17 = .ok (.istore 4, 2) := by decide +kernel
theorem dX12_breaks_19 : decode cX12_breaks 19 = .ok (.iload 4, 2) := by decide +kernel
theorem dX12_breaks_21 : decode cX12_breaks 21 = .ok (.aload_n 0, 1) := by decide +kernel
theorem dX12_breaks_22 : decode cX12_breaks 22 = .ok (.getfield 422, 3) := by decide +kernel
theorem dX12_breaks_25 : decode cX12_breaks 25 = .ok (.if_icmp .ge 50, 3) := by decide +kernel
theorem dX12_breaks_28 : decode cX12_breaks 28 = .ok (.iconst 0, 1) := by decide +kernel
theorem dX12_breaks_29 : decode cX12_breaks 29 = .ok (.istore 5, 2) := by decide +kernel
theorem dX12_breaks_31 : decode cX12_breaks 31 = .ok (.iload 5, 2) := by decide +kernel
theorem dX12_breaks_33 : decode cX12_breaks 33 = .ok (.aload_n 0, 1) := by decide +kernel
theorem dX12_breaks_34 : decode cX12_breaks 34 = .ok (.getfield 21, 3) := by decide +kernel
theorem dX12_breaks_37 : decode cX12_breaks 37 = .ok (.if_icmp .ge 32, 3) := by decide +kernel
theorem dX12_breaks_40 : decode cX12_breaks 40 = .ok (.aload_n 0, 1) := by decide +kernel
theorem dX12_breaks_41 : decode cX12_breaks 41 = .ok (.getfield 57, 3) := by decide +kernel
theorem dX12_breaks_44 : decode cX12_breaks 44 = .ok (.iload 5, 2) := by decide +kernel
theorem dX12_breaks_46 : decode cX12_breaks 46 = .ok (.iaload, 1) := by decide +kernel
theorem dX12_breaks_47 : decode cX12_breaks 47 = .ok (.aload_n 0, 1) := by decide +kernel
theorem dX12_breaks_48 : decode cX12_breaks 48 = .ok (.getfield 419, 3) := by decide +kernel
theorem dX12_breaks_51 : decode cX12_breaks 51 = .ok (.iload 4, 2) := by decide +kernel
theorem dX12_breaks_53 : decode cX12_breaks 53 = .ok (.iaload, 1) := by decide +kernel
theorem dX12_breaks_54 : decode cX12_breaks 54 = .ok (.if_icmp .ne 9, 3) := by decide +kernel
theorem dX12_breaks_57 : decode cX12_breaks 57 = .ok (.aload_n 0, 1) := by decide +kernel
theorem dX12_breaks_58 : decode cX12_breaks 58 = .ok (.iload 5, 2) := by decide +kernel
theorem dX12_breaks_60 : decode cX12_breaks 60 = .ok (.invokevirtual 342, 3) := by decide +kernel
theorem dX12_breaks_63 : decode cX12_breaks 63 = .ok (.iinc 5 1, 3) := by decide +kernel
theorem dX12_breaks_66 : decode cX12_breaks 66 = .ok (.goto (-35), 3) := by decide +kernel
theorem dX12_breaks_69 : decode cX12_breaks 69 = .ok (.iinc 4 1, 3) := by decide +kernel
theorem dX12_breaks_72 : decode cX12_breaks 72 = .ok (.goto (-53), 3) := by decide +kernel
theorem dX12_breaks_75 : decode cX12_breaks 75 = .ok (.iconst 0, 1) := by decide +kernel
theorem dX12_breaks_76 : decode cX12_breaks 76 = .ok (.istore 4, 2) := by decide +kernel
theorem dX12_breaks_78 : decode cX12_breaks 78 = .ok (.iload 4, 2) := by decide +kernel
theorem dX12_breaks_80 : decode cX12_breaks 80 = .ok (.aload_n 0, 1) := by decide +kernel
theorem dX12_breaks_81 : decode cX12_breaks 81 = .ok (.getfield 412, 3) := by decide +kernel
theorem dX12_breaks_84 : decode cX12_breaks 84 = .ok (.if_icmp .ge 92, 3) := by decide +kernel
theorem dX12_breaks_87 : decode cX12_breaks 87 = .ok (.aload_n 0, 1) := by decide +kernel
theorem dX12_breaks_88 : decode cX12_breaks 88 = .ok (.getfield 425, 3) := by decide +kernel
theorem dX12_breaks_91 : decode cX12_breaks 91 = .ok (.iload 4, 2) := by decide +kernel
theorem dX12_breaks_93 : decode cX12_breaks 93 = .ok (.iconst (-1), 1) := by decide +kernel
theorem dX12_breaks_94 : decode cX12_breaks 94 = .ok (.iastore, 1) := by decide +kernel
theorem dX12_breaks_95 : decode cX12_breaks 95 = .ok (.iconst 0, 1) := by decide +kernel
theorem dX12_breaks_96 : decode cX12_breaks 96 = .ok (.istore 5, 2) := by decide +kernel
theorem dX12_breaks_98 : decode cX12_breaks 98 = .ok (.iload 5, 2) := by decide +kernel
theorem dX12_breaks_100 : decode cX12_breaks 100 = .ok (.aload_n 0, 1) := by decide +kernel
theorem dX12_breaks_101 : decode cX12_breaks 101 = .ok (.getfield 11, 3) := by decide +kernel
theorem dX12_breaks_104 : decode cX12_breaks 104 = .ok (.if_icmp .ge 45, 3) := by decide +kernel
theorem dX12_breaks_107 : decode cX12_breaks 107 = .ok (.aload_n 0, 1) := by decide +kernel
theorem dX12_breaks_108 : decode cX12_breaks 108 = .ok (.getfield 425, 3) := by decide +kernel
theorem dX12_breaks_111 : decode cX12_breaks 111 = .ok (.iload 4, 2) := by decide +kernel
theorem dX12_breaks_113 : decode cX12_breaks 113 = .ok (.aload_n 0, 1) := by decide +kernel
theorem dX12_breaks_114 : decode cX12_breaks 114 = .ok (.getfield 7, 3) := by decide +kernel
theorem dX12_breaks_117 : decode cX12_breaks 117 = .ok (.iload 5, 2) := by decide +kernel
theorem dX12_breaks_119 : decode cX12_breaks 119 = .ok (.iaload, 1) := by decide +kernel
theorem dX12_breaks_120 : decode cX12_breaks 120 = .ok (.aload_n 0, 1) := by decide +kernel
theorem dX12_breaks_121 : decode cX12_breaks 121 = .ok (.getfield 409, 3) := by decide +kernel
theorem dX12_breaks_124 : decode cX12_breaks 124 = .ok (.iload 4, 2) := by decide +kernel
theorem dX12_breaks_126 : decode cX12_breaks 126 = .ok (.iaload, 1) := by decide +kernel
theorem dX12_breaks_127 : decode cX12_breaks 127 = .ok (.if_icmp .ne 8, 3) := by decide +kernel
theorem dX12_breaks_130 : decode cX12_breaks 130 = .ok (.iload 5, 2) := by decide +kernel
theorem dX12_breaks_132 : decode cX12_breaks 132 = .ok (.goto 10, 3) := by decide +kernel
theorem dX12_breaks_135 : decode cX12_breaks 135 = .ok (.aload_n 0, 1) := by decide +kernel
theorem dX12_breaks_136 : decode cX12_breaks 136 = .ok (.getfield 425, 3) := by decide +kernel
theorem dX12_breaks_139 : decode cX12_breaks 139 = .ok (.iload 4, 2) := by decide +kernel
theorem dX12_breaks_141 : decode cX12_breaks 141 = .ok (.iaload, 1) := by decide +kernel
theorem dX12_breaks_142 : decode cX12_breaks 142 = .ok (.iastore, 1) := by decide +kernel
theorem dX12_breaks_143 : decode cX12_breaks 143 = .ok (.iinc 5 1, 3) := by decide +kernel
theorem dX12_breaks_146 : decode cX12_breaks 146 = .ok (.goto (-48), 3) := by decide +kernel
theorem dX12_breaks_149 : decode cX12_breaks 149 = .ok (.iload_n 2, 1) := by decide +kernel
theorem dX12_breaks_150 : decode cX12_breaks 150 = .ok (.aload_n 0, 1) := by decide +kernel
theorem dX12_breaks_151 : decode cX12_breaks 151 = .ok (.getfield 425, 3) := by decide +kernel
theorem dX12_breaks_154 : decode cX12_breaks 154 = .ok (.iload 4, 2) := by decide +kernel
theorem dX12_breaks_156 : decode cX12_breaks 156 = .ok (.iaload, 1) := by decide +kernel
theorem dX12_breaks_157 : decode cX12_breaks 157 = .ok (.ifCond .lt 7, 3) := by decide +kernel
theorem dX12_breaks_160 : decode cX12_breaks 160 = .ok (.iconst 1, 1) := by decide +kernel
theorem dX12_breaks_161 : decode cX12_breaks 161 = .ok (.goto 4, 3) := by decide +kernel
theorem dX12_breaks_164 : decode cX12_breaks 164 = .ok (.iconst 0, 1) := by decide +kernel
theorem dX12_breaks_165 : decode cX12_breaks 165 = .ok (.invokestatic 268, 3) := by decide +kernel
theorem dX12_breaks_168 : decode cX12_breaks 168 = .ok (.iadd, 1) := by decide +kernel
theorem dX12_breaks_169 : decode cX12_breaks 169 = .ok (.istore_n 2, 1) := by decide +kernel
theorem dX12_breaks_170 : decode cX12_breaks 170 = .ok (.iinc 4 1, 3) := by decide +kernel
theorem dX12_breaks_173 : decode cX12_breaks 173 = .ok (.goto (-95), 3) := by decide +kernel
theorem dX12_breaks_176 : decode cX12_breaks 176 = .ok (.iconst 0, 1) := by decide +kernel
theorem dX12_breaks_177 : decode cX12_breaks 177 = .ok (.istore 4, 2) := by decide +kernel
theorem dX12_breaks_179 : decode cX12_breaks 179 = .ok (.iload 4, 2) := by decide +kernel
theorem dX12_breaks_181 : decode cX12_breaks 181 = .ok (.iconst 1, 1) := by decide +kernel
theorem dX12_breaks_182 : decode cX12_breaks 182 = .ok (.aload_n 0, 1) := by decide +kernel
theorem dX12_breaks_183 : decode cX12_breaks 183 = .ok (.getfield 412, 3) := by decide +kernel
theorem dX12_breaks_186 : decode cX12_breaks 186 = .ok (.ishl, 1) := by decide +kernel
theorem dX12_breaks_187 : decode cX12_breaks 187 = .ok (.if_icmp .ge 141, 3) := by decide +kernel
theorem dX12_breaks_190 : decode cX12_breaks 190 = .ok (.iconst (-1), 1) := by decide +kernel
theorem dX12_breaks_191 : decode cX12_breaks 191 = .ok (.istore 5, 2) := by decide +kernel
theorem dX12_breaks_193 : decode cX12_breaks 193 = .ok (.iconst 1, 1) := by decide +kernel
theorem dX12_breaks_194 : decode cX12_breaks 194 = .ok (.istore 6, 2) := by decide +kernel
theorem dX12_breaks_196 : decode cX12_breaks 196 = .ok (.iconst 0, 1) := by decide +kernel
theorem dX12_breaks_197 : decode cX12_breaks 197 = .ok (.istore 7, 2) := by decide +kernel
theorem dX12_breaks_199 : decode cX12_breaks 199 = .ok (.iload 7, 2) := by decide +kernel
theorem dX12_breaks_201 : decode cX12_breaks 201 = .ok (.aload_n 0, 1) := by decide +kernel
theorem dX12_breaks_202 : decode cX12_breaks 202 = .ok (.getfield 412, 3) := by decide +kernel
theorem dX12_breaks_205 : decode cX12_breaks 205 = .ok (.if_icmp .ge 53, 3) := by decide +kernel
theorem dX12_breaks_208 : decode cX12_breaks 208 = .ok (.iload 4, 2) := by decide +kernel
theorem dX12_breaks_210 : decode cX12_breaks 210 = .ok (.iload 7, 2) := by decide +kernel
theorem dX12_breaks_212 : decode cX12_breaks 212 = .ok (.ishr, 1) := by decide +kernel
theorem dX12_breaks_213 : decode cX12_breaks 213 = .ok (.iconst 1, 1) := by decide +kernel
theorem dX12_breaks_214 : decode cX12_breaks 214 = .ok (.iand, 1) := by decide +kernel
theorem dX12_breaks_215 : decode cX12_breaks 215 = .ok (.iconst 1, 1) := by decide +kernel
theorem dX12_breaks_216 : decode cX12_breaks 216 = .ok (.if_icmp .ne 36, 3) := by decide +kernel
theorem dX12_breaks_219 : decode cX12_breaks 219 = .ok (.iload 6, 2) := by decide +kernel
theorem dX12_breaks_221 : decode cX12_breaks 221 = .ok (.ifCond .eq 19, 3) := by decide +kernel
theorem dX12_breaks_224 : decode cX12_breaks 224 = .ok (.aload_n 0, 1) := by decide +kernel
theorem dX12_breaks_225 : decode cX12_breaks 225 = .ok (.getfield 425, 3) := by decide +kernel
theorem dX12_breaks_228 : decode cX12_breaks 228 = .ok (.iload 7, 2) := by decide +kernel
theorem dX12_breaks_230 : decode cX12_breaks 230 = .ok (.iaload, 1) := by decide +kernel
theorem dX12_breaks_231 : decode cX12_breaks 231 = .ok (.iload 5, 2) := by decide +kernel
theorem dX12_breaks_233 : decode cX12_breaks 233 = .ok (.if_icmp .le 7, 3) := by decide +kernel
theorem dX12_breaks_236 : decode cX12_breaks 236 = .ok (.iconst 1, 1) := by decide +kernel
theorem dX12_breaks_237 : decode cX12_breaks 237 = .ok (.goto 4, 3) := by decide +kernel
theorem dX12_breaks_240 : decode cX12_breaks 240 = .ok (.iconst 0, 1) := by decide +kernel
theorem dX12_breaks_241 : decode cX12_breaks 241 = .ok (.istore 6, 2) := by decide +kernel
theorem dX12_breaks_243 : decode cX12_breaks 243 = .ok (.aload_n 0, 1) := by decide +kernel
theorem dX12_breaks_244 : decode cX12_breaks 244 = .ok (.getfield 425, 3) := by decide +kernel
theorem dX12_breaks_247 : decode cX12_breaks 247 = .ok (.iload 7, 2) := by decide +kernel
theorem dX12_breaks_249 : decode cX12_breaks 249 = .ok (.iaload, 1) := by decide +kernel
theorem dX12_breaks_250 : decode cX12_breaks 250 = .ok (.istore 5, 2) := by decide +kernel
theorem dX12_breaks_252 : decode cX12_breaks 252 = .ok (.iinc 7 1, 3) := by decide +kernel
theorem dX12_breaks_255 : decode cX12_breaks 255 = .ok (.goto (-56), 3) := by decide +kernel
theorem dX12_breaks_258 : decode cX12_breaks 258 = .ok (.iload 4, 2) := by decide +kernel
theorem dX12_breaks_260 : decode cX12_breaks 260 = .ok (.invokestatic 386, 3) := by decide +kernel
theorem dX12_breaks_263 : decode cX12_breaks 263 = .ok (.istore 7, 2) := by decide +kernel
theorem dX12_breaks_265 : decode cX12_breaks 265 = .ok (.iload 4, 2) := by decide +kernel
theorem dX12_breaks_267 : decode cX12_breaks 267 = .ok (.iload_n 3, 1) := by decide +kernel
theorem dX12_breaks_268 : decode cX12_breaks 268 = .ok (.ixor, 1) := by decide +kernel
theorem dX12_breaks_269 : decode cX12_breaks 269 = .ok (.istore 8, 2) := by decide +kernel
theorem dX12_breaks_271 : decode cX12_breaks 271 = .ok (.iload 8, 2) := by decide +kernel
theorem dX12_breaks_273 : decode cX12_breaks 273 = .ok (.ifCond .eq 18, 3) := by decide +kernel
theorem dX12_breaks_276 : decode cX12_breaks 276 = .ok (.iload 4, 2) := by decide +kernel
theorem dX12_breaks_278 : decode cX12_breaks 278 = .ok (.iload 8, 2) := by decide +kernel
theorem dX12_breaks_280 : decode cX12_breaks 280 = .ok (.invokestatic 428, 3) := by decide +kernel
theorem dX12_breaks_283 : decode cX12_breaks 283 = .ok (.iand, 1) := by decide +kernel
theorem dX12_breaks_284 : decode cX12_breaks 284 = .ok (.ifCond .eq 7, 3) := by decide +kernel
theorem dX12_breaks_287 : decode cX12_breaks 287 = .ok (.iconst 1, 1) := by decide +kernel
theorem dX12_breaks_288 : decode cX12_breaks 288 = .ok (.goto 4, 3) := by decide +kernel
theorem dX12_breaks_291 : decode cX12_breaks 291 = .ok (.iconst 0, 1) := by decide +kernel
theorem dX12_breaks_292 : decode cX12_breaks 292 = .ok (.istore 9, 2) := by decide +kernel
theorem dX12_breaks_294 : decode cX12_breaks 294 = .ok (.iload 6, 2) := by decide +kernel
theorem dX12_breaks_296 : decode cX12_breaks 296 = .ok (.ifCond .eq 26, 3) := by decide +kernel
theorem dX12_breaks_299 : decode cX12_breaks 299 = .ok (.iload 7, 2) := by decide +kernel
theorem dX12_breaks_301 : decode cX12_breaks 301 = .ok (.iload_n 1, 1) := by decide +kernel
theorem dX12_breaks_302 : decode cX12_breaks 302 = .ok (.if_icmp .gt 14, 3) := by decide +kernel
theorem dX12_breaks_305 : decode cX12_breaks 305 = .ok (.iload 7, 2) := by decide +kernel
theorem dX12_breaks_307 : decode cX12_breaks 307 = .ok (.iload_n 1, 1) := by decide +kernel
theorem dX12_breaks_308 : decode cX12_breaks 308 = .ok (.if_icmp .ne 14, 3) := by decide +kernel
theorem dX12_breaks_311 : decode cX12_breaks 311 = .ok (.iload 9, 2) := by decide +kernel
theorem dX12_breaks_313 : decode cX12_breaks 313 = .ok (.ifCond .eq 9, 3) := by decide +kernel
theorem dX12_breaks_316 : decode cX12_breaks 316 = .ok (.iload 7, 2) := by decide +kernel
theorem dX12_breaks_318 : decode cX12_breaks 318 = .ok (.istore_n 1, 1) := by decide +kernel
theorem dX12_breaks_319 : decode cX12_breaks 319 = .ok (.iload 4, 2) := by decide +kernel
theorem dX12_breaks_321 : decode cX12_breaks 321 = .ok (.istore_n 3, 1) := by decide +kernel
theorem dX12_breaks_322 : decode cX12_breaks 322 = .ok (.iinc 4 1, 3) := by decide +kernel
theorem dX12_breaks_325 : decode cX12_breaks 325 = .ok (.goto (-146), 3) := by decide +kernel
theorem dX12_breaks_328 : decode cX12_breaks 328 = .ok (.aload_n 0, 1) := by decide +kernel
theorem dX12_breaks_329 : decode cX12_breaks 329 = .ok (.iconst 0, 1) := by decide +kernel
theorem dX12_breaks_330 : decode cX12_breaks 330 = .ok (.putfield 11, 3) := by decide +kernel
theorem dX12_breaks_333 : decode cX12_breaks 333 = .ok (.iconst 0, 1) := by decide +kernel
theorem dX12_breaks_334 : decode cX12_breaks 334 = .ok (.istore 4, 2) := by decide +kernel
theorem dX12_breaks_336 : decode cX12_breaks 336 = .ok (.iload 4, 2) := by decide +kernel
theorem dX12_breaks_338 : decode cX12_breaks 338 = .ok (.aload_n 0, 1) := by decide +kernel
theorem dX12_breaks_339 : decode cX12_breaks 339 = .ok (.getfield 412, 3) := by decide +kernel
theorem dX12_breaks_342 : decode cX12_breaks 342 = .ok (.if_icmp .ge 30, 3) := by decide +kernel
theorem dX12_breaks_345 : decode cX12_breaks 345 = .ok (.iload_n 3, 1) := by decide +kernel
theorem dX12_breaks_346 : decode cX12_breaks 346 = .ok (.iload 4, 2) := by decide +kernel
theorem dX12_breaks_348 : decode cX12_breaks 348 = .ok (.ishr, 1) := by decide +kernel
theorem dX12_breaks_349 : decode cX12_breaks 349 = .ok (.iconst 1, 1) := by decide +kernel
theorem dX12_breaks_350 : decode cX12_breaks 350 = .ok (.iand, 1) := by decide +kernel
theorem dX12_breaks_351 : decode cX12_breaks 351 = .ok (.iconst 1, 1) := by decide +kernel
theorem dX12_breaks_352 : decode cX12_breaks 352 = .ok (.if_icmp .ne 14, 3) := by decide +kernel
theorem dX12_breaks_355 : decode cX12_breaks 355 = .ok (.aload_n 0, 1) := by decide +kernel
theorem dX12_breaks_356 : decode cX12_breaks 356 = .ok (.aload_n 0, 1) := by decide +kernel
theorem dX12_breaks_357 : decode cX12_breaks 357 = .ok (.getfield 409, 3) := by decide +kernel
theorem dX12_breaks_360 : decode cX12_breaks 360 = .ok (.iload 4, 2) := by decide +kernel
theorem dX12_breaks_362 : decode cX12_breaks 362 = .ok (.iaload, 1) := by decide +kernel
theorem dX12_breaks_363 : decode cX12_breaks 363 = .ok (.invokevirtual 345, 3) := by decide +kernel
theorem dX12_breaks_366 : decode cX12_breaks 366 = .ok (.iinc 4 1, 3) := by decide +kernel
theorem dX12_breaks_369 : decode cX12_breaks 369 = .ok (.goto (-33), 3) := by decide +kernel
theorem dX12_breaks_372 : decode cX12_breaks 372 = .ok (.iload_n 2, 1) := by decide +kernel
theorem dX12_breaks_373 : decode cX12_breaks 373 = .ok (.iload_n 1, 1) := by decide +kernel
theorem dX12_breaks_374 : decode cX12_breaks 374 = .ok (.isub, 1) := by decide +kernel
theorem dX12_breaks_375 : decode cX12_breaks 375 = .ok (.ireturn, 1) := by decide +kernel
theorem dX12_shut_0 : decode cX12_shut 0 = .ok (.aload_n 0, 1) := by decide +kernel
theorem dX12_shut_1 : decode cX12_shut 1 = .ok (.iconst 0, 1) := by decide +kernel
theorem dX12_shut_2 : decode cX12_shut 2 = .ok (.putfield 1, 3) := by decide +kernel
theorem dX12_shut_5 : decode cX12_shut 5 = .ok (.aload_n 0, 1) := by decide +kernel
theorem dX12_shut_6 : decode cX12_shut 6 = .ok (.iload_n 1, 1) := by decide +kernel
theorem dX12_shut_7 : decode cX12_shut 7 = .ok (.invokevirtual 24, 3) := by decide +kernel
theorem dX12_shut_10 : decode cX12_shut 10 = .ok (.ifCond .ne 5, 3) := by decide +kernel
theorem dX12_shut_13 : decode cX12_shut 13 = .ok (.iconst 0, 1) := by decide +kernel
theorem dX12_shut_14 : decode cX12_shut 14 = .ok (.ireturn, 1) := by decide +kernel
theorem dX12_shut_15 : decode cX12_shut 15 = .ok (.aload_n 0, 1) := by decide +kernel
theorem dX12_shut_16 : decode cX12_shut 16 = .ok (.getfield 431, 3) := by decide +kernel
theorem dX12_shut_19 : decode cX12_shut 19 = .ok (.iload_n 1, 1) := by decide +kernel
theorem dX12_shut_20 : decode cX12_shut 20 = .ok (.iload_n 2, 1) := by decide +kernel
theorem dX12_shut_21 : decode cX12_shut 21 = .ok (.bastore, 1) := by decide +kernel
theorem dX12_shut_22 : decode cX12_shut 22 = .ok (.iconst 1, 1) := by decide +kernel
theorem dX12_shut_23 : decode cX12_shut 23 = .ok (.ireturn, 1) := by decide +kernel
theorem dX12_passes_0 : decode cX12_passes 0 = .ok (.aload_n 0, 1) := by decide +kernel
theorem dX12_passes_1 : decode cX12_passes 1 = .ok (.getfield 121, 3) := by decide +kernel
theorem dX12_passes_4 : decode cX12_passes 4 = .ok (.iload_n 1, 1) := by decide +kernel
theorem dX12_passes_5 : decode cX12_passes 5 = .ok (.iaload, 1) := by decide +kernel
theorem dX12_passes_6 : decode cX12_passes 6 = .ok (.aload_n 0, 1) := by decide +kernel
theorem dX12_passes_7 : decode cX12_passes 7 = .ok (.getfield 45, 3) := by decide +kernel
theorem dX12_passes_10 : decode cX12_passes 10 = .ok (.iload_n 2, 1) := by decide +kernel
theorem dX12_passes_11 : decode cX12_passes 11 = .ok (.iaload, 1) := by decide +kernel
theorem dX12_passes_12 : decode cX12_passes 12 = .ok (.if_icmp .gt 22, 3) := by decide +kernel
theorem dX12_passes_15 : decode cX12_passes 15 = .ok (.aload_n 0, 1) := by decide +kernel
theorem dX12_passes_16 : decode cX12_passes 16 = .ok (.getfield 124, 3) := by decide +kernel
theorem dX12_passes_19 : decode cX12_passes 19 = .ok (.iload_n 1, 1) := by decide +kernel
theorem dX12_passes_20 : decode cX12_passes 20 = .ok (.iaload, 1) := by decide +kernel
theorem dX12_passes_21 : decode cX12_passes 21 = .ok (.aload_n 0, 1) := by decide +kernel
theorem dX12_passes_22 : decode cX12_passes 22 = .ok (.getfield 48, 3) := by decide +kernel
theorem dX12_passes_25 : decode cX12_passes 25 = .ok (.iload_n 2, 1) := by decide +kernel
theorem dX12_passes_26 : decode cX12_passes 26 = .ok (.iaload, 1) := by decide +kernel
theorem dX12_passes_27 : decode cX12_passes 27 = .ok (.if_icmp .gt 7, 3) := by decide +kernel
theorem dX12_passes_30 : decode cX12_passes 30 = .ok (.iconst 1, 1) := by decide +kernel
theorem dX12_passes_31 : decode cX12_passes 31 = .ok (.goto 4, 3) := by decide +kernel
theorem dX12_passes_34 : decode cX12_passes 34 = .ok (.iconst 0, 1) := by decide +kernel
theorem dX12_passes_35 : decode cX12_passes 35 = .ok (.istore_n 3, 1) := by decide +kernel
theorem dX12_passes_36 : decode cX12_passes 36 = .ok (.iload_n 3, 1) := by decide +kernel
theorem dX12_passes_37 : decode cX12_passes 37 = .ok (.ifCond .ne 33, 3) := by decide +kernel
theorem dX12_passes_40 : decode cX12_passes 40 = .ok (.aload_n 0, 1) := by decide +kernel
theorem dX12_passes_41 : decode cX12_passes 41 = .ok (.getfield 121, 3) := by decide +kernel
theorem dX12_passes_44 : decode cX12_passes 44 = .ok (.iload_n 1, 1) := by decide +kernel
theorem dX12_passes_45 : decode cX12_passes 45 = .ok (.iaload, 1) := by decide +kernel
theorem dX12_passes_46 : decode cX12_passes 46 = .ok (.aload_n 0, 1) := by decide +kernel
theorem dX12_passes_47 : decode cX12_passes 47 = .ok (.getfield 48, 3) := by decide +kernel
theorem dX12_passes_50 : decode cX12_passes 50 = .ok (.iload_n 2, 1) := by decide +kernel
theorem dX12_passes_51 : decode cX12_passes 51 = .ok (.iaload, 1) := by decide +kernel
theorem dX12_passes_52 : decode cX12_passes 52 = .ok (.if_icmp .gt 22, 3) := by decide +kernel
theorem dX12_passes_55 : decode cX12_passes 55 = .ok (.aload_n 0, 1) := by decide +kernel
theorem dX12_passes_56 : decode cX12_passes 56 = .ok (.getfield 124, 3) := by decide +kernel
theorem dX12_passes_59 : decode cX12_passes 59 = .ok (.iload_n 1, 1) := by decide +kernel
theorem dX12_passes_60 : decode cX12_passes 60 = .ok (.iaload, 1) := by decide +kernel
theorem dX12_passes_61 : decode cX12_passes 61 = .ok (.aload_n 0, 1) := by decide +kernel
theorem dX12_passes_62 : decode cX12_passes 62 = .ok (.getfield 45, 3) := by decide +kernel
theorem dX12_passes_65 : decode cX12_passes 65 = .ok (.iload_n 2, 1) := by decide +kernel
theorem dX12_passes_66 : decode cX12_passes 66 = .ok (.iaload, 1) := by decide +kernel
theorem dX12_passes_67 : decode cX12_passes 67 = .ok (.if_icmp .gt 7, 3) := by decide +kernel
theorem dX12_passes_70 : decode cX12_passes 70 = .ok (.iconst 1, 1) := by decide +kernel
theorem dX12_passes_71 : decode cX12_passes 71 = .ok (.goto 4, 3) := by decide +kernel
theorem dX12_passes_74 : decode cX12_passes 74 = .ok (.iconst 0, 1) := by decide +kernel
theorem dX12_passes_75 : decode cX12_passes 75 = .ok (.ireturn, 1) := by decide +kernel
theorem dX12_spreads_0 : decode cX12_spreads 0 = .ok (.iconst 0, 1) := by decide +kernel
theorem dX12_spreads_1 : decode cX12_spreads 1 = .ok (.istore 4, 2) := by decide +kernel
theorem dX12_spreads_3 : decode cX12_spreads 3 = .ok (.iload 4, 2) := by decide +kernel
theorem dX12_spreads_5 : decode cX12_spreads 5 = .ok (.aload_n 0, 1) := by decide +kernel
theorem dX12_spreads_6 : decode cX12_spreads 6 = .ok (.getfield 14, 3) := by decide +kernel
theorem dX12_spreads_9 : decode cX12_spreads 9 = .ok (.if_icmp .ge 38, 3) := by decide +kernel
theorem dX12_spreads_12 : decode cX12_spreads 12 = .ok (.aload_n 0, 1) := by decide +kernel
theorem dX12_spreads_13 : decode cX12_spreads 13 = .ok (.getfield 265, 3) := by decide +kernel
theorem dX12_spreads_16 : decode cX12_spreads 16 = .ok (.iload 4, 2) := by decide +kernel
theorem dX12_spreads_18 : decode cX12_spreads 18 = .ok (.iload 4, 2) := by decide +kernel
theorem dX12_spreads_20 : decode cX12_spreads 20 = .ok (.iload_n 2, 1) := by decide +kernel
theorem dX12_spreads_21 : decode cX12_spreads 21 = .ok (.if_icmp .ne 17, 3) := by decide +kernel
theorem dX12_spreads_24 : decode cX12_spreads 24 = .ok (.aload_n 0, 1) := by decide +kernel
theorem dX12_spreads_25 : decode cX12_spreads 25 = .ok (.getfield 431, 3) := by decide +kernel
theorem dX12_spreads_28 : decode cX12_spreads 28 = .ok (.iload 4, 2) := by decide +kernel
theorem dX12_spreads_30 : decode cX12_spreads 30 = .ok (.baload, 1) := by decide +kernel
theorem dX12_spreads_31 : decode cX12_spreads 31 = .ok (.ifCond .ne 7, 3) := by decide +kernel
theorem dX12_spreads_34 : decode cX12_spreads 34 = .ok (.iconst 0, 1) := by decide +kernel
theorem dX12_spreads_35 : decode cX12_spreads 35 = .ok (.goto 5, 3) := by decide +kernel
theorem dX12_spreads_38 : decode cX12_spreads 38 = .ok (.bipush 99, 2) := by decide +kernel
theorem dX12_spreads_40 : decode cX12_spreads 40 = .ok (.iastore, 1) := by decide +kernel
theorem dX12_spreads_41 : decode cX12_spreads 41 = .ok (.iinc 4 1, 3) := by decide +kernel
theorem dX12_spreads_44 : decode cX12_spreads 44 = .ok (.goto (-41), 3) := by decide +kernel
theorem dX12_spreads_47 : decode cX12_spreads 47 = .ok (.iconst 0, 1) := by decide +kernel
theorem dX12_spreads_48 : decode cX12_spreads 48 = .ok (.istore 4, 2) := by decide +kernel
theorem dX12_spreads_50 : decode cX12_spreads 50 = .ok (.iload 4, 2) := by decide +kernel
theorem dX12_spreads_52 : decode cX12_spreads 52 = .ok (.aload_n 0, 1) := by decide +kernel
theorem dX12_spreads_53 : decode cX12_spreads 53 = .ok (.getfield 14, 3) := by decide +kernel
theorem dX12_spreads_56 : decode cX12_spreads 56 = .ok (.if_icmp .ge 133, 3) := by decide +kernel
theorem dX12_spreads_59 : decode cX12_spreads 59 = .ok (.iconst 0, 1) := by decide +kernel
theorem dX12_spreads_60 : decode cX12_spreads 60 = .ok (.istore 5, 2) := by decide +kernel
theorem dX12_spreads_62 : decode cX12_spreads 62 = .ok (.iload 5, 2) := by decide +kernel
theorem dX12_spreads_64 : decode cX12_spreads 64 = .ok (.aload_n 0, 1) := by decide +kernel
theorem dX12_spreads_65 : decode cX12_spreads 65 = .ok (.getfield 36, 3) := by decide +kernel
theorem dX12_spreads_68 : decode cX12_spreads 68 = .ok (.if_icmp .ge 115, 3) := by decide +kernel
theorem dX12_spreads_71 : decode cX12_spreads 71 = .ok (.aload_n 0, 1) := by decide +kernel
theorem dX12_spreads_72 : decode cX12_spreads 72 = .ok (.getfield 39, 3) := by decide +kernel
theorem dX12_spreads_75 : decode cX12_spreads 75 = .ok (.iload 5, 2) := by decide +kernel
theorem dX12_spreads_77 : decode cX12_spreads 77 = .ok (.iaload, 1) := by decide +kernel
theorem dX12_spreads_78 : decode cX12_spreads 78 = .ok (.istore 6, 2) := by decide +kernel
theorem dX12_spreads_80 : decode cX12_spreads 80 = .ok (.aload_n 0, 1) := by decide +kernel
theorem dX12_spreads_81 : decode cX12_spreads 81 = .ok (.getfield 42, 3) := by decide +kernel
theorem dX12_spreads_84 : decode cX12_spreads 84 = .ok (.iload 5, 2) := by decide +kernel
theorem dX12_spreads_86 : decode cX12_spreads 86 = .ok (.iaload, 1) := by decide +kernel
theorem dX12_spreads_87 : decode cX12_spreads 87 = .ok (.istore 7, 2) := by decide +kernel
theorem dX12_spreads_89 : decode cX12_spreads 89 = .ok (.aload_n 0, 1) := by decide +kernel
theorem dX12_spreads_90 : decode cX12_spreads 90 = .ok (.iload_n 1, 1) := by decide +kernel
theorem dX12_spreads_91 : decode cX12_spreads 91 = .ok (.iload 5, 2) := by decide +kernel
theorem dX12_spreads_93 : decode cX12_spreads 93 = .ok (.invokevirtual 434, 3) := by decide +kernel
theorem dX12_spreads_96 : decode cX12_spreads 96 = .ok (.ifCond .ne 9, 3) := by decide +kernel
theorem dX12_spreads_99 : decode cX12_spreads 99 = .ok (.iload 5, 2) := by decide +kernel
theorem dX12_spreads_101 : decode cX12_spreads 101 = .ok (.iload_n 3, 1) := by decide +kernel
theorem dX12_spreads_102 : decode cX12_spreads 102 = .ok (.if_icmp .ne 75, 3) := by decide +kernel
theorem dX12_spreads_105 : decode cX12_spreads 105 = .ok (.aload_n 0, 1) := by decide +kernel
theorem dX12_spreads_106 : decode cX12_spreads 106 = .ok (.getfield 431, 3) := by decide +kernel
theorem dX12_spreads_109 : decode cX12_spreads 109 = .ok (.iload 6, 2) := by decide +kernel
theorem dX12_spreads_111 : decode cX12_spreads 111 = .ok (.baload, 1) := by decide +kernel
theorem dX12_spreads_112 : decode cX12_spreads 112 = .ok (.ifCond .ne 65, 3) := by decide +kernel
theorem dX12_spreads_115 : decode cX12_spreads 115 = .ok (.aload_n 0, 1) := by decide +kernel
theorem dX12_spreads_116 : decode cX12_spreads 116 = .ok (.getfield 431, 3) := by decide +kernel
theorem dX12_spreads_119 : decode cX12_spreads 119 = .ok (.iload 7, 2) := by decide +kernel
theorem dX12_spreads_121 : decode cX12_spreads 121 = .ok (.baload, 1) := by decide +kernel
theorem dX12_spreads_122 : decode cX12_spreads 122 = .ok (.ifCond .ne 55, 3) := by decide +kernel
theorem dX12_spreads_125 : decode cX12_spreads 125 = .ok (.aload_n 0, 1) := by decide +kernel
theorem dX12_spreads_126 : decode cX12_spreads 126 = .ok (.getfield 265, 3) := by decide +kernel
theorem dX12_spreads_129 : decode cX12_spreads 129 = .ok (.iload 6, 2) := by decide +kernel
theorem dX12_spreads_131 : decode cX12_spreads 131 = .ok (.aload_n 0, 1) := by decide +kernel
theorem dX12_spreads_132 : decode cX12_spreads 132 = .ok (.getfield 265, 3) := by decide +kernel
theorem dX12_spreads_135 : decode cX12_spreads 135 = .ok (.iload 6, 2) := by decide +kernel
theorem dX12_spreads_137 : decode cX12_spreads 137 = .ok (.iaload, 1) := by decide +kernel
theorem dX12_spreads_138 : decode cX12_spreads 138 = .ok (.aload_n 0, 1) := by decide +kernel
theorem dX12_spreads_139 : decode cX12_spreads 139 = .ok (.getfield 265, 3) := by decide +kernel
theorem dX12_spreads_142 : decode cX12_spreads 142 = .ok (.iload 7, 2) := by decide +kernel
theorem dX12_spreads_144 : decode cX12_spreads 144 = .ok (.iaload, 1) := by decide +kernel
theorem dX12_spreads_145 : decode cX12_spreads 145 = .ok (.iconst 1, 1) := by decide +kernel
theorem dX12_spreads_146 : decode cX12_spreads 146 = .ok (.iadd, 1) := by decide +kernel
theorem dX12_spreads_147 : decode cX12_spreads 147 = .ok (.invokestatic 95, 3) := by decide +kernel
theorem dX12_spreads_150 : decode cX12_spreads 150 = .ok (.iastore, 1) := by decide +kernel
theorem dX12_spreads_151 : decode cX12_spreads 151 = .ok (.aload_n 0, 1) := by decide +kernel
theorem dX12_spreads_152 : decode cX12_spreads 152 = .ok (.getfield 265, 3) := by decide +kernel
theorem dX12_spreads_155 : decode cX12_spreads 155 = .ok (.iload 7, 2) := by decide +kernel
theorem dX12_spreads_157 : decode cX12_spreads 157 = .ok (.aload_n 0, 1) := by decide +kernel
theorem dX12_spreads_158 : decode cX12_spreads 158 = .ok (.getfield 265, 3) := by decide +kernel
theorem dX12_spreads_161 : decode cX12_spreads 161 = .ok (.iload 7, 2) := by decide +kernel
theorem dX12_spreads_163 : decode cX12_spreads 163 = .ok (.iaload, 1) := by decide +kernel
theorem dX12_spreads_164 : decode cX12_spreads 164 = .ok (.aload_n 0, 1) := by decide +kernel
theorem dX12_spreads_165 : decode cX12_spreads 165 = .ok (.getfield 265, 3) := by decide +kernel
theorem dX12_spreads_168 : decode cX12_spreads 168 = .ok (.iload 6, 2) := by decide +kernel
theorem dX12_spreads_170 : decode cX12_spreads 170 = .ok (.iaload, 1) := by decide +kernel
theorem dX12_spreads_171 : decode cX12_spreads 171 = .ok (.iconst 1, 1) := by decide +kernel
theorem dX12_spreads_172 : decode cX12_spreads 172 = .ok (.iadd, 1) := by decide +kernel
theorem dX12_spreads_173 : decode cX12_spreads 173 = .ok (.invokestatic 95, 3) := by decide +kernel
theorem dX12_spreads_176 : decode cX12_spreads 176 = .ok (.iastore, 1) := by decide +kernel
theorem dX12_spreads_177 : decode cX12_spreads 177 = .ok (.iinc 5 1, 3) := by decide +kernel
theorem dX12_spreads_180 : decode cX12_spreads 180 = .ok (.goto (-118), 3) := by decide +kernel
theorem dX12_spreads_183 : decode cX12_spreads 183 = .ok (.iinc 4 1, 3) := by decide +kernel
theorem dX12_spreads_186 : decode cX12_spreads 186 = .ok (.goto (-136), 3) := by decide +kernel
theorem dX12_spreads_189 : decode cX12_spreads 189 = .ok (.return_, 1) := by decide +kernel
theorem dX12_isJoined_0 : decode cX12_isJoined 0 = .ok (.iconst 0, 1) := by decide +kernel
theorem dX12_isJoined_1 : decode cX12_isJoined 1 = .ok (.istore 4, 2) := by decide +kernel
theorem dX12_isJoined_3 : decode cX12_isJoined 3 = .ok (.iconst 0, 1) := by decide +kernel
theorem dX12_isJoined_4 : decode cX12_isJoined 4 = .ok (.istore 5, 2) := by decide +kernel
theorem dX12_isJoined_6 : decode cX12_isJoined 6 = .ok (.iload 5, 2) := by decide +kernel
theorem dX12_isJoined_8 : decode cX12_isJoined 8 = .ok (.aload_n 0, 1) := by decide +kernel
theorem dX12_isJoined_9 : decode cX12_isJoined 9 = .ok (.getfield 36, 3) := by decide +kernel
theorem dX12_isJoined_12 : decode cX12_isJoined 12 = .ok (.if_icmp .ge 87, 3) := by decide +kernel
theorem dX12_isJoined_15 : decode cX12_isJoined 15 = .ok (.aload_n 0, 1) := by decide +kernel
theorem dX12_isJoined_16 : decode cX12_isJoined 16 = .ok (.getfield 39, 3) := by decide +kernel
theorem dX12_isJoined_19 : decode cX12_isJoined 19 = .ok (.iload 5, 2) := by decide +kernel
theorem dX12_isJoined_21 : decode cX12_isJoined 21 = .ok (.iaload, 1) := by decide +kernel
theorem dX12_isJoined_22 : decode cX12_isJoined 22 = .ok (.iload_n 2, 1) := by decide +kernel
theorem dX12_isJoined_23 : decode cX12_isJoined 23 = .ok (.if_icmp .ne 14, 3) := by decide +kernel
theorem dX12_isJoined_26 : decode cX12_isJoined 26 = .ok (.aload_n 0, 1) := by decide +kernel
theorem dX12_isJoined_27 : decode cX12_isJoined 27 = .ok (.getfield 42, 3) := by decide +kernel
theorem dX12_isJoined_30 : decode cX12_isJoined 30 = .ok (.iload 5, 2) := by decide +kernel
theorem dX12_isJoined_32 : decode cX12_isJoined 32 = .ok (.iaload, 1) := by decide +kernel
theorem dX12_isJoined_33 : decode cX12_isJoined 33 = .ok (.iload_n 3, 1) := by decide +kernel
theorem dX12_isJoined_34 : decode cX12_isJoined 34 = .ok (.if_icmp .eq 25, 3) := by decide +kernel
theorem dX12_isJoined_37 : decode cX12_isJoined 37 = .ok (.aload_n 0, 1) := by decide +kernel
theorem dX12_isJoined_38 : decode cX12_isJoined 38 = .ok (.getfield 39, 3) := by decide +kernel
theorem dX12_isJoined_41 : decode cX12_isJoined 41 = .ok (.iload 5, 2) := by decide +kernel
theorem dX12_isJoined_43 : decode cX12_isJoined 43 = .ok (.iaload, 1) := by decide +kernel
theorem dX12_isJoined_44 : decode cX12_isJoined 44 = .ok (.iload_n 3, 1) := by decide +kernel
theorem dX12_isJoined_45 : decode cX12_isJoined 45 = .ok (.if_icmp .ne 18, 3) := by decide +kernel
theorem dX12_isJoined_48 : decode cX12_isJoined 48 = .ok (.aload_n 0, 1) := by decide +kernel
theorem dX12_isJoined_49 : decode cX12_isJoined 49 = .ok (.getfield 42, 3) := by decide +kernel
theorem dX12_isJoined_52 : decode cX12_isJoined 52 = .ok (.iload 5, 2) := by decide +kernel
theorem dX12_isJoined_54 : decode cX12_isJoined 54 = .ok (.iaload, 1) := by decide +kernel
theorem dX12_isJoined_55 : decode cX12_isJoined 55 = .ok (.iload_n 2, 1) := by decide +kernel
theorem dX12_isJoined_56 : decode cX12_isJoined 56 = .ok (.if_icmp .ne 7, 3) := by decide +kernel
theorem dX12_isJoined_59 : decode cX12_isJoined 59 = .ok (.iconst 1, 1) := by decide +kernel
theorem dX12_isJoined_60 : decode cX12_isJoined 60 = .ok (.goto 4, 3) := by decide +kernel
theorem dX12_isJoined_63 : decode cX12_isJoined 63 = .ok (.iconst 0, 1) := by decide +kernel
theorem dX12_isJoined_64 : decode cX12_isJoined 64 = .ok (.istore 6, 2) := by decide +kernel
theorem dX12_isJoined_66 : decode cX12_isJoined 66 = .ok (.iload 4, 2) := by decide +kernel
theorem dX12_isJoined_68 : decode cX12_isJoined 68 = .ok (.ifCond .ne 18, 3) := by decide +kernel
theorem dX12_isJoined_71 : decode cX12_isJoined 71 = .ok (.iload 6, 2) := by decide +kernel
theorem dX12_isJoined_73 : decode cX12_isJoined 73 = .ok (.ifCond .eq 17, 3) := by decide +kernel
theorem dX12_isJoined_76 : decode cX12_isJoined 76 = .ok (.aload_n 0, 1) := by decide +kernel
theorem dX12_isJoined_77 : decode cX12_isJoined 77 = .ok (.iload_n 1, 1) := by decide +kernel
theorem dX12_isJoined_78 : decode cX12_isJoined 78 = .ok (.iload 5, 2) := by decide +kernel
theorem dX12_isJoined_80 : decode cX12_isJoined 80 = .ok (.invokevirtual 434, 3) := by decide +kernel
theorem dX12_isJoined_83 : decode cX12_isJoined 83 = .ok (.ifCond .eq 7, 3) := by decide +kernel
theorem dX12_isJoined_86 : decode cX12_isJoined 86 = .ok (.iconst 1, 1) := by decide +kernel
theorem dX12_isJoined_87 : decode cX12_isJoined 87 = .ok (.goto 4, 3) := by decide +kernel
theorem dX12_isJoined_90 : decode cX12_isJoined 90 = .ok (.iconst 0, 1) := by decide +kernel
theorem dX12_isJoined_91 : decode cX12_isJoined 91 = .ok (.istore 4, 2) := by decide +kernel
theorem dX12_isJoined_93 : decode cX12_isJoined 93 = .ok (.iinc 5 1, 3) := by decide +kernel
theorem dX12_isJoined_96 : decode cX12_isJoined 96 = .ok (.goto (-90), 3) := by decide +kernel
theorem dX12_isJoined_99 : decode cX12_isJoined 99 = .ok (.iload 4, 2) := by decide +kernel
theorem dX12_isJoined_101 : decode cX12_isJoined 101 = .ok (.ireturn, 1) := by decide +kernel
theorem dX12_way_0 : decode cX12_way 0 = .ok (.aload_n 0, 1) := by decide +kernel
theorem dX12_way_1 : decode cX12_way 1 = .ok (.iconst 0, 1) := by decide +kernel
theorem dX12_way_2 : decode cX12_way 2 = .ok (.putfield 1, 3) := by decide +kernel
theorem dX12_way_5 : decode cX12_way 5 = .ok (.aload_n 0, 1) := by decide +kernel
theorem dX12_way_6 : decode cX12_way 6 = .ok (.iload_n 1, 1) := by decide +kernel
theorem dX12_way_7 : decode cX12_way 7 = .ok (.invokevirtual 161, 3) := by decide +kernel
theorem dX12_way_10 : decode cX12_way 10 = .ok (.ifCond .eq 19, 3) := by decide +kernel
theorem dX12_way_13 : decode cX12_way 13 = .ok (.aload_n 0, 1) := by decide +kernel
theorem dX12_way_14 : decode cX12_way 14 = .ok (.iload_n 2, 1) := by decide +kernel
theorem dX12_way_15 : decode cX12_way 15 = .ok (.invokevirtual 24, 3) := by decide +kernel
theorem dX12_way_18 : decode cX12_way 18 = .ok (.ifCond .eq 11, 3) := by decide +kernel
theorem dX12_way_21 : decode cX12_way 21 = .ok (.aload_n 0, 1) := by decide +kernel
theorem dX12_way_22 : decode cX12_way 22 = .ok (.iload_n 3, 1) := by decide +kernel
theorem dX12_way_23 : decode cX12_way 23 = .ok (.invokevirtual 24, 3) := by decide +kernel
theorem dX12_way_26 : decode cX12_way 26 = .ok (.ifCond .ne 5, 3) := by decide +kernel
theorem dX12_way_29 : decode cX12_way 29 = .ok (.iconst (-1), 1) := by decide +kernel
theorem dX12_way_30 : decode cX12_way 30 = .ok (.ireturn, 1) := by decide +kernel
theorem dX12_way_31 : decode cX12_way 31 = .ok (.aload_n 0, 1) := by decide +kernel
theorem dX12_way_32 : decode cX12_way 32 = .ok (.iload_n 1, 1) := by decide +kernel
theorem dX12_way_33 : decode cX12_way 33 = .ok (.iload_n 3, 1) := by decide +kernel
theorem dX12_way_34 : decode cX12_way 34 = .ok (.iconst (-1), 1) := by decide +kernel
theorem dX12_way_35 : decode cX12_way 35 = .ok (.invokevirtual 437, 3) := by decide +kernel
theorem dX12_way_38 : decode cX12_way 38 = .ok (.aload_n 0, 1) := by decide +kernel
theorem dX12_way_39 : decode cX12_way 39 = .ok (.getfield 265, 3) := by decide +kernel
theorem dX12_way_42 : decode cX12_way 42 = .ok (.iload_n 2, 1) := by decide +kernel
theorem dX12_way_43 : decode cX12_way 43 = .ok (.iaload, 1) := by decide +kernel
theorem dX12_way_44 : decode cX12_way 44 = .ok (.istore 4, 2) := by decide +kernel
theorem dX12_way_46 : decode cX12_way 46 = .ok (.iload 4, 2) := by decide +kernel
theorem dX12_way_48 : decode cX12_way 48 = .ok (.bipush 99, 2) := by decide +kernel
theorem dX12_way_50 : decode cX12_way 50 = .ok (.if_icmp .ge 21, 3) := by decide +kernel
theorem dX12_way_53 : decode cX12_way 53 = .ok (.aload_n 0, 1) := by decide +kernel
theorem dX12_way_54 : decode cX12_way 54 = .ok (.getfield 431, 3) := by decide +kernel
theorem dX12_way_57 : decode cX12_way 57 = .ok (.iload_n 2, 1) := by decide +kernel
theorem dX12_way_58 : decode cX12_way 58 = .ok (.baload, 1) := by decide +kernel
theorem dX12_way_59 : decode cX12_way 59 = .ok (.ifCond .ne 12, 3) := by decide +kernel
theorem dX12_way_62 : decode cX12_way 62 = .ok (.aload_n 0, 1) := by decide +kernel
theorem dX12_way_63 : decode cX12_way 63 = .ok (.getfield 431, 3) := by decide +kernel
theorem dX12_way_66 : decode cX12_way 66 = .ok (.iload_n 3, 1) := by decide +kernel
theorem dX12_way_67 : decode cX12_way 67 = .ok (.baload, 1) := by decide +kernel
theorem dX12_way_68 : decode cX12_way 68 = .ok (.ifCond .eq 6, 3) := by decide +kernel
theorem dX12_way_71 : decode cX12_way 71 = .ok (.bipush (-2), 2) := by decide +kernel
theorem dX12_way_73 : decode cX12_way 73 = .ok (.ireturn, 1) := by decide +kernel
theorem dX12_way_74 : decode cX12_way 74 = .ok (.aload_n 0, 1) := by decide +kernel
theorem dX12_way_75 : decode cX12_way 75 = .ok (.iconst 0, 1) := by decide +kernel
theorem dX12_way_76 : decode cX12_way 76 = .ok (.putfield 11, 3) := by decide +kernel
theorem dX12_way_79 : decode cX12_way 79 = .ok (.aload_n 0, 1) := by decide +kernel
theorem dX12_way_80 : decode cX12_way 80 = .ok (.iload_n 2, 1) := by decide +kernel
theorem dX12_way_81 : decode cX12_way 81 = .ok (.invokevirtual 345, 3) := by decide +kernel
theorem dX12_way_84 : decode cX12_way 84 = .ok (.iload_n 2, 1) := by decide +kernel
theorem dX12_way_85 : decode cX12_way 85 = .ok (.istore 5, 2) := by decide +kernel
theorem dX12_way_87 : decode cX12_way 87 = .ok (.iload 5, 2) := by decide +kernel
theorem dX12_way_89 : decode cX12_way 89 = .ok (.iload_n 3, 1) := by decide +kernel
theorem dX12_way_90 : decode cX12_way 90 = .ok (.if_icmp .eq 66, 3) := by decide +kernel
theorem dX12_way_93 : decode cX12_way 93 = .ok (.iconst 0, 1) := by decide +kernel
theorem dX12_way_94 : decode cX12_way 94 = .ok (.istore 6, 2) := by decide +kernel
theorem dX12_way_96 : decode cX12_way 96 = .ok (.aload_n 0, 1) := by decide +kernel
theorem dX12_way_97 : decode cX12_way 97 = .ok (.getfield 431, 3) := by decide +kernel
theorem dX12_way_100 : decode cX12_way 100 = .ok (.iload 6, 2) := by decide +kernel
theorem dX12_way_102 : decode cX12_way 102 = .ok (.baload, 1) := by decide +kernel
theorem dX12_way_103 : decode cX12_way 103 = .ok (.ifCond .ne 34, 3) := by decide +kernel
theorem dX12_way_106 : decode cX12_way 106 = .ok (.aload_n 0, 1) := by decide +kernel
theorem dX12_way_107 : decode cX12_way 107 = .ok (.getfield 265, 3) := by decide +kernel
theorem dX12_way_110 : decode cX12_way 110 = .ok (.iload 6, 2) := by decide +kernel
theorem dX12_way_112 : decode cX12_way 112 = .ok (.iaload, 1) := by decide +kernel
theorem dX12_way_113 : decode cX12_way 113 = .ok (.aload_n 0, 1) := by decide +kernel
theorem dX12_way_114 : decode cX12_way 114 = .ok (.getfield 265, 3) := by decide +kernel
theorem dX12_way_117 : decode cX12_way 117 = .ok (.iload 5, 2) := by decide +kernel
theorem dX12_way_119 : decode cX12_way 119 = .ok (.iaload, 1) := by decide +kernel
theorem dX12_way_120 : decode cX12_way 120 = .ok (.iconst 1, 1) := by decide +kernel
theorem dX12_way_121 : decode cX12_way 121 = .ok (.isub, 1) := by decide +kernel
theorem dX12_way_122 : decode cX12_way 122 = .ok (.if_icmp .ne 15, 3) := by decide +kernel
theorem dX12_way_125 : decode cX12_way 125 = .ok (.aload_n 0, 1) := by decide +kernel
theorem dX12_way_126 : decode cX12_way 126 = .ok (.iload_n 1, 1) := by decide +kernel
theorem dX12_way_127 : decode cX12_way 127 = .ok (.iload 5, 2) := by decide +kernel
theorem dX12_way_129 : decode cX12_way 129 = .ok (.iload 6, 2) := by decide +kernel
theorem dX12_way_131 : decode cX12_way 131 = .ok (.invokevirtual 440, 3) := by decide +kernel
theorem dX12_way_134 : decode cX12_way 134 = .ok (.ifCond .ne 9, 3) := by decide +kernel
theorem dX12_way_137 : decode cX12_way 137 = .ok (.iinc 6 1, 3) := by decide +kernel
theorem dX12_way_140 : decode cX12_way 140 = .ok (.goto (-44), 3) := by decide +kernel
theorem dX12_way_143 : decode cX12_way 143 = .ok (.aload_n 0, 1) := by decide +kernel
theorem dX12_way_144 : decode cX12_way 144 = .ok (.iload 6, 2) := by decide +kernel
theorem dX12_way_146 : decode cX12_way 146 = .ok (.invokevirtual 345, 3) := by decide +kernel
theorem dX12_way_149 : decode cX12_way 149 = .ok (.iload 6, 2) := by decide +kernel
theorem dX12_way_151 : decode cX12_way 151 = .ok (.istore 5, 2) := by decide +kernel
theorem dX12_way_153 : decode cX12_way 153 = .ok (.goto (-66), 3) := by decide +kernel
theorem dX12_way_156 : decode cX12_way 156 = .ok (.iload 4, 2) := by decide +kernel
theorem dX12_way_158 : decode cX12_way 158 = .ok (.ireturn, 1) := by decide +kernel
theorem dX12_bars_0 : decode cX12_bars 0 = .ok (.aload_n 0, 1) := by decide +kernel
theorem dX12_bars_1 : decode cX12_bars 1 = .ok (.iconst 0, 1) := by decide +kernel
theorem dX12_bars_2 : decode cX12_bars 2 = .ok (.putfield 1, 3) := by decide +kernel
theorem dX12_bars_5 : decode cX12_bars 5 = .ok (.aload_n 0, 1) := by decide +kernel
theorem dX12_bars_6 : decode cX12_bars 6 = .ok (.iload_n 1, 1) := by decide +kernel
theorem dX12_bars_7 : decode cX12_bars 7 = .ok (.invokevirtual 161, 3) := by decide +kernel
theorem dX12_bars_10 : decode cX12_bars 10 = .ok (.ifCond .eq 19, 3) := by decide +kernel
theorem dX12_bars_13 : decode cX12_bars 13 = .ok (.aload_n 0, 1) := by decide +kernel
theorem dX12_bars_14 : decode cX12_bars 14 = .ok (.iload_n 2, 1) := by decide +kernel
theorem dX12_bars_15 : decode cX12_bars 15 = .ok (.invokevirtual 24, 3) := by decide +kernel
theorem dX12_bars_18 : decode cX12_bars 18 = .ok (.ifCond .eq 11, 3) := by decide +kernel
theorem dX12_bars_21 : decode cX12_bars 21 = .ok (.aload_n 0, 1) := by decide +kernel
theorem dX12_bars_22 : decode cX12_bars 22 = .ok (.iload_n 3, 1) := by decide +kernel
theorem dX12_bars_23 : decode cX12_bars 23 = .ok (.invokevirtual 24, 3) := by decide +kernel
theorem dX12_bars_26 : decode cX12_bars 26 = .ok (.ifCond .ne 5, 3) := by decide +kernel
theorem dX12_bars_29 : decode cX12_bars 29 = .ok (.iconst (-1), 1) := by decide +kernel
theorem dX12_bars_30 : decode cX12_bars 30 = .ok (.ireturn, 1) := by decide +kernel
theorem dX12_bars_31 : decode cX12_bars 31 = .ok (.aload_n 0, 1) := by decide +kernel
theorem dX12_bars_32 : decode cX12_bars 32 = .ok (.iload_n 1, 1) := by decide +kernel
theorem dX12_bars_33 : decode cX12_bars 33 = .ok (.iload_n 2, 1) := by decide +kernel
theorem dX12_bars_34 : decode cX12_bars 34 = .ok (.iconst (-1), 1) := by decide +kernel
theorem dX12_bars_35 : decode cX12_bars 35 = .ok (.invokevirtual 437, 3) := by decide +kernel
theorem dX12_bars_38 : decode cX12_bars 38 = .ok (.aload_n 0, 1) := by decide +kernel
theorem dX12_bars_39 : decode cX12_bars 39 = .ok (.getfield 265, 3) := by decide +kernel
theorem dX12_bars_42 : decode cX12_bars 42 = .ok (.iload_n 3, 1) := by decide +kernel
theorem dX12_bars_43 : decode cX12_bars 43 = .ok (.iaload, 1) := by decide +kernel
theorem dX12_bars_44 : decode cX12_bars 44 = .ok (.bipush 99, 2) := by decide +kernel
theorem dX12_bars_46 : decode cX12_bars 46 = .ok (.if_icmp .ge 6, 3) := by decide +kernel
theorem dX12_bars_49 : decode cX12_bars 49 = .ok (.bipush (-2), 2) := by decide +kernel
theorem dX12_bars_51 : decode cX12_bars 51 = .ok (.ireturn, 1) := by decide +kernel
theorem dX12_bars_52 : decode cX12_bars 52 = .ok (.iconst 0, 1) := by decide +kernel
theorem dX12_bars_53 : decode cX12_bars 53 = .ok (.istore 4, 2) := by decide +kernel
theorem dX12_bars_55 : decode cX12_bars 55 = .ok (.iload 4, 2) := by decide +kernel
theorem dX12_bars_57 : decode cX12_bars 57 = .ok (.aload_n 0, 1) := by decide +kernel
theorem dX12_bars_58 : decode cX12_bars 58 = .ok (.getfield 36, 3) := by decide +kernel
theorem dX12_bars_61 : decode cX12_bars 61 = .ok (.if_icmp .ge 31, 3) := by decide +kernel
theorem dX12_bars_64 : decode cX12_bars 64 = .ok (.aload_n 0, 1) := by decide +kernel
theorem dX12_bars_65 : decode cX12_bars 65 = .ok (.iload_n 1, 1) := by decide +kernel
theorem dX12_bars_66 : decode cX12_bars 66 = .ok (.iload_n 2, 1) := by decide +kernel
theorem dX12_bars_67 : decode cX12_bars 67 = .ok (.iload 4, 2) := by decide +kernel
theorem dX12_bars_69 : decode cX12_bars 69 = .ok (.invokevirtual 437, 3) := by decide +kernel
theorem dX12_bars_72 : decode cX12_bars 72 = .ok (.aload_n 0, 1) := by decide +kernel
theorem dX12_bars_73 : decode cX12_bars 73 = .ok (.getfield 265, 3) := by decide +kernel
theorem dX12_bars_76 : decode cX12_bars 76 = .ok (.iload_n 3, 1) := by decide +kernel
theorem dX12_bars_77 : decode cX12_bars 77 = .ok (.iaload, 1) := by decide +kernel
theorem dX12_bars_78 : decode cX12_bars 78 = .ok (.bipush 99, 2) := by decide +kernel
theorem dX12_bars_80 : decode cX12_bars 80 = .ok (.if_icmp .ge 6, 3) := by decide +kernel
theorem dX12_bars_83 : decode cX12_bars 83 = .ok (.iload 4, 2) := by decide +kernel
theorem dX12_bars_85 : decode cX12_bars 85 = .ok (.ireturn, 1) := by decide +kernel
theorem dX12_bars_86 : decode cX12_bars 86 = .ok (.iinc 4 1, 3) := by decide +kernel
theorem dX12_bars_89 : decode cX12_bars 89 = .ok (.goto (-34), 3) := by decide +kernel
theorem dX12_bars_92 : decode cX12_bars 92 = .ok (.iconst (-1), 1) := by decide +kernel
theorem dX12_bars_93 : decode cX12_bars 93 = .ok (.ireturn, 1) := by decide +kernel
theorem dX12_move_0 : decode cX12_move 0 = .ok (.aload_n 0, 1) := by decide +kernel
theorem dX12_move_1 : decode cX12_move 1 = .ok (.iconst 0, 1) := by decide +kernel
theorem dX12_move_2 : decode cX12_move 2 = .ok (.putfield 1, 3) := by decide +kernel
theorem dX12_move_5 : decode cX12_move 5 = .ok (.aload_n 0, 1) := by decide +kernel
theorem dX12_move_6 : decode cX12_move 6 = .ok (.iload_n 1, 1) := by decide +kernel
theorem dX12_move_7 : decode cX12_move 7 = .ok (.invokevirtual 323, 3) := by decide +kernel
theorem dX12_move_10 : decode cX12_move 10 = .ok (.ifCond .eq 49, 3) := by decide +kernel
theorem dX12_move_13 : decode cX12_move 13 = .ok (.aload_n 0, 1) := by decide +kernel
theorem dX12_move_14 : decode cX12_move 14 = .ok (.iload_n 2, 1) := by decide +kernel
theorem dX12_move_15 : decode cX12_move 15 = .ok (.invokevirtual 90, 3) := by decide +kernel
theorem dX12_move_18 : decode cX12_move 18 = .ok (.ifCond .eq 41, 3) := by decide +kernel
theorem dX12_move_21 : decode cX12_move 21 = .ok (.aload_n 0, 1) := by decide +kernel
theorem dX12_move_22 : decode cX12_move 22 = .ok (.getfield 443, 3) := by decide +kernel
theorem dX12_move_25 : decode cX12_move 25 = .ok (.aload_n 0, 1) := by decide +kernel
theorem dX12_move_26 : decode cX12_move 26 = .ok (.getfield 446, 3) := by decide +kernel
theorem dX12_move_29 : decode cX12_move 29 = .ok (.iload_n 1, 1) := by decide +kernel
theorem dX12_move_30 : decode cX12_move 30 = .ok (.invokestatic 415, 3) := by decide +kernel
theorem dX12_move_33 : decode cX12_move 33 = .ok (.ifCond .ne 26, 3) := by decide +kernel
theorem dX12_move_36 : decode cX12_move 36 = .ok (.iload_n 3, 1) := by decide +kernel
theorem dX12_move_37 : decode cX12_move 37 = .ok (.i2l, 1) := by decide +kernel
theorem dX12_move_38 : decode cX12_move 38 = .ok (.ldc2_w 449, 3) := by decide +kernel
theorem dX12_move_41 : decode cX12_move 41 = .ok (.ldc2_w 451, 3) := by decide +kernel
theorem dX12_move_44 : decode cX12_move 44 = .ok (.invokestatic 17, 3) := by decide +kernel
theorem dX12_move_47 : decode cX12_move 47 = .ok (.ifCond .eq 12, 3) := by decide +kernel
theorem dX12_move_50 : decode cX12_move 50 = .ok (.aload_n 0, 1) := by decide +kernel
theorem dX12_move_51 : decode cX12_move 51 = .ok (.getfield 446, 3) := by decide +kernel
theorem dX12_move_54 : decode cX12_move 54 = .ok (.bipush 8, 2) := by decide +kernel
theorem dX12_move_56 : decode cX12_move 56 = .ok (.if_icmp .ne 5, 3) := by decide +kernel
theorem dX12_move_59 : decode cX12_move 59 = .ok (.iconst (-1), 1) := by decide +kernel
theorem dX12_move_60 : decode cX12_move 60 = .ok (.ireturn, 1) := by decide +kernel
theorem dX12_move_61 : decode cX12_move 61 = .ok (.aload_n 0, 1) := by decide +kernel
theorem dX12_move_62 : decode cX12_move 62 = .ok (.getfield 443, 3) := by decide +kernel
theorem dX12_move_65 : decode cX12_move 65 = .ok (.aload_n 0, 1) := by decide +kernel
theorem dX12_move_66 : decode cX12_move 66 = .ok (.getfield 446, 3) := by decide +kernel
theorem dX12_move_69 : decode cX12_move 69 = .ok (.iload_n 1, 1) := by decide +kernel
theorem dX12_move_70 : decode cX12_move 70 = .ok (.iastore, 1) := by decide +kernel
theorem dX12_move_71 : decode cX12_move 71 = .ok (.aload_n 0, 1) := by decide +kernel
theorem dX12_move_72 : decode cX12_move 72 = .ok (.getfield 453, 3) := by decide +kernel
theorem dX12_move_75 : decode cX12_move 75 = .ok (.aload_n 0, 1) := by decide +kernel
theorem dX12_move_76 : decode cX12_move 76 = .ok (.getfield 446, 3) := by decide +kernel
theorem dX12_move_79 : decode cX12_move 79 = .ok (.iload_n 2, 1) := by decide +kernel
theorem dX12_move_80 : decode cX12_move 80 = .ok (.iastore, 1) := by decide +kernel
theorem dX12_move_81 : decode cX12_move 81 = .ok (.aload_n 0, 1) := by decide +kernel
theorem dX12_move_82 : decode cX12_move 82 = .ok (.getfield 456, 3) := by decide +kernel
theorem dX12_move_85 : decode cX12_move 85 = .ok (.aload_n 0, 1) := by decide +kernel
theorem dX12_move_86 : decode cX12_move 86 = .ok (.getfield 446, 3) := by decide +kernel
theorem dX12_move_89 : decode cX12_move 89 = .ok (.iload_n 3, 1) := by decide +kernel
theorem dX12_move_90 : decode cX12_move 90 = .ok (.iastore, 1) := by decide +kernel
theorem dX12_move_91 : decode cX12_move 91 = .ok (.aload_n 0, 1) := by decide +kernel
theorem dX12_move_92 : decode cX12_move 92 = .ok (.dup, 1) := by decide +kernel
theorem dX12_move_93 : decode cX12_move 93 = .ok (.getfield 446, 3) := by decide +kernel
theorem dX12_move_96 : decode cX12_move 96 = .ok (.iconst 1, 1) := by decide +kernel
theorem dX12_move_97 : decode cX12_move 97 = .ok (.iadd, 1) := by decide +kernel
theorem dX12_move_98 : decode cX12_move 98 = .ok (.putfield 446, 3) := by decide +kernel
theorem dX12_move_101 : decode cX12_move 101 = .ok (.aload_n 0, 1) := by decide +kernel
theorem dX12_move_102 : decode cX12_move 102 = .ok (.getfield 446, 3) := by decide +kernel
theorem dX12_move_105 : decode cX12_move 105 = .ok (.iconst 1, 1) := by decide +kernel
theorem dX12_move_106 : decode cX12_move 106 = .ok (.isub, 1) := by decide +kernel
theorem dX12_move_107 : decode cX12_move 107 = .ok (.ireturn, 1) := by decide +kernel
theorem dX12_keeps_0 : decode cX12_keeps 0 = .ok (.iconst 0, 1) := by decide +kernel
theorem dX12_keeps_1 : decode cX12_keeps 1 = .ok (.istore_n 1, 1) := by decide +kernel
theorem dX12_keeps_2 : decode cX12_keeps 2 = .ok (.iload_n 1, 1) := by decide +kernel
theorem dX12_keeps_3 : decode cX12_keeps 3 = .ok (.aload_n 0, 1) := by decide +kernel
theorem dX12_keeps_4 : decode cX12_keeps 4 = .ok (.getfield 108, 3) := by decide +kernel
theorem dX12_keeps_7 : decode cX12_keeps 7 = .ok (.if_icmp .ge 45, 3) := by decide +kernel
theorem dX12_keeps_10 : decode cX12_keeps 10 = .ok (.aload_n 0, 1) := by decide +kernel
theorem dX12_keeps_11 : decode cX12_keeps 11 = .ok (.getfield 459, 3) := by decide +kernel
theorem dX12_keeps_14 : decode cX12_keeps 14 = .ok (.iload_n 1, 1) := by decide +kernel
theorem dX12_keeps_15 : decode cX12_keeps 15 = .ok (.aload_n 0, 1) := by decide +kernel
theorem dX12_keeps_16 : decode cX12_keeps 16 = .ok (.getfield 170, 3) := by decide +kernel
theorem dX12_keeps_19 : decode cX12_keeps 19 = .ok (.iload_n 1, 1) := by decide +kernel
theorem dX12_keeps_20 : decode cX12_keeps 20 = .ok (.iaload, 1) := by decide +kernel
theorem dX12_keeps_21 : decode cX12_keeps 21 = .ok (.iastore, 1) := by decide +kernel
theorem dX12_keeps_22 : decode cX12_keeps 22 = .ok (.aload_n 0, 1) := by decide +kernel
theorem dX12_keeps_23 : decode cX12_keeps 23 = .ok (.getfield 462, 3) := by decide +kernel
theorem dX12_keeps_26 : decode cX12_keeps 26 = .ok (.iload_n 1, 1) := by decide +kernel
theorem dX12_keeps_27 : decode cX12_keeps 27 = .ok (.aload_n 0, 1) := by decide +kernel
theorem dX12_keeps_28 : decode cX12_keeps 28 = .ok (.getfield 155, 3) := by decide +kernel
theorem dX12_keeps_31 : decode cX12_keeps 31 = .ok (.iload_n 1, 1) := by decide +kernel
theorem dX12_keeps_32 : decode cX12_keeps 32 = .ok (.iaload, 1) := by decide +kernel
theorem dX12_keeps_33 : decode cX12_keeps 33 = .ok (.iastore, 1) := by decide +kernel
theorem dX12_keeps_34 : decode cX12_keeps 34 = .ok (.aload_n 0, 1) := by decide +kernel
theorem dX12_keeps_35 : decode cX12_keeps 35 = .ok (.getfield 465, 3) := by decide +kernel
theorem dX12_keeps_38 : decode cX12_keeps 38 = .ok (.iload_n 1, 1) := by decide +kernel
theorem dX12_keeps_39 : decode cX12_keeps 39 = .ok (.aload_n 0, 1) := by decide +kernel
theorem dX12_keeps_40 : decode cX12_keeps 40 = .ok (.getfield 158, 3) := by decide +kernel
theorem dX12_keeps_43 : decode cX12_keeps 43 = .ok (.iload_n 1, 1) := by decide +kernel
theorem dX12_keeps_44 : decode cX12_keeps 44 = .ok (.iaload, 1) := by decide +kernel
theorem dX12_keeps_45 : decode cX12_keeps 45 = .ok (.iastore, 1) := by decide +kernel
theorem dX12_keeps_46 : decode cX12_keeps 46 = .ok (.iinc 1 1, 3) := by decide +kernel
theorem dX12_keeps_49 : decode cX12_keeps 49 = .ok (.goto (-47), 3) := by decide +kernel
theorem dX12_keeps_52 : decode cX12_keeps 52 = .ok (.return_, 1) := by decide +kernel
theorem dX12_restores_0 : decode cX12_restores 0 = .ok (.iconst 0, 1) := by decide +kernel
theorem dX12_restores_1 : decode cX12_restores 1 = .ok (.istore_n 1, 1) := by decide +kernel
theorem dX12_restores_2 : decode cX12_restores 2 = .ok (.iload_n 1, 1) := by decide +kernel
theorem dX12_restores_3 : decode cX12_restores 3 = .ok (.aload_n 0, 1) := by decide +kernel
theorem dX12_restores_4 : decode cX12_restores 4 = .ok (.getfield 108, 3) := by decide +kernel
theorem dX12_restores_7 : decode cX12_restores 7 = .ok (.if_icmp .ge 45, 3) := by decide +kernel
theorem dX12_restores_10 : decode cX12_restores 10 = .ok (.aload_n 0, 1) := by decide +kernel
theorem dX12_restores_11 : decode cX12_restores 11 = .ok (.getfield 170, 3) := by decide +kernel
theorem dX12_restores_14 : decode cX12_restores 14 = .ok (.iload_n 1, 1) := by decide +kernel
theorem dX12_restores_15 : decode cX12_restores 15 = .ok (.aload_n 0, 1) := by decide +kernel
theorem dX12_restores_16 : decode cX12_restores 16 = .ok (.getfield 459, 3) := by decide +kernel
theorem dX12_restores_19 : decode cX12_restores 19 = .ok (.iload_n 1, 1) := by decide +kernel
theorem dX12_restores_20 : decode cX12_restores 20 = .ok (.iaload, 1) := by decide +kernel
theorem dX12_restores_21 : decode cX12_restores 21 = .ok (.iastore, 1) := by decide +kernel
theorem dX12_restores_22 : decode cX12_restores 22 = .ok (.aload_n 0, 1) := by decide +kernel
theorem dX12_restores_23 : decode cX12_restores 23 = .ok (.getfield 155, 3) := by decide +kernel
theorem dX12_restores_26 : decode cX12_restores 26 = .ok (.iload_n 1, 1) := by decide +kernel
theorem dX12_restores_27 : decode cX12_restores 27 = .ok (.aload_n 0, 1) := by decide +kernel
theorem dX12_restores_28 : decode cX12_restores 28 = .ok (.getfield 462, 3) := by decide +kernel
theorem dX12_restores_31 : decode cX12_restores 31 = .ok (.iload_n 1, 1) := by decide +kernel
theorem dX12_restores_32 : decode cX12_restores 32 = .ok (.iaload, 1) := by decide +kernel
theorem dX12_restores_33 : decode cX12_restores 33 = .ok (.iastore, 1) := by decide +kernel
theorem dX12_restores_34 : decode cX12_restores 34 = .ok (.aload_n 0, 1) := by decide +kernel
theorem dX12_restores_35 : decode cX12_restores 35 = .ok (.getfield 158, 3) := by decide +kernel
theorem dX12_restores_38 : decode cX12_restores 38 = .ok (.iload_n 1, 1) := by decide +kernel
theorem dX12_restores_39 : decode cX12_restores 39 = .ok (.aload_n 0, 1) := by decide +kernel
theorem dX12_restores_40 : decode cX12_restores 40 = .ok (.getfield 465, 3) := by decide +kernel
theorem dX12_restores_43 : decode cX12_restores 43 = .ok (.iload_n 1, 1) := by decide +kernel
theorem dX12_restores_44 : decode cX12_restores 44 = .ok (.iaload, 1) := by decide +kernel
theorem dX12_restores_45 : decode cX12_restores 45 = .ok (.iastore, 1) := by decide +kernel
theorem dX12_restores_46 : decode cX12_restores 46 = .ok (.iinc 1 1, 3) := by decide +kernel
theorem dX12_restores_49 : decode cX12_restores 49 = .ok (.goto (-47), 3) := by decide +kernel
theorem dX12_restores_52 : decode cX12_restores 52 = .ok (.return_, 1) := by decide +kernel
theorem dX12_does_0 : decode cX12_does 0 = .ok (.aload_n 0, 1) := by decide +kernel
theorem dX12_does_1 : decode cX12_does 1 = .ok (.invokevirtual 468, 3) := by decide +kernel
theorem dX12_does_4 : decode cX12_does 4 = .ok (.iconst 0, 1) := by decide +kernel
theorem dX12_does_5 : decode cX12_does 5 = .ok (.istore_n 2, 1) := by decide +kernel
theorem dX12_does_6 : decode cX12_does 6 = .ok (.iload_n 2, 1) := by decide +kernel
theorem dX12_does_7 : decode cX12_does 7 = .ok (.aload_n 0, 1) := by decide +kernel
theorem dX12_does_8 : decode cX12_does 8 = .ok (.getfield 446, 3) := by decide +kernel
theorem dX12_does_11 : decode cX12_does 11 = .ok (.if_icmp .ge 40, 3) := by decide +kernel
theorem dX12_does_14 : decode cX12_does 14 = .ok (.iload_n 1, 1) := by decide +kernel
theorem dX12_does_15 : decode cX12_does 15 = .ok (.iload_n 2, 1) := by decide +kernel
theorem dX12_does_16 : decode cX12_does 16 = .ok (.ishr, 1) := by decide +kernel
theorem dX12_does_17 : decode cX12_does 17 = .ok (.iconst 1, 1) := by decide +kernel
theorem dX12_does_18 : decode cX12_does 18 = .ok (.iand, 1) := by decide +kernel
theorem dX12_does_19 : decode cX12_does 19 = .ok (.iconst 1, 1) := by decide +kernel
theorem dX12_does_20 : decode cX12_does 20 = .ok (.if_icmp .ne 25, 3) := by decide +kernel
theorem dX12_does_23 : decode cX12_does 23 = .ok (.aload_n 0, 1) := by decide +kernel
theorem dX12_does_24 : decode cX12_does 24 = .ok (.aload_n 0, 1) := by decide +kernel
theorem dX12_does_25 : decode cX12_does 25 = .ok (.getfield 443, 3) := by decide +kernel
theorem dX12_does_28 : decode cX12_does 28 = .ok (.iload_n 2, 1) := by decide +kernel
theorem dX12_does_29 : decode cX12_does 29 = .ok (.iaload, 1) := by decide +kernel
theorem dX12_does_30 : decode cX12_does 30 = .ok (.aload_n 0, 1) := by decide +kernel
theorem dX12_does_31 : decode cX12_does 31 = .ok (.getfield 453, 3) := by decide +kernel
theorem dX12_does_34 : decode cX12_does 34 = .ok (.iload_n 2, 1) := by decide +kernel
theorem dX12_does_35 : decode cX12_does 35 = .ok (.iaload, 1) := by decide +kernel
theorem dX12_does_36 : decode cX12_does 36 = .ok (.aload_n 0, 1) := by decide +kernel
theorem dX12_does_37 : decode cX12_does 37 = .ok (.getfield 456, 3) := by decide +kernel
theorem dX12_does_40 : decode cX12_does 40 = .ok (.iload_n 2, 1) := by decide +kernel
theorem dX12_does_41 : decode cX12_does 41 = .ok (.iaload, 1) := by decide +kernel
theorem dX12_does_42 : decode cX12_does 42 = .ok (.invokevirtual 330, 3) := by decide +kernel
theorem dX12_does_45 : decode cX12_does 45 = .ok (.iinc 2 1, 3) := by decide +kernel
theorem dX12_does_48 : decode cX12_does 48 = .ok (.goto (-42), 3) := by decide +kernel
theorem dX12_does_51 : decode cX12_does 51 = .ok (.return_, 1) := by decide +kernel
theorem dX12_roomsTouched_0 : decode cX12_roomsTouched 0 = .ok (.iconst 0, 1) := by decide +kernel
theorem dX12_roomsTouched_1 : decode cX12_roomsTouched 1 = .ok (.istore_n 2, 1) := by decide +kernel
theorem dX12_roomsTouched_2 : decode cX12_roomsTouched 2 = .ok (.iconst 0, 1) := by decide +kernel
theorem dX12_roomsTouched_3 : decode cX12_roomsTouched 3 = .ok (.istore_n 3, 1) := by decide +kernel
theorem dX12_roomsTouched_4 : decode cX12_roomsTouched 4 = .ok (.iload_n 3, 1) := by decide +kernel
theorem dX12_roomsTouched_5 : decode cX12_roomsTouched 5 = .ok (.aload_n 0, 1) := by decide +kernel
theorem dX12_roomsTouched_6 : decode cX12_roomsTouched 6 = .ok (.getfield 446, 3) := by decide +kernel
theorem dX12_roomsTouched_9 : decode cX12_roomsTouched 9 = .ok (.if_icmp .ge 76, 3) := by decide +kernel
theorem dX12_roomsTouched_12 : decode cX12_roomsTouched 12 = .ok (.iload_n 1, 1) := by decide +kernel
theorem dX12_roomsTouched_13 : decode cX12_roomsTouched 13 = .ok (.iload_n 3, 1) := by decide +kernel
theorem dX12_roomsTouched_14 : decode cX12_roomsTouched 14 = .ok (.ishr, 1) := by decide +kernel
theorem dX12_roomsTouched_15 : decode cX12_roomsTouched 15 = .ok (.iconst 1, 1) := by decide +kernel
theorem dX12_roomsTouched_16 : decode cX12_roomsTouched 16 = .ok (.iand, 1) := by decide +kernel
theorem dX12_roomsTouched_17 : decode cX12_roomsTouched 17 = .ok (.ifCond .ne 6, 3) := by decide +kernel
theorem dX12_roomsTouched_20 : decode cX12_roomsTouched 20 = .ok (.goto 59, 3) := by decide +kernel
theorem dX12_roomsTouched_23 : decode cX12_roomsTouched 23 = .ok (.iload_n 2, 1) := by decide +kernel
theorem dX12_roomsTouched_24 : decode cX12_roomsTouched 24 = .ok (.iconst 1, 1) := by decide +kernel
theorem dX12_roomsTouched_25 : decode cX12_roomsTouched 25 = .ok (.aload_n 0, 1) := by decide +kernel
theorem dX12_roomsTouched_26 : decode cX12_roomsTouched 26 = .ok (.getfield 57, 3) := by decide +kernel
theorem dX12_roomsTouched_29 : decode cX12_roomsTouched 29 = .ok (.aload_n 0, 1) := by decide +kernel
theorem dX12_roomsTouched_30 : decode cX12_roomsTouched 30 = .ok (.getfield 453, 3) := by decide +kernel
theorem dX12_roomsTouched_33 : decode cX12_roomsTouched 33 = .ok (.iload_n 3, 1) := by decide +kernel
theorem dX12_roomsTouched_34 : decode cX12_roomsTouched 34 = .ok (.iaload, 1) := by decide +kernel
theorem dX12_roomsTouched_35 : decode cX12_roomsTouched 35 = .ok (.iaload, 1) := by decide +kernel
theorem dX12_roomsTouched_36 : decode cX12_roomsTouched 36 = .ok (.ishl, 1) := by decide +kernel
theorem dX12_roomsTouched_37 : decode cX12_roomsTouched 37 = .ok (.ior, 1) := by decide +kernel
theorem dX12_roomsTouched_38 : decode cX12_roomsTouched 38 = .ok (.istore_n 2, 1) := by decide +kernel
theorem dX12_roomsTouched_39 : decode cX12_roomsTouched 39 = .ok (.iload_n 2, 1) := by decide +kernel
theorem dX12_roomsTouched_40 : decode cX12_roomsTouched 40 = .ok (.aload_n 0, 1) := by decide +kernel
theorem dX12_roomsTouched_41 : decode cX12_roomsTouched 41 = .ok (.getfield 459, 3) := by decide +kernel
theorem dX12_roomsTouched_44 : decode cX12_roomsTouched 44 = .ok (.aload_n 0, 1) := by decide +kernel
theorem dX12_roomsTouched_45 : decode cX12_roomsTouched 45 = .ok (.getfield 443, 3) := by decide +kernel
theorem dX12_roomsTouched_48 : decode cX12_roomsTouched 48 = .ok (.iload_n 3, 1) := by decide +kernel
theorem dX12_roomsTouched_49 : decode cX12_roomsTouched 49 = .ok (.iaload, 1) := by decide +kernel
theorem dX12_roomsTouched_50 : decode cX12_roomsTouched 50 = .ok (.iaload, 1) := by decide +kernel
theorem dX12_roomsTouched_51 : decode cX12_roomsTouched 51 = .ok (.iconst 1, 1) := by decide +kernel
theorem dX12_roomsTouched_52 : decode cX12_roomsTouched 52 = .ok (.if_icmp .ne 24, 3) := by decide +kernel
theorem dX12_roomsTouched_55 : decode cX12_roomsTouched 55 = .ok (.iconst 1, 1) := by decide +kernel
theorem dX12_roomsTouched_56 : decode cX12_roomsTouched 56 = .ok (.aload_n 0, 1) := by decide +kernel
theorem dX12_roomsTouched_57 : decode cX12_roomsTouched 57 = .ok (.getfield 57, 3) := by decide +kernel
theorem dX12_roomsTouched_60 : decode cX12_roomsTouched 60 = .ok (.aload_n 0, 1) := by decide +kernel
theorem dX12_roomsTouched_61 : decode cX12_roomsTouched 61 = .ok (.getfield 462, 3) := by decide +kernel
theorem dX12_roomsTouched_64 : decode cX12_roomsTouched 64 = .ok (.aload_n 0, 1) := by decide +kernel
theorem dX12_roomsTouched_65 : decode cX12_roomsTouched 65 = .ok (.getfield 443, 3) := by decide +kernel
theorem dX12_roomsTouched_68 : decode cX12_roomsTouched 68 = .ok (.iload_n 3, 1) := by decide +kernel
theorem dX12_roomsTouched_69 : decode cX12_roomsTouched 69 = .ok (.iaload, 1) := by decide +kernel
theorem dX12_roomsTouched_70 : decode cX12_roomsTouched 70 = .ok (.iaload, 1) := by decide +kernel
theorem dX12_roomsTouched_71 : decode cX12_roomsTouched 71 = .ok (.iaload, 1) := by decide +kernel
theorem dX12_roomsTouched_72 : decode cX12_roomsTouched 72 = .ok (.ishl, 1) := by decide +kernel
theorem dX12_roomsTouched_73 : decode cX12_roomsTouched 73 = .ok (.goto 4, 3) := by decide +kernel
theorem dX12_roomsTouched_76 : decode cX12_roomsTouched 76 = .ok (.iconst 0, 1) := by decide +kernel
theorem dX12_roomsTouched_77 : decode cX12_roomsTouched 77 = .ok (.ior, 1) := by decide +kernel
theorem dX12_roomsTouched_78 : decode cX12_roomsTouched 78 = .ok (.istore_n 2, 1) := by decide +kernel
theorem dX12_roomsTouched_79 : decode cX12_roomsTouched 79 = .ok (.iinc 3 1, 3) := by decide +kernel
theorem dX12_roomsTouched_82 : decode cX12_roomsTouched 82 = .ok (.goto (-78), 3) := by decide +kernel
theorem dX12_roomsTouched_85 : decode cX12_roomsTouched 85 = .ok (.iload_n 2, 1) := by decide +kernel
theorem dX12_roomsTouched_86 : decode cX12_roomsTouched 86 = .ok (.invokestatic 386, 3) := by decide +kernel
theorem dX12_roomsTouched_89 : decode cX12_roomsTouched 89 = .ok (.ireturn, 1) := by decide +kernel
theorem dX12_reaches_0 : decode cX12_reaches 0 = .ok (.iconst 1, 1) := by decide +kernel
theorem dX12_reaches_1 : decode cX12_reaches 1 = .ok (.aload_n 0, 1) := by decide +kernel
theorem dX12_reaches_2 : decode cX12_reaches 2 = .ok (.getfield 446, 3) := by decide +kernel
theorem dX12_reaches_5 : decode cX12_reaches 5 = .ok (.ishl, 1) := by decide +kernel
theorem dX12_reaches_6 : decode cX12_reaches 6 = .ok (.istore_n 2, 1) := by decide +kernel
theorem dX12_reaches_7 : decode cX12_reaches 7 = .ok (.iconst 0, 1) := by decide +kernel
theorem dX12_reaches_8 : decode cX12_reaches 8 = .ok (.istore_n 3, 1) := by decide +kernel
theorem dX12_reaches_9 : decode cX12_reaches 9 = .ok (.iload_n 3, 1) := by decide +kernel
theorem dX12_reaches_10 : decode cX12_reaches 10 = .ok (.iload_n 2, 1) := by decide +kernel
theorem dX12_reaches_11 : decode cX12_reaches 11 = .ok (.if_icmp .ge 25, 3) := by decide +kernel
theorem dX12_reaches_14 : decode cX12_reaches 14 = .ok (.aload_n 0, 1) := by decide +kernel
theorem dX12_reaches_15 : decode cX12_reaches 15 = .ok (.getfield 472, 3) := by decide +kernel
theorem dX12_reaches_18 : decode cX12_reaches 18 = .ok (.iload_n 3, 1) := by decide +kernel
theorem dX12_reaches_19 : decode cX12_reaches 19 = .ok (.iload_n 3, 1) := by decide +kernel
theorem dX12_reaches_20 : decode cX12_reaches 20 = .ok (.iload_n 1, 1) := by decide +kernel
theorem dX12_reaches_21 : decode cX12_reaches 21 = .ok (.if_icmp .ne 7, 3) := by decide +kernel
theorem dX12_reaches_24 : decode cX12_reaches 24 = .ok (.iconst 1, 1) := by decide +kernel
theorem dX12_reaches_25 : decode cX12_reaches 25 = .ok (.goto 4, 3) := by decide +kernel
theorem dX12_reaches_28 : decode cX12_reaches 28 = .ok (.iconst 0, 1) := by decide +kernel
theorem dX12_reaches_29 : decode cX12_reaches 29 = .ok (.bastore, 1) := by decide +kernel
theorem dX12_reaches_30 : decode cX12_reaches 30 = .ok (.iinc 3 1, 3) := by decide +kernel
theorem dX12_reaches_33 : decode cX12_reaches 33 = .ok (.goto (-24), 3) := by decide +kernel
theorem dX12_reaches_36 : decode cX12_reaches 36 = .ok (.iload_n 1, 1) := by decide +kernel
theorem dX12_reaches_37 : decode cX12_reaches 37 = .ok (.istore_n 3, 1) := by decide +kernel
theorem dX12_reaches_38 : decode cX12_reaches 38 = .ok (.iload_n 3, 1) := by decide +kernel
theorem dX12_reaches_39 : decode cX12_reaches 39 = .ok (.iload_n 2, 1) := by decide +kernel
theorem dX12_reaches_40 : decode cX12_reaches 40 = .ok (.if_icmp .ge 72, 3) := by decide +kernel
theorem dX12_reaches_43 : decode cX12_reaches 43 = .ok (.iconst 0, 1) := by decide +kernel
theorem dX12_reaches_44 : decode cX12_reaches 44 = .ok (.istore 4, 2) := by decide +kernel
theorem dX12_reaches_46 : decode cX12_reaches 46 = .ok (.iload 4, 2) := by decide +kernel
theorem dX12_reaches_48 : decode cX12_reaches 48 = .ok (.aload_n 0, 1) := by decide +kernel
theorem dX12_reaches_49 : decode cX12_reaches 49 = .ok (.getfield 446, 3) := by decide +kernel
theorem dX12_reaches_52 : decode cX12_reaches 52 = .ok (.if_icmp .ge 54, 3) := by decide +kernel
theorem dX12_reaches_55 : decode cX12_reaches 55 = .ok (.aload_n 0, 1) := by decide +kernel
theorem dX12_reaches_56 : decode cX12_reaches 56 = .ok (.getfield 472, 3) := by decide +kernel
theorem dX12_reaches_59 : decode cX12_reaches 59 = .ok (.iload_n 3, 1) := by decide +kernel
theorem dX12_reaches_60 : decode cX12_reaches 60 = .ok (.baload, 1) := by decide +kernel
theorem dX12_reaches_61 : decode cX12_reaches 61 = .ok (.ifCond .eq 45, 3) := by decide +kernel
theorem dX12_reaches_64 : decode cX12_reaches 64 = .ok (.iload_n 3, 1) := by decide +kernel
theorem dX12_reaches_65 : decode cX12_reaches 65 = .ok (.iload 4, 2) := by decide +kernel
theorem dX12_reaches_67 : decode cX12_reaches 67 = .ok (.ishr, 1) := by decide +kernel
theorem dX12_reaches_68 : decode cX12_reaches 68 = .ok (.iconst 1, 1) := by decide +kernel
theorem dX12_reaches_69 : decode cX12_reaches 69 = .ok (.iand, 1) := by decide +kernel
theorem dX12_reaches_70 : decode cX12_reaches 70 = .ok (.ifCond .ne 30, 3) := by decide +kernel
theorem dX12_reaches_73 : decode cX12_reaches 73 = .ok (.aload_n 0, 1) := by decide +kernel
theorem dX12_reaches_74 : decode cX12_reaches 74 = .ok (.getfield 475, 3) := by decide +kernel
theorem dX12_reaches_77 : decode cX12_reaches 77 = .ok (.iload_n 3, 1) := by decide +kernel
theorem dX12_reaches_78 : decode cX12_reaches 78 = .ok (.iaload, 1) := by decide +kernel
theorem dX12_reaches_79 : decode cX12_reaches 79 = .ok (.iload 4, 2) := by decide +kernel
theorem dX12_reaches_81 : decode cX12_reaches 81 = .ok (.ishr, 1) := by decide +kernel
theorem dX12_reaches_82 : decode cX12_reaches 82 = .ok (.iconst 1, 1) := by decide +kernel
theorem dX12_reaches_83 : decode cX12_reaches 83 = .ok (.iand, 1) := by decide +kernel
theorem dX12_reaches_84 : decode cX12_reaches 84 = .ok (.iconst 1, 1) := by decide +kernel
theorem dX12_reaches_85 : decode cX12_reaches 85 = .ok (.if_icmp .ne 15, 3) := by decide +kernel
theorem dX12_reaches_88 : decode cX12_reaches 88 = .ok (.aload_n 0, 1) := by decide +kernel
theorem dX12_reaches_89 : decode cX12_reaches 89 = .ok (.getfield 472, 3) := by decide +kernel
theorem dX12_reaches_92 : decode cX12_reaches 92 = .ok (.iload_n 3, 1) := by decide +kernel
theorem dX12_reaches_93 : decode cX12_reaches 93 = .ok (.iconst 1, 1) := by decide +kernel
theorem dX12_reaches_94 : decode cX12_reaches 94 = .ok (.iload 4, 2) := by decide +kernel
theorem dX12_reaches_96 : decode cX12_reaches 96 = .ok (.ishl, 1) := by decide +kernel
theorem dX12_reaches_97 : decode cX12_reaches 97 = .ok (.ior, 1) := by decide +kernel
theorem dX12_reaches_98 : decode cX12_reaches 98 = .ok (.iconst 1, 1) := by decide +kernel
theorem dX12_reaches_99 : decode cX12_reaches 99 = .ok (.bastore, 1) := by decide +kernel
theorem dX12_reaches_100 : decode cX12_reaches 100 = .ok (.iinc 4 1, 3) := by decide +kernel
theorem dX12_reaches_103 : decode cX12_reaches 103 = .ok (.goto (-57), 3) := by decide +kernel
theorem dX12_reaches_106 : decode cX12_reaches 106 = .ok (.iinc 3 1, 3) := by decide +kernel
theorem dX12_reaches_109 : decode cX12_reaches 109 = .ok (.goto (-71), 3) := by decide +kernel
theorem dX12_reaches_112 : decode cX12_reaches 112 = .ok (.return_, 1) := by decide +kernel
theorem dX12_isNight_0 : decode cX12_isNight 0 = .ok (.iload_n 2, 1) := by decide +kernel
theorem dX12_isNight_1 : decode cX12_isNight 1 = .ok (.ifCond .eq 42, 3) := by decide +kernel
theorem dX12_isNight_4 : decode cX12_isNight 4 = .ok (.iload_n 1, 1) := by decide +kernel
theorem dX12_isNight_5 : decode cX12_isNight 5 = .ok (.iload_n 2, 1) := by decide +kernel
theorem dX12_isNight_6 : decode cX12_isNight 6 = .ok (.iand, 1) := by decide +kernel
theorem dX12_isNight_7 : decode cX12_isNight 7 = .ok (.ifCond .ne 36, 3) := by decide +kernel
theorem dX12_isNight_10 : decode cX12_isNight 10 = .ok (.aload_n 0, 1) := by decide +kernel
theorem dX12_isNight_11 : decode cX12_isNight 11 = .ok (.getfield 472, 3) := by decide +kernel
theorem dX12_isNight_14 : decode cX12_isNight 14 = .ok (.iload_n 1, 1) := by decide +kernel
theorem dX12_isNight_15 : decode cX12_isNight 15 = .ok (.iload_n 2, 1) := by decide +kernel
theorem dX12_isNight_16 : decode cX12_isNight 16 = .ok (.ior, 1) := by decide +kernel
theorem dX12_isNight_17 : decode cX12_isNight 17 = .ok (.baload, 1) := by decide +kernel
theorem dX12_isNight_18 : decode cX12_isNight 18 = .ok (.ifCond .eq 25, 3) := by decide +kernel
theorem dX12_isNight_21 : decode cX12_isNight 21 = .ok (.iload_n 2, 1) := by decide +kernel
theorem dX12_isNight_22 : decode cX12_isNight 22 = .ok (.invokestatic 386, 3) := by decide +kernel
theorem dX12_isNight_25 : decode cX12_isNight 25 = .ok (.iload_n 3, 1) := by decide +kernel
theorem dX12_isNight_26 : decode cX12_isNight 26 = .ok (.if_icmp .gt 17, 3) := by decide +kernel
theorem dX12_isNight_29 : decode cX12_isNight 29 = .ok (.aload_n 0, 1) := by decide +kernel
theorem dX12_isNight_30 : decode cX12_isNight 30 = .ok (.iload_n 2, 1) := by decide +kernel
theorem dX12_isNight_31 : decode cX12_isNight 31 = .ok (.invokevirtual 478, 3) := by decide +kernel
theorem dX12_isNight_34 : decode cX12_isNight 34 = .ok (.iload 4, 2) := by decide +kernel
theorem dX12_isNight_36 : decode cX12_isNight 36 = .ok (.if_icmp .gt 7, 3) := by decide +kernel
theorem dX12_isNight_39 : decode cX12_isNight 39 = .ok (.iconst 1, 1) := by decide +kernel
theorem dX12_isNight_40 : decode cX12_isNight 40 = .ok (.goto 4, 3) := by decide +kernel
theorem dX12_isNight_43 : decode cX12_isNight 43 = .ok (.iconst 0, 1) := by decide +kernel
theorem dX12_isNight_44 : decode cX12_isNight 44 = .ok (.ireturn, 1) := by decide +kernel
theorem dX12_nights_0 : decode cX12_nights 0 = .ok (.aload_n 0, 1) := by decide +kernel
theorem dX12_nights_1 : decode cX12_nights 1 = .ok (.iconst 0, 1) := by decide +kernel
theorem dX12_nights_2 : decode cX12_nights 2 = .ok (.putfield 1, 3) := by decide +kernel
theorem dX12_nights_5 : decode cX12_nights 5 = .ok (.iload_n 1, 1) := by decide +kernel
theorem dX12_nights_6 : decode cX12_nights 6 = .ok (.i2l, 1) := by decide +kernel
theorem dX12_nights_7 : decode cX12_nights 7 = .ok (.lconst 1, 1) := by decide +kernel
theorem dX12_nights_8 : decode cX12_nights 8 = .ok (.ldc2_w 481, 3) := by decide +kernel
theorem dX12_nights_11 : decode cX12_nights 11 = .ok (.invokestatic 17, 3) := by decide +kernel
theorem dX12_nights_14 : decode cX12_nights 14 = .ok (.ifCond .eq 15, 3) := by decide +kernel
theorem dX12_nights_17 : decode cX12_nights 17 = .ok (.iload_n 2, 1) := by decide +kernel
theorem dX12_nights_18 : decode cX12_nights 18 = .ok (.i2l, 1) := by decide +kernel
theorem dX12_nights_19 : decode cX12_nights 19 = .ok (.lconst 1, 1) := by decide +kernel
theorem dX12_nights_20 : decode cX12_nights 20 = .ok (.ldc2_w 481, 3) := by decide +kernel
theorem dX12_nights_23 : decode cX12_nights 23 = .ok (.invokestatic 17, 3) := by decide +kernel
theorem dX12_nights_26 : decode cX12_nights 26 = .ok (.ifCond .ne 5, 3) := by decide +kernel
theorem dX12_nights_29 : decode cX12_nights 29 = .ok (.iconst (-1), 1) := by decide +kernel
theorem dX12_nights_30 : decode cX12_nights 30 = .ok (.ireturn, 1) := by decide +kernel
theorem dX12_nights_31 : decode cX12_nights 31 = .ok (.iconst 1, 1) := by decide +kernel
theorem dX12_nights_32 : decode cX12_nights 32 = .ok (.aload_n 0, 1) := by decide +kernel
theorem dX12_nights_33 : decode cX12_nights 33 = .ok (.getfield 446, 3) := by decide +kernel
theorem dX12_nights_36 : decode cX12_nights 36 = .ok (.ishl, 1) := by decide +kernel
theorem dX12_nights_37 : decode cX12_nights 37 = .ok (.iconst 1, 1) := by decide +kernel
theorem dX12_nights_38 : decode cX12_nights 38 = .ok (.isub, 1) := by decide +kernel
theorem dX12_nights_39 : decode cX12_nights 39 = .ok (.istore_n 3, 1) := by decide +kernel
theorem dX12_nights_40 : decode cX12_nights 40 = .ok (.aload_n 0, 1) := by decide +kernel
theorem dX12_nights_41 : decode cX12_nights 41 = .ok (.invokevirtual 483, 3) := by decide +kernel
theorem dX12_nights_44 : decode cX12_nights 44 = .ok (.iconst 0, 1) := by decide +kernel
theorem dX12_nights_45 : decode cX12_nights 45 = .ok (.istore 4, 2) := by decide +kernel
theorem dX12_nights_47 : decode cX12_nights 47 = .ok (.iload 4, 2) := by decide +kernel
theorem dX12_nights_49 : decode cX12_nights 49 = .ok (.iload_n 3, 1) := by decide +kernel
theorem dX12_nights_50 : decode cX12_nights 50 = .ok (.if_icmp .gt 114, 3) := by decide +kernel
theorem dX12_nights_53 : decode cX12_nights 53 = .ok (.aload_n 0, 1) := by decide +kernel
theorem dX12_nights_54 : decode cX12_nights 54 = .ok (.iload 4, 2) := by decide +kernel
theorem dX12_nights_56 : decode cX12_nights 56 = .ok (.invokevirtual 486, 3) := by decide +kernel
theorem dX12_nights_59 : decode cX12_nights 59 = .ok (.aload_n 0, 1) := by decide +kernel
theorem dX12_nights_60 : decode cX12_nights 60 = .ok (.getfield 475, 3) := by decide +kernel
theorem dX12_nights_63 : decode cX12_nights 63 = .ok (.iload 4, 2) := by decide +kernel
theorem dX12_nights_65 : decode cX12_nights 65 = .ok (.iconst 0, 1) := by decide +kernel
theorem dX12_nights_66 : decode cX12_nights 66 = .ok (.iastore, 1) := by decide +kernel
theorem dX12_nights_67 : decode cX12_nights 67 = .ok (.iconst 0, 1) := by decide +kernel
theorem dX12_nights_68 : decode cX12_nights 68 = .ok (.istore 5, 2) := by decide +kernel
theorem dX12_nights_70 : decode cX12_nights 70 = .ok (.iload 5, 2) := by decide +kernel
theorem dX12_nights_72 : decode cX12_nights 72 = .ok (.aload_n 0, 1) := by decide +kernel
theorem dX12_nights_73 : decode cX12_nights 73 = .ok (.getfield 446, 3) := by decide +kernel
theorem dX12_nights_76 : decode cX12_nights 76 = .ok (.if_icmp .ge 82, 3) := by decide +kernel
theorem dX12_nights_79 : decode cX12_nights 79 = .ok (.aload_n 0, 1) := by decide +kernel
theorem dX12_nights_80 : decode cX12_nights 80 = .ok (.getfield 475, 3) := by decide +kernel
theorem dX12_nights_83 : decode cX12_nights 83 = .ok (.iload 4, 2) := by decide +kernel
theorem dX12_nights_85 : decode cX12_nights 85 = .ok (.dup2, 1) := by decide +kernel
theorem dX12_nights_86 : decode cX12_nights 86 = .ok (.iaload, 1) := by decide +kernel
theorem dX12_nights_87 : decode cX12_nights 87 = .ok (.iload 4, 2) := by decide +kernel
theorem dX12_nights_89 : decode cX12_nights 89 = .ok (.iload 5, 2) := by decide +kernel
theorem dX12_nights_91 : decode cX12_nights 91 = .ok (.ishr, 1) := by decide +kernel
theorem dX12_nights_92 : decode cX12_nights 92 = .ok (.iconst 1, 1) := by decide +kernel
theorem dX12_nights_93 : decode cX12_nights 93 = .ok (.iand, 1) := by decide +kernel
theorem dX12_nights_94 : decode cX12_nights 94 = .ok (.ifCond .ne 55, 3) := by decide +kernel
theorem dX12_nights_97 : decode cX12_nights 97 = .ok (.aload_n 0, 1) := by decide +kernel
theorem dX12_nights_98 : decode cX12_nights 98 = .ok (.getfield 459, 3) := by decide +kernel
theorem dX12_nights_101 : decode cX12_nights 101 = .ok (.aload_n 0, 1) := by decide +kernel
theorem dX12_nights_102 : decode cX12_nights 102 = .ok (.getfield 443, 3) := by decide +kernel
theorem dX12_nights_105 : decode cX12_nights 105 = .ok (.iload 5, 2) := by decide +kernel
theorem dX12_nights_107 : decode cX12_nights 107 = .ok (.iaload, 1) := by decide +kernel
theorem dX12_nights_108 : decode cX12_nights 108 = .ok (.iaload, 1) := by decide +kernel
theorem dX12_nights_109 : decode cX12_nights 109 = .ok (.iconst 2, 1) := by decide +kernel
theorem dX12_nights_110 : decode cX12_nights 110 = .ok (.if_icmp .ge 39, 3) := by decide +kernel
theorem dX12_nights_113 : decode cX12_nights 113 = .ok (.aload_n 0, 1) := by decide +kernel
theorem dX12_nights_114 : decode cX12_nights 114 = .ok (.aload_n 0, 1) := by decide +kernel
theorem dX12_nights_115 : decode cX12_nights 115 = .ok (.getfield 443, 3) := by decide +kernel
theorem dX12_nights_118 : decode cX12_nights 118 = .ok (.iload 5, 2) := by decide +kernel
theorem dX12_nights_120 : decode cX12_nights 120 = .ok (.iaload, 1) := by decide +kernel
theorem dX12_nights_121 : decode cX12_nights 121 = .ok (.aload_n 0, 1) := by decide +kernel
theorem dX12_nights_122 : decode cX12_nights 122 = .ok (.getfield 453, 3) := by decide +kernel
theorem dX12_nights_125 : decode cX12_nights 125 = .ok (.iload 5, 2) := by decide +kernel
theorem dX12_nights_127 : decode cX12_nights 127 = .ok (.iaload, 1) := by decide +kernel
theorem dX12_nights_128 : decode cX12_nights 128 = .ok (.aload_n 0, 1) := by decide +kernel
theorem dX12_nights_129 : decode cX12_nights 129 = .ok (.getfield 456, 3) := by decide +kernel
theorem dX12_nights_132 : decode cX12_nights 132 = .ok (.iload 5, 2) := by decide +kernel
theorem dX12_nights_134 : decode cX12_nights 134 = .ok (.iaload, 1) := by decide +kernel
theorem dX12_nights_135 : decode cX12_nights 135 = .ok (.iconst 4, 1) := by decide +kernel
theorem dX12_nights_136 : decode cX12_nights 136 = .ok (.invokevirtual 326, 3) := by decide +kernel
theorem dX12_nights_139 : decode cX12_nights 139 = .ok (.ifCond .ne 10, 3) := by decide +kernel
theorem dX12_nights_142 : decode cX12_nights 142 = .ok (.iconst 1, 1) := by decide +kernel
theorem dX12_nights_143 : decode cX12_nights 143 = .ok (.iload 5, 2) := by decide +kernel
theorem dX12_nights_145 : decode cX12_nights 145 = .ok (.ishl, 1) := by decide +kernel
theorem dX12_nights_146 : decode cX12_nights 146 = .ok (.goto 4, 3) := by decide +kernel
theorem dX12_nights_149 : decode cX12_nights 149 = .ok (.iconst 0, 1) := by decide +kernel
theorem dX12_nights_150 : decode cX12_nights 150 = .ok (.ior, 1) := by decide +kernel
theorem dX12_nights_151 : decode cX12_nights 151 = .ok (.iastore, 1) := by decide +kernel
theorem dX12_nights_152 : decode cX12_nights 152 = .ok (.iinc 5 1, 3) := by decide +kernel
theorem dX12_nights_155 : decode cX12_nights 155 = .ok (.goto (-85), 3) := by decide +kernel
theorem dX12_nights_158 : decode cX12_nights 158 = .ok (.iinc 4 1, 3) := by decide +kernel
theorem dX12_nights_161 : decode cX12_nights 161 = .ok (.goto (-114), 3) := by decide +kernel
theorem dX12_nights_164 : decode cX12_nights 164 = .ok (.aload_n 0, 1) := by decide +kernel
theorem dX12_nights_165 : decode cX12_nights 165 = .ok (.invokevirtual 468, 3) := by decide +kernel
theorem dX12_nights_168 : decode cX12_nights 168 = .ok (.iload_n 3, 1) := by decide +kernel
theorem dX12_nights_169 : decode cX12_nights 169 = .ok (.istore 4, 2) := by decide +kernel
theorem dX12_nights_171 : decode cX12_nights 171 = .ok (.iload 4, 2) := by decide +kernel
theorem dX12_nights_173 : decode cX12_nights 173 = .ok (.ifCond .lt 91, 3) := by decide +kernel
theorem dX12_nights_176 : decode cX12_nights 176 = .ok (.aload_n 0, 1) := by decide +kernel
theorem dX12_nights_177 : decode cX12_nights 177 = .ok (.getfield 489, 3) := by decide +kernel
theorem dX12_nights_180 : decode cX12_nights 180 = .ok (.iload 4, 2) := by decide +kernel
theorem dX12_nights_182 : decode cX12_nights 182 = .ok (.iload 4, 2) := by decide +kernel
theorem dX12_nights_184 : decode cX12_nights 184 = .ok (.iload_n 3, 1) := by decide +kernel
theorem dX12_nights_185 : decode cX12_nights 185 = .ok (.if_icmp .ne 7, 3) := by decide +kernel
theorem dX12_nights_188 : decode cX12_nights 188 = .ok (.iconst 0, 1) := by decide +kernel
theorem dX12_nights_189 : decode cX12_nights 189 = .ok (.goto 5, 3) := by decide +kernel
theorem dX12_nights_192 : decode cX12_nights 192 = .ok (.bipush 99, 2) := by decide +kernel
theorem dX12_nights_194 : decode cX12_nights 194 = .ok (.iastore, 1) := by decide +kernel
theorem dX12_nights_195 : decode cX12_nights 195 = .ok (.aload_n 0, 1) := by decide +kernel
theorem dX12_nights_196 : decode cX12_nights 196 = .ok (.iload 4, 2) := by decide +kernel
theorem dX12_nights_198 : decode cX12_nights 198 = .ok (.invokevirtual 492, 3) := by decide +kernel
theorem dX12_nights_201 : decode cX12_nights 201 = .ok (.iconst 1, 1) := by decide +kernel
theorem dX12_nights_202 : decode cX12_nights 202 = .ok (.istore 5, 2) := by decide +kernel
theorem dX12_nights_204 : decode cX12_nights 204 = .ok (.iload 5, 2) := by decide +kernel
theorem dX12_nights_206 : decode cX12_nights 206 = .ok (.iload_n 3, 1) := by decide +kernel
theorem dX12_nights_207 : decode cX12_nights 207 = .ok (.if_icmp .gt 51, 3) := by decide +kernel
theorem dX12_nights_210 : decode cX12_nights 210 = .ok (.aload_n 0, 1) := by decide +kernel
theorem dX12_nights_211 : decode cX12_nights 211 = .ok (.iload 4, 2) := by decide +kernel
theorem dX12_nights_213 : decode cX12_nights 213 = .ok (.iload 5, 2) := by decide +kernel
theorem dX12_nights_215 : decode cX12_nights 215 = .ok (.iload_n 1, 1) := by decide +kernel
theorem dX12_nights_216 : decode cX12_nights 216 = .ok (.iload_n 2, 1) := by decide +kernel
theorem dX12_nights_217 : decode cX12_nights 217 = .ok (.invokevirtual 495, 3) := by decide +kernel
theorem dX12_nights_220 : decode cX12_nights 220 = .ok (.ifCond .eq 32, 3) := by decide +kernel
theorem dX12_nights_223 : decode cX12_nights 223 = .ok (.aload_n 0, 1) := by decide +kernel
theorem dX12_nights_224 : decode cX12_nights 224 = .ok (.getfield 489, 3) := by decide +kernel
theorem dX12_nights_227 : decode cX12_nights 227 = .ok (.iload 4, 2) := by decide +kernel
theorem dX12_nights_229 : decode cX12_nights 229 = .ok (.aload_n 0, 1) := by decide +kernel
theorem dX12_nights_230 : decode cX12_nights 230 = .ok (.getfield 489, 3) := by decide +kernel
theorem dX12_nights_233 : decode cX12_nights 233 = .ok (.iload 4, 2) := by decide +kernel
theorem dX12_nights_235 : decode cX12_nights 235 = .ok (.iaload, 1) := by decide +kernel
theorem dX12_nights_236 : decode cX12_nights 236 = .ok (.aload_n 0, 1) := by decide +kernel
theorem dX12_nights_237 : decode cX12_nights 237 = .ok (.getfield 489, 3) := by decide +kernel
theorem dX12_nights_240 : decode cX12_nights 240 = .ok (.iload 4, 2) := by decide +kernel
theorem dX12_nights_242 : decode cX12_nights 242 = .ok (.iload 5, 2) := by decide +kernel
theorem dX12_nights_244 : decode cX12_nights 244 = .ok (.ior, 1) := by decide +kernel
theorem dX12_nights_245 : decode cX12_nights 245 = .ok (.iaload, 1) := by decide +kernel
theorem dX12_nights_246 : decode cX12_nights 246 = .ok (.iconst 1, 1) := by decide +kernel
theorem dX12_nights_247 : decode cX12_nights 247 = .ok (.iadd, 1) := by decide +kernel
theorem dX12_nights_248 : decode cX12_nights 248 = .ok (.invokestatic 95, 3) := by decide +kernel
theorem dX12_nights_251 : decode cX12_nights 251 = .ok (.iastore, 1) := by decide +kernel
theorem dX12_nights_252 : decode cX12_nights 252 = .ok (.iinc 5 1, 3) := by decide +kernel
theorem dX12_nights_255 : decode cX12_nights 255 = .ok (.goto (-51), 3) := by decide +kernel
theorem dX12_nights_258 : decode cX12_nights 258 = .ok (.iinc 4 (-1), 3) := by decide +kernel
theorem dX12_nights_261 : decode cX12_nights 261 = .ok (.goto (-90), 3) := by decide +kernel
theorem dX12_nights_264 : decode cX12_nights 264 = .ok (.aload_n 0, 1) := by decide +kernel
theorem dX12_nights_265 : decode cX12_nights 265 = .ok (.getfield 489, 3) := by decide +kernel
theorem dX12_nights_268 : decode cX12_nights 268 = .ok (.iconst 0, 1) := by decide +kernel
theorem dX12_nights_269 : decode cX12_nights 269 = .ok (.iaload, 1) := by decide +kernel
theorem dX12_nights_270 : decode cX12_nights 270 = .ok (.bipush 99, 2) := by decide +kernel
theorem dX12_nights_272 : decode cX12_nights 272 = .ok (.if_icmp .lt 6, 3) := by decide +kernel
theorem dX12_nights_275 : decode cX12_nights 275 = .ok (.bipush (-2), 2) := by decide +kernel
theorem dX12_nights_277 : decode cX12_nights 277 = .ok (.ireturn, 1) := by decide +kernel
theorem dX12_nights_278 : decode cX12_nights 278 = .ok (.aload_n 0, 1) := by decide +kernel
theorem dX12_nights_279 : decode cX12_nights 279 = .ok (.iconst 0, 1) := by decide +kernel
theorem dX12_nights_280 : decode cX12_nights 280 = .ok (.putfield 11, 3) := by decide +kernel
theorem dX12_nights_283 : decode cX12_nights 283 = .ok (.iconst 0, 1) := by decide +kernel
theorem dX12_nights_284 : decode cX12_nights 284 = .ok (.istore 4, 2) := by decide +kernel
theorem dX12_nights_286 : decode cX12_nights 286 = .ok (.iload 4, 2) := by decide +kernel
theorem dX12_nights_288 : decode cX12_nights 288 = .ok (.iload_n 3, 1) := by decide +kernel
theorem dX12_nights_289 : decode cX12_nights 289 = .ok (.if_icmp .eq 69, 3) := by decide +kernel
theorem dX12_nights_292 : decode cX12_nights 292 = .ok (.aload_n 0, 1) := by decide +kernel
theorem dX12_nights_293 : decode cX12_nights 293 = .ok (.iload 4, 2) := by decide +kernel
theorem dX12_nights_295 : decode cX12_nights 295 = .ok (.invokevirtual 492, 3) := by decide +kernel
theorem dX12_nights_298 : decode cX12_nights 298 = .ok (.iconst 1, 1) := by decide +kernel
theorem dX12_nights_299 : decode cX12_nights 299 = .ok (.istore 5, 2) := by decide +kernel
theorem dX12_nights_301 : decode cX12_nights 301 = .ok (.aload_n 0, 1) := by decide +kernel
theorem dX12_nights_302 : decode cX12_nights 302 = .ok (.iload 4, 2) := by decide +kernel
theorem dX12_nights_304 : decode cX12_nights 304 = .ok (.iload 5, 2) := by decide +kernel
theorem dX12_nights_306 : decode cX12_nights 306 = .ok (.iload_n 1, 1) := by decide +kernel
theorem dX12_nights_307 : decode cX12_nights 307 = .ok (.iload_n 2, 1) := by decide +kernel
theorem dX12_nights_308 : decode cX12_nights 308 = .ok (.invokevirtual 495, 3) := by decide +kernel
theorem dX12_nights_311 : decode cX12_nights 311 = .ok (.ifCond .eq 25, 3) := by decide +kernel
theorem dX12_nights_314 : decode cX12_nights 314 = .ok (.aload_n 0, 1) := by decide +kernel
theorem dX12_nights_315 : decode cX12_nights 315 = .ok (.getfield 489, 3) := by decide +kernel
theorem dX12_nights_318 : decode cX12_nights 318 = .ok (.iload 4, 2) := by decide +kernel
theorem dX12_nights_320 : decode cX12_nights 320 = .ok (.iload 5, 2) := by decide +kernel
theorem dX12_nights_322 : decode cX12_nights 322 = .ok (.ior, 1) := by decide +kernel
theorem dX12_nights_323 : decode cX12_nights 323 = .ok (.iaload, 1) := by decide +kernel
theorem dX12_nights_324 : decode cX12_nights 324 = .ok (.aload_n 0, 1) := by decide +kernel
theorem dX12_nights_325 : decode cX12_nights 325 = .ok (.getfield 489, 3) := by decide +kernel
theorem dX12_nights_328 : decode cX12_nights 328 = .ok (.iload 4, 2) := by decide +kernel
theorem dX12_nights_330 : decode cX12_nights 330 = .ok (.iaload, 1) := by decide +kernel
theorem dX12_nights_331 : decode cX12_nights 331 = .ok (.iconst 1, 1) := by decide +kernel
theorem dX12_nights_332 : decode cX12_nights 332 = .ok (.isub, 1) := by decide +kernel
theorem dX12_nights_333 : decode cX12_nights 333 = .ok (.if_icmp .eq 9, 3) := by decide +kernel
theorem dX12_nights_336 : decode cX12_nights 336 = .ok (.iinc 5 1, 3) := by decide +kernel
theorem dX12_nights_339 : decode cX12_nights 339 = .ok (.goto (-38), 3) := by decide +kernel
theorem dX12_nights_342 : decode cX12_nights 342 = .ok (.aload_n 0, 1) := by decide +kernel
theorem dX12_nights_343 : decode cX12_nights 343 = .ok (.iload 5, 2) := by decide +kernel
theorem dX12_nights_345 : decode cX12_nights 345 = .ok (.invokevirtual 345, 3) := by decide +kernel
theorem dX12_nights_348 : decode cX12_nights 348 = .ok (.iload 4, 2) := by decide +kernel
theorem dX12_nights_350 : decode cX12_nights 350 = .ok (.iload 5, 2) := by decide +kernel
theorem dX12_nights_352 : decode cX12_nights 352 = .ok (.ior, 1) := by decide +kernel
theorem dX12_nights_353 : decode cX12_nights 353 = .ok (.istore 4, 2) := by decide +kernel
theorem dX12_nights_355 : decode cX12_nights 355 = .ok (.goto (-69), 3) := by decide +kernel
theorem dX12_nights_358 : decode cX12_nights 358 = .ok (.aload_n 0, 1) := by decide +kernel
theorem dX12_nights_359 : decode cX12_nights 359 = .ok (.getfield 489, 3) := by decide +kernel
theorem dX12_nights_362 : decode cX12_nights 362 = .ok (.iconst 0, 1) := by decide +kernel
theorem dX12_nights_363 : decode cX12_nights 363 = .ok (.iaload, 1) := by decide +kernel
theorem dX12_nights_364 : decode cX12_nights 364 = .ok (.ireturn, 1) := by decide +kernel
theorem dX12_done_0 : decode cX12_done 0 = .ok (.aload_n 0, 1) := by decide +kernel
theorem dX12_done_1 : decode cX12_done 1 = .ok (.iconst 0, 1) := by decide +kernel
theorem dX12_done_2 : decode cX12_done 2 = .ok (.putfield 1, 3) := by decide +kernel
theorem dX12_done_5 : decode cX12_done 5 = .ok (.iconst 1, 1) := by decide +kernel
theorem dX12_done_6 : decode cX12_done 6 = .ok (.aload_n 0, 1) := by decide +kernel
theorem dX12_done_7 : decode cX12_done 7 = .ok (.getfield 446, 3) := by decide +kernel
theorem dX12_done_10 : decode cX12_done 10 = .ok (.ishl, 1) := by decide +kernel
theorem dX12_done_11 : decode cX12_done 11 = .ok (.iconst 1, 1) := by decide +kernel
theorem dX12_done_12 : decode cX12_done 12 = .ok (.isub, 1) := by decide +kernel
theorem dX12_done_13 : decode cX12_done 13 = .ok (.istore_n 1, 1) := by decide +kernel
theorem dX12_done_14 : decode cX12_done 14 = .ok (.aload_n 0, 1) := by decide +kernel
theorem dX12_done_15 : decode cX12_done 15 = .ok (.invokevirtual 483, 3) := by decide +kernel
theorem dX12_done_18 : decode cX12_done 18 = .ok (.aload_n 0, 1) := by decide +kernel
theorem dX12_done_19 : decode cX12_done 19 = .ok (.iload_n 1, 1) := by decide +kernel
theorem dX12_done_20 : decode cX12_done 20 = .ok (.invokevirtual 486, 3) := by decide +kernel
theorem dX12_done_23 : decode cX12_done 23 = .ok (.iconst 0, 1) := by decide +kernel
theorem dX12_done_24 : decode cX12_done 24 = .ok (.istore_n 2, 1) := by decide +kernel
theorem dX12_done_25 : decode cX12_done 25 = .ok (.iload_n 2, 1) := by decide +kernel
theorem dX12_done_26 : decode cX12_done 26 = .ok (.aload_n 0, 1) := by decide +kernel
theorem dX12_done_27 : decode cX12_done 27 = .ok (.getfield 446, 3) := by decide +kernel
theorem dX12_done_30 : decode cX12_done 30 = .ok (.if_icmp .ge 57, 3) := by decide +kernel
theorem dX12_done_33 : decode cX12_done 33 = .ok (.aload_n 0, 1) := by decide +kernel
theorem dX12_done_34 : decode cX12_done 34 = .ok (.getfield 459, 3) := by decide +kernel
theorem dX12_done_37 : decode cX12_done 37 = .ok (.aload_n 0, 1) := by decide +kernel
theorem dX12_done_38 : decode cX12_done 38 = .ok (.getfield 443, 3) := by decide +kernel
theorem dX12_done_41 : decode cX12_done 41 = .ok (.iload_n 2, 1) := by decide +kernel
theorem dX12_done_42 : decode cX12_done 42 = .ok (.iaload, 1) := by decide +kernel
theorem dX12_done_43 : decode cX12_done 43 = .ok (.iaload, 1) := by decide +kernel
theorem dX12_done_44 : decode cX12_done 44 = .ok (.iconst 2, 1) := by decide +kernel
theorem dX12_done_45 : decode cX12_done 45 = .ok (.if_icmp .ge 29, 3) := by decide +kernel
theorem dX12_done_48 : decode cX12_done 48 = .ok (.aload_n 0, 1) := by decide +kernel
theorem dX12_done_49 : decode cX12_done 49 = .ok (.aload_n 0, 1) := by decide +kernel
theorem dX12_done_50 : decode cX12_done 50 = .ok (.getfield 443, 3) := by decide +kernel
theorem dX12_done_53 : decode cX12_done 53 = .ok (.iload_n 2, 1) := by decide +kernel
theorem dX12_done_54 : decode cX12_done 54 = .ok (.iaload, 1) := by decide +kernel
theorem dX12_done_55 : decode cX12_done 55 = .ok (.aload_n 0, 1) := by decide +kernel
theorem dX12_done_56 : decode cX12_done 56 = .ok (.getfield 453, 3) := by decide +kernel
theorem dX12_done_59 : decode cX12_done 59 = .ok (.iload_n 2, 1) := by decide +kernel
theorem dX12_done_60 : decode cX12_done 60 = .ok (.iaload, 1) := by decide +kernel
theorem dX12_done_61 : decode cX12_done 61 = .ok (.aload_n 0, 1) := by decide +kernel
theorem dX12_done_62 : decode cX12_done 62 = .ok (.getfield 456, 3) := by decide +kernel
theorem dX12_done_65 : decode cX12_done 65 = .ok (.iload_n 2, 1) := by decide +kernel
theorem dX12_done_66 : decode cX12_done 66 = .ok (.iaload, 1) := by decide +kernel
theorem dX12_done_67 : decode cX12_done 67 = .ok (.iconst 4, 1) := by decide +kernel
theorem dX12_done_68 : decode cX12_done 68 = .ok (.invokevirtual 326, 3) := by decide +kernel
theorem dX12_done_71 : decode cX12_done 71 = .ok (.ifCond .eq 10, 3) := by decide +kernel
theorem dX12_done_74 : decode cX12_done 74 = .ok (.aload_n 0, 1) := by decide +kernel
theorem dX12_done_75 : decode cX12_done 75 = .ok (.invokevirtual 468, 3) := by decide +kernel
theorem dX12_done_78 : decode cX12_done 78 = .ok (.bipush (-2), 2) := by decide +kernel
theorem dX12_done_80 : decode cX12_done 80 = .ok (.ireturn, 1) := by decide +kernel
theorem dX12_done_81 : decode cX12_done 81 = .ok (.iinc 2 1, 3) := by decide +kernel
theorem dX12_done_84 : decode cX12_done 84 = .ok (.goto (-59), 3) := by decide +kernel
theorem dX12_done_87 : decode cX12_done 87 = .ok (.aload_n 0, 1) := by decide +kernel
theorem dX12_done_88 : decode cX12_done 88 = .ok (.getfield 446, 3) := by decide +kernel
theorem dX12_done_91 : decode cX12_done 91 = .ok (.istore_n 2, 1) := by decide +kernel
theorem dX12_done_92 : decode cX12_done 92 = .ok (.aload_n 0, 1) := by decide +kernel
theorem dX12_done_93 : decode cX12_done 93 = .ok (.iconst 0, 1) := by decide +kernel
theorem dX12_done_94 : decode cX12_done 94 = .ok (.putfield 446, 3) := by decide +kernel
theorem dX12_done_97 : decode cX12_done 97 = .ok (.iload_n 2, 1) := by decide +kernel
theorem dX12_done_98 : decode cX12_done 98 = .ok (.ireturn, 1) := by decide +kernel
theorem dX12_sumOf_0 : decode cX12_sumOf 0 = .ok (.iload_n 2, 1) := by decide +kernel
theorem dX12_sumOf_1 : decode cX12_sumOf 1 = .ok (.ifCond .ge 7, 3) := by decide +kernel
theorem dX12_sumOf_4 : decode cX12_sumOf 4 = .ok (.iconst 0, 1) := by decide +kernel
theorem dX12_sumOf_5 : decode cX12_sumOf 5 = .ok (.goto 9, 3) := by decide +kernel
theorem dX12_sumOf_8 : decode cX12_sumOf 8 = .ok (.aload_n 0, 1) := by decide +kernel
theorem dX12_sumOf_9 : decode cX12_sumOf 9 = .ok (.iload_n 1, 1) := by decide +kernel
theorem dX12_sumOf_10 : decode cX12_sumOf 10 = .ok (.iload_n 2, 1) := by decide +kernel
theorem dX12_sumOf_11 : decode cX12_sumOf 11 = .ok (.invokevirtual 366, 3) := by decide +kernel
theorem dX12_sumOf_14 : decode cX12_sumOf 14 = .ok (.iload_n 3, 1) := by decide +kernel
theorem dX12_sumOf_15 : decode cX12_sumOf 15 = .ok (.ifCond .ge 7, 3) := by decide +kernel
theorem dX12_sumOf_18 : decode cX12_sumOf 18 = .ok (.iconst 0, 1) := by decide +kernel
theorem dX12_sumOf_19 : decode cX12_sumOf 19 = .ok (.goto 9, 3) := by decide +kernel
theorem dX12_sumOf_22 : decode cX12_sumOf 22 = .ok (.aload_n 0, 1) := by decide +kernel
theorem dX12_sumOf_23 : decode cX12_sumOf 23 = .ok (.iload_n 1, 1) := by decide +kernel
theorem dX12_sumOf_24 : decode cX12_sumOf 24 = .ok (.iload_n 3, 1) := by decide +kernel
theorem dX12_sumOf_25 : decode cX12_sumOf 25 = .ok (.invokevirtual 366, 3) := by decide +kernel
theorem dX12_sumOf_28 : decode cX12_sumOf 28 = .ok (.iadd, 1) := by decide +kernel
theorem dX12_sumOf_29 : decode cX12_sumOf 29 = .ok (.ireturn, 1) := by decide +kernel
theorem dX12_stand_0 : decode cX12_stand 0 = .ok (.aload_n 0, 1) := by decide +kernel
theorem dX12_stand_1 : decode cX12_stand 1 = .ok (.iconst 0, 1) := by decide +kernel
theorem dX12_stand_2 : decode cX12_stand 2 = .ok (.putfield 1, 3) := by decide +kernel
theorem dX12_stand_5 : decode cX12_stand 5 = .ok (.aload_n 0, 1) := by decide +kernel
theorem dX12_stand_6 : decode cX12_stand 6 = .ok (.iload_n 1, 1) := by decide +kernel
theorem dX12_stand_7 : decode cX12_stand 7 = .ok (.invokevirtual 161, 3) := by decide +kernel
theorem dX12_stand_10 : decode cX12_stand 10 = .ok (.ifCond .eq 13, 3) := by decide +kernel
theorem dX12_stand_13 : decode cX12_stand 13 = .ok (.aload_n 0, 1) := by decide +kernel
theorem dX12_stand_14 : decode cX12_stand 14 = .ok (.getfield 170, 3) := by decide +kernel
theorem dX12_stand_17 : decode cX12_stand 17 = .ok (.iload_n 1, 1) := by decide +kernel
theorem dX12_stand_18 : decode cX12_stand 18 = .ok (.iaload, 1) := by decide +kernel
theorem dX12_stand_19 : decode cX12_stand 19 = .ok (.iconst 1, 1) := by decide +kernel
theorem dX12_stand_20 : decode cX12_stand 20 = .ok (.if_icmp .eq 5, 3) := by decide +kernel
theorem dX12_stand_23 : decode cX12_stand 23 = .ok (.iconst (-1), 1) := by decide +kernel
theorem dX12_stand_24 : decode cX12_stand 24 = .ok (.ireturn, 1) := by decide +kernel
theorem dX12_stand_25 : decode cX12_stand 25 = .ok (.aload_n 0, 1) := by decide +kernel
theorem dX12_stand_26 : decode cX12_stand 26 = .ok (.getfield 155, 3) := by decide +kernel
theorem dX12_stand_29 : decode cX12_stand 29 = .ok (.iload_n 1, 1) := by decide +kernel
theorem dX12_stand_30 : decode cX12_stand 30 = .ok (.iaload, 1) := by decide +kernel
theorem dX12_stand_31 : decode cX12_stand 31 = .ok (.istore_n 2, 1) := by decide +kernel
theorem dX12_stand_32 : decode cX12_stand 32 = .ok (.aload_n 0, 1) := by decide +kernel
theorem dX12_stand_33 : decode cX12_stand 33 = .ok (.getfield 158, 3) := by decide +kernel
theorem dX12_stand_36 : decode cX12_stand 36 = .ok (.iload_n 1, 1) := by decide +kernel
theorem dX12_stand_37 : decode cX12_stand 37 = .ok (.iaload, 1) := by decide +kernel
theorem dX12_stand_38 : decode cX12_stand 38 = .ok (.istore_n 3, 1) := by decide +kernel
theorem dX12_stand_39 : decode cX12_stand 39 = .ok (.aload_n 0, 1) := by decide +kernel
theorem dX12_stand_40 : decode cX12_stand 40 = .ok (.iload_n 1, 1) := by decide +kernel
theorem dX12_stand_41 : decode cX12_stand 41 = .ok (.iconst 0, 1) := by decide +kernel
theorem dX12_stand_42 : decode cX12_stand 42 = .ok (.invokevirtual 334, 3) := by decide +kernel
theorem dX12_stand_45 : decode cX12_stand 45 = .ok (.aload_n 0, 1) := by decide +kernel
theorem dX12_stand_46 : decode cX12_stand 46 = .ok (.iload_n 2, 1) := by decide +kernel
theorem dX12_stand_47 : decode cX12_stand 47 = .ok (.iload_n 3, 1) := by decide +kernel
theorem dX12_stand_48 : decode cX12_stand 48 = .ok (.iconst (-1), 1) := by decide +kernel
theorem dX12_stand_49 : decode cX12_stand 49 = .ok (.iconst 1, 1) := by decide +kernel
theorem dX12_stand_50 : decode cX12_stand 50 = .ok (.invokevirtual 288, 3) := by decide +kernel
theorem dX12_stand_53 : decode cX12_stand 53 = .ok (.istore 4, 2) := by decide +kernel
theorem dX12_stand_55 : decode cX12_stand 55 = .ok (.aload_n 0, 1) := by decide +kernel
theorem dX12_stand_56 : decode cX12_stand 56 = .ok (.iload_n 2, 1) := by decide +kernel
theorem dX12_stand_57 : decode cX12_stand 57 = .ok (.iload_n 3, 1) := by decide +kernel
theorem dX12_stand_58 : decode cX12_stand 58 = .ok (.iconst (-1), 1) := by decide +kernel
theorem dX12_stand_59 : decode cX12_stand 59 = .ok (.iconst 0, 1) := by decide +kernel
theorem dX12_stand_60 : decode cX12_stand 60 = .ok (.invokevirtual 288, 3) := by decide +kernel
theorem dX12_stand_63 : decode cX12_stand 63 = .ok (.istore 5, 2) := by decide +kernel
theorem dX12_stand_65 : decode cX12_stand 65 = .ok (.aload_n 0, 1) := by decide +kernel
theorem dX12_stand_66 : decode cX12_stand 66 = .ok (.iconst 0, 1) := by decide +kernel
theorem dX12_stand_67 : decode cX12_stand 67 = .ok (.putfield 11, 3) := by decide +kernel
theorem dX12_stand_70 : decode cX12_stand 70 = .ok (.iconst 0, 1) := by decide +kernel
theorem dX12_stand_71 : decode cX12_stand 71 = .ok (.istore 6, 2) := by decide +kernel
theorem dX12_stand_73 : decode cX12_stand 73 = .ok (.iload 6, 2) := by decide +kernel
theorem dX12_stand_75 : decode cX12_stand 75 = .ok (.aload_n 0, 1) := by decide +kernel
theorem dX12_stand_76 : decode cX12_stand 76 = .ok (.getfield 108, 3) := by decide +kernel
theorem dX12_stand_79 : decode cX12_stand 79 = .ok (.if_icmp .ge 127, 3) := by decide +kernel
theorem dX12_stand_82 : decode cX12_stand 82 = .ok (.iload 6, 2) := by decide +kernel
theorem dX12_stand_84 : decode cX12_stand 84 = .ok (.iload_n 1, 1) := by decide +kernel
theorem dX12_stand_85 : decode cX12_stand 85 = .ok (.if_icmp .eq 115, 3) := by decide +kernel
theorem dX12_stand_88 : decode cX12_stand 88 = .ok (.aload_n 0, 1) := by decide +kernel
theorem dX12_stand_89 : decode cX12_stand 89 = .ok (.getfield 170, 3) := by decide +kernel
theorem dX12_stand_92 : decode cX12_stand 92 = .ok (.iload 6, 2) := by decide +kernel
theorem dX12_stand_94 : decode cX12_stand 94 = .ok (.iaload, 1) := by decide +kernel
theorem dX12_stand_95 : decode cX12_stand 95 = .ok (.ifCond .ne 105, 3) := by decide +kernel
theorem dX12_stand_98 : decode cX12_stand 98 = .ok (.aload_n 0, 1) := by decide +kernel
theorem dX12_stand_99 : decode cX12_stand 99 = .ok (.iload 6, 2) := by decide +kernel
theorem dX12_stand_101 : decode cX12_stand 101 = .ok (.iload_n 2, 1) := by decide +kernel
theorem dX12_stand_102 : decode cX12_stand 102 = .ok (.iload_n 3, 1) := by decide +kernel
theorem dX12_stand_103 : decode cX12_stand 103 = .ok (.bipush 6, 2) := by decide +kernel
theorem dX12_stand_105 : decode cX12_stand 105 = .ok (.invokevirtual 326, 3) := by decide +kernel
theorem dX12_stand_108 : decode cX12_stand 108 = .ok (.ifCond .eq 6, 3) := by decide +kernel
theorem dX12_stand_111 : decode cX12_stand 111 = .ok (.goto 89, 3) := by decide +kernel
theorem dX12_stand_114 : decode cX12_stand 114 = .ok (.aload_n 0, 1) := by decide +kernel
theorem dX12_stand_115 : decode cX12_stand 115 = .ok (.iload 6, 2) := by decide +kernel
theorem dX12_stand_117 : decode cX12_stand 117 = .ok (.iload 4, 2) := by decide +kernel
theorem dX12_stand_119 : decode cX12_stand 119 = .ok (.iload 5, 2) := by decide +kernel
theorem dX12_stand_121 : decode cX12_stand 121 = .ok (.invokevirtual 499, 3) := by decide +kernel
theorem dX12_stand_124 : decode cX12_stand 124 = .ok (.istore 7, 2) := by decide +kernel
theorem dX12_stand_126 : decode cX12_stand 126 = .ok (.aload_n 0, 1) := by decide +kernel
theorem dX12_stand_127 : decode cX12_stand 127 = .ok (.getfield 11, 3) := by decide +kernel
theorem dX12_stand_130 : decode cX12_stand 130 = .ok (.istore 8, 2) := by decide +kernel
theorem dX12_stand_132 : decode cX12_stand 132 = .ok (.iload 8, 2) := by decide +kernel
theorem dX12_stand_134 : decode cX12_stand 134 = .ok (.ifCond .le 47, 3) := by decide +kernel
theorem dX12_stand_137 : decode cX12_stand 137 = .ok (.aload_n 0, 1) := by decide +kernel
theorem dX12_stand_138 : decode cX12_stand 138 = .ok (.aload_n 0, 1) := by decide +kernel
theorem dX12_stand_139 : decode cX12_stand 139 = .ok (.getfield 7, 3) := by decide +kernel
theorem dX12_stand_142 : decode cX12_stand 142 = .ok (.iload 8, 2) := by decide +kernel
theorem dX12_stand_144 : decode cX12_stand 144 = .ok (.iconst 1, 1) := by decide +kernel
theorem dX12_stand_145 : decode cX12_stand 145 = .ok (.isub, 1) := by decide +kernel
theorem dX12_stand_146 : decode cX12_stand 146 = .ok (.iaload, 1) := by decide +kernel
theorem dX12_stand_147 : decode cX12_stand 147 = .ok (.iload 4, 2) := by decide +kernel
theorem dX12_stand_149 : decode cX12_stand 149 = .ok (.iload 5, 2) := by decide +kernel
theorem dX12_stand_151 : decode cX12_stand 151 = .ok (.invokevirtual 499, 3) := by decide +kernel
theorem dX12_stand_154 : decode cX12_stand 154 = .ok (.iload 7, 2) := by decide +kernel
theorem dX12_stand_156 : decode cX12_stand 156 = .ok (.if_icmp .ge 25, 3) := by decide +kernel
theorem dX12_stand_159 : decode cX12_stand 159 = .ok (.aload_n 0, 1) := by decide +kernel
theorem dX12_stand_160 : decode cX12_stand 160 = .ok (.getfield 7, 3) := by decide +kernel
theorem dX12_stand_163 : decode cX12_stand 163 = .ok (.iload 8, 2) := by decide +kernel
theorem dX12_stand_165 : decode cX12_stand 165 = .ok (.aload_n 0, 1) := by decide +kernel
theorem dX12_stand_166 : decode cX12_stand 166 = .ok (.getfield 7, 3) := by decide +kernel
theorem dX12_stand_169 : decode cX12_stand 169 = .ok (.iload 8, 2) := by decide +kernel
theorem dX12_stand_171 : decode cX12_stand 171 = .ok (.iconst 1, 1) := by decide +kernel
theorem dX12_stand_172 : decode cX12_stand 172 = .ok (.isub, 1) := by decide +kernel
theorem dX12_stand_173 : decode cX12_stand 173 = .ok (.iaload, 1) := by decide +kernel
theorem dX12_stand_174 : decode cX12_stand 174 = .ok (.iastore, 1) := by decide +kernel
theorem dX12_stand_175 : decode cX12_stand 175 = .ok (.iinc 8 (-1), 3) := by decide +kernel
theorem dX12_stand_178 : decode cX12_stand 178 = .ok (.goto (-46), 3) := by decide +kernel
theorem dX12_stand_181 : decode cX12_stand 181 = .ok (.aload_n 0, 1) := by decide +kernel
theorem dX12_stand_182 : decode cX12_stand 182 = .ok (.getfield 7, 3) := by decide +kernel
theorem dX12_stand_185 : decode cX12_stand 185 = .ok (.iload 8, 2) := by decide +kernel
theorem dX12_stand_187 : decode cX12_stand 187 = .ok (.iload 6, 2) := by decide +kernel
theorem dX12_stand_189 : decode cX12_stand 189 = .ok (.iastore, 1) := by decide +kernel
theorem dX12_stand_190 : decode cX12_stand 190 = .ok (.aload_n 0, 1) := by decide +kernel
theorem dX12_stand_191 : decode cX12_stand 191 = .ok (.dup, 1) := by decide +kernel
theorem dX12_stand_192 : decode cX12_stand 192 = .ok (.getfield 11, 3) := by decide +kernel
theorem dX12_stand_195 : decode cX12_stand 195 = .ok (.iconst 1, 1) := by decide +kernel
theorem dX12_stand_196 : decode cX12_stand 196 = .ok (.iadd, 1) := by decide +kernel
theorem dX12_stand_197 : decode cX12_stand 197 = .ok (.putfield 11, 3) := by decide +kernel
theorem dX12_stand_200 : decode cX12_stand 200 = .ok (.iinc 6 1, 3) := by decide +kernel
theorem dX12_stand_203 : decode cX12_stand 203 = .ok (.goto (-130), 3) := by decide +kernel
theorem dX12_stand_206 : decode cX12_stand 206 = .ok (.aload_n 0, 1) := by decide +kernel
theorem dX12_stand_207 : decode cX12_stand 207 = .ok (.iload_n 1, 1) := by decide +kernel
theorem dX12_stand_208 : decode cX12_stand 208 = .ok (.iload_n 2, 1) := by decide +kernel
theorem dX12_stand_209 : decode cX12_stand 209 = .ok (.iload_n 3, 1) := by decide +kernel
theorem dX12_stand_210 : decode cX12_stand 210 = .ok (.invokevirtual 330, 3) := by decide +kernel
theorem dX12_stand_213 : decode cX12_stand 213 = .ok (.aload_n 0, 1) := by decide +kernel
theorem dX12_stand_214 : decode cX12_stand 214 = .ok (.getfield 11, 3) := by decide +kernel
theorem dX12_stand_217 : decode cX12_stand 217 = .ok (.ireturn, 1) := by decide +kernel
theorem dX12_sight_0 : decode cX12_sight 0 = .ok (.aload_n 0, 1) := by decide +kernel
theorem dX12_sight_1 : decode cX12_sight 1 = .ok (.iconst 0, 1) := by decide +kernel
theorem dX12_sight_2 : decode cX12_sight 2 = .ok (.putfield 1, 3) := by decide +kernel
theorem dX12_sight_5 : decode cX12_sight 5 = .ok (.aload_n 0, 1) := by decide +kernel
theorem dX12_sight_6 : decode cX12_sight 6 = .ok (.iload_n 1, 1) := by decide +kernel
theorem dX12_sight_7 : decode cX12_sight 7 = .ok (.invokevirtual 24, 3) := by decide +kernel
theorem dX12_sight_10 : decode cX12_sight 10 = .ok (.ifCond .eq 21, 3) := by decide +kernel
theorem dX12_sight_13 : decode cX12_sight 13 = .ok (.aload_n 0, 1) := by decide +kernel
theorem dX12_sight_14 : decode cX12_sight 14 = .ok (.iload_n 2, 1) := by decide +kernel
theorem dX12_sight_15 : decode cX12_sight 15 = .ok (.invokevirtual 90, 3) := by decide +kernel
theorem dX12_sight_18 : decode cX12_sight 18 = .ok (.ifCond .eq 13, 3) := by decide +kernel
theorem dX12_sight_21 : decode cX12_sight 21 = .ok (.aload_n 0, 1) := by decide +kernel
theorem dX12_sight_22 : decode cX12_sight 22 = .ok (.getfield 57, 3) := by decide +kernel
theorem dX12_sight_25 : decode cX12_sight 25 = .ok (.iload_n 2, 1) := by decide +kernel
theorem dX12_sight_26 : decode cX12_sight 26 = .ok (.iaload, 1) := by decide +kernel
theorem dX12_sight_27 : decode cX12_sight 27 = .ok (.iload_n 1, 1) := by decide +kernel
theorem dX12_sight_28 : decode cX12_sight 28 = .ok (.if_icmp .ne 5, 3) := by decide +kernel
theorem dX12_sight_31 : decode cX12_sight 31 = .ok (.iconst 0, 1) := by decide +kernel
theorem dX12_sight_32 : decode cX12_sight 32 = .ok (.ireturn, 1) := by decide +kernel
theorem dX12_sight_33 : decode cX12_sight 33 = .ok (.aload_n 0, 1) := by decide +kernel
theorem dX12_sight_34 : decode cX12_sight 34 = .ok (.getfield 502, 3) := by decide +kernel
theorem dX12_sight_37 : decode cX12_sight 37 = .ok (.bipush 16, 2) := by decide +kernel
theorem dX12_sight_39 : decode cX12_sight 39 = .ok (.iload_n 1, 1) := by decide +kernel
theorem dX12_sight_40 : decode cX12_sight 40 = .ok (.imul, 1) := by decide +kernel
theorem dX12_sight_41 : decode cX12_sight 41 = .ok (.iload_n 2, 1) := by decide +kernel
theorem dX12_sight_42 : decode cX12_sight 42 = .ok (.iadd, 1) := by decide +kernel
theorem dX12_sight_43 : decode cX12_sight 43 = .ok (.iconst 1, 1) := by decide +kernel
theorem dX12_sight_44 : decode cX12_sight 44 = .ok (.bastore, 1) := by decide +kernel
theorem dX12_sight_45 : decode cX12_sight 45 = .ok (.iconst 1, 1) := by decide +kernel
theorem dX12_sight_46 : decode cX12_sight 46 = .ok (.ireturn, 1) := by decide +kernel
theorem dX12_isSeen_0 : decode cX12_isSeen 0 = .ok (.iconst 0, 1) := by decide +kernel
theorem dX12_isSeen_1 : decode cX12_isSeen 1 = .ok (.istore_n 3, 1) := by decide +kernel
theorem dX12_isSeen_2 : decode cX12_isSeen 2 = .ok (.iconst 0, 1) := by decide +kernel
theorem dX12_isSeen_3 : decode cX12_isSeen 3 = .ok (.istore 4, 2) := by decide +kernel
theorem dX12_isSeen_5 : decode cX12_isSeen 5 = .ok (.iload 4, 2) := by decide +kernel
theorem dX12_isSeen_7 : decode cX12_isSeen 7 = .ok (.aload_n 0, 1) := by decide +kernel
theorem dX12_isSeen_8 : decode cX12_isSeen 8 = .ok (.getfield 14, 3) := by decide +kernel
theorem dX12_isSeen_11 : decode cX12_isSeen 11 = .ok (.if_icmp .ge 55, 3) := by decide +kernel
theorem dX12_isSeen_14 : decode cX12_isSeen 14 = .ok (.iload_n 3, 1) := by decide +kernel
theorem dX12_isSeen_15 : decode cX12_isSeen 15 = .ok (.ifCond .ne 39, 3) := by decide +kernel
theorem dX12_isSeen_18 : decode cX12_isSeen 18 = .ok (.iload_n 2, 1) := by decide +kernel
theorem dX12_isSeen_19 : decode cX12_isSeen 19 = .ok (.iload 4, 2) := by decide +kernel
theorem dX12_isSeen_21 : decode cX12_isSeen 21 = .ok (.ishr, 1) := by decide +kernel
theorem dX12_isSeen_22 : decode cX12_isSeen 22 = .ok (.iconst 1, 1) := by decide +kernel
theorem dX12_isSeen_23 : decode cX12_isSeen 23 = .ok (.iand, 1) := by decide +kernel
theorem dX12_isSeen_24 : decode cX12_isSeen 24 = .ok (.iconst 1, 1) := by decide +kernel
theorem dX12_isSeen_25 : decode cX12_isSeen 25 = .ok (.if_icmp .ne 33, 3) := by decide +kernel
theorem dX12_isSeen_28 : decode cX12_isSeen 28 = .ok (.aload_n 0, 1) := by decide +kernel
theorem dX12_isSeen_29 : decode cX12_isSeen 29 = .ok (.getfield 57, 3) := by decide +kernel
theorem dX12_isSeen_32 : decode cX12_isSeen 32 = .ok (.iload_n 1, 1) := by decide +kernel
theorem dX12_isSeen_33 : decode cX12_isSeen 33 = .ok (.iaload, 1) := by decide +kernel
theorem dX12_isSeen_34 : decode cX12_isSeen 34 = .ok (.iload 4, 2) := by decide +kernel
theorem dX12_isSeen_36 : decode cX12_isSeen 36 = .ok (.if_icmp .eq 18, 3) := by decide +kernel
theorem dX12_isSeen_39 : decode cX12_isSeen 39 = .ok (.aload_n 0, 1) := by decide +kernel
theorem dX12_isSeen_40 : decode cX12_isSeen 40 = .ok (.getfield 502, 3) := by decide +kernel
theorem dX12_isSeen_43 : decode cX12_isSeen 43 = .ok (.bipush 16, 2) := by decide +kernel
theorem dX12_isSeen_45 : decode cX12_isSeen 45 = .ok (.iload 4, 2) := by decide +kernel
theorem dX12_isSeen_47 : decode cX12_isSeen 47 = .ok (.imul, 1) := by decide +kernel
theorem dX12_isSeen_48 : decode cX12_isSeen 48 = .ok (.iload_n 1, 1) := by decide +kernel
theorem dX12_isSeen_49 : decode cX12_isSeen 49 = .ok (.iadd, 1) := by decide +kernel
theorem dX12_isSeen_50 : decode cX12_isSeen 50 = .ok (.baload, 1) := by decide +kernel
theorem dX12_isSeen_51 : decode cX12_isSeen 51 = .ok (.ifCond .eq 7, 3) := by decide +kernel
theorem dX12_isSeen_54 : decode cX12_isSeen 54 = .ok (.iconst 1, 1) := by decide +kernel
theorem dX12_isSeen_55 : decode cX12_isSeen 55 = .ok (.goto 4, 3) := by decide +kernel
theorem dX12_isSeen_58 : decode cX12_isSeen 58 = .ok (.iconst 0, 1) := by decide +kernel
theorem dX12_isSeen_59 : decode cX12_isSeen 59 = .ok (.istore_n 3, 1) := by decide +kernel
theorem dX12_isSeen_60 : decode cX12_isSeen 60 = .ok (.iinc 4 1, 3) := by decide +kernel
theorem dX12_isSeen_63 : decode cX12_isSeen 63 = .ok (.goto (-58), 3) := by decide +kernel
theorem dX12_isSeen_66 : decode cX12_isSeen 66 = .ok (.iload_n 3, 1) := by decide +kernel
theorem dX12_isSeen_67 : decode cX12_isSeen 67 = .ok (.ireturn, 1) := by decide +kernel
theorem dX12_guard_0 : decode cX12_guard 0 = .ok (.aload_n 0, 1) := by decide +kernel
theorem dX12_guard_1 : decode cX12_guard 1 = .ok (.iconst 0, 1) := by decide +kernel
theorem dX12_guard_2 : decode cX12_guard 2 = .ok (.putfield 1, 3) := by decide +kernel
theorem dX12_guard_5 : decode cX12_guard 5 = .ok (.iload_n 1, 1) := by decide +kernel
theorem dX12_guard_6 : decode cX12_guard 6 = .ok (.i2l, 1) := by decide +kernel
theorem dX12_guard_7 : decode cX12_guard 7 = .ok (.lconst 0, 1) := by decide +kernel
theorem dX12_guard_8 : decode cX12_guard 8 = .ok (.ldc2_w 115, 3) := by decide +kernel
theorem dX12_guard_11 : decode cX12_guard 11 = .ok (.invokestatic 17, 3) := by decide +kernel
theorem dX12_guard_14 : decode cX12_guard 14 = .ok (.ifCond .ne 5, 3) := by decide +kernel
theorem dX12_guard_17 : decode cX12_guard 17 = .ok (.iconst (-1), 1) := by decide +kernel
theorem dX12_guard_18 : decode cX12_guard 18 = .ok (.ireturn, 1) := by decide +kernel
theorem dX12_guard_19 : decode cX12_guard 19 = .ok (.iconst (-1), 1) := by decide +kernel
theorem dX12_guard_20 : decode cX12_guard 20 = .ok (.istore_n 2, 1) := by decide +kernel
theorem dX12_guard_21 : decode cX12_guard 21 = .ok (.iconst 0, 1) := by decide +kernel
theorem dX12_guard_22 : decode cX12_guard 22 = .ok (.istore_n 3, 1) := by decide +kernel
theorem dX12_guard_23 : decode cX12_guard 23 = .ok (.iload_n 3, 1) := by decide +kernel
theorem dX12_guard_24 : decode cX12_guard 24 = .ok (.iconst 1, 1) := by decide +kernel
theorem dX12_guard_25 : decode cX12_guard 25 = .ok (.aload_n 0, 1) := by decide +kernel
theorem dX12_guard_26 : decode cX12_guard 26 = .ok (.getfield 14, 3) := by decide +kernel
theorem dX12_guard_29 : decode cX12_guard 29 = .ok (.ishl, 1) := by decide +kernel
theorem dX12_guard_30 : decode cX12_guard 30 = .ok (.if_icmp .ge 108, 3) := by decide +kernel
theorem dX12_guard_33 : decode cX12_guard 33 = .ok (.iload_n 2, 1) := by decide +kernel
theorem dX12_guard_34 : decode cX12_guard 34 = .ok (.ifCond .lt 17, 3) := by decide +kernel
theorem dX12_guard_37 : decode cX12_guard 37 = .ok (.iload_n 3, 1) := by decide +kernel
theorem dX12_guard_38 : decode cX12_guard 38 = .ok (.invokestatic 386, 3) := by decide +kernel
theorem dX12_guard_41 : decode cX12_guard 41 = .ok (.iload_n 2, 1) := by decide +kernel
theorem dX12_guard_42 : decode cX12_guard 42 = .ok (.invokestatic 386, 3) := by decide +kernel
theorem dX12_guard_45 : decode cX12_guard 45 = .ok (.if_icmp .lt 6, 3) := by decide +kernel
theorem dX12_guard_48 : decode cX12_guard 48 = .ok (.goto 84, 3) := by decide +kernel
theorem dX12_guard_51 : decode cX12_guard 51 = .ok (.iconst 1, 1) := by decide +kernel
theorem dX12_guard_52 : decode cX12_guard 52 = .ok (.istore 4, 2) := by decide +kernel
theorem dX12_guard_54 : decode cX12_guard 54 = .ok (.iconst 0, 1) := by decide +kernel
theorem dX12_guard_55 : decode cX12_guard 55 = .ok (.istore 5, 2) := by decide +kernel
theorem dX12_guard_57 : decode cX12_guard 57 = .ok (.iload 5, 2) := by decide +kernel
theorem dX12_guard_59 : decode cX12_guard 59 = .ok (.aload_n 0, 1) := by decide +kernel
theorem dX12_guard_60 : decode cX12_guard 60 = .ok (.getfield 108, 3) := by decide +kernel
theorem dX12_guard_63 : decode cX12_guard 63 = .ok (.if_icmp .ge 58, 3) := by decide +kernel
theorem dX12_guard_66 : decode cX12_guard 66 = .ok (.iload 4, 2) := by decide +kernel
theorem dX12_guard_68 : decode cX12_guard 68 = .ok (.ifCond .eq 44, 3) := by decide +kernel
theorem dX12_guard_71 : decode cX12_guard 71 = .ok (.aload_n 0, 1) := by decide +kernel
theorem dX12_guard_72 : decode cX12_guard 72 = .ok (.getfield 170, 3) := by decide +kernel
theorem dX12_guard_75 : decode cX12_guard 75 = .ok (.iload 5, 2) := by decide +kernel
theorem dX12_guard_77 : decode cX12_guard 77 = .ok (.iaload, 1) := by decide +kernel
theorem dX12_guard_78 : decode cX12_guard 78 = .ok (.iconst 1, 1) := by decide +kernel
theorem dX12_guard_79 : decode cX12_guard 79 = .ok (.if_icmp .ne 29, 3) := by decide +kernel
theorem dX12_guard_82 : decode cX12_guard 82 = .ok (.aload_n 0, 1) := by decide +kernel
theorem dX12_guard_83 : decode cX12_guard 83 = .ok (.getfield 136, 3) := by decide +kernel
theorem dX12_guard_86 : decode cX12_guard 86 = .ok (.iload 5, 2) := by decide +kernel
theorem dX12_guard_88 : decode cX12_guard 88 = .ok (.iaload, 1) := by decide +kernel
theorem dX12_guard_89 : decode cX12_guard 89 = .ok (.iload_n 1, 1) := by decide +kernel
theorem dX12_guard_90 : decode cX12_guard 90 = .ok (.if_icmp .lt 18, 3) := by decide +kernel
theorem dX12_guard_93 : decode cX12_guard 93 = .ok (.aload_n 0, 1) := by decide +kernel
theorem dX12_guard_94 : decode cX12_guard 94 = .ok (.aload_n 0, 1) := by decide +kernel
theorem dX12_guard_95 : decode cX12_guard 95 = .ok (.getfield 155, 3) := by decide +kernel
theorem dX12_guard_98 : decode cX12_guard 98 = .ok (.iload 5, 2) := by decide +kernel
theorem dX12_guard_100 : decode cX12_guard 100 = .ok (.iaload, 1) := by decide +kernel
theorem dX12_guard_101 : decode cX12_guard 101 = .ok (.iload_n 3, 1) := by decide +kernel
theorem dX12_guard_102 : decode cX12_guard 102 = .ok (.invokevirtual 505, 3) := by decide +kernel
theorem dX12_guard_105 : decode cX12_guard 105 = .ok (.ifCond .eq 7, 3) := by decide +kernel
theorem dX12_guard_108 : decode cX12_guard 108 = .ok (.iconst 1, 1) := by decide +kernel
theorem dX12_guard_109 : decode cX12_guard 109 = .ok (.goto 4, 3) := by decide +kernel
theorem dX12_guard_112 : decode cX12_guard 112 = .ok (.iconst 0, 1) := by decide +kernel
theorem dX12_guard_113 : decode cX12_guard 113 = .ok (.istore 4, 2) := by decide +kernel
theorem dX12_guard_115 : decode cX12_guard 115 = .ok (.iinc 5 1, 3) := by decide +kernel
theorem dX12_guard_118 : decode cX12_guard 118 = .ok (.goto (-61), 3) := by decide +kernel
theorem dX12_guard_121 : decode cX12_guard 121 = .ok (.iload 4, 2) := by decide +kernel
theorem dX12_guard_123 : decode cX12_guard 123 = .ok (.ifCond .eq 7, 3) := by decide +kernel
theorem dX12_guard_126 : decode cX12_guard 126 = .ok (.iload_n 3, 1) := by decide +kernel
theorem dX12_guard_127 : decode cX12_guard 127 = .ok (.goto 4, 3) := by decide +kernel
theorem dX12_guard_130 : decode cX12_guard 130 = .ok (.iload_n 2, 1) := by decide +kernel
theorem dX12_guard_131 : decode cX12_guard 131 = .ok (.istore_n 2, 1) := by decide +kernel
theorem dX12_guard_132 : decode cX12_guard 132 = .ok (.iinc 3 1, 3) := by decide +kernel
theorem dX12_guard_135 : decode cX12_guard 135 = .ok (.goto (-112), 3) := by decide +kernel
theorem dX12_guard_138 : decode cX12_guard 138 = .ok (.aload_n 0, 1) := by decide +kernel
theorem dX12_guard_139 : decode cX12_guard 139 = .ok (.iconst 0, 1) := by decide +kernel
theorem dX12_guard_140 : decode cX12_guard 140 = .ok (.putfield 11, 3) := by decide +kernel
theorem dX12_guard_143 : decode cX12_guard 143 = .ok (.aload_n 0, 1) := by decide +kernel
theorem dX12_guard_144 : decode cX12_guard 144 = .ok (.iload_n 2, 1) := by decide +kernel
theorem dX12_guard_145 : decode cX12_guard 145 = .ok (.invokevirtual 345, 3) := by decide +kernel
theorem dX12_guard_148 : decode cX12_guard 148 = .ok (.iload_n 2, 1) := by decide +kernel
theorem dX12_guard_149 : decode cX12_guard 149 = .ok (.invokestatic 386, 3) := by decide +kernel
theorem dX12_guard_152 : decode cX12_guard 152 = .ok (.ireturn, 1) := by decide +kernel
theorem dX12_hungMany_0 : decode cX12_hungMany 0 = .ok (.iconst 0, 1) := by decide +kernel
theorem dX12_hungMany_1 : decode cX12_hungMany 1 = .ok (.istore_n 1, 1) := by decide +kernel
theorem dX12_hungMany_2 : decode cX12_hungMany 2 = .ok (.iconst 0, 1) := by decide +kernel
theorem dX12_hungMany_3 : decode cX12_hungMany 3 = .ok (.istore_n 2, 1) := by decide +kernel
theorem dX12_hungMany_4 : decode cX12_hungMany 4 = .ok (.iload_n 2, 1) := by decide +kernel
theorem dX12_hungMany_5 : decode cX12_hungMany 5 = .ok (.aload_n 0, 1) := by decide +kernel
theorem dX12_hungMany_6 : decode cX12_hungMany 6 = .ok (.getfield 108, 3) := by decide +kernel
theorem dX12_hungMany_9 : decode cX12_hungMany 9 = .ok (.if_icmp .ge 30, 3) := by decide +kernel
theorem dX12_hungMany_12 : decode cX12_hungMany 12 = .ok (.iload_n 1, 1) := by decide +kernel
theorem dX12_hungMany_13 : decode cX12_hungMany 13 = .ok (.aload_n 0, 1) := by decide +kernel
theorem dX12_hungMany_14 : decode cX12_hungMany 14 = .ok (.getfield 170, 3) := by decide +kernel
theorem dX12_hungMany_17 : decode cX12_hungMany 17 = .ok (.iload_n 2, 1) := by decide +kernel
theorem dX12_hungMany_18 : decode cX12_hungMany 18 = .ok (.iaload, 1) := by decide +kernel
theorem dX12_hungMany_19 : decode cX12_hungMany 19 = .ok (.iconst 1, 1) := by decide +kernel
theorem dX12_hungMany_20 : decode cX12_hungMany 20 = .ok (.if_icmp .ne 7, 3) := by decide +kernel
theorem dX12_hungMany_23 : decode cX12_hungMany 23 = .ok (.iconst 1, 1) := by decide +kernel
theorem dX12_hungMany_24 : decode cX12_hungMany 24 = .ok (.goto 4, 3) := by decide +kernel
theorem dX12_hungMany_27 : decode cX12_hungMany 27 = .ok (.iconst 0, 1) := by decide +kernel
theorem dX12_hungMany_28 : decode cX12_hungMany 28 = .ok (.invokestatic 268, 3) := by decide +kernel
theorem dX12_hungMany_31 : decode cX12_hungMany 31 = .ok (.iadd, 1) := by decide +kernel
theorem dX12_hungMany_32 : decode cX12_hungMany 32 = .ok (.istore_n 1, 1) := by decide +kernel
theorem dX12_hungMany_33 : decode cX12_hungMany 33 = .ok (.iinc 2 1, 3) := by decide +kernel
theorem dX12_hungMany_36 : decode cX12_hungMany 36 = .ok (.goto (-32), 3) := by decide +kernel
theorem dX12_hungMany_39 : decode cX12_hungMany 39 = .ok (.iload_n 1, 1) := by decide +kernel
theorem dX12_hungMany_40 : decode cX12_hungMany 40 = .ok (.ireturn, 1) := by decide +kernel
theorem dX12_count_0 : decode cX12_count 0 = .ok (.aload_n 0, 1) := by decide +kernel
theorem dX12_count_1 : decode cX12_count 1 = .ok (.iconst 0, 1) := by decide +kernel
theorem dX12_count_2 : decode cX12_count 2 = .ok (.putfield 1, 3) := by decide +kernel
theorem dX12_count_5 : decode cX12_count 5 = .ok (.iload_n 1, 1) := by decide +kernel
theorem dX12_count_6 : decode cX12_count 6 = .ok (.tableswitch 166 0 15 #[78, 83, 88, 93, 98, 103, 108, 113, 118, 123, 128, 133, 138, 145, 152, 159], 78) := by decide +kernel
theorem dX12_count_84 : decode cX12_count 84 = .ok (.aload_n 0, 1) := by decide +kernel
theorem dX12_count_85 : decode cX12_count 85 = .ok (.getfield 14, 3) := by decide +kernel
theorem dX12_count_88 : decode cX12_count 88 = .ok (.ireturn, 1) := by decide +kernel
theorem dX12_count_89 : decode cX12_count 89 = .ok (.aload_n 0, 1) := by decide +kernel
theorem dX12_count_90 : decode cX12_count 90 = .ok (.getfield 36, 3) := by decide +kernel
theorem dX12_count_93 : decode cX12_count 93 = .ok (.ireturn, 1) := by decide +kernel
theorem dX12_count_94 : decode cX12_count 94 = .ok (.aload_n 0, 1) := by decide +kernel
theorem dX12_count_95 : decode cX12_count 95 = .ok (.getfield 21, 3) := by decide +kernel
theorem dX12_count_98 : decode cX12_count 98 = .ok (.ireturn, 1) := by decide +kernel
theorem dX12_count_99 : decode cX12_count 99 = .ok (.aload_n 0, 1) := by decide +kernel
theorem dX12_count_100 : decode cX12_count 100 = .ok (.getfield 108, 3) := by decide +kernel
theorem dX12_count_103 : decode cX12_count 103 = .ok (.ireturn, 1) := by decide +kernel
theorem dX12_count_104 : decode cX12_count 104 = .ok (.aload_n 0, 1) := by decide +kernel
theorem dX12_count_105 : decode cX12_count 105 = .ok (.getfield 247, 3) := by decide +kernel
theorem dX12_count_108 : decode cX12_count 108 = .ok (.ireturn, 1) := by decide +kernel
theorem dX12_count_109 : decode cX12_count 109 = .ok (.aload_n 0, 1) := by decide +kernel
theorem dX12_count_110 : decode cX12_count 110 = .ok (.getfield 259, 3) := by decide +kernel
theorem dX12_count_113 : decode cX12_count 113 = .ok (.ireturn, 1) := by decide +kernel
theorem dX12_count_114 : decode cX12_count 114 = .ok (.aload_n 0, 1) := by decide +kernel
theorem dX12_count_115 : decode cX12_count 115 = .ok (.invokevirtual 508, 3) := by decide +kernel
theorem dX12_count_118 : decode cX12_count 118 = .ok (.ireturn, 1) := by decide +kernel
theorem dX12_count_119 : decode cX12_count 119 = .ok (.aload_n 0, 1) := by decide +kernel
theorem dX12_count_120 : decode cX12_count 120 = .ok (.getfield 412, 3) := by decide +kernel
theorem dX12_count_123 : decode cX12_count 123 = .ok (.ireturn, 1) := by decide +kernel
theorem dX12_count_124 : decode cX12_count 124 = .ok (.aload_n 0, 1) := by decide +kernel
theorem dX12_count_125 : decode cX12_count 125 = .ok (.getfield 422, 3) := by decide +kernel
theorem dX12_count_128 : decode cX12_count 128 = .ok (.ireturn, 1) := by decide +kernel
theorem dX12_count_129 : decode cX12_count 129 = .ok (.aload_n 0, 1) := by decide +kernel
theorem dX12_count_130 : decode cX12_count 130 = .ok (.getfield 446, 3) := by decide +kernel
theorem dX12_count_133 : decode cX12_count 133 = .ok (.ireturn, 1) := by decide +kernel
theorem dX12_count_134 : decode cX12_count 134 = .ok (.aload_n 0, 1) := by decide +kernel
theorem dX12_count_135 : decode cX12_count 135 = .ok (.getfield 11, 3) := by decide +kernel
theorem dX12_count_138 : decode cX12_count 138 = .ok (.ireturn, 1) := by decide +kernel
theorem dX12_count_139 : decode cX12_count 139 = .ok (.aload_n 0, 1) := by decide +kernel
theorem dX12_count_140 : decode cX12_count 140 = .ok (.getfield 177, 3) := by decide +kernel
theorem dX12_count_143 : decode cX12_count 143 = .ok (.ireturn, 1) := by decide +kernel
theorem dX12_count_144 : decode cX12_count 144 = .ok (.aload_n 0, 1) := by decide +kernel
theorem dX12_count_145 : decode cX12_count 145 = .ok (.getfield 75, 3) := by decide +kernel
theorem dX12_count_148 : decode cX12_count 148 = .ok (.iconst 2, 1) := by decide +kernel
theorem dX12_count_149 : decode cX12_count 149 = .ok (.iaload, 1) := by decide +kernel
theorem dX12_count_150 : decode cX12_count 150 = .ok (.ireturn, 1) := by decide +kernel
theorem dX12_count_151 : decode cX12_count 151 = .ok (.aload_n 0, 1) := by decide +kernel
theorem dX12_count_152 : decode cX12_count 152 = .ok (.getfield 75, 3) := by decide +kernel
theorem dX12_count_155 : decode cX12_count 155 = .ok (.iconst 3, 1) := by decide +kernel
theorem dX12_count_156 : decode cX12_count 156 = .ok (.iaload, 1) := by decide +kernel
theorem dX12_count_157 : decode cX12_count 157 = .ok (.ireturn, 1) := by decide +kernel
theorem dX12_count_158 : decode cX12_count 158 = .ok (.aload_n 0, 1) := by decide +kernel
theorem dX12_count_159 : decode cX12_count 159 = .ok (.getfield 75, 3) := by decide +kernel
theorem dX12_count_162 : decode cX12_count 162 = .ok (.iconst 0, 1) := by decide +kernel
theorem dX12_count_163 : decode cX12_count 163 = .ok (.iaload, 1) := by decide +kernel
theorem dX12_count_164 : decode cX12_count 164 = .ok (.ireturn, 1) := by decide +kernel
theorem dX12_count_165 : decode cX12_count 165 = .ok (.aload_n 0, 1) := by decide +kernel
theorem dX12_count_166 : decode cX12_count 166 = .ok (.getfield 75, 3) := by decide +kernel
theorem dX12_count_169 : decode cX12_count 169 = .ok (.iconst 1, 1) := by decide +kernel
theorem dX12_count_170 : decode cX12_count 170 = .ok (.iaload, 1) := by decide +kernel
theorem dX12_count_171 : decode cX12_count 171 = .ok (.ireturn, 1) := by decide +kernel
theorem dX12_count_172 : decode cX12_count 172 = .ok (.iconst (-1), 1) := by decide +kernel
theorem dX12_count_173 : decode cX12_count 173 = .ok (.ireturn, 1) := by decide +kernel
theorem dX12_row_0 : decode cX12_row 0 = .ok (.aload_n 0, 1) := by decide +kernel
theorem dX12_row_1 : decode cX12_row 1 = .ok (.iconst 0, 1) := by decide +kernel
theorem dX12_row_2 : decode cX12_row 2 = .ok (.putfield 1, 3) := by decide +kernel
theorem dX12_row_5 : decode cX12_row 5 = .ok (.iload_n 1, 1) := by decide +kernel
theorem dX12_row_6 : decode cX12_row 6 = .ok (.i2l, 1) := by decide +kernel
theorem dX12_row_7 : decode cX12_row 7 = .ok (.lconst 0, 1) := by decide +kernel
theorem dX12_row_8 : decode cX12_row 8 = .ok (.aload_n 0, 1) := by decide +kernel
theorem dX12_row_9 : decode cX12_row 9 = .ok (.getfield 11, 3) := by decide +kernel
theorem dX12_row_12 : decode cX12_row 12 = .ok (.iconst 1, 1) := by decide +kernel
theorem dX12_row_13 : decode cX12_row 13 = .ok (.isub, 1) := by decide +kernel
theorem dX12_row_14 : decode cX12_row 14 = .ok (.i2l, 1) := by decide +kernel
theorem dX12_row_15 : decode cX12_row 15 = .ok (.invokestatic 17, 3) := by decide +kernel
theorem dX12_row_18 : decode cX12_row 18 = .ok (.ifCond .eq 12, 3) := by decide +kernel
theorem dX12_row_21 : decode cX12_row 21 = .ok (.aload_n 0, 1) := by decide +kernel
theorem dX12_row_22 : decode cX12_row 22 = .ok (.getfield 7, 3) := by decide +kernel
theorem dX12_row_25 : decode cX12_row 25 = .ok (.iload_n 1, 1) := by decide +kernel
theorem dX12_row_26 : decode cX12_row 26 = .ok (.iaload, 1) := by decide +kernel
theorem dX12_row_27 : decode cX12_row 27 = .ok (.goto 7, 3) := by decide +kernel
theorem dX12_row_30 : decode cX12_row 30 = .ok (.aload_n 0, 1) := by decide +kernel
theorem dX12_row_31 : decode cX12_row 31 = .ok (.invokevirtual 338, 3) := by decide +kernel
theorem dX12_row_34 : decode cX12_row 34 = .ok (.ireturn, 1) := by decide +kernel
