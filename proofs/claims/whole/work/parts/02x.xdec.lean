theorem dX0_lets_0 : decode cX0_lets 0 = .ok (.aload_n 1, 1) := by decide +kernel
theorem dX0_lets_1 : decode cX0_lets 1 = .ok (.getfield 22, 3) := by decide +kernel
theorem dX0_lets_4 : decode cX0_lets 4 = .ok (.aload_n 0, 1) := by decide +kernel
theorem dX0_lets_5 : decode cX0_lets 5 = .ok (.getfield 16, 3) := by decide +kernel
theorem dX0_lets_8 : decode cX0_lets 8 = .ok (.if_icmp .gt 14, 3) := by decide +kernel
theorem dX0_lets_11 : decode cX0_lets 11 = .ok (.aload_n 1, 1) := by decide +kernel
theorem dX0_lets_12 : decode cX0_lets 12 = .ok (.getfield 25, 3) := by decide +kernel
theorem dX0_lets_15 : decode cX0_lets 15 = .ok (.aload_n 0, 1) := by decide +kernel
theorem dX0_lets_16 : decode cX0_lets 16 = .ok (.getfield 19, 3) := by decide +kernel
theorem dX0_lets_19 : decode cX0_lets 19 = .ok (.if_icmp .le 25, 3) := by decide +kernel
theorem dX0_lets_22 : decode cX0_lets 22 = .ok (.aload_n 1, 1) := by decide +kernel
theorem dX0_lets_23 : decode cX0_lets 23 = .ok (.getfield 22, 3) := by decide +kernel
theorem dX0_lets_26 : decode cX0_lets 26 = .ok (.aload_n 0, 1) := by decide +kernel
theorem dX0_lets_27 : decode cX0_lets 27 = .ok (.getfield 19, 3) := by decide +kernel
theorem dX0_lets_30 : decode cX0_lets 30 = .ok (.if_icmp .gt 18, 3) := by decide +kernel
theorem dX0_lets_33 : decode cX0_lets 33 = .ok (.aload_n 1, 1) := by decide +kernel
theorem dX0_lets_34 : decode cX0_lets 34 = .ok (.getfield 25, 3) := by decide +kernel
theorem dX0_lets_37 : decode cX0_lets 37 = .ok (.aload_n 0, 1) := by decide +kernel
theorem dX0_lets_38 : decode cX0_lets 38 = .ok (.getfield 16, 3) := by decide +kernel
theorem dX0_lets_41 : decode cX0_lets 41 = .ok (.if_icmp .gt 7, 3) := by decide +kernel
theorem dX0_lets_44 : decode cX0_lets 44 = .ok (.iconst 1, 1) := by decide +kernel
theorem dX0_lets_45 : decode cX0_lets 45 = .ok (.goto 4, 3) := by decide +kernel
theorem dX0_lets_48 : decode cX0_lets 48 = .ok (.iconst 0, 1) := by decide +kernel
theorem dX0_lets_49 : decode cX0_lets 49 = .ok (.ireturn, 1) := by decide +kernel
theorem dX1_put_0 : decode cX1_put 0 = .ok (.iload_n 1, 1) := by decide +kernel
theorem dX1_put_1 : decode cX1_put 1 = .ok (.ifCond .lt 23, 3) := by decide +kernel
theorem dX1_put_4 : decode cX1_put 4 = .ok (.iload_n 1, 1) := by decide +kernel
theorem dX1_put_5 : decode cX1_put 5 = .ok (.bipush 24, 2) := by decide +kernel
theorem dX1_put_7 : decode cX1_put 7 = .ok (.if_icmp .ge 17, 3) := by decide +kernel
theorem dX1_put_10 : decode cX1_put 10 = .ok (.aload_n 0, 1) := by decide +kernel
theorem dX1_put_11 : decode cX1_put 11 = .ok (.getfield 9, 3) := by decide +kernel
theorem dX1_put_14 : decode cX1_put 14 = .ok (.iload_n 1, 1) := by decide +kernel
theorem dX1_put_15 : decode cX1_put 15 = .ok (.iload_n 2, 1) := by decide +kernel
theorem dX1_put_16 : decode cX1_put 16 = .ok (.iastore, 1) := by decide +kernel
theorem dX1_put_17 : decode cX1_put 17 = .ok (.aload_n 0, 1) := by decide +kernel
theorem dX1_put_18 : decode cX1_put 18 = .ok (.getfield 15, 3) := by decide +kernel
theorem dX1_put_21 : decode cX1_put 21 = .ok (.iload_n 1, 1) := by decide +kernel
theorem dX1_put_22 : decode cX1_put 22 = .ok (.iload_n 3, 1) := by decide +kernel
theorem dX1_put_23 : decode cX1_put 23 = .ok (.iastore, 1) := by decide +kernel
theorem dX1_put_24 : decode cX1_put 24 = .ok (.return_, 1) := by decide +kernel
theorem dX1_take_0 : decode cX1_take 0 = .ok (.aload_n 0, 1) := by decide +kernel
theorem dX1_take_1 : decode cX1_take 1 = .ok (.iload_n 1, 1) := by decide +kernel
theorem dX1_take_2 : decode cX1_take 2 = .ok (.iconst (-1), 1) := by decide +kernel
theorem dX1_take_3 : decode cX1_take 3 = .ok (.iconst (-1), 1) := by decide +kernel
theorem dX1_take_4 : decode cX1_take 4 = .ok (.invokevirtual 24, 3) := by decide +kernel
theorem dX1_take_7 : decode cX1_take 7 = .ok (.return_, 1) := by decide +kernel
theorem dX1_become_0 : decode cX1_become 0 = .ok (.aload_n 1, 1) := by decide +kernel
theorem dX1_become_1 : decode cX1_become 1 = .ok (.getfield 9, 3) := by decide +kernel
theorem dX1_become_4 : decode cX1_become 4 = .ok (.iconst 0, 1) := by decide +kernel
theorem dX1_become_5 : decode cX1_become 5 = .ok (.aload_n 0, 1) := by decide +kernel
theorem dX1_become_6 : decode cX1_become 6 = .ok (.getfield 9, 3) := by decide +kernel
theorem dX1_become_9 : decode cX1_become 9 = .ok (.iconst 0, 1) := by decide +kernel
theorem dX1_become_10 : decode cX1_become 10 = .ok (.bipush 24, 2) := by decide +kernel
theorem dX1_become_12 : decode cX1_become 12 = .ok (.invokestatic 28, 3) := by decide +kernel
theorem dX1_become_15 : decode cX1_become 15 = .ok (.aload_n 1, 1) := by decide +kernel
theorem dX1_become_16 : decode cX1_become 16 = .ok (.getfield 15, 3) := by decide +kernel
theorem dX1_become_19 : decode cX1_become 19 = .ok (.iconst 0, 1) := by decide +kernel
theorem dX1_become_20 : decode cX1_become 20 = .ok (.aload_n 0, 1) := by decide +kernel
theorem dX1_become_21 : decode cX1_become 21 = .ok (.getfield 15, 3) := by decide +kernel
theorem dX1_become_24 : decode cX1_become 24 = .ok (.iconst 0, 1) := by decide +kernel
theorem dX1_become_25 : decode cX1_become 25 = .ok (.bipush 24, 2) := by decide +kernel
theorem dX1_become_27 : decode cX1_become 27 = .ok (.invokestatic 28, 3) := by decide +kernel
theorem dX1_become_30 : decode cX1_become 30 = .ok (.return_, 1) := by decide +kernel
theorem dX1_wallUnder_0 : decode cX1_wallUnder 0 = .ok (.iload_n 1, 1) := by decide +kernel
theorem dX1_wallUnder_1 : decode cX1_wallUnder 1 = .ok (.ifCond .lt 18, 3) := by decide +kernel
theorem dX1_wallUnder_4 : decode cX1_wallUnder 4 = .ok (.iload_n 1, 1) := by decide +kernel
theorem dX1_wallUnder_5 : decode cX1_wallUnder 5 = .ok (.bipush 24, 2) := by decide +kernel
theorem dX1_wallUnder_7 : decode cX1_wallUnder 7 = .ok (.if_icmp .ge 12, 3) := by decide +kernel
theorem dX1_wallUnder_10 : decode cX1_wallUnder 10 = .ok (.aload_n 0, 1) := by decide +kernel
theorem dX1_wallUnder_11 : decode cX1_wallUnder 11 = .ok (.getfield 9, 3) := by decide +kernel
theorem dX1_wallUnder_14 : decode cX1_wallUnder 14 = .ok (.iload_n 1, 1) := by decide +kernel
theorem dX1_wallUnder_15 : decode cX1_wallUnder 15 = .ok (.iaload, 1) := by decide +kernel
theorem dX1_wallUnder_16 : decode cX1_wallUnder 16 = .ok (.goto 4, 3) := by decide +kernel
theorem dX1_wallUnder_19 : decode cX1_wallUnder 19 = .ok (.iconst (-1), 1) := by decide +kernel
theorem dX1_wallUnder_20 : decode cX1_wallUnder 20 = .ok (.ireturn, 1) := by decide +kernel
theorem dX1_has_0 : decode cX1_has 0 = .ok (.aload_n 0, 1) := by decide +kernel
theorem dX1_has_1 : decode cX1_has 1 = .ok (.iload_n 1, 1) := by decide +kernel
theorem dX1_has_2 : decode cX1_has 2 = .ok (.invokevirtual 34, 3) := by decide +kernel
theorem dX1_has_5 : decode cX1_has 5 = .ok (.iconst (-1), 1) := by decide +kernel
theorem dX1_has_6 : decode cX1_has 6 = .ok (.if_icmp .eq 7, 3) := by decide +kernel
theorem dX1_has_9 : decode cX1_has 9 = .ok (.iconst 1, 1) := by decide +kernel
theorem dX1_has_10 : decode cX1_has 10 = .ok (.goto 4, 3) := by decide +kernel
theorem dX1_has_13 : decode cX1_has 13 = .ok (.iconst 0, 1) := by decide +kernel
theorem dX1_has_14 : decode cX1_has 14 = .ok (.ireturn, 1) := by decide +kernel
theorem dX1_leftSide_0 : decode cX1_leftSide 0 = .ok (.iload_n 1, 1) := by decide +kernel
theorem dX1_leftSide_1 : decode cX1_leftSide 1 = .ok (.ifCond .lt 18, 3) := by decide +kernel
theorem dX1_leftSide_4 : decode cX1_leftSide 4 = .ok (.iload_n 1, 1) := by decide +kernel
theorem dX1_leftSide_5 : decode cX1_leftSide 5 = .ok (.bipush 24, 2) := by decide +kernel
theorem dX1_leftSide_7 : decode cX1_leftSide 7 = .ok (.if_icmp .ge 12, 3) := by decide +kernel
theorem dX1_leftSide_10 : decode cX1_leftSide 10 = .ok (.aload_n 0, 1) := by decide +kernel
theorem dX1_leftSide_11 : decode cX1_leftSide 11 = .ok (.getfield 15, 3) := by decide +kernel
theorem dX1_leftSide_14 : decode cX1_leftSide 14 = .ok (.iload_n 1, 1) := by decide +kernel
theorem dX1_leftSide_15 : decode cX1_leftSide 15 = .ok (.iaload, 1) := by decide +kernel
theorem dX1_leftSide_16 : decode cX1_leftSide 16 = .ok (.goto 4, 3) := by decide +kernel
theorem dX1_leftSide_19 : decode cX1_leftSide 19 = .ok (.iconst (-1), 1) := by decide +kernel
theorem dX1_leftSide_20 : decode cX1_leftSide 20 = .ok (.ireturn, 1) := by decide +kernel
theorem dX1_howMany_0 : decode cX1_howMany 0 = .ok (.iconst 0, 1) := by decide +kernel
theorem dX1_howMany_1 : decode cX1_howMany 1 = .ok (.istore_n 1, 1) := by decide +kernel
theorem dX1_howMany_2 : decode cX1_howMany 2 = .ok (.iconst 0, 1) := by decide +kernel
theorem dX1_howMany_3 : decode cX1_howMany 3 = .ok (.istore_n 2, 1) := by decide +kernel
theorem dX1_howMany_4 : decode cX1_howMany 4 = .ok (.iload_n 2, 1) := by decide +kernel
theorem dX1_howMany_5 : decode cX1_howMany 5 = .ok (.bipush 24, 2) := by decide +kernel
theorem dX1_howMany_7 : decode cX1_howMany 7 = .ok (.if_icmp .ge 27, 3) := by decide +kernel
theorem dX1_howMany_10 : decode cX1_howMany 10 = .ok (.iload_n 1, 1) := by decide +kernel
theorem dX1_howMany_11 : decode cX1_howMany 11 = .ok (.aload_n 0, 1) := by decide +kernel
theorem dX1_howMany_12 : decode cX1_howMany 12 = .ok (.getfield 9, 3) := by decide +kernel
theorem dX1_howMany_15 : decode cX1_howMany 15 = .ok (.iload_n 2, 1) := by decide +kernel
theorem dX1_howMany_16 : decode cX1_howMany 16 = .ok (.iaload, 1) := by decide +kernel
theorem dX1_howMany_17 : decode cX1_howMany 17 = .ok (.iconst (-1), 1) := by decide +kernel
theorem dX1_howMany_18 : decode cX1_howMany 18 = .ok (.if_icmp .ne 7, 3) := by decide +kernel
theorem dX1_howMany_21 : decode cX1_howMany 21 = .ok (.iconst 0, 1) := by decide +kernel
theorem dX1_howMany_22 : decode cX1_howMany 22 = .ok (.goto 4, 3) := by decide +kernel
theorem dX1_howMany_25 : decode cX1_howMany 25 = .ok (.iconst 1, 1) := by decide +kernel
theorem dX1_howMany_26 : decode cX1_howMany 26 = .ok (.iadd, 1) := by decide +kernel
theorem dX1_howMany_27 : decode cX1_howMany 27 = .ok (.istore_n 1, 1) := by decide +kernel
theorem dX1_howMany_28 : decode cX1_howMany 28 = .ok (.iinc 2 1, 3) := by decide +kernel
theorem dX1_howMany_31 : decode cX1_howMany 31 = .ok (.goto (-27), 3) := by decide +kernel
theorem dX1_howMany_34 : decode cX1_howMany 34 = .ok (.iload_n 1, 1) := by decide +kernel
theorem dX1_howMany_35 : decode cX1_howMany 35 = .ok (.ireturn, 1) := by decide +kernel
theorem dX1_leftOf_0 : decode cX1_leftOf 0 = .ok (.iconst (-1), 1) := by decide +kernel
theorem dX1_leftOf_1 : decode cX1_leftOf 1 = .ok (.istore 4, 2) := by decide +kernel
theorem dX1_leftOf_3 : decode cX1_leftOf 3 = .ok (.iconst 0, 1) := by decide +kernel
theorem dX1_leftOf_4 : decode cX1_leftOf 4 = .ok (.istore 5, 2) := by decide +kernel
theorem dX1_leftOf_6 : decode cX1_leftOf 6 = .ok (.iload 5, 2) := by decide +kernel
theorem dX1_leftOf_8 : decode cX1_leftOf 8 = .ok (.bipush 24, 2) := by decide +kernel
theorem dX1_leftOf_10 : decode cX1_leftOf 10 = .ok (.if_icmp .ge 76, 3) := by decide +kernel
theorem dX1_leftOf_13 : decode cX1_leftOf 13 = .ok (.iload 5, 2) := by decide +kernel
theorem dX1_leftOf_15 : decode cX1_leftOf 15 = .ok (.iload_n 1, 1) := by decide +kernel
theorem dX1_leftOf_16 : decode cX1_leftOf 16 = .ok (.if_icmp .eq 29, 3) := by decide +kernel
theorem dX1_leftOf_19 : decode cX1_leftOf 19 = .ok (.aload_n 0, 1) := by decide +kernel
theorem dX1_leftOf_20 : decode cX1_leftOf 20 = .ok (.getfield 9, 3) := by decide +kernel
theorem dX1_leftOf_23 : decode cX1_leftOf 23 = .ok (.iload 5, 2) := by decide +kernel
theorem dX1_leftOf_25 : decode cX1_leftOf 25 = .ok (.iaload, 1) := by decide +kernel
theorem dX1_leftOf_26 : decode cX1_leftOf 26 = .ok (.iload_n 2, 1) := by decide +kernel
theorem dX1_leftOf_27 : decode cX1_leftOf 27 = .ok (.if_icmp .ne 18, 3) := by decide +kernel
theorem dX1_leftOf_30 : decode cX1_leftOf 30 = .ok (.aload_n 0, 1) := by decide +kernel
theorem dX1_leftOf_31 : decode cX1_leftOf 31 = .ok (.getfield 15, 3) := by decide +kernel
theorem dX1_leftOf_34 : decode cX1_leftOf 34 = .ok (.iload 5, 2) := by decide +kernel
theorem dX1_leftOf_36 : decode cX1_leftOf 36 = .ok (.iaload, 1) := by decide +kernel
theorem dX1_leftOf_37 : decode cX1_leftOf 37 = .ok (.iload_n 3, 1) := by decide +kernel
theorem dX1_leftOf_38 : decode cX1_leftOf 38 = .ok (.if_icmp .gt 7, 3) := by decide +kernel
theorem dX1_leftOf_41 : decode cX1_leftOf 41 = .ok (.iconst 1, 1) := by decide +kernel
theorem dX1_leftOf_42 : decode cX1_leftOf 42 = .ok (.goto 4, 3) := by decide +kernel
theorem dX1_leftOf_45 : decode cX1_leftOf 45 = .ok (.iconst 0, 1) := by decide +kernel
theorem dX1_leftOf_46 : decode cX1_leftOf 46 = .ok (.istore 6, 2) := by decide +kernel
theorem dX1_leftOf_48 : decode cX1_leftOf 48 = .ok (.iload 6, 2) := by decide +kernel
theorem dX1_leftOf_50 : decode cX1_leftOf 50 = .ok (.ifCond .eq 30, 3) := by decide +kernel
theorem dX1_leftOf_53 : decode cX1_leftOf 53 = .ok (.iload 4, 2) := by decide +kernel
theorem dX1_leftOf_55 : decode cX1_leftOf 55 = .ok (.iconst (-1), 1) := by decide +kernel
theorem dX1_leftOf_56 : decode cX1_leftOf 56 = .ok (.if_icmp .eq 20, 3) := by decide +kernel
theorem dX1_leftOf_59 : decode cX1_leftOf 59 = .ok (.aload_n 0, 1) := by decide +kernel
theorem dX1_leftOf_60 : decode cX1_leftOf 60 = .ok (.getfield 15, 3) := by decide +kernel
theorem dX1_leftOf_63 : decode cX1_leftOf 63 = .ok (.iload 5, 2) := by decide +kernel
theorem dX1_leftOf_65 : decode cX1_leftOf 65 = .ok (.iaload, 1) := by decide +kernel
theorem dX1_leftOf_66 : decode cX1_leftOf 66 = .ok (.aload_n 0, 1) := by decide +kernel
theorem dX1_leftOf_67 : decode cX1_leftOf 67 = .ok (.getfield 15, 3) := by decide +kernel
theorem dX1_leftOf_70 : decode cX1_leftOf 70 = .ok (.iload 4, 2) := by decide +kernel
theorem dX1_leftOf_72 : decode cX1_leftOf 72 = .ok (.iaload, 1) := by decide +kernel
theorem dX1_leftOf_73 : decode cX1_leftOf 73 = .ok (.if_icmp .lt 7, 3) := by decide +kernel
theorem dX1_leftOf_76 : decode cX1_leftOf 76 = .ok (.iload 5, 2) := by decide +kernel
theorem dX1_leftOf_78 : decode cX1_leftOf 78 = .ok (.istore 4, 2) := by decide +kernel
theorem dX1_leftOf_80 : decode cX1_leftOf 80 = .ok (.iinc 5 1, 3) := by decide +kernel
theorem dX1_leftOf_83 : decode cX1_leftOf 83 = .ok (.goto (-77), 3) := by decide +kernel
theorem dX1_leftOf_86 : decode cX1_leftOf 86 = .ok (.iload 4, 2) := by decide +kernel
theorem dX1_leftOf_88 : decode cX1_leftOf 88 = .ok (.ireturn, 1) := by decide +kernel
theorem dX1_rightOf_0 : decode cX1_rightOf 0 = .ok (.iconst (-1), 1) := by decide +kernel
theorem dX1_rightOf_1 : decode cX1_rightOf 1 = .ok (.istore 4, 2) := by decide +kernel
theorem dX1_rightOf_3 : decode cX1_rightOf 3 = .ok (.iconst 0, 1) := by decide +kernel
theorem dX1_rightOf_4 : decode cX1_rightOf 4 = .ok (.istore 5, 2) := by decide +kernel
theorem dX1_rightOf_6 : decode cX1_rightOf 6 = .ok (.iload 5, 2) := by decide +kernel
theorem dX1_rightOf_8 : decode cX1_rightOf 8 = .ok (.bipush 24, 2) := by decide +kernel
theorem dX1_rightOf_10 : decode cX1_rightOf 10 = .ok (.if_icmp .ge 76, 3) := by decide +kernel
theorem dX1_rightOf_13 : decode cX1_rightOf 13 = .ok (.iload 5, 2) := by decide +kernel
theorem dX1_rightOf_15 : decode cX1_rightOf 15 = .ok (.iload_n 1, 1) := by decide +kernel
theorem dX1_rightOf_16 : decode cX1_rightOf 16 = .ok (.if_icmp .eq 29, 3) := by decide +kernel
theorem dX1_rightOf_19 : decode cX1_rightOf 19 = .ok (.aload_n 0, 1) := by decide +kernel
theorem dX1_rightOf_20 : decode cX1_rightOf 20 = .ok (.getfield 9, 3) := by decide +kernel
theorem dX1_rightOf_23 : decode cX1_rightOf 23 = .ok (.iload 5, 2) := by decide +kernel
theorem dX1_rightOf_25 : decode cX1_rightOf 25 = .ok (.iaload, 1) := by decide +kernel
theorem dX1_rightOf_26 : decode cX1_rightOf 26 = .ok (.iload_n 2, 1) := by decide +kernel
theorem dX1_rightOf_27 : decode cX1_rightOf 27 = .ok (.if_icmp .ne 18, 3) := by decide +kernel
theorem dX1_rightOf_30 : decode cX1_rightOf 30 = .ok (.aload_n 0, 1) := by decide +kernel
theorem dX1_rightOf_31 : decode cX1_rightOf 31 = .ok (.getfield 15, 3) := by decide +kernel
theorem dX1_rightOf_34 : decode cX1_rightOf 34 = .ok (.iload 5, 2) := by decide +kernel
theorem dX1_rightOf_36 : decode cX1_rightOf 36 = .ok (.iaload, 1) := by decide +kernel
theorem dX1_rightOf_37 : decode cX1_rightOf 37 = .ok (.iload_n 3, 1) := by decide +kernel
theorem dX1_rightOf_38 : decode cX1_rightOf 38 = .ok (.if_icmp .le 7, 3) := by decide +kernel
theorem dX1_rightOf_41 : decode cX1_rightOf 41 = .ok (.iconst 1, 1) := by decide +kernel
theorem dX1_rightOf_42 : decode cX1_rightOf 42 = .ok (.goto 4, 3) := by decide +kernel
theorem dX1_rightOf_45 : decode cX1_rightOf 45 = .ok (.iconst 0, 1) := by decide +kernel
theorem dX1_rightOf_46 : decode cX1_rightOf 46 = .ok (.istore 6, 2) := by decide +kernel
theorem dX1_rightOf_48 : decode cX1_rightOf 48 = .ok (.iload 6, 2) := by decide +kernel
theorem dX1_rightOf_50 : decode cX1_rightOf 50 = .ok (.ifCond .eq 30, 3) := by decide +kernel
theorem dX1_rightOf_53 : decode cX1_rightOf 53 = .ok (.iload 4, 2) := by decide +kernel
theorem dX1_rightOf_55 : decode cX1_rightOf 55 = .ok (.iconst (-1), 1) := by decide +kernel
theorem dX1_rightOf_56 : decode cX1_rightOf 56 = .ok (.if_icmp .eq 20, 3) := by decide +kernel
theorem dX1_rightOf_59 : decode cX1_rightOf 59 = .ok (.aload_n 0, 1) := by decide +kernel
theorem dX1_rightOf_60 : decode cX1_rightOf 60 = .ok (.getfield 15, 3) := by decide +kernel
theorem dX1_rightOf_63 : decode cX1_rightOf 63 = .ok (.iload 5, 2) := by decide +kernel
theorem dX1_rightOf_65 : decode cX1_rightOf 65 = .ok (.iaload, 1) := by decide +kernel
theorem dX1_rightOf_66 : decode cX1_rightOf 66 = .ok (.aload_n 0, 1) := by decide +kernel
theorem dX1_rightOf_67 : decode cX1_rightOf 67 = .ok (.getfield 15, 3) := by decide +kernel
theorem dX1_rightOf_70 : decode cX1_rightOf 70 = .ok (.iload 4, 2) := by decide +kernel
theorem dX1_rightOf_72 : decode cX1_rightOf 72 = .ok (.iaload, 1) := by decide +kernel
theorem dX1_rightOf_73 : decode cX1_rightOf 73 = .ok (.if_icmp .ge 7, 3) := by decide +kernel
theorem dX1_rightOf_76 : decode cX1_rightOf 76 = .ok (.iload 5, 2) := by decide +kernel
theorem dX1_rightOf_78 : decode cX1_rightOf 78 = .ok (.istore 4, 2) := by decide +kernel
theorem dX1_rightOf_80 : decode cX1_rightOf 80 = .ok (.iinc 5 1, 3) := by decide +kernel
theorem dX1_rightOf_83 : decode cX1_rightOf 83 = .ok (.goto (-77), 3) := by decide +kernel
theorem dX1_rightOf_86 : decode cX1_rightOf 86 = .ok (.iload 4, 2) := by decide +kernel
theorem dX1_rightOf_88 : decode cX1_rightOf 88 = .ok (.ireturn, 1) := by decide +kernel
theorem dX2_hasRoom_0 : decode cX2_hasRoom 0 = .ok (.iload_n 1, 1) := by decide +kernel
theorem dX2_hasRoom_1 : decode cX2_hasRoom 1 = .ok (.ifCond .lt 15, 3) := by decide +kernel
theorem dX2_hasRoom_4 : decode cX2_hasRoom 4 = .ok (.iload_n 1, 1) := by decide +kernel
theorem dX2_hasRoom_5 : decode cX2_hasRoom 5 = .ok (.aload_n 0, 1) := by decide +kernel
theorem dX2_hasRoom_6 : decode cX2_hasRoom 6 = .ok (.getfield 50, 3) := by decide +kernel
theorem dX2_hasRoom_9 : decode cX2_hasRoom 9 = .ok (.if_icmp .ge 7, 3) := by decide +kernel
theorem dX2_hasRoom_12 : decode cX2_hasRoom 12 = .ok (.iconst 1, 1) := by decide +kernel
theorem dX2_hasRoom_13 : decode cX2_hasRoom 13 = .ok (.goto 4, 3) := by decide +kernel
theorem dX2_hasRoom_16 : decode cX2_hasRoom 16 = .ok (.iconst 0, 1) := by decide +kernel
theorem dX2_hasRoom_17 : decode cX2_hasRoom 17 = .ok (.ireturn, 1) := by decide +kernel
theorem dX2_wallAt_0 : decode cX2_wallAt 0 = .ok (.iload_n 1, 1) := by decide +kernel
theorem dX2_wallAt_1 : decode cX2_wallAt 1 = .ok (.ifCond .lt 28, 3) := by decide +kernel
theorem dX2_wallAt_4 : decode cX2_wallAt 4 = .ok (.iload_n 1, 1) := by decide +kernel
theorem dX2_wallAt_5 : decode cX2_wallAt 5 = .ok (.aload_n 0, 1) := by decide +kernel
theorem dX2_wallAt_6 : decode cX2_wallAt 6 = .ok (.getfield 18, 3) := by decide +kernel
theorem dX2_wallAt_9 : decode cX2_wallAt 9 = .ok (.invokevirtual 54, 3) := by decide +kernel
theorem dX2_wallAt_12 : decode cX2_wallAt 12 = .ok (.if_icmp .ge 17, 3) := by decide +kernel
theorem dX2_wallAt_15 : decode cX2_wallAt 15 = .ok (.aload_n 0, 1) := by decide +kernel
theorem dX2_wallAt_16 : decode cX2_wallAt 16 = .ok (.getfield 18, 3) := by decide +kernel
theorem dX2_wallAt_19 : decode cX2_wallAt 19 = .ok (.iload_n 1, 1) := by decide +kernel
theorem dX2_wallAt_20 : decode cX2_wallAt 20 = .ok (.invokevirtual 58, 3) := by decide +kernel
theorem dX2_wallAt_23 : decode cX2_wallAt 23 = .ok (.checkcast 62, 3) := by decide +kernel
theorem dX2_wallAt_26 : decode cX2_wallAt 26 = .ok (.goto 4, 3) := by decide +kernel
theorem dX2_wallAt_29 : decode cX2_wallAt 29 = .ok (.aconst_null, 1) := by decide +kernel
theorem dX2_wallAt_30 : decode cX2_wallAt 30 = .ok (.areturn, 1) := by decide +kernel
theorem dX2_pictureAt_0 : decode cX2_pictureAt 0 = .ok (.iload_n 1, 1) := by decide +kernel
theorem dX2_pictureAt_1 : decode cX2_pictureAt 1 = .ok (.ifCond .lt 28, 3) := by decide +kernel
theorem dX2_pictureAt_4 : decode cX2_pictureAt 4 = .ok (.iload_n 1, 1) := by decide +kernel
theorem dX2_pictureAt_5 : decode cX2_pictureAt 5 = .ok (.aload_n 0, 1) := by decide +kernel
theorem dX2_pictureAt_6 : decode cX2_pictureAt 6 = .ok (.getfield 21, 3) := by decide +kernel
theorem dX2_pictureAt_9 : decode cX2_pictureAt 9 = .ok (.invokevirtual 54, 3) := by decide +kernel
theorem dX2_pictureAt_12 : decode cX2_pictureAt 12 = .ok (.if_icmp .ge 17, 3) := by decide +kernel
theorem dX2_pictureAt_15 : decode cX2_pictureAt 15 = .ok (.aload_n 0, 1) := by decide +kernel
theorem dX2_pictureAt_16 : decode cX2_pictureAt 16 = .ok (.getfield 21, 3) := by decide +kernel
theorem dX2_pictureAt_19 : decode cX2_pictureAt 19 = .ok (.iload_n 1, 1) := by decide +kernel
theorem dX2_pictureAt_20 : decode cX2_pictureAt 20 = .ok (.invokevirtual 58, 3) := by decide +kernel
theorem dX2_pictureAt_23 : decode cX2_pictureAt 23 = .ok (.checkcast 64, 3) := by decide +kernel
theorem dX2_pictureAt_26 : decode cX2_pictureAt 26 = .ok (.goto 4, 3) := by decide +kernel
theorem dX2_pictureAt_29 : decode cX2_pictureAt 29 = .ok (.aconst_null, 1) := by decide +kernel
theorem dX2_pictureAt_30 : decode cX2_pictureAt 30 = .ok (.areturn, 1) := by decide +kernel
theorem dX2_present_0 : decode cX2_present 0 = .ok (.aload_n 0, 1) := by decide +kernel
theorem dX2_present_1 : decode cX2_present 1 = .ok (.iload_n 1, 1) := by decide +kernel
theorem dX2_present_2 : decode cX2_present 2 = .ok (.invokevirtual 66, 3) := by decide +kernel
theorem dX2_present_5 : decode cX2_present 5 = .ok (.astore_n 2, 1) := by decide +kernel
theorem dX2_present_6 : decode cX2_present 6 = .ok (.aload_n 2, 1) := by decide +kernel
theorem dX2_present_7 : decode cX2_present 7 = .ok (.ifnull 14, 3) := by decide +kernel
theorem dX2_present_10 : decode cX2_present 10 = .ok (.aload_n 2, 1) := by decide +kernel
theorem dX2_present_11 : decode cX2_present 11 = .ok (.getfield 70, 3) := by decide +kernel
theorem dX2_present_14 : decode cX2_present 14 = .ok (.ifCond .ne 7, 3) := by decide +kernel
theorem dX2_present_17 : decode cX2_present 17 = .ok (.aload_n 2, 1) := by decide +kernel
theorem dX2_present_18 : decode cX2_present 18 = .ok (.goto 4, 3) := by decide +kernel
theorem dX2_present_21 : decode cX2_present 21 = .ok (.aconst_null, 1) := by decide +kernel
theorem dX2_present_22 : decode cX2_present 22 = .ok (.areturn, 1) := by decide +kernel
theorem dX2_wallOf_0 : decode cX2_wallOf 0 = .ok (.aload_n 0, 1) := by decide +kernel
theorem dX2_wallOf_1 : decode cX2_wallOf 1 = .ok (.aload_n 0, 1) := by decide +kernel
theorem dX2_wallOf_2 : decode cX2_wallOf 2 = .ok (.getfield 43, 3) := by decide +kernel
theorem dX2_wallOf_5 : decode cX2_wallOf 5 = .ok (.aload_n 1, 1) := by decide +kernel
theorem dX2_wallOf_6 : decode cX2_wallOf 6 = .ok (.getfield 73, 3) := by decide +kernel
theorem dX2_wallOf_9 : decode cX2_wallOf 9 = .ok (.invokevirtual 76, 3) := by decide +kernel
theorem dX2_wallOf_12 : decode cX2_wallOf 12 = .ok (.invokevirtual 80, 3) := by decide +kernel
theorem dX2_wallOf_15 : decode cX2_wallOf 15 = .ok (.areturn, 1) := by decide +kernel
theorem dX2_stateOf_0 : decode cX2_stateOf 0 = .ok (.aload_n 1, 1) := by decide +kernel
theorem dX2_stateOf_1 : decode cX2_stateOf 1 = .ok (.getfield 70, 3) := by decide +kernel
theorem dX2_stateOf_4 : decode cX2_stateOf 4 = .ok (.ifCond .eq 10, 3) := by decide +kernel
theorem dX2_stateOf_7 : decode cX2_stateOf 7 = .ok (.aload_n 1, 1) := by decide +kernel
theorem dX2_stateOf_8 : decode cX2_stateOf 8 = .ok (.getfield 70, 3) := by decide +kernel
theorem dX2_stateOf_11 : decode cX2_stateOf 11 = .ok (.goto 22, 3) := by decide +kernel
theorem dX2_stateOf_14 : decode cX2_stateOf 14 = .ok (.aload_n 0, 1) := by decide +kernel
theorem dX2_stateOf_15 : decode cX2_stateOf 15 = .ok (.getfield 43, 3) := by decide +kernel
theorem dX2_stateOf_18 : decode cX2_stateOf 18 = .ok (.aload_n 1, 1) := by decide +kernel
theorem dX2_stateOf_19 : decode cX2_stateOf 19 = .ok (.getfield 73, 3) := by decide +kernel
theorem dX2_stateOf_22 : decode cX2_stateOf 22 = .ok (.invokevirtual 84, 3) := by decide +kernel
theorem dX2_stateOf_25 : decode cX2_stateOf 25 = .ok (.ifCond .eq 7, 3) := by decide +kernel
theorem dX2_stateOf_28 : decode cX2_stateOf 28 = .ok (.iconst 1, 1) := by decide +kernel
theorem dX2_stateOf_29 : decode cX2_stateOf 29 = .ok (.goto 4, 3) := by decide +kernel
theorem dX2_stateOf_32 : decode cX2_stateOf 32 = .ok (.iconst 0, 1) := by decide +kernel
theorem dX2_stateOf_33 : decode cX2_stateOf 33 = .ok (.ireturn, 1) := by decide +kernel
theorem dX2_part_0 : decode cX2_part 0 = .ok (.aload_n 0, 1) := by decide +kernel
theorem dX2_part_1 : decode cX2_part 1 = .ok (.aload_n 1, 1) := by decide +kernel
theorem dX2_part_2 : decode cX2_part 2 = .ok (.getfield 92, 3) := by decide +kernel
theorem dX2_part_5 : decode cX2_part 5 = .ok (.invokevirtual 66, 3) := by decide +kernel
theorem dX2_part_8 : decode cX2_part 8 = .ok (.astore_n 2, 1) := by decide +kernel
theorem dX2_part_9 : decode cX2_part 9 = .ok (.aload_n 2, 1) := by decide +kernel
theorem dX2_part_10 : decode cX2_part 10 = .ok (.ifnull 8, 3) := by decide +kernel
theorem dX2_part_13 : decode cX2_part 13 = .ok (.aload_n 2, 1) := by decide +kernel
theorem dX2_part_14 : decode cX2_part 14 = .ok (.iconst (-1), 1) := by decide +kernel
theorem dX2_part_15 : decode cX2_part 15 = .ok (.putfield 92, 3) := by decide +kernel
theorem dX2_part_18 : decode cX2_part 18 = .ok (.aload_n 1, 1) := by decide +kernel
theorem dX2_part_19 : decode cX2_part 19 = .ok (.iconst (-1), 1) := by decide +kernel
theorem dX2_part_20 : decode cX2_part 20 = .ok (.putfield 92, 3) := by decide +kernel
theorem dX2_part_23 : decode cX2_part 23 = .ok (.return_, 1) := by decide +kernel
theorem dX2_pair_0 : decode cX2_pair 0 = .ok (.aload_n 0, 1) := by decide +kernel
theorem dX2_pair_1 : decode cX2_pair 1 = .ok (.aload_n 1, 1) := by decide +kernel
theorem dX2_pair_2 : decode cX2_pair 2 = .ok (.invokevirtual 88, 3) := by decide +kernel
theorem dX2_pair_5 : decode cX2_pair 5 = .ok (.aload_n 2, 1) := by decide +kernel
theorem dX2_pair_6 : decode cX2_pair 6 = .ok (.ifnull 24, 3) := by decide +kernel
theorem dX2_pair_9 : decode cX2_pair 9 = .ok (.aload_n 0, 1) := by decide +kernel
theorem dX2_pair_10 : decode cX2_pair 10 = .ok (.aload_n 2, 1) := by decide +kernel
theorem dX2_pair_11 : decode cX2_pair 11 = .ok (.invokevirtual 88, 3) := by decide +kernel
theorem dX2_pair_14 : decode cX2_pair 14 = .ok (.aload_n 1, 1) := by decide +kernel
theorem dX2_pair_15 : decode cX2_pair 15 = .ok (.aload_n 2, 1) := by decide +kernel
theorem dX2_pair_16 : decode cX2_pair 16 = .ok (.getfield 73, 3) := by decide +kernel
theorem dX2_pair_19 : decode cX2_pair 19 = .ok (.putfield 92, 3) := by decide +kernel
theorem dX2_pair_22 : decode cX2_pair 22 = .ok (.aload_n 2, 1) := by decide +kernel
theorem dX2_pair_23 : decode cX2_pair 23 = .ok (.aload_n 1, 1) := by decide +kernel
theorem dX2_pair_24 : decode cX2_pair 24 = .ok (.getfield 73, 3) := by decide +kernel
theorem dX2_pair_27 : decode cX2_pair 27 = .ok (.putfield 92, 3) := by decide +kernel
theorem dX2_pair_30 : decode cX2_pair 30 = .ok (.return_, 1) := by decide +kernel
theorem dX10_lightIn_0 : decode cX10_lightIn 0 = .ok (.iload_n 1, 1) := by decide +kernel
theorem dX10_lightIn_1 : decode cX10_lightIn 1 = .ok (.ifCond .lt 25, 3) := by decide +kernel
theorem dX10_lightIn_4 : decode cX10_lightIn 4 = .ok (.iload_n 1, 1) := by decide +kernel
theorem dX10_lightIn_5 : decode cX10_lightIn 5 = .ok (.bipush 24, 2) := by decide +kernel
theorem dX10_lightIn_7 : decode cX10_lightIn 7 = .ok (.if_icmp .ge 19, 3) := by decide +kernel
theorem dX10_lightIn_10 : decode cX10_lightIn 10 = .ok (.iload_n 1, 1) := by decide +kernel
theorem dX10_lightIn_11 : decode cX10_lightIn 11 = .ok (.aload_n 0, 1) := by decide +kernel
theorem dX10_lightIn_12 : decode cX10_lightIn 12 = .ok (.getfield 15, 3) := by decide +kernel
theorem dX10_lightIn_15 : decode cX10_lightIn 15 = .ok (.if_icmp .lt 15, 3) := by decide +kernel
theorem dX10_lightIn_18 : decode cX10_lightIn 18 = .ok (.iload_n 1, 1) := by decide +kernel
theorem dX10_lightIn_19 : decode cX10_lightIn 19 = .ok (.aload_n 0, 1) := by decide +kernel
theorem dX10_lightIn_20 : decode cX10_lightIn 20 = .ok (.getfield 19, 3) := by decide +kernel
theorem dX10_lightIn_23 : decode cX10_lightIn 23 = .ok (.if_icmp .gt 7, 3) := by decide +kernel
theorem dX10_lightIn_26 : decode cX10_lightIn 26 = .ok (.iconst 1, 1) := by decide +kernel
theorem dX10_lightIn_27 : decode cX10_lightIn 27 = .ok (.goto 4, 3) := by decide +kernel
theorem dX10_lightIn_30 : decode cX10_lightIn 30 = .ok (.iconst 0, 1) := by decide +kernel
theorem dX10_lightIn_31 : decode cX10_lightIn 31 = .ok (.istore_n 2, 1) := by decide +kernel
theorem dX10_lightIn_32 : decode cX10_lightIn 32 = .ok (.iload_n 2, 1) := by decide +kernel
theorem dX10_lightIn_33 : decode cX10_lightIn 33 = .ok (.ifCond .eq 7, 3) := by decide +kernel
theorem dX10_lightIn_36 : decode cX10_lightIn 36 = .ok (.iconst 0, 1) := by decide +kernel
theorem dX10_lightIn_37 : decode cX10_lightIn 37 = .ok (.goto 9, 3) := by decide +kernel
theorem dX10_lightIn_40 : decode cX10_lightIn 40 = .ok (.aload_n 0, 1) := by decide +kernel
theorem dX10_lightIn_41 : decode cX10_lightIn 41 = .ok (.getfield 9, 3) := by decide +kernel
theorem dX10_lightIn_44 : decode cX10_lightIn 44 = .ok (.iload_n 1, 1) := by decide +kernel
theorem dX10_lightIn_45 : decode cX10_lightIn 45 = .ok (.iaload, 1) := by decide +kernel
theorem dX10_lightIn_46 : decode cX10_lightIn 46 = .ok (.ireturn, 1) := by decide +kernel
theorem dX2_daylight_0 : decode cX2_daylight 0 = .ok (.iconst 0, 1) := by decide +kernel
theorem dX2_daylight_1 : decode cX2_daylight 1 = .ok (.istore_n 2, 1) := by decide +kernel
theorem dX2_daylight_2 : decode cX2_daylight 2 = .ok (.aload_n 0, 1) := by decide +kernel
theorem dX2_daylight_3 : decode cX2_daylight 3 = .ok (.getfield 24, 3) := by decide +kernel
theorem dX2_daylight_6 : decode cX2_daylight 6 = .ok (.iconst 2, 1) := by decide +kernel
theorem dX2_daylight_7 : decode cX2_daylight 7 = .ok (.iaload, 1) := by decide +kernel
theorem dX2_daylight_8 : decode cX2_daylight 8 = .ok (.istore_n 3, 1) := by decide +kernel
theorem dX2_daylight_9 : decode cX2_daylight 9 = .ok (.iload_n 3, 1) := by decide +kernel
theorem dX2_daylight_10 : decode cX2_daylight 10 = .ok (.aload_n 0, 1) := by decide +kernel
theorem dX2_daylight_11 : decode cX2_daylight 11 = .ok (.getfield 24, 3) := by decide +kernel
theorem dX2_daylight_14 : decode cX2_daylight 14 = .ok (.iconst 3, 1) := by decide +kernel
theorem dX2_daylight_15 : decode cX2_daylight 15 = .ok (.iaload, 1) := by decide +kernel
theorem dX2_daylight_16 : decode cX2_daylight 16 = .ok (.if_icmp .gt 17, 3) := by decide +kernel
theorem dX2_daylight_19 : decode cX2_daylight 19 = .ok (.iload_n 2, 1) := by decide +kernel
theorem dX2_daylight_20 : decode cX2_daylight 20 = .ok (.aload_n 1, 1) := by decide +kernel
theorem dX2_daylight_21 : decode cX2_daylight 21 = .ok (.iload_n 3, 1) := by decide +kernel
theorem dX2_daylight_22 : decode cX2_daylight 22 = .ok (.invokevirtual 95, 3) := by decide +kernel
theorem dX2_daylight_25 : decode cX2_daylight 25 = .ok (.iadd, 1) := by decide +kernel
theorem dX2_daylight_26 : decode cX2_daylight 26 = .ok (.istore_n 2, 1) := by decide +kernel
theorem dX2_daylight_27 : decode cX2_daylight 27 = .ok (.iinc 3 1, 3) := by decide +kernel
theorem dX2_daylight_30 : decode cX2_daylight 30 = .ok (.goto (-21), 3) := by decide +kernel
theorem dX2_daylight_33 : decode cX2_daylight 33 = .ok (.iload_n 2, 1) := by decide +kernel
theorem dX2_daylight_34 : decode cX2_daylight 34 = .ok (.ireturn, 1) := by decide +kernel
theorem dX2_peak_0 : decode cX2_peak 0 = .ok (.iconst 0, 1) := by decide +kernel
theorem dX2_peak_1 : decode cX2_peak 1 = .ok (.istore_n 2, 1) := by decide +kernel
theorem dX2_peak_2 : decode cX2_peak 2 = .ok (.aload_n 0, 1) := by decide +kernel
theorem dX2_peak_3 : decode cX2_peak 3 = .ok (.getfield 24, 3) := by decide +kernel
theorem dX2_peak_6 : decode cX2_peak 6 = .ok (.iconst 2, 1) := by decide +kernel
theorem dX2_peak_7 : decode cX2_peak 7 = .ok (.iaload, 1) := by decide +kernel
theorem dX2_peak_8 : decode cX2_peak 8 = .ok (.istore_n 3, 1) := by decide +kernel
theorem dX2_peak_9 : decode cX2_peak 9 = .ok (.iload_n 3, 1) := by decide +kernel
theorem dX2_peak_10 : decode cX2_peak 10 = .ok (.aload_n 0, 1) := by decide +kernel
theorem dX2_peak_11 : decode cX2_peak 11 = .ok (.getfield 24, 3) := by decide +kernel
theorem dX2_peak_14 : decode cX2_peak 14 = .ok (.iconst 3, 1) := by decide +kernel
theorem dX2_peak_15 : decode cX2_peak 15 = .ok (.iaload, 1) := by decide +kernel
theorem dX2_peak_16 : decode cX2_peak 16 = .ok (.if_icmp .gt 19, 3) := by decide +kernel
theorem dX2_peak_19 : decode cX2_peak 19 = .ok (.iload_n 2, 1) := by decide +kernel
theorem dX2_peak_20 : decode cX2_peak 20 = .ok (.aload_n 1, 1) := by decide +kernel
theorem dX2_peak_21 : decode cX2_peak 21 = .ok (.iload_n 3, 1) := by decide +kernel
theorem dX2_peak_22 : decode cX2_peak 22 = .ok (.invokevirtual 95, 3) := by decide +kernel
theorem dX2_peak_25 : decode cX2_peak 25 = .ok (.invokestatic 98, 3) := by decide +kernel
theorem dX2_peak_28 : decode cX2_peak 28 = .ok (.istore_n 2, 1) := by decide +kernel
theorem dX2_peak_29 : decode cX2_peak 29 = .ok (.iinc 3 1, 3) := by decide +kernel
theorem dX2_peak_32 : decode cX2_peak 32 = .ok (.goto (-23), 3) := by decide +kernel
theorem dX2_peak_35 : decode cX2_peak 35 = .ok (.iload_n 2, 1) := by decide +kernel
theorem dX2_peak_36 : decode cX2_peak 36 = .ok (.ireturn, 1) := by decide +kernel
theorem dX2_weightOn_0 : decode cX2_weightOn 0 = .ok (.iconst 0, 1) := by decide +kernel
theorem dX2_weightOn_1 : decode cX2_weightOn 1 = .ok (.istore_n 2, 1) := by decide +kernel
theorem dX2_weightOn_2 : decode cX2_weightOn 2 = .ok (.iconst 0, 1) := by decide +kernel
theorem dX2_weightOn_3 : decode cX2_weightOn 3 = .ok (.istore_n 3, 1) := by decide +kernel
theorem dX2_weightOn_4 : decode cX2_weightOn 4 = .ok (.iload_n 3, 1) := by decide +kernel
theorem dX2_weightOn_5 : decode cX2_weightOn 5 = .ok (.aload_n 0, 1) := by decide +kernel
theorem dX2_weightOn_6 : decode cX2_weightOn 6 = .ok (.getfield 21, 3) := by decide +kernel
theorem dX2_weightOn_9 : decode cX2_weightOn 9 = .ok (.invokevirtual 54, 3) := by decide +kernel
theorem dX2_weightOn_12 : decode cX2_weightOn 12 = .ok (.if_icmp .ge 45, 3) := by decide +kernel
theorem dX2_weightOn_15 : decode cX2_weightOn 15 = .ok (.iload_n 2, 1) := by decide +kernel
theorem dX2_weightOn_16 : decode cX2_weightOn 16 = .ok (.aload_n 0, 1) := by decide +kernel
theorem dX2_weightOn_17 : decode cX2_weightOn 17 = .ok (.getfield 43, 3) := by decide +kernel
theorem dX2_weightOn_20 : decode cX2_weightOn 20 = .ok (.iload_n 3, 1) := by decide +kernel
theorem dX2_weightOn_21 : decode cX2_weightOn 21 = .ok (.invokevirtual 76, 3) := by decide +kernel
theorem dX2_weightOn_24 : decode cX2_weightOn 24 = .ok (.aload_n 1, 1) := by decide +kernel
theorem dX2_weightOn_25 : decode cX2_weightOn 25 = .ok (.getfield 104, 3) := by decide +kernel
theorem dX2_weightOn_28 : decode cX2_weightOn 28 = .ok (.if_icmp .ne 20, 3) := by decide +kernel
theorem dX2_weightOn_31 : decode cX2_weightOn 31 = .ok (.aload_n 0, 1) := by decide +kernel
theorem dX2_weightOn_32 : decode cX2_weightOn 32 = .ok (.getfield 21, 3) := by decide +kernel
theorem dX2_weightOn_35 : decode cX2_weightOn 35 = .ok (.iload_n 3, 1) := by decide +kernel
theorem dX2_weightOn_36 : decode cX2_weightOn 36 = .ok (.invokevirtual 58, 3) := by decide +kernel
theorem dX2_weightOn_39 : decode cX2_weightOn 39 = .ok (.checkcast 64, 3) := by decide +kernel
theorem dX2_weightOn_42 : decode cX2_weightOn 42 = .ok (.getfield 105, 3) := by decide +kernel
theorem dX2_weightOn_45 : decode cX2_weightOn 45 = .ok (.goto 4, 3) := by decide +kernel
theorem dX2_weightOn_48 : decode cX2_weightOn 48 = .ok (.iconst 0, 1) := by decide +kernel
theorem dX2_weightOn_49 : decode cX2_weightOn 49 = .ok (.iadd, 1) := by decide +kernel
theorem dX2_weightOn_50 : decode cX2_weightOn 50 = .ok (.istore_n 2, 1) := by decide +kernel
theorem dX2_weightOn_51 : decode cX2_weightOn 51 = .ok (.iinc 3 1, 3) := by decide +kernel
theorem dX2_weightOn_54 : decode cX2_weightOn 54 = .ok (.goto (-50), 3) := by decide +kernel
theorem dX2_weightOn_57 : decode cX2_weightOn 57 = .ok (.iload_n 2, 1) := by decide +kernel
theorem dX2_weightOn_58 : decode cX2_weightOn 58 = .ok (.ireturn, 1) := by decide +kernel
theorem dX2_widthOn_0 : decode cX2_widthOn 0 = .ok (.iconst 0, 1) := by decide +kernel
theorem dX2_widthOn_1 : decode cX2_widthOn 1 = .ok (.istore_n 2, 1) := by decide +kernel
theorem dX2_widthOn_2 : decode cX2_widthOn 2 = .ok (.iconst 0, 1) := by decide +kernel
theorem dX2_widthOn_3 : decode cX2_widthOn 3 = .ok (.istore_n 3, 1) := by decide +kernel
theorem dX2_widthOn_4 : decode cX2_widthOn 4 = .ok (.iload_n 3, 1) := by decide +kernel
theorem dX2_widthOn_5 : decode cX2_widthOn 5 = .ok (.aload_n 0, 1) := by decide +kernel
theorem dX2_widthOn_6 : decode cX2_widthOn 6 = .ok (.getfield 21, 3) := by decide +kernel
theorem dX2_widthOn_9 : decode cX2_widthOn 9 = .ok (.invokevirtual 54, 3) := by decide +kernel
theorem dX2_widthOn_12 : decode cX2_widthOn 12 = .ok (.if_icmp .ge 45, 3) := by decide +kernel
theorem dX2_widthOn_15 : decode cX2_widthOn 15 = .ok (.iload_n 2, 1) := by decide +kernel
theorem dX2_widthOn_16 : decode cX2_widthOn 16 = .ok (.aload_n 0, 1) := by decide +kernel
theorem dX2_widthOn_17 : decode cX2_widthOn 17 = .ok (.getfield 43, 3) := by decide +kernel
theorem dX2_widthOn_20 : decode cX2_widthOn 20 = .ok (.iload_n 3, 1) := by decide +kernel
theorem dX2_widthOn_21 : decode cX2_widthOn 21 = .ok (.invokevirtual 76, 3) := by decide +kernel
theorem dX2_widthOn_24 : decode cX2_widthOn 24 = .ok (.aload_n 1, 1) := by decide +kernel
theorem dX2_widthOn_25 : decode cX2_widthOn 25 = .ok (.getfield 104, 3) := by decide +kernel
theorem dX2_widthOn_28 : decode cX2_widthOn 28 = .ok (.if_icmp .ne 20, 3) := by decide +kernel
theorem dX2_widthOn_31 : decode cX2_widthOn 31 = .ok (.aload_n 0, 1) := by decide +kernel
theorem dX2_widthOn_32 : decode cX2_widthOn 32 = .ok (.getfield 21, 3) := by decide +kernel
theorem dX2_widthOn_35 : decode cX2_widthOn 35 = .ok (.iload_n 3, 1) := by decide +kernel
theorem dX2_widthOn_36 : decode cX2_widthOn 36 = .ok (.invokevirtual 58, 3) := by decide +kernel
theorem dX2_widthOn_39 : decode cX2_widthOn 39 = .ok (.checkcast 64, 3) := by decide +kernel
theorem dX2_widthOn_42 : decode cX2_widthOn 42 = .ok (.getfield 108, 3) := by decide +kernel
theorem dX2_widthOn_45 : decode cX2_widthOn 45 = .ok (.goto 4, 3) := by decide +kernel
theorem dX2_widthOn_48 : decode cX2_widthOn 48 = .ok (.iconst 0, 1) := by decide +kernel
theorem dX2_widthOn_49 : decode cX2_widthOn 49 = .ok (.iadd, 1) := by decide +kernel
theorem dX2_widthOn_50 : decode cX2_widthOn 50 = .ok (.istore_n 2, 1) := by decide +kernel
theorem dX2_widthOn_51 : decode cX2_widthOn 51 = .ok (.iinc 3 1, 3) := by decide +kernel
theorem dX2_widthOn_54 : decode cX2_widthOn 54 = .ok (.goto (-50), 3) := by decide +kernel
theorem dX2_widthOn_57 : decode cX2_widthOn 57 = .ok (.iload_n 2, 1) := by decide +kernel
theorem dX2_widthOn_58 : decode cX2_widthOn 58 = .ok (.ireturn, 1) := by decide +kernel
theorem dX2_tooHigh_0 : decode cX2_tooHigh 0 = .ok (.aload_n 0, 1) := by decide +kernel
theorem dX2_tooHigh_1 : decode cX2_tooHigh 1 = .ok (.getfield 24, 3) := by decide +kernel
theorem dX2_tooHigh_4 : decode cX2_tooHigh 4 = .ok (.iconst 0, 1) := by decide +kernel
theorem dX2_tooHigh_5 : decode cX2_tooHigh 5 = .ok (.iaload, 1) := by decide +kernel
theorem dX2_tooHigh_6 : decode cX2_tooHigh 6 = .ok (.istore_n 3, 1) := by decide +kernel
theorem dX2_tooHigh_7 : decode cX2_tooHigh 7 = .ok (.aload_n 1, 1) := by decide +kernel
theorem dX2_tooHigh_8 : decode cX2_tooHigh 8 = .ok (.getfield 111, 3) := by decide +kernel
theorem dX2_tooHigh_11 : decode cX2_tooHigh 11 = .ok (.iconst 2, 1) := by decide +kernel
theorem dX2_tooHigh_12 : decode cX2_tooHigh 12 = .ok (.iload_n 3, 1) := by decide +kernel
theorem dX2_tooHigh_13 : decode cX2_tooHigh 13 = .ok (.imul, 1) := by decide +kernel
theorem dX2_tooHigh_14 : decode cX2_tooHigh 14 = .ok (.if_icmp .gt 18, 3) := by decide +kernel
theorem dX2_tooHigh_17 : decode cX2_tooHigh 17 = .ok (.aload_n 1, 1) := by decide +kernel
theorem dX2_tooHigh_18 : decode cX2_tooHigh 18 = .ok (.getfield 111, 3) := by decide +kernel
theorem dX2_tooHigh_21 : decode cX2_tooHigh 21 = .ok (.iconst 2, 1) := by decide +kernel
theorem dX2_tooHigh_22 : decode cX2_tooHigh 22 = .ok (.aload_n 2, 1) := by decide +kernel
theorem dX2_tooHigh_23 : decode cX2_tooHigh 23 = .ok (.getfield 114, 3) := by decide +kernel
theorem dX2_tooHigh_26 : decode cX2_tooHigh 26 = .ok (.iload_n 3, 1) := by decide +kernel
theorem dX2_tooHigh_27 : decode cX2_tooHigh 27 = .ok (.isub, 1) := by decide +kernel
theorem dX2_tooHigh_28 : decode cX2_tooHigh 28 = .ok (.imul, 1) := by decide +kernel
theorem dX2_tooHigh_29 : decode cX2_tooHigh 29 = .ok (.if_icmp .le 7, 3) := by decide +kernel
theorem dX2_tooHigh_32 : decode cX2_tooHigh 32 = .ok (.iconst 1, 1) := by decide +kernel
theorem dX2_tooHigh_33 : decode cX2_tooHigh 33 = .ok (.goto 4, 3) := by decide +kernel
theorem dX2_tooHigh_36 : decode cX2_tooHigh 36 = .ok (.iconst 0, 1) := by decide +kernel
theorem dX2_tooHigh_37 : decode cX2_tooHigh 37 = .ok (.ireturn, 1) := by decide +kernel
theorem dX2_hindrance_0 : decode cX2_hindrance 0 = .ok (.iload 4, 2) := by decide +kernel
theorem dX2_hindrance_2 : decode cX2_hindrance 2 = .ok (.ifCond .lt 17, 3) := by decide +kernel
theorem dX2_hindrance_5 : decode cX2_hindrance 5 = .ok (.iload 4, 2) := by decide +kernel
theorem dX2_hindrance_7 : decode cX2_hindrance 7 = .ok (.aload_n 3, 1) := by decide +kernel
theorem dX2_hindrance_8 : decode cX2_hindrance 8 = .ok (.getfield 115, 3) := by decide +kernel
theorem dX2_hindrance_11 : decode cX2_hindrance 11 = .ok (.aload_n 2, 1) := by decide +kernel
theorem dX2_hindrance_12 : decode cX2_hindrance 12 = .ok (.getfield 108, 3) := by decide +kernel
theorem dX2_hindrance_15 : decode cX2_hindrance 15 = .ok (.isub, 1) := by decide +kernel
theorem dX2_hindrance_16 : decode cX2_hindrance 16 = .ok (.if_icmp .le 5, 3) := by decide +kernel
theorem dX2_hindrance_19 : decode cX2_hindrance 19 = .ok (.iconst 1, 1) := by decide +kernel
theorem dX2_hindrance_20 : decode cX2_hindrance 20 = .ok (.ireturn, 1) := by decide +kernel
theorem dX2_hindrance_21 : decode cX2_hindrance 21 = .ok (.aload_n 0, 1) := by decide +kernel
theorem dX2_hindrance_22 : decode cX2_hindrance 22 = .ok (.aload_n 2, 1) := by decide +kernel
theorem dX2_hindrance_23 : decode cX2_hindrance 23 = .ok (.aload_n 3, 1) := by decide +kernel
theorem dX2_hindrance_24 : decode cX2_hindrance 24 = .ok (.invokevirtual 118, 3) := by decide +kernel
theorem dX2_hindrance_27 : decode cX2_hindrance 27 = .ok (.ifCond .eq 5, 3) := by decide +kernel
theorem dX2_hindrance_30 : decode cX2_hindrance 30 = .ok (.iconst 2, 1) := by decide +kernel
theorem dX2_hindrance_31 : decode cX2_hindrance 31 = .ok (.ireturn, 1) := by decide +kernel
theorem dX2_hindrance_32 : decode cX2_hindrance 32 = .ok (.aload_n 0, 1) := by decide +kernel
theorem dX2_hindrance_33 : decode cX2_hindrance 33 = .ok (.getfield 24, 3) := by decide +kernel
theorem dX2_hindrance_36 : decode cX2_hindrance 36 = .ok (.iconst 1, 1) := by decide +kernel
theorem dX2_hindrance_37 : decode cX2_hindrance 37 = .ok (.iaload, 1) := by decide +kernel
theorem dX2_hindrance_38 : decode cX2_hindrance 38 = .ok (.istore 5, 2) := by decide +kernel
theorem dX2_hindrance_40 : decode cX2_hindrance 40 = .ok (.aload_n 2, 1) := by decide +kernel
theorem dX2_hindrance_41 : decode cX2_hindrance 41 = .ok (.getfield 105, 3) := by decide +kernel
theorem dX2_hindrance_44 : decode cX2_hindrance 44 = .ok (.istore 6, 2) := by decide +kernel
theorem dX2_hindrance_46 : decode cX2_hindrance 46 = .ok (.iconst 0, 1) := by decide +kernel
theorem dX2_hindrance_47 : decode cX2_hindrance 47 = .ok (.istore 7, 2) := by decide +kernel
theorem dX2_hindrance_49 : decode cX2_hindrance 49 = .ok (.iload 7, 2) := by decide +kernel
theorem dX2_hindrance_51 : decode cX2_hindrance 51 = .ok (.aload_n 0, 1) := by decide +kernel
theorem dX2_hindrance_52 : decode cX2_hindrance 52 = .ok (.getfield 21, 3) := by decide +kernel
theorem dX2_hindrance_55 : decode cX2_hindrance 55 = .ok (.invokevirtual 54, 3) := by decide +kernel
theorem dX2_hindrance_58 : decode cX2_hindrance 58 = .ok (.if_icmp .ge 99, 3) := by decide +kernel
theorem dX2_hindrance_61 : decode cX2_hindrance 61 = .ok (.iload 7, 2) := by decide +kernel
theorem dX2_hindrance_63 : decode cX2_hindrance 63 = .ok (.aload_n 2, 1) := by decide +kernel
theorem dX2_hindrance_64 : decode cX2_hindrance 64 = .ok (.getfield 73, 3) := by decide +kernel
theorem dX2_hindrance_67 : decode cX2_hindrance 67 = .ok (.if_icmp .eq 84, 3) := by decide +kernel
theorem dX2_hindrance_70 : decode cX2_hindrance 70 = .ok (.aload_n 1, 1) := by decide +kernel
theorem dX2_hindrance_71 : decode cX2_hindrance 71 = .ok (.iload 7, 2) := by decide +kernel
theorem dX2_hindrance_73 : decode cX2_hindrance 73 = .ok (.invokevirtual 76, 3) := by decide +kernel
theorem dX2_hindrance_76 : decode cX2_hindrance 76 = .ok (.aload_n 3, 1) := by decide +kernel
theorem dX2_hindrance_77 : decode cX2_hindrance 77 = .ok (.getfield 104, 3) := by decide +kernel
theorem dX2_hindrance_80 : decode cX2_hindrance 80 = .ok (.if_icmp .eq 6, 3) := by decide +kernel
theorem dX2_hindrance_83 : decode cX2_hindrance 83 = .ok (.goto 68, 3) := by decide +kernel
theorem dX2_hindrance_86 : decode cX2_hindrance 86 = .ok (.aload_n 0, 1) := by decide +kernel
theorem dX2_hindrance_87 : decode cX2_hindrance 87 = .ok (.getfield 21, 3) := by decide +kernel
theorem dX2_hindrance_90 : decode cX2_hindrance 90 = .ok (.iload 7, 2) := by decide +kernel
theorem dX2_hindrance_92 : decode cX2_hindrance 92 = .ok (.invokevirtual 58, 3) := by decide +kernel
theorem dX2_hindrance_95 : decode cX2_hindrance 95 = .ok (.checkcast 64, 3) := by decide +kernel
theorem dX2_hindrance_98 : decode cX2_hindrance 98 = .ok (.astore 8, 2) := by decide +kernel
theorem dX2_hindrance_100 : decode cX2_hindrance 100 = .ok (.aload_n 1, 1) := by decide +kernel
theorem dX2_hindrance_101 : decode cX2_hindrance 101 = .ok (.iload 7, 2) := by decide +kernel
theorem dX2_hindrance_103 : decode cX2_hindrance 103 = .ok (.invokevirtual 122, 3) := by decide +kernel
theorem dX2_hindrance_106 : decode cX2_hindrance 106 = .ok (.istore 9, 2) := by decide +kernel
theorem dX2_hindrance_108 : decode cX2_hindrance 108 = .ok (.iload 4, 2) := by decide +kernel
theorem dX2_hindrance_110 : decode cX2_hindrance 110 = .ok (.iload 9, 2) := by decide +kernel
theorem dX2_hindrance_112 : decode cX2_hindrance 112 = .ok (.aload 8, 2) := by decide +kernel
theorem dX2_hindrance_114 : decode cX2_hindrance 114 = .ok (.getfield 108, 3) := by decide +kernel
theorem dX2_hindrance_117 : decode cX2_hindrance 117 = .ok (.iadd, 1) := by decide +kernel
theorem dX2_hindrance_118 : decode cX2_hindrance 118 = .ok (.iload 5, 2) := by decide +kernel
theorem dX2_hindrance_120 : decode cX2_hindrance 120 = .ok (.iadd, 1) := by decide +kernel
theorem dX2_hindrance_121 : decode cX2_hindrance 121 = .ok (.if_icmp .ge 20, 3) := by decide +kernel
theorem dX2_hindrance_124 : decode cX2_hindrance 124 = .ok (.iload 9, 2) := by decide +kernel
theorem dX2_hindrance_126 : decode cX2_hindrance 126 = .ok (.iload 4, 2) := by decide +kernel
theorem dX2_hindrance_128 : decode cX2_hindrance 128 = .ok (.aload_n 2, 1) := by decide +kernel
theorem dX2_hindrance_129 : decode cX2_hindrance 129 = .ok (.getfield 108, 3) := by decide +kernel
theorem dX2_hindrance_132 : decode cX2_hindrance 132 = .ok (.iadd, 1) := by decide +kernel
theorem dX2_hindrance_133 : decode cX2_hindrance 133 = .ok (.iload 5, 2) := by decide +kernel
theorem dX2_hindrance_135 : decode cX2_hindrance 135 = .ok (.iadd, 1) := by decide +kernel
theorem dX2_hindrance_136 : decode cX2_hindrance 136 = .ok (.if_icmp .ge 5, 3) := by decide +kernel
theorem dX2_hindrance_139 : decode cX2_hindrance 139 = .ok (.iconst 3, 1) := by decide +kernel
theorem dX2_hindrance_140 : decode cX2_hindrance 140 = .ok (.ireturn, 1) := by decide +kernel
theorem dX2_hindrance_141 : decode cX2_hindrance 141 = .ok (.iload 6, 2) := by decide +kernel
theorem dX2_hindrance_143 : decode cX2_hindrance 143 = .ok (.aload 8, 2) := by decide +kernel
theorem dX2_hindrance_145 : decode cX2_hindrance 145 = .ok (.getfield 105, 3) := by decide +kernel
theorem dX2_hindrance_148 : decode cX2_hindrance 148 = .ok (.iadd, 1) := by decide +kernel
theorem dX2_hindrance_149 : decode cX2_hindrance 149 = .ok (.istore 6, 2) := by decide +kernel
theorem dX2_hindrance_151 : decode cX2_hindrance 151 = .ok (.iinc 7 1, 3) := by decide +kernel
theorem dX2_hindrance_154 : decode cX2_hindrance 154 = .ok (.goto (-105), 3) := by decide +kernel
theorem dX2_hindrance_157 : decode cX2_hindrance 157 = .ok (.iload 6, 2) := by decide +kernel
theorem dX2_hindrance_159 : decode cX2_hindrance 159 = .ok (.aload_n 3, 1) := by decide +kernel
theorem dX2_hindrance_160 : decode cX2_hindrance 160 = .ok (.getfield 125, 3) := by decide +kernel
theorem dX2_hindrance_163 : decode cX2_hindrance 163 = .ok (.if_icmp .le 7, 3) := by decide +kernel
theorem dX2_hindrance_166 : decode cX2_hindrance 166 = .ok (.iconst 4, 1) := by decide +kernel
theorem dX2_hindrance_167 : decode cX2_hindrance 167 = .ok (.goto 4, 3) := by decide +kernel
theorem dX2_hindrance_170 : decode cX2_hindrance 170 = .ok (.iconst 0, 1) := by decide +kernel
theorem dX2_hindrance_171 : decode cX2_hindrance 171 = .ok (.ireturn, 1) := by decide +kernel
theorem dX2_isIn_0 : decode cX2_isIn 0 = .ok (.aload_n 0, 1) := by decide +kernel
theorem dX2_isIn_1 : decode cX2_isIn 1 = .ok (.aload_n 1, 1) := by decide +kernel
theorem dX2_isIn_2 : decode cX2_isIn 2 = .ok (.iload_n 2, 1) := by decide +kernel
theorem dX2_isIn_3 : decode cX2_isIn 3 = .ok (.invokevirtual 76, 3) := by decide +kernel
theorem dX2_isIn_6 : decode cX2_isIn 6 = .ok (.invokevirtual 80, 3) := by decide +kernel
theorem dX2_isIn_9 : decode cX2_isIn 9 = .ok (.astore 4, 2) := by decide +kernel
theorem dX2_isIn_11 : decode cX2_isIn 11 = .ok (.aload 4, 2) := by decide +kernel
theorem dX2_isIn_13 : decode cX2_isIn 13 = .ok (.ifnull 16, 3) := by decide +kernel
theorem dX2_isIn_16 : decode cX2_isIn 16 = .ok (.aload 4, 2) := by decide +kernel
theorem dX2_isIn_18 : decode cX2_isIn 18 = .ok (.getfield 128, 3) := by decide +kernel
theorem dX2_isIn_21 : decode cX2_isIn 21 = .ok (.iload_n 3, 1) := by decide +kernel
theorem dX2_isIn_22 : decode cX2_isIn 22 = .ok (.if_icmp .ne 7, 3) := by decide +kernel
theorem dX2_isIn_25 : decode cX2_isIn 25 = .ok (.iconst 1, 1) := by decide +kernel
theorem dX2_isIn_26 : decode cX2_isIn 26 = .ok (.goto 4, 3) := by decide +kernel
theorem dX2_isIn_29 : decode cX2_isIn 29 = .ok (.iconst 0, 1) := by decide +kernel
theorem dX2_isIn_30 : decode cX2_isIn 30 = .ok (.ireturn, 1) := by decide +kernel
theorem dX2_meetsFoe_0 : decode cX2_meetsFoe 0 = .ok (.iconst 0, 1) := by decide +kernel
theorem dX2_meetsFoe_1 : decode cX2_meetsFoe 1 = .ok (.istore 4, 2) := by decide +kernel
theorem dX2_meetsFoe_3 : decode cX2_meetsFoe 3 = .ok (.iload 4, 2) := by decide +kernel
theorem dX2_meetsFoe_5 : decode cX2_meetsFoe 5 = .ok (.aload_n 0, 1) := by decide +kernel
theorem dX2_meetsFoe_6 : decode cX2_meetsFoe 6 = .ok (.getfield 21, 3) := by decide +kernel
theorem dX2_meetsFoe_9 : decode cX2_meetsFoe 9 = .ok (.invokevirtual 54, 3) := by decide +kernel
theorem dX2_meetsFoe_12 : decode cX2_meetsFoe 12 = .ok (.if_icmp .ge 65, 3) := by decide +kernel
theorem dX2_meetsFoe_15 : decode cX2_meetsFoe 15 = .ok (.aload_n 2, 1) := by decide +kernel
theorem dX2_meetsFoe_16 : decode cX2_meetsFoe 16 = .ok (.getfield 131, 3) := by decide +kernel
theorem dX2_meetsFoe_19 : decode cX2_meetsFoe 19 = .ok (.iload 4, 2) := by decide +kernel
theorem dX2_meetsFoe_21 : decode cX2_meetsFoe 21 = .ok (.if_icmp .eq 25, 3) := by decide +kernel
theorem dX2_meetsFoe_24 : decode cX2_meetsFoe 24 = .ok (.aload_n 0, 1) := by decide +kernel
theorem dX2_meetsFoe_25 : decode cX2_meetsFoe 25 = .ok (.getfield 21, 3) := by decide +kernel
theorem dX2_meetsFoe_28 : decode cX2_meetsFoe 28 = .ok (.iload 4, 2) := by decide +kernel
theorem dX2_meetsFoe_30 : decode cX2_meetsFoe 30 = .ok (.invokevirtual 58, 3) := by decide +kernel
theorem dX2_meetsFoe_33 : decode cX2_meetsFoe 33 = .ok (.checkcast 64, 3) := by decide +kernel
theorem dX2_meetsFoe_36 : decode cX2_meetsFoe 36 = .ok (.getfield 131, 3) := by decide +kernel
theorem dX2_meetsFoe_39 : decode cX2_meetsFoe 39 = .ok (.aload_n 2, 1) := by decide +kernel
theorem dX2_meetsFoe_40 : decode cX2_meetsFoe 40 = .ok (.getfield 73, 3) := by decide +kernel
theorem dX2_meetsFoe_43 : decode cX2_meetsFoe 43 = .ok (.if_icmp .ne 7, 3) := by decide +kernel
theorem dX2_meetsFoe_46 : decode cX2_meetsFoe 46 = .ok (.iconst 1, 1) := by decide +kernel
theorem dX2_meetsFoe_47 : decode cX2_meetsFoe 47 = .ok (.goto 4, 3) := by decide +kernel
theorem dX2_meetsFoe_50 : decode cX2_meetsFoe 50 = .ok (.iconst 0, 1) := by decide +kernel
theorem dX2_meetsFoe_51 : decode cX2_meetsFoe 51 = .ok (.istore 5, 2) := by decide +kernel
theorem dX2_meetsFoe_53 : decode cX2_meetsFoe 53 = .ok (.iload 5, 2) := by decide +kernel
theorem dX2_meetsFoe_55 : decode cX2_meetsFoe 55 = .ok (.ifCond .eq 16, 3) := by decide +kernel
theorem dX2_meetsFoe_58 : decode cX2_meetsFoe 58 = .ok (.aload_n 0, 1) := by decide +kernel
theorem dX2_meetsFoe_59 : decode cX2_meetsFoe 59 = .ok (.aload_n 1, 1) := by decide +kernel
theorem dX2_meetsFoe_60 : decode cX2_meetsFoe 60 = .ok (.iload 4, 2) := by decide +kernel
theorem dX2_meetsFoe_62 : decode cX2_meetsFoe 62 = .ok (.iload_n 3, 1) := by decide +kernel
theorem dX2_meetsFoe_63 : decode cX2_meetsFoe 63 = .ok (.invokevirtual 134, 3) := by decide +kernel
theorem dX2_meetsFoe_66 : decode cX2_meetsFoe 66 = .ok (.ifCond .eq 5, 3) := by decide +kernel
theorem dX2_meetsFoe_69 : decode cX2_meetsFoe 69 = .ok (.iconst 1, 1) := by decide +kernel
theorem dX2_meetsFoe_70 : decode cX2_meetsFoe 70 = .ok (.ireturn, 1) := by decide +kernel
theorem dX2_meetsFoe_71 : decode cX2_meetsFoe 71 = .ok (.iinc 4 1, 3) := by decide +kernel
theorem dX2_meetsFoe_74 : decode cX2_meetsFoe 74 = .ok (.goto (-71), 3) := by decide +kernel
theorem dX2_meetsFoe_77 : decode cX2_meetsFoe 77 = .ok (.iconst 0, 1) := by decide +kernel
theorem dX2_meetsFoe_78 : decode cX2_meetsFoe 78 = .ok (.ireturn, 1) := by decide +kernel
theorem dX2_othersIn_0 : decode cX2_othersIn 0 = .ok (.iconst 0, 1) := by decide +kernel
theorem dX2_othersIn_1 : decode cX2_othersIn 1 = .ok (.istore 4, 2) := by decide +kernel
theorem dX2_othersIn_3 : decode cX2_othersIn 3 = .ok (.iconst 0, 1) := by decide +kernel
theorem dX2_othersIn_4 : decode cX2_othersIn 4 = .ok (.istore 5, 2) := by decide +kernel
theorem dX2_othersIn_6 : decode cX2_othersIn 6 = .ok (.iload 5, 2) := by decide +kernel
theorem dX2_othersIn_8 : decode cX2_othersIn 8 = .ok (.aload_n 0, 1) := by decide +kernel
theorem dX2_othersIn_9 : decode cX2_othersIn 9 = .ok (.getfield 21, 3) := by decide +kernel
theorem dX2_othersIn_12 : decode cX2_othersIn 12 = .ok (.invokevirtual 54, 3) := by decide +kernel
theorem dX2_othersIn_15 : decode cX2_othersIn 15 = .ok (.if_icmp .ge 54, 3) := by decide +kernel
theorem dX2_othersIn_18 : decode cX2_othersIn 18 = .ok (.aload_n 0, 1) := by decide +kernel
theorem dX2_othersIn_19 : decode cX2_othersIn 19 = .ok (.aload_n 1, 1) := by decide +kernel
theorem dX2_othersIn_20 : decode cX2_othersIn 20 = .ok (.iload 5, 2) := by decide +kernel
theorem dX2_othersIn_22 : decode cX2_othersIn 22 = .ok (.invokevirtual 76, 3) := by decide +kernel
theorem dX2_othersIn_25 : decode cX2_othersIn 25 = .ok (.invokevirtual 80, 3) := by decide +kernel
theorem dX2_othersIn_28 : decode cX2_othersIn 28 = .ok (.astore 6, 2) := by decide +kernel
theorem dX2_othersIn_30 : decode cX2_othersIn 30 = .ok (.iload 4, 2) := by decide +kernel
theorem dX2_othersIn_32 : decode cX2_othersIn 32 = .ok (.iload 5, 2) := by decide +kernel
theorem dX2_othersIn_34 : decode cX2_othersIn 34 = .ok (.aload_n 2, 1) := by decide +kernel
theorem dX2_othersIn_35 : decode cX2_othersIn 35 = .ok (.getfield 73, 3) := by decide +kernel
theorem dX2_othersIn_38 : decode cX2_othersIn 38 = .ok (.if_icmp .eq 21, 3) := by decide +kernel
theorem dX2_othersIn_41 : decode cX2_othersIn 41 = .ok (.aload 6, 2) := by decide +kernel
theorem dX2_othersIn_43 : decode cX2_othersIn 43 = .ok (.ifnull 16, 3) := by decide +kernel
theorem dX2_othersIn_46 : decode cX2_othersIn 46 = .ok (.aload 6, 2) := by decide +kernel
theorem dX2_othersIn_48 : decode cX2_othersIn 48 = .ok (.getfield 128, 3) := by decide +kernel
theorem dX2_othersIn_51 : decode cX2_othersIn 51 = .ok (.iload_n 3, 1) := by decide +kernel
theorem dX2_othersIn_52 : decode cX2_othersIn 52 = .ok (.if_icmp .ne 7, 3) := by decide +kernel
theorem dX2_othersIn_55 : decode cX2_othersIn 55 = .ok (.iconst 1, 1) := by decide +kernel
theorem dX2_othersIn_56 : decode cX2_othersIn 56 = .ok (.goto 4, 3) := by decide +kernel
theorem dX2_othersIn_59 : decode cX2_othersIn 59 = .ok (.iconst 0, 1) := by decide +kernel
theorem dX2_othersIn_60 : decode cX2_othersIn 60 = .ok (.iadd, 1) := by decide +kernel
theorem dX2_othersIn_61 : decode cX2_othersIn 61 = .ok (.istore 4, 2) := by decide +kernel
theorem dX2_othersIn_63 : decode cX2_othersIn 63 = .ok (.iinc 5 1, 3) := by decide +kernel
theorem dX2_othersIn_66 : decode cX2_othersIn 66 = .ok (.goto (-60), 3) := by decide +kernel
theorem dX2_othersIn_69 : decode cX2_othersIn 69 = .ok (.iload 4, 2) := by decide +kernel
theorem dX2_othersIn_71 : decode cX2_othersIn 71 = .ok (.ireturn, 1) := by decide +kernel
theorem dX2_likingOf_0 : decode cX2_likingOf 0 = .ok (.aload_n 0, 1) := by decide +kernel
theorem dX2_likingOf_1 : decode cX2_likingOf 1 = .ok (.getfield 28, 3) := by decide +kernel
theorem dX2_likingOf_4 : decode cX2_likingOf 4 = .ok (.aload_n 1, 1) := by decide +kernel
theorem dX2_likingOf_5 : decode cX2_likingOf 5 = .ok (.getfield 138, 3) := by decide +kernel
theorem dX2_likingOf_8 : decode cX2_likingOf 8 = .ok (.bipush 8, 2) := by decide +kernel
theorem dX2_likingOf_10 : decode cX2_likingOf 10 = .ok (.imul, 1) := by decide +kernel
theorem dX2_likingOf_11 : decode cX2_likingOf 11 = .ok (.aload_n 2, 1) := by decide +kernel
theorem dX2_likingOf_12 : decode cX2_likingOf 12 = .ok (.getfield 138, 3) := by decide +kernel
theorem dX2_likingOf_15 : decode cX2_likingOf 15 = .ok (.iadd, 1) := by decide +kernel
theorem dX2_likingOf_16 : decode cX2_likingOf 16 = .ok (.iaload, 1) := by decide +kernel
theorem dX2_likingOf_17 : decode cX2_likingOf 17 = .ok (.ireturn, 1) := by decide +kernel
theorem dX2_likedAt_0 : decode cX2_likedAt 0 = .ok (.aload_n 0, 1) := by decide +kernel
theorem dX2_likedAt_1 : decode cX2_likedAt 1 = .ok (.aload_n 1, 1) := by decide +kernel
theorem dX2_likedAt_2 : decode cX2_likedAt 2 = .ok (.aload_n 2, 1) := by decide +kernel
theorem dX2_likedAt_3 : decode cX2_likedAt 3 = .ok (.getfield 73, 3) := by decide +kernel
theorem dX2_likedAt_6 : decode cX2_likedAt 6 = .ok (.aload_n 3, 1) := by decide +kernel
theorem dX2_likedAt_7 : decode cX2_likedAt 7 = .ok (.getfield 104, 3) := by decide +kernel
theorem dX2_likedAt_10 : decode cX2_likedAt 10 = .ok (.iload 4, 2) := by decide +kernel
theorem dX2_likedAt_12 : decode cX2_likedAt 12 = .ok (.invokevirtual 141, 3) := by decide +kernel
theorem dX2_likedAt_15 : decode cX2_likedAt 15 = .ok (.invokevirtual 66, 3) := by decide +kernel
theorem dX2_likedAt_18 : decode cX2_likedAt 18 = .ok (.astore 5, 2) := by decide +kernel
theorem dX2_likedAt_20 : decode cX2_likedAt 20 = .ok (.aload_n 0, 1) := by decide +kernel
theorem dX2_likedAt_21 : decode cX2_likedAt 21 = .ok (.aload_n 1, 1) := by decide +kernel
theorem dX2_likedAt_22 : decode cX2_likedAt 22 = .ok (.aload_n 2, 1) := by decide +kernel
theorem dX2_likedAt_23 : decode cX2_likedAt 23 = .ok (.getfield 73, 3) := by decide +kernel
theorem dX2_likedAt_26 : decode cX2_likedAt 26 = .ok (.aload_n 3, 1) := by decide +kernel
theorem dX2_likedAt_27 : decode cX2_likedAt 27 = .ok (.getfield 104, 3) := by decide +kernel
theorem dX2_likedAt_30 : decode cX2_likedAt 30 = .ok (.iload 4, 2) := by decide +kernel
theorem dX2_likedAt_32 : decode cX2_likedAt 32 = .ok (.invokevirtual 145, 3) := by decide +kernel
theorem dX2_likedAt_35 : decode cX2_likedAt 35 = .ok (.invokevirtual 66, 3) := by decide +kernel
theorem dX2_likedAt_38 : decode cX2_likedAt 38 = .ok (.astore 6, 2) := by decide +kernel
theorem dX2_likedAt_40 : decode cX2_likedAt 40 = .ok (.aload 5, 2) := by decide +kernel
theorem dX2_likedAt_42 : decode cX2_likedAt 42 = .ok (.ifnonnull 7, 3) := by decide +kernel
theorem dX2_likedAt_45 : decode cX2_likedAt 45 = .ok (.iconst 0, 1) := by decide +kernel
theorem dX2_likedAt_46 : decode cX2_likedAt 46 = .ok (.goto 10, 3) := by decide +kernel
theorem dX2_likedAt_49 : decode cX2_likedAt 49 = .ok (.aload_n 0, 1) := by decide +kernel
theorem dX2_likedAt_50 : decode cX2_likedAt 50 = .ok (.aload_n 2, 1) := by decide +kernel
theorem dX2_likedAt_51 : decode cX2_likedAt 51 = .ok (.aload 5, 2) := by decide +kernel
theorem dX2_likedAt_53 : decode cX2_likedAt 53 = .ok (.invokevirtual 148, 3) := by decide +kernel
theorem dX2_likedAt_56 : decode cX2_likedAt 56 = .ok (.aload 6, 2) := by decide +kernel
theorem dX2_likedAt_58 : decode cX2_likedAt 58 = .ok (.ifnonnull 7, 3) := by decide +kernel
theorem dX2_likedAt_61 : decode cX2_likedAt 61 = .ok (.iconst 0, 1) := by decide +kernel
theorem dX2_likedAt_62 : decode cX2_likedAt 62 = .ok (.goto 10, 3) := by decide +kernel
theorem dX2_likedAt_65 : decode cX2_likedAt 65 = .ok (.aload_n 0, 1) := by decide +kernel
theorem dX2_likedAt_66 : decode cX2_likedAt 66 = .ok (.aload_n 2, 1) := by decide +kernel
theorem dX2_likedAt_67 : decode cX2_likedAt 67 = .ok (.aload 6, 2) := by decide +kernel
theorem dX2_likedAt_69 : decode cX2_likedAt 69 = .ok (.invokevirtual 148, 3) := by decide +kernel
theorem dX2_likedAt_72 : decode cX2_likedAt 72 = .ok (.iadd, 1) := by decide +kernel
theorem dX2_likedAt_73 : decode cX2_likedAt 73 = .ok (.ireturn, 1) := by decide +kernel
theorem dX2_pass_0 : decode cX2_pass 0 = .ok (.aload_n 0, 1) := by decide +kernel
theorem dX2_pass_1 : decode cX2_pass 1 = .ok (.getfield 152, 3) := by decide +kernel
theorem dX2_pass_4 : decode cX2_pass 4 = .ok (.sipush 400, 3) := by decide +kernel
theorem dX2_pass_7 : decode cX2_pass 7 = .ok (.if_icmp .lt 4, 3) := by decide +kernel
theorem dX2_pass_10 : decode cX2_pass 10 = .ok (.return_, 1) := by decide +kernel
theorem dX2_pass_11 : decode cX2_pass 11 = .ok (.iconst 0, 1) := by decide +kernel
theorem dX2_pass_12 : decode cX2_pass 12 = .ok (.istore_n 1, 1) := by decide +kernel
theorem dX2_pass_13 : decode cX2_pass 13 = .ok (.iload_n 1, 1) := by decide +kernel
theorem dX2_pass_14 : decode cX2_pass 14 = .ok (.aload_n 0, 1) := by decide +kernel
theorem dX2_pass_15 : decode cX2_pass 15 = .ok (.getfield 21, 3) := by decide +kernel
theorem dX2_pass_18 : decode cX2_pass 18 = .ok (.invokevirtual 54, 3) := by decide +kernel
theorem dX2_pass_21 : decode cX2_pass 21 = .ok (.if_icmp .ge 60, 3) := by decide +kernel
theorem dX2_pass_24 : decode cX2_pass 24 = .ok (.aload_n 0, 1) := by decide +kernel
theorem dX2_pass_25 : decode cX2_pass 25 = .ok (.getfield 21, 3) := by decide +kernel
theorem dX2_pass_28 : decode cX2_pass 28 = .ok (.iload_n 1, 1) := by decide +kernel
theorem dX2_pass_29 : decode cX2_pass 29 = .ok (.invokevirtual 58, 3) := by decide +kernel
theorem dX2_pass_32 : decode cX2_pass 32 = .ok (.checkcast 64, 3) := by decide +kernel
theorem dX2_pass_35 : decode cX2_pass 35 = .ok (.astore_n 2, 1) := by decide +kernel
theorem dX2_pass_36 : decode cX2_pass 36 = .ok (.aload_n 0, 1) := by decide +kernel
theorem dX2_pass_37 : decode cX2_pass 37 = .ok (.aload_n 2, 1) := by decide +kernel
theorem dX2_pass_38 : decode cX2_pass 38 = .ok (.invokevirtual 155, 3) := by decide +kernel
theorem dX2_pass_41 : decode cX2_pass 41 = .ok (.astore_n 3, 1) := by decide +kernel
theorem dX2_pass_42 : decode cX2_pass 42 = .ok (.aload_n 3, 1) := by decide +kernel
theorem dX2_pass_43 : decode cX2_pass 43 = .ok (.ifnull 32, 3) := by decide +kernel
theorem dX2_pass_46 : decode cX2_pass 46 = .ok (.aload_n 2, 1) := by decide +kernel
theorem dX2_pass_47 : decode cX2_pass 47 = .ok (.dup, 1) := by decide +kernel
theorem dX2_pass_48 : decode cX2_pass 48 = .ok (.getfield 159, 3) := by decide +kernel
theorem dX2_pass_51 : decode cX2_pass 51 = .ok (.aload_n 0, 1) := by decide +kernel
theorem dX2_pass_52 : decode cX2_pass 52 = .ok (.aload_n 3, 1) := by decide +kernel
theorem dX2_pass_53 : decode cX2_pass 53 = .ok (.invokevirtual 162, 3) := by decide +kernel
theorem dX2_pass_56 : decode cX2_pass 56 = .ok (.iadd, 1) := by decide +kernel
theorem dX2_pass_57 : decode cX2_pass 57 = .ok (.putfield 159, 3) := by decide +kernel
theorem dX2_pass_60 : decode cX2_pass 60 = .ok (.aload_n 0, 1) := by decide +kernel
theorem dX2_pass_61 : decode cX2_pass 61 = .ok (.getfield 37, 3) := by decide +kernel
theorem dX2_pass_64 : decode cX2_pass 64 = .ok (.aload_n 0, 1) := by decide +kernel
theorem dX2_pass_65 : decode cX2_pass 65 = .ok (.getfield 152, 3) := by decide +kernel
theorem dX2_pass_68 : decode cX2_pass 68 = .ok (.dup2, 1) := by decide +kernel
theorem dX2_pass_69 : decode cX2_pass 69 = .ok (.iaload, 1) := by decide +kernel
theorem dX2_pass_70 : decode cX2_pass 70 = .ok (.iconst 1, 1) := by decide +kernel
theorem dX2_pass_71 : decode cX2_pass 71 = .ok (.iload_n 1, 1) := by decide +kernel
theorem dX2_pass_72 : decode cX2_pass 72 = .ok (.ishl, 1) := by decide +kernel
theorem dX2_pass_73 : decode cX2_pass 73 = .ok (.ior, 1) := by decide +kernel
theorem dX2_pass_74 : decode cX2_pass 74 = .ok (.iastore, 1) := by decide +kernel
theorem dX2_pass_75 : decode cX2_pass 75 = .ok (.iinc 1 1, 3) := by decide +kernel
theorem dX2_pass_78 : decode cX2_pass 78 = .ok (.goto (-65), 3) := by decide +kernel
theorem dX2_pass_81 : decode cX2_pass 81 = .ok (.aload_n 0, 1) := by decide +kernel
theorem dX2_pass_82 : decode cX2_pass 82 = .ok (.dup, 1) := by decide +kernel
theorem dX2_pass_83 : decode cX2_pass 83 = .ok (.getfield 152, 3) := by decide +kernel
theorem dX2_pass_86 : decode cX2_pass 86 = .ok (.iconst 1, 1) := by decide +kernel
theorem dX2_pass_87 : decode cX2_pass 87 = .ok (.iadd, 1) := by decide +kernel
theorem dX2_pass_88 : decode cX2_pass 88 = .ok (.putfield 152, 3) := by decide +kernel
theorem dX2_pass_91 : decode cX2_pass 91 = .ok (.iconst 0, 1) := by decide +kernel
theorem dX2_pass_92 : decode cX2_pass 92 = .ok (.istore_n 1, 1) := by decide +kernel
theorem dX2_pass_93 : decode cX2_pass 93 = .ok (.iload_n 1, 1) := by decide +kernel
theorem dX2_pass_94 : decode cX2_pass 94 = .ok (.aload_n 0, 1) := by decide +kernel
theorem dX2_pass_95 : decode cX2_pass 95 = .ok (.getfield 21, 3) := by decide +kernel
theorem dX2_pass_98 : decode cX2_pass 98 = .ok (.invokevirtual 54, 3) := by decide +kernel
theorem dX2_pass_101 : decode cX2_pass 101 = .ok (.if_icmp .ge 45, 3) := by decide +kernel
theorem dX2_pass_104 : decode cX2_pass 104 = .ok (.aload_n 0, 1) := by decide +kernel
theorem dX2_pass_105 : decode cX2_pass 105 = .ok (.getfield 21, 3) := by decide +kernel
theorem dX2_pass_108 : decode cX2_pass 108 = .ok (.iload_n 1, 1) := by decide +kernel
theorem dX2_pass_109 : decode cX2_pass 109 = .ok (.invokevirtual 58, 3) := by decide +kernel
theorem dX2_pass_112 : decode cX2_pass 112 = .ok (.checkcast 64, 3) := by decide +kernel
theorem dX2_pass_115 : decode cX2_pass 115 = .ok (.astore_n 2, 1) := by decide +kernel
theorem dX2_pass_116 : decode cX2_pass 116 = .ok (.aload_n 2, 1) := by decide +kernel
theorem dX2_pass_117 : decode cX2_pass 117 = .ok (.getfield 166, 3) := by decide +kernel
theorem dX2_pass_120 : decode cX2_pass 120 = .ok (.aload_n 0, 1) := by decide +kernel
theorem dX2_pass_121 : decode cX2_pass 121 = .ok (.getfield 152, 3) := by decide +kernel
theorem dX2_pass_124 : decode cX2_pass 124 = .ok (.if_icmp .gt 16, 3) := by decide +kernel
theorem dX2_pass_127 : decode cX2_pass 127 = .ok (.aload_n 2, 1) := by decide +kernel
theorem dX2_pass_128 : decode cX2_pass 128 = .ok (.iconst 3, 1) := by decide +kernel
theorem dX2_pass_129 : decode cX2_pass 129 = .ok (.putfield 70, 3) := by decide +kernel
theorem dX2_pass_132 : decode cX2_pass 132 = .ok (.aload_n 0, 1) := by decide +kernel
theorem dX2_pass_133 : decode cX2_pass 133 = .ok (.getfield 43, 3) := by decide +kernel
theorem dX2_pass_136 : decode cX2_pass 136 = .ok (.iload_n 1, 1) := by decide +kernel
theorem dX2_pass_137 : decode cX2_pass 137 = .ok (.invokevirtual 169, 3) := by decide +kernel
theorem dX2_pass_140 : decode cX2_pass 140 = .ok (.iinc 1 1, 3) := by decide +kernel
theorem dX2_pass_143 : decode cX2_pass 143 = .ok (.goto (-50), 3) := by decide +kernel
theorem dX2_pass_146 : decode cX2_pass 146 = .ok (.return_, 1) := by decide +kernel
theorem dX2_nightsShown_0 : decode cX2_nightsShown 0 = .ok (.iconst 0, 1) := by decide +kernel
theorem dX2_nightsShown_1 : decode cX2_nightsShown 1 = .ok (.istore 4, 2) := by decide +kernel
theorem dX2_nightsShown_3 : decode cX2_nightsShown 3 = .ok (.iconst 0, 1) := by decide +kernel
theorem dX2_nightsShown_4 : decode cX2_nightsShown 4 = .ok (.iload_n 2, 1) := by decide +kernel
theorem dX2_nightsShown_5 : decode cX2_nightsShown 5 = .ok (.invokestatic 98, 3) := by decide +kernel
theorem dX2_nightsShown_8 : decode cX2_nightsShown 8 = .ok (.istore 5, 2) := by decide +kernel
theorem dX2_nightsShown_10 : decode cX2_nightsShown 10 = .ok (.iload 5, 2) := by decide +kernel
theorem dX2_nightsShown_12 : decode cX2_nightsShown 12 = .ok (.iload_n 3, 1) := by decide +kernel
theorem dX2_nightsShown_13 : decode cX2_nightsShown 13 = .ok (.if_icmp .ge 34, 3) := by decide +kernel
theorem dX2_nightsShown_16 : decode cX2_nightsShown 16 = .ok (.iload 5, 2) := by decide +kernel
theorem dX2_nightsShown_18 : decode cX2_nightsShown 18 = .ok (.sipush 400, 3) := by decide +kernel
theorem dX2_nightsShown_21 : decode cX2_nightsShown 21 = .ok (.if_icmp .ge 26, 3) := by decide +kernel
theorem dX2_nightsShown_24 : decode cX2_nightsShown 24 = .ok (.iload 4, 2) := by decide +kernel
theorem dX2_nightsShown_26 : decode cX2_nightsShown 26 = .ok (.aload_n 0, 1) := by decide +kernel
theorem dX2_nightsShown_27 : decode cX2_nightsShown 27 = .ok (.getfield 37, 3) := by decide +kernel
theorem dX2_nightsShown_30 : decode cX2_nightsShown 30 = .ok (.iload 5, 2) := by decide +kernel
theorem dX2_nightsShown_32 : decode cX2_nightsShown 32 = .ok (.iaload, 1) := by decide +kernel
theorem dX2_nightsShown_33 : decode cX2_nightsShown 33 = .ok (.iload_n 1, 1) := by decide +kernel
theorem dX2_nightsShown_34 : decode cX2_nightsShown 34 = .ok (.iand, 1) := by decide +kernel
theorem dX2_nightsShown_35 : decode cX2_nightsShown 35 = .ok (.invokestatic 173, 3) := by decide +kernel
theorem dX2_nightsShown_38 : decode cX2_nightsShown 38 = .ok (.iadd, 1) := by decide +kernel
theorem dX2_nightsShown_39 : decode cX2_nightsShown 39 = .ok (.istore 4, 2) := by decide +kernel
theorem dX2_nightsShown_41 : decode cX2_nightsShown 41 = .ok (.iinc 5 1, 3) := by decide +kernel
theorem dX2_nightsShown_44 : decode cX2_nightsShown 44 = .ok (.goto (-34), 3) := by decide +kernel
theorem dX2_nightsShown_47 : decode cX2_nightsShown 47 = .ok (.iload 4, 2) := by decide +kernel
theorem dX2_nightsShown_49 : decode cX2_nightsShown 49 = .ok (.ireturn, 1) := by decide +kernel
theorem dX2_givenBy_0 : decode cX2_givenBy 0 = .ok (.iconst 0, 1) := by decide +kernel
theorem dX2_givenBy_1 : decode cX2_givenBy 1 = .ok (.istore_n 2, 1) := by decide +kernel
theorem dX2_givenBy_2 : decode cX2_givenBy 2 = .ok (.iconst 0, 1) := by decide +kernel
theorem dX2_givenBy_3 : decode cX2_givenBy 3 = .ok (.istore_n 3, 1) := by decide +kernel
theorem dX2_givenBy_4 : decode cX2_givenBy 4 = .ok (.iload_n 3, 1) := by decide +kernel
theorem dX2_givenBy_5 : decode cX2_givenBy 5 = .ok (.aload_n 0, 1) := by decide +kernel
theorem dX2_givenBy_6 : decode cX2_givenBy 6 = .ok (.getfield 21, 3) := by decide +kernel
theorem dX2_givenBy_9 : decode cX2_givenBy 9 = .ok (.invokevirtual 54, 3) := by decide +kernel
theorem dX2_givenBy_12 : decode cX2_givenBy 12 = .ok (.if_icmp .ge 37, 3) := by decide +kernel
theorem dX2_givenBy_15 : decode cX2_givenBy 15 = .ok (.iload_n 2, 1) := by decide +kernel
theorem dX2_givenBy_16 : decode cX2_givenBy 16 = .ok (.aload_n 0, 1) := by decide +kernel
theorem dX2_givenBy_17 : decode cX2_givenBy 17 = .ok (.getfield 21, 3) := by decide +kernel
theorem dX2_givenBy_20 : decode cX2_givenBy 20 = .ok (.iload_n 3, 1) := by decide +kernel
theorem dX2_givenBy_21 : decode cX2_givenBy 21 = .ok (.invokevirtual 58, 3) := by decide +kernel
theorem dX2_givenBy_24 : decode cX2_givenBy 24 = .ok (.checkcast 64, 3) := by decide +kernel
theorem dX2_givenBy_27 : decode cX2_givenBy 27 = .ok (.getfield 178, 3) := by decide +kernel
theorem dX2_givenBy_30 : decode cX2_givenBy 30 = .ok (.iload_n 1, 1) := by decide +kernel
theorem dX2_givenBy_31 : decode cX2_givenBy 31 = .ok (.if_icmp .ne 9, 3) := by decide +kernel
theorem dX2_givenBy_34 : decode cX2_givenBy 34 = .ok (.iconst 1, 1) := by decide +kernel
theorem dX2_givenBy_35 : decode cX2_givenBy 35 = .ok (.iload_n 3, 1) := by decide +kernel
theorem dX2_givenBy_36 : decode cX2_givenBy 36 = .ok (.ishl, 1) := by decide +kernel
theorem dX2_givenBy_37 : decode cX2_givenBy 37 = .ok (.goto 4, 3) := by decide +kernel
theorem dX2_givenBy_40 : decode cX2_givenBy 40 = .ok (.iconst 0, 1) := by decide +kernel
theorem dX2_givenBy_41 : decode cX2_givenBy 41 = .ok (.ior, 1) := by decide +kernel
theorem dX2_givenBy_42 : decode cX2_givenBy 42 = .ok (.istore_n 2, 1) := by decide +kernel
theorem dX2_givenBy_43 : decode cX2_givenBy 43 = .ok (.iinc 3 1, 3) := by decide +kernel
theorem dX2_givenBy_46 : decode cX2_givenBy 46 = .ok (.goto (-42), 3) := by decide +kernel
theorem dX2_givenBy_49 : decode cX2_givenBy 49 = .ok (.iload_n 2, 1) := by decide +kernel
theorem dX2_givenBy_50 : decode cX2_givenBy 50 = .ok (.ireturn, 1) := by decide +kernel
theorem dX2_isShut_0 : decode cX2_isShut 0 = .ok (.aload_n 0, 1) := by decide +kernel
theorem dX2_isShut_1 : decode cX2_isShut 1 = .ok (.getfield 181, 3) := by decide +kernel
theorem dX2_isShut_4 : decode cX2_isShut 4 = .ok (.iload_n 1, 1) := by decide +kernel
theorem dX2_isShut_5 : decode cX2_isShut 5 = .ok (.ishr, 1) := by decide +kernel
theorem dX2_isShut_6 : decode cX2_isShut 6 = .ok (.iconst 1, 1) := by decide +kernel
theorem dX2_isShut_7 : decode cX2_isShut 7 = .ok (.iand, 1) := by decide +kernel
theorem dX2_isShut_8 : decode cX2_isShut 8 = .ok (.ifCond .eq 7, 3) := by decide +kernel
theorem dX2_isShut_11 : decode cX2_isShut 11 = .ok (.iconst 1, 1) := by decide +kernel
theorem dX2_isShut_12 : decode cX2_isShut 12 = .ok (.goto 4, 3) := by decide +kernel
theorem dX2_isShut_15 : decode cX2_isShut 15 = .ok (.iconst 0, 1) := by decide +kernel
theorem dX2_isShut_16 : decode cX2_isShut 16 = .ok (.ireturn, 1) := by decide +kernel
theorem dX2_goesThrough_0 : decode cX2_goesThrough 0 = .ok (.aload_n 0, 1) := by decide +kernel
theorem dX2_goesThrough_1 : decode cX2_goesThrough 1 = .ok (.getfield 12, 3) := by decide +kernel
theorem dX2_goesThrough_4 : decode cX2_goesThrough 4 = .ok (.iload_n 2, 1) := by decide +kernel
theorem dX2_goesThrough_5 : decode cX2_goesThrough 5 = .ok (.invokevirtual 58, 3) := by decide +kernel
theorem dX2_goesThrough_8 : decode cX2_goesThrough 8 = .ok (.checkcast 184, 3) := by decide +kernel
theorem dX2_goesThrough_11 : decode cX2_goesThrough 11 = .ok (.astore 4, 2) := by decide +kernel
theorem dX2_goesThrough_13 : decode cX2_goesThrough 13 = .ok (.aload_n 1, 1) := by decide +kernel
theorem dX2_goesThrough_14 : decode cX2_goesThrough 14 = .ok (.ifnull 41, 3) := by decide +kernel
theorem dX2_goesThrough_17 : decode cX2_goesThrough 17 = .ok (.aload_n 0, 1) := by decide +kernel
theorem dX2_goesThrough_18 : decode cX2_goesThrough 18 = .ok (.aload 4, 2) := by decide +kernel
theorem dX2_goesThrough_20 : decode cX2_goesThrough 20 = .ok (.getfield 186, 3) := by decide +kernel
theorem dX2_goesThrough_23 : decode cX2_goesThrough 23 = .ok (.invokevirtual 189, 3) := by decide +kernel
theorem dX2_goesThrough_26 : decode cX2_goesThrough 26 = .ok (.ifCond .ne 33, 3) := by decide +kernel
theorem dX2_goesThrough_29 : decode cX2_goesThrough 29 = .ok (.aload_n 0, 1) := by decide +kernel
theorem dX2_goesThrough_30 : decode cX2_goesThrough 30 = .ok (.aload 4, 2) := by decide +kernel
theorem dX2_goesThrough_32 : decode cX2_goesThrough 32 = .ok (.getfield 192, 3) := by decide +kernel
theorem dX2_goesThrough_35 : decode cX2_goesThrough 35 = .ok (.invokevirtual 189, 3) := by decide +kernel
theorem dX2_goesThrough_38 : decode cX2_goesThrough 38 = .ok (.ifCond .ne 21, 3) := by decide +kernel
theorem dX2_goesThrough_41 : decode cX2_goesThrough 41 = .ok (.iload_n 2, 1) := by decide +kernel
theorem dX2_goesThrough_42 : decode cX2_goesThrough 42 = .ok (.iload_n 3, 1) := by decide +kernel
theorem dX2_goesThrough_43 : decode cX2_goesThrough 43 = .ok (.if_icmp .eq 12, 3) := by decide +kernel
theorem dX2_goesThrough_46 : decode cX2_goesThrough 46 = .ok (.aload 4, 2) := by decide +kernel
theorem dX2_goesThrough_48 : decode cX2_goesThrough 48 = .ok (.aload_n 1, 1) := by decide +kernel
theorem dX2_goesThrough_49 : decode cX2_goesThrough 49 = .ok (.invokevirtual 195, 3) := by decide +kernel
theorem dX2_goesThrough_52 : decode cX2_goesThrough 52 = .ok (.ifCond .eq 7, 3) := by decide +kernel
theorem dX2_goesThrough_55 : decode cX2_goesThrough 55 = .ok (.iconst 1, 1) := by decide +kernel
theorem dX2_goesThrough_56 : decode cX2_goesThrough 56 = .ok (.goto 4, 3) := by decide +kernel
theorem dX2_goesThrough_59 : decode cX2_goesThrough 59 = .ok (.iconst 0, 1) := by decide +kernel
theorem dX2_goesThrough_60 : decode cX2_goesThrough 60 = .ok (.ireturn, 1) := by decide +kernel
theorem dX2_measure_0 : decode cX2_measure 0 = .ok (.iconst 0, 1) := by decide +kernel
theorem dX2_measure_1 : decode cX2_measure 1 = .ok (.istore 5, 2) := by decide +kernel
theorem dX2_measure_3 : decode cX2_measure 3 = .ok (.iload 5, 2) := by decide +kernel
theorem dX2_measure_5 : decode cX2_measure 5 = .ok (.aload_n 1, 1) := by decide +kernel
theorem dX2_measure_6 : decode cX2_measure 6 = .ok (.arraylength, 1) := by decide +kernel
theorem dX2_measure_7 : decode cX2_measure 7 = .ok (.if_icmp .ge 25, 3) := by decide +kernel
theorem dX2_measure_10 : decode cX2_measure 10 = .ok (.aload_n 1, 1) := by decide +kernel
theorem dX2_measure_11 : decode cX2_measure 11 = .ok (.iload 5, 2) := by decide +kernel
theorem dX2_measure_13 : decode cX2_measure 13 = .ok (.iload 5, 2) := by decide +kernel
theorem dX2_measure_15 : decode cX2_measure 15 = .ok (.iload_n 2, 1) := by decide +kernel
theorem dX2_measure_16 : decode cX2_measure 16 = .ok (.if_icmp .ne 7, 3) := by decide +kernel
theorem dX2_measure_19 : decode cX2_measure 19 = .ok (.iconst 0, 1) := by decide +kernel
theorem dX2_measure_20 : decode cX2_measure 20 = .ok (.goto 5, 3) := by decide +kernel
theorem dX2_measure_23 : decode cX2_measure 23 = .ok (.bipush 99, 2) := by decide +kernel
theorem dX2_measure_25 : decode cX2_measure 25 = .ok (.iastore, 1) := by decide +kernel
theorem dX2_measure_26 : decode cX2_measure 26 = .ok (.iinc 5 1, 3) := by decide +kernel
theorem dX2_measure_29 : decode cX2_measure 29 = .ok (.goto (-26), 3) := by decide +kernel
theorem dX2_measure_32 : decode cX2_measure 32 = .ok (.iconst 1, 1) := by decide +kernel
theorem dX2_measure_33 : decode cX2_measure 33 = .ok (.istore 5, 2) := by decide +kernel
theorem dX2_measure_35 : decode cX2_measure 35 = .ok (.iload 5, 2) := by decide +kernel
theorem dX2_measure_37 : decode cX2_measure 37 = .ok (.aload_n 0, 1) := by decide +kernel
theorem dX2_measure_38 : decode cX2_measure 38 = .ok (.getfield 50, 3) := by decide +kernel
theorem dX2_measure_41 : decode cX2_measure 41 = .ok (.if_icmp .ge 108, 3) := by decide +kernel
theorem dX2_measure_44 : decode cX2_measure 44 = .ok (.iconst 0, 1) := by decide +kernel
theorem dX2_measure_45 : decode cX2_measure 45 = .ok (.istore 6, 2) := by decide +kernel
theorem dX2_measure_47 : decode cX2_measure 47 = .ok (.iload 6, 2) := by decide +kernel
theorem dX2_measure_49 : decode cX2_measure 49 = .ok (.aload_n 0, 1) := by decide +kernel
theorem dX2_measure_50 : decode cX2_measure 50 = .ok (.getfield 12, 3) := by decide +kernel
theorem dX2_measure_53 : decode cX2_measure 53 = .ok (.invokevirtual 54, 3) := by decide +kernel
theorem dX2_measure_56 : decode cX2_measure 56 = .ok (.if_icmp .ge 87, 3) := by decide +kernel
theorem dX2_measure_59 : decode cX2_measure 59 = .ok (.aload_n 0, 1) := by decide +kernel
theorem dX2_measure_60 : decode cX2_measure 60 = .ok (.aload_n 3, 1) := by decide +kernel
theorem dX2_measure_61 : decode cX2_measure 61 = .ok (.iload 6, 2) := by decide +kernel
theorem dX2_measure_63 : decode cX2_measure 63 = .ok (.iload 4, 2) := by decide +kernel
theorem dX2_measure_65 : decode cX2_measure 65 = .ok (.invokevirtual 199, 3) := by decide +kernel
theorem dX2_measure_68 : decode cX2_measure 68 = .ok (.ifCond .eq 69, 3) := by decide +kernel
theorem dX2_measure_71 : decode cX2_measure 71 = .ok (.aload_n 0, 1) := by decide +kernel
theorem dX2_measure_72 : decode cX2_measure 72 = .ok (.getfield 12, 3) := by decide +kernel
theorem dX2_measure_75 : decode cX2_measure 75 = .ok (.iload 6, 2) := by decide +kernel
theorem dX2_measure_77 : decode cX2_measure 77 = .ok (.invokevirtual 58, 3) := by decide +kernel
theorem dX2_measure_80 : decode cX2_measure 80 = .ok (.checkcast 184, 3) := by decide +kernel
theorem dX2_measure_83 : decode cX2_measure 83 = .ok (.astore 7, 2) := by decide +kernel
theorem dX2_measure_85 : decode cX2_measure 85 = .ok (.aload_n 1, 1) := by decide +kernel
theorem dX2_measure_86 : decode cX2_measure 86 = .ok (.aload 7, 2) := by decide +kernel
theorem dX2_measure_88 : decode cX2_measure 88 = .ok (.getfield 186, 3) := by decide +kernel
theorem dX2_measure_91 : decode cX2_measure 91 = .ok (.aload_n 1, 1) := by decide +kernel
theorem dX2_measure_92 : decode cX2_measure 92 = .ok (.aload 7, 2) := by decide +kernel
theorem dX2_measure_94 : decode cX2_measure 94 = .ok (.getfield 186, 3) := by decide +kernel
theorem dX2_measure_97 : decode cX2_measure 97 = .ok (.iaload, 1) := by decide +kernel
theorem dX2_measure_98 : decode cX2_measure 98 = .ok (.aload_n 1, 1) := by decide +kernel
theorem dX2_measure_99 : decode cX2_measure 99 = .ok (.aload 7, 2) := by decide +kernel
theorem dX2_measure_101 : decode cX2_measure 101 = .ok (.getfield 192, 3) := by decide +kernel
theorem dX2_measure_104 : decode cX2_measure 104 = .ok (.iaload, 1) := by decide +kernel
theorem dX2_measure_105 : decode cX2_measure 105 = .ok (.iconst 1, 1) := by decide +kernel
theorem dX2_measure_106 : decode cX2_measure 106 = .ok (.iadd, 1) := by decide +kernel
theorem dX2_measure_107 : decode cX2_measure 107 = .ok (.invokestatic 203, 3) := by decide +kernel
theorem dX2_measure_110 : decode cX2_measure 110 = .ok (.iastore, 1) := by decide +kernel
theorem dX2_measure_111 : decode cX2_measure 111 = .ok (.aload_n 1, 1) := by decide +kernel
theorem dX2_measure_112 : decode cX2_measure 112 = .ok (.aload 7, 2) := by decide +kernel
theorem dX2_measure_114 : decode cX2_measure 114 = .ok (.getfield 192, 3) := by decide +kernel
theorem dX2_measure_117 : decode cX2_measure 117 = .ok (.aload_n 1, 1) := by decide +kernel
theorem dX2_measure_118 : decode cX2_measure 118 = .ok (.aload 7, 2) := by decide +kernel
theorem dX2_measure_120 : decode cX2_measure 120 = .ok (.getfield 192, 3) := by decide +kernel
theorem dX2_measure_123 : decode cX2_measure 123 = .ok (.iaload, 1) := by decide +kernel
theorem dX2_measure_124 : decode cX2_measure 124 = .ok (.aload_n 1, 1) := by decide +kernel
theorem dX2_measure_125 : decode cX2_measure 125 = .ok (.aload 7, 2) := by decide +kernel
theorem dX2_measure_127 : decode cX2_measure 127 = .ok (.getfield 186, 3) := by decide +kernel
theorem dX2_measure_130 : decode cX2_measure 130 = .ok (.iaload, 1) := by decide +kernel
theorem dX2_measure_131 : decode cX2_measure 131 = .ok (.iconst 1, 1) := by decide +kernel
theorem dX2_measure_132 : decode cX2_measure 132 = .ok (.iadd, 1) := by decide +kernel
theorem dX2_measure_133 : decode cX2_measure 133 = .ok (.invokestatic 203, 3) := by decide +kernel
theorem dX2_measure_136 : decode cX2_measure 136 = .ok (.iastore, 1) := by decide +kernel
theorem dX2_measure_137 : decode cX2_measure 137 = .ok (.iinc 6 1, 3) := by decide +kernel
theorem dX2_measure_140 : decode cX2_measure 140 = .ok (.goto (-93), 3) := by decide +kernel
theorem dX2_measure_143 : decode cX2_measure 143 = .ok (.iinc 5 1, 3) := by decide +kernel
theorem dX2_measure_146 : decode cX2_measure 146 = .ok (.goto (-111), 3) := by decide +kernel
theorem dX2_measure_149 : decode cX2_measure 149 = .ok (.return_, 1) := by decide +kernel
theorem dX2_doorsBetween_0 : decode cX2_doorsBetween 0 = .ok (.aload_n 0, 1) := by decide +kernel
theorem dX2_doorsBetween_1 : decode cX2_doorsBetween 1 = .ok (.iload_n 2, 1) := by decide +kernel
theorem dX2_doorsBetween_2 : decode cX2_doorsBetween 2 = .ok (.invokevirtual 206, 3) := by decide +kernel
theorem dX2_doorsBetween_5 : decode cX2_doorsBetween 5 = .ok (.ifCond .eq 19, 3) := by decide +kernel
theorem dX2_doorsBetween_8 : decode cX2_doorsBetween 8 = .ok (.aload_n 0, 1) := by decide +kernel
theorem dX2_doorsBetween_9 : decode cX2_doorsBetween 9 = .ok (.iload_n 2, 1) := by decide +kernel
theorem dX2_doorsBetween_10 : decode cX2_doorsBetween 10 = .ok (.invokevirtual 189, 3) := by decide +kernel
theorem dX2_doorsBetween_13 : decode cX2_doorsBetween 13 = .ok (.ifCond .ne 11, 3) := by decide +kernel
theorem dX2_doorsBetween_16 : decode cX2_doorsBetween 16 = .ok (.aload_n 0, 1) := by decide +kernel
theorem dX2_doorsBetween_17 : decode cX2_doorsBetween 17 = .ok (.iload_n 3, 1) := by decide +kernel
theorem dX2_doorsBetween_18 : decode cX2_doorsBetween 18 = .ok (.invokevirtual 189, 3) := by decide +kernel
theorem dX2_doorsBetween_21 : decode cX2_doorsBetween 21 = .ok (.ifCond .eq 6, 3) := by decide +kernel
theorem dX2_doorsBetween_24 : decode cX2_doorsBetween 24 = .ok (.bipush 99, 2) := by decide +kernel
theorem dX2_doorsBetween_26 : decode cX2_doorsBetween 26 = .ok (.ireturn, 1) := by decide +kernel
theorem dX2_doorsBetween_27 : decode cX2_doorsBetween 27 = .ok (.aload_n 0, 1) := by decide +kernel
theorem dX2_doorsBetween_28 : decode cX2_doorsBetween 28 = .ok (.aload_n 0, 1) := by decide +kernel
theorem dX2_doorsBetween_29 : decode cX2_doorsBetween 29 = .ok (.getfield 34, 3) := by decide +kernel
theorem dX2_doorsBetween_32 : decode cX2_doorsBetween 32 = .ok (.iload_n 3, 1) := by decide +kernel
theorem dX2_doorsBetween_33 : decode cX2_doorsBetween 33 = .ok (.aload_n 1, 1) := by decide +kernel
theorem dX2_doorsBetween_34 : decode cX2_doorsBetween 34 = .ok (.iload 4, 2) := by decide +kernel
theorem dX2_doorsBetween_36 : decode cX2_doorsBetween 36 = .ok (.invokevirtual 209, 3) := by decide +kernel
theorem dX2_doorsBetween_39 : decode cX2_doorsBetween 39 = .ok (.aload_n 0, 1) := by decide +kernel
theorem dX2_doorsBetween_40 : decode cX2_doorsBetween 40 = .ok (.getfield 34, 3) := by decide +kernel
theorem dX2_doorsBetween_43 : decode cX2_doorsBetween 43 = .ok (.iload_n 2, 1) := by decide +kernel
theorem dX2_doorsBetween_44 : decode cX2_doorsBetween 44 = .ok (.iaload, 1) := by decide +kernel
theorem dX2_doorsBetween_45 : decode cX2_doorsBetween 45 = .ok (.ireturn, 1) := by decide +kernel
theorem dX2_nextRoom_0 : decode cX2_nextRoom 0 = .ok (.iconst (-1), 1) := by decide +kernel
theorem dX2_nextRoom_1 : decode cX2_nextRoom 1 = .ok (.istore 4, 2) := by decide +kernel
theorem dX2_nextRoom_3 : decode cX2_nextRoom 3 = .ok (.iconst 0, 1) := by decide +kernel
theorem dX2_nextRoom_4 : decode cX2_nextRoom 4 = .ok (.istore 5, 2) := by decide +kernel
theorem dX2_nextRoom_6 : decode cX2_nextRoom 6 = .ok (.iload 5, 2) := by decide +kernel
theorem dX2_nextRoom_8 : decode cX2_nextRoom 8 = .ok (.aload_n 0, 1) := by decide +kernel
theorem dX2_nextRoom_9 : decode cX2_nextRoom 9 = .ok (.getfield 12, 3) := by decide +kernel
theorem dX2_nextRoom_12 : decode cX2_nextRoom 12 = .ok (.invokevirtual 54, 3) := by decide +kernel
theorem dX2_nextRoom_15 : decode cX2_nextRoom 15 = .ok (.if_icmp .ge 117, 3) := by decide +kernel
theorem dX2_nextRoom_18 : decode cX2_nextRoom 18 = .ok (.aload_n 0, 1) := by decide +kernel
theorem dX2_nextRoom_19 : decode cX2_nextRoom 19 = .ok (.getfield 12, 3) := by decide +kernel
theorem dX2_nextRoom_22 : decode cX2_nextRoom 22 = .ok (.iload 5, 2) := by decide +kernel
theorem dX2_nextRoom_24 : decode cX2_nextRoom 24 = .ok (.invokevirtual 58, 3) := by decide +kernel
theorem dX2_nextRoom_27 : decode cX2_nextRoom 27 = .ok (.checkcast 184, 3) := by decide +kernel
theorem dX2_nextRoom_30 : decode cX2_nextRoom 30 = .ok (.astore 6, 2) := by decide +kernel
theorem dX2_nextRoom_32 : decode cX2_nextRoom 32 = .ok (.aload 6, 2) := by decide +kernel
theorem dX2_nextRoom_34 : decode cX2_nextRoom 34 = .ok (.getfield 186, 3) := by decide +kernel
theorem dX2_nextRoom_37 : decode cX2_nextRoom 37 = .ok (.iload_n 2, 1) := by decide +kernel
theorem dX2_nextRoom_38 : decode cX2_nextRoom 38 = .ok (.if_icmp .ne 11, 3) := by decide +kernel
theorem dX2_nextRoom_41 : decode cX2_nextRoom 41 = .ok (.aload 6, 2) := by decide +kernel
theorem dX2_nextRoom_43 : decode cX2_nextRoom 43 = .ok (.getfield 192, 3) := by decide +kernel
theorem dX2_nextRoom_46 : decode cX2_nextRoom 46 = .ok (.goto 21, 3) := by decide +kernel
theorem dX2_nextRoom_49 : decode cX2_nextRoom 49 = .ok (.aload 6, 2) := by decide +kernel
theorem dX2_nextRoom_51 : decode cX2_nextRoom 51 = .ok (.getfield 192, 3) := by decide +kernel
theorem dX2_nextRoom_54 : decode cX2_nextRoom 54 = .ok (.iload_n 2, 1) := by decide +kernel
theorem dX2_nextRoom_55 : decode cX2_nextRoom 55 = .ok (.if_icmp .ne 11, 3) := by decide +kernel
theorem dX2_nextRoom_58 : decode cX2_nextRoom 58 = .ok (.aload 6, 2) := by decide +kernel
theorem dX2_nextRoom_60 : decode cX2_nextRoom 60 = .ok (.getfield 186, 3) := by decide +kernel
theorem dX2_nextRoom_63 : decode cX2_nextRoom 63 = .ok (.goto 4, 3) := by decide +kernel
theorem dX2_nextRoom_66 : decode cX2_nextRoom 66 = .ok (.iconst (-1), 1) := by decide +kernel
theorem dX2_nextRoom_67 : decode cX2_nextRoom 67 = .ok (.istore 7, 2) := by decide +kernel
theorem dX2_nextRoom_69 : decode cX2_nextRoom 69 = .ok (.iload 7, 2) := by decide +kernel
theorem dX2_nextRoom_71 : decode cX2_nextRoom 71 = .ok (.iconst (-1), 1) := by decide +kernel
theorem dX2_nextRoom_72 : decode cX2_nextRoom 72 = .ok (.if_icmp .eq 29, 3) := by decide +kernel
theorem dX2_nextRoom_75 : decode cX2_nextRoom 75 = .ok (.aload_n 0, 1) := by decide +kernel
theorem dX2_nextRoom_76 : decode cX2_nextRoom 76 = .ok (.getfield 34, 3) := by decide +kernel
theorem dX2_nextRoom_79 : decode cX2_nextRoom 79 = .ok (.iload 7, 2) := by decide +kernel
theorem dX2_nextRoom_81 : decode cX2_nextRoom 81 = .ok (.iaload, 1) := by decide +kernel
theorem dX2_nextRoom_82 : decode cX2_nextRoom 82 = .ok (.iload_n 3, 1) := by decide +kernel
theorem dX2_nextRoom_83 : decode cX2_nextRoom 83 = .ok (.if_icmp .ne 18, 3) := by decide +kernel
theorem dX2_nextRoom_86 : decode cX2_nextRoom 86 = .ok (.aload_n 0, 1) := by decide +kernel
theorem dX2_nextRoom_87 : decode cX2_nextRoom 87 = .ok (.aload_n 1, 1) := by decide +kernel
theorem dX2_nextRoom_88 : decode cX2_nextRoom 88 = .ok (.iload 5, 2) := by decide +kernel
theorem dX2_nextRoom_90 : decode cX2_nextRoom 90 = .ok (.iconst (-1), 1) := by decide +kernel
theorem dX2_nextRoom_91 : decode cX2_nextRoom 91 = .ok (.invokevirtual 199, 3) := by decide +kernel
theorem dX2_nextRoom_94 : decode cX2_nextRoom 94 = .ok (.ifCond .eq 7, 3) := by decide +kernel
theorem dX2_nextRoom_97 : decode cX2_nextRoom 97 = .ok (.iconst 1, 1) := by decide +kernel
theorem dX2_nextRoom_98 : decode cX2_nextRoom 98 = .ok (.goto 4, 3) := by decide +kernel
theorem dX2_nextRoom_101 : decode cX2_nextRoom 101 = .ok (.iconst 0, 1) := by decide +kernel
theorem dX2_nextRoom_102 : decode cX2_nextRoom 102 = .ok (.istore 8, 2) := by decide +kernel
theorem dX2_nextRoom_104 : decode cX2_nextRoom 104 = .ok (.iload 8, 2) := by decide +kernel
theorem dX2_nextRoom_106 : decode cX2_nextRoom 106 = .ok (.ifCond .eq 20, 3) := by decide +kernel
theorem dX2_nextRoom_109 : decode cX2_nextRoom 109 = .ok (.iload 4, 2) := by decide +kernel
theorem dX2_nextRoom_111 : decode cX2_nextRoom 111 = .ok (.iconst (-1), 1) := by decide +kernel
theorem dX2_nextRoom_112 : decode cX2_nextRoom 112 = .ok (.if_icmp .eq 10, 3) := by decide +kernel
theorem dX2_nextRoom_115 : decode cX2_nextRoom 115 = .ok (.iload 7, 2) := by decide +kernel
theorem dX2_nextRoom_117 : decode cX2_nextRoom 117 = .ok (.iload 4, 2) := by decide +kernel
theorem dX2_nextRoom_119 : decode cX2_nextRoom 119 = .ok (.if_icmp .ge 7, 3) := by decide +kernel
theorem dX2_nextRoom_122 : decode cX2_nextRoom 122 = .ok (.iload 7, 2) := by decide +kernel
theorem dX2_nextRoom_124 : decode cX2_nextRoom 124 = .ok (.istore 4, 2) := by decide +kernel
theorem dX2_nextRoom_126 : decode cX2_nextRoom 126 = .ok (.iinc 5 1, 3) := by decide +kernel
theorem dX2_nextRoom_129 : decode cX2_nextRoom 129 = .ok (.goto (-123), 3) := by decide +kernel
theorem dX2_nextRoom_132 : decode cX2_nextRoom 132 = .ok (.iload 4, 2) := by decide +kernel
theorem dX2_nextRoom_134 : decode cX2_nextRoom 134 = .ok (.ireturn, 1) := by decide +kernel
theorem dX2_wallsWith_0 : decode cX2_wallsWith 0 = .ok (.iconst 0, 1) := by decide +kernel
theorem dX2_wallsWith_1 : decode cX2_wallsWith 1 = .ok (.istore_n 2, 1) := by decide +kernel
theorem dX2_wallsWith_2 : decode cX2_wallsWith 2 = .ok (.iconst 0, 1) := by decide +kernel
theorem dX2_wallsWith_3 : decode cX2_wallsWith 3 = .ok (.istore_n 3, 1) := by decide +kernel
theorem dX2_wallsWith_4 : decode cX2_wallsWith 4 = .ok (.iload_n 3, 1) := by decide +kernel
theorem dX2_wallsWith_5 : decode cX2_wallsWith 5 = .ok (.aload_n 0, 1) := by decide +kernel
theorem dX2_wallsWith_6 : decode cX2_wallsWith 6 = .ok (.getfield 21, 3) := by decide +kernel
theorem dX2_wallsWith_9 : decode cX2_wallsWith 9 = .ok (.invokevirtual 54, 3) := by decide +kernel
theorem dX2_wallsWith_12 : decode cX2_wallsWith 12 = .ok (.if_icmp .ge 59, 3) := by decide +kernel
theorem dX2_wallsWith_15 : decode cX2_wallsWith 15 = .ok (.aload_n 0, 1) := by decide +kernel
theorem dX2_wallsWith_16 : decode cX2_wallsWith 16 = .ok (.aload_n 0, 1) := by decide +kernel
theorem dX2_wallsWith_17 : decode cX2_wallsWith 17 = .ok (.getfield 21, 3) := by decide +kernel
theorem dX2_wallsWith_20 : decode cX2_wallsWith 20 = .ok (.iload_n 3, 1) := by decide +kernel
theorem dX2_wallsWith_21 : decode cX2_wallsWith 21 = .ok (.invokevirtual 58, 3) := by decide +kernel
theorem dX2_wallsWith_24 : decode cX2_wallsWith 24 = .ok (.checkcast 64, 3) := by decide +kernel
theorem dX2_wallsWith_27 : decode cX2_wallsWith 27 = .ok (.invokevirtual 155, 3) := by decide +kernel
theorem dX2_wallsWith_30 : decode cX2_wallsWith 30 = .ok (.astore 4, 2) := by decide +kernel
theorem dX2_wallsWith_32 : decode cX2_wallsWith 32 = .ok (.aload 4, 2) := by decide +kernel
theorem dX2_wallsWith_34 : decode cX2_wallsWith 34 = .ok (.ifnull 31, 3) := by decide +kernel
theorem dX2_wallsWith_37 : decode cX2_wallsWith 37 = .ok (.aload_n 0, 1) := by decide +kernel
theorem dX2_wallsWith_38 : decode cX2_wallsWith 38 = .ok (.getfield 21, 3) := by decide +kernel
theorem dX2_wallsWith_41 : decode cX2_wallsWith 41 = .ok (.iload_n 3, 1) := by decide +kernel
theorem dX2_wallsWith_42 : decode cX2_wallsWith 42 = .ok (.invokevirtual 58, 3) := by decide +kernel
theorem dX2_wallsWith_45 : decode cX2_wallsWith 45 = .ok (.checkcast 64, 3) := by decide +kernel
theorem dX2_wallsWith_48 : decode cX2_wallsWith 48 = .ok (.getfield 213, 3) := by decide +kernel
theorem dX2_wallsWith_51 : decode cX2_wallsWith 51 = .ok (.iload_n 1, 1) := by decide +kernel
theorem dX2_wallsWith_52 : decode cX2_wallsWith 52 = .ok (.if_icmp .lt 13, 3) := by decide +kernel
theorem dX2_wallsWith_55 : decode cX2_wallsWith 55 = .ok (.iload_n 2, 1) := by decide +kernel
theorem dX2_wallsWith_56 : decode cX2_wallsWith 56 = .ok (.iconst 1, 1) := by decide +kernel
theorem dX2_wallsWith_57 : decode cX2_wallsWith 57 = .ok (.aload 4, 2) := by decide +kernel
theorem dX2_wallsWith_59 : decode cX2_wallsWith 59 = .ok (.getfield 104, 3) := by decide +kernel
theorem dX2_wallsWith_62 : decode cX2_wallsWith 62 = .ok (.ishl, 1) := by decide +kernel
theorem dX2_wallsWith_63 : decode cX2_wallsWith 63 = .ok (.ior, 1) := by decide +kernel
theorem dX2_wallsWith_64 : decode cX2_wallsWith 64 = .ok (.istore_n 2, 1) := by decide +kernel
theorem dX2_wallsWith_65 : decode cX2_wallsWith 65 = .ok (.iinc 3 1, 3) := by decide +kernel
theorem dX2_wallsWith_68 : decode cX2_wallsWith 68 = .ok (.goto (-64), 3) := by decide +kernel
theorem dX2_wallsWith_71 : decode cX2_wallsWith 71 = .ok (.iload_n 2, 1) := by decide +kernel
theorem dX2_wallsWith_72 : decode cX2_wallsWith 72 = .ok (.ireturn, 1) := by decide +kernel
theorem dX2_areSeen_0 : decode cX2_areSeen 0 = .ok (.iconst 0, 1) := by decide +kernel
theorem dX2_areSeen_1 : decode cX2_areSeen 1 = .ok (.istore_n 3, 1) := by decide +kernel
theorem dX2_areSeen_2 : decode cX2_areSeen 2 = .ok (.iload_n 3, 1) := by decide +kernel
theorem dX2_areSeen_3 : decode cX2_areSeen 3 = .ok (.aload_n 0, 1) := by decide +kernel
theorem dX2_areSeen_4 : decode cX2_areSeen 4 = .ok (.getfield 18, 3) := by decide +kernel
theorem dX2_areSeen_7 : decode cX2_areSeen 7 = .ok (.invokevirtual 54, 3) := by decide +kernel
theorem dX2_areSeen_10 : decode cX2_areSeen 10 = .ok (.if_icmp .ge 38, 3) := by decide +kernel
theorem dX2_areSeen_13 : decode cX2_areSeen 13 = .ok (.iload_n 1, 1) := by decide +kernel
theorem dX2_areSeen_14 : decode cX2_areSeen 14 = .ok (.iload_n 3, 1) := by decide +kernel
theorem dX2_areSeen_15 : decode cX2_areSeen 15 = .ok (.ishr, 1) := by decide +kernel
theorem dX2_areSeen_16 : decode cX2_areSeen 16 = .ok (.iconst 1, 1) := by decide +kernel
theorem dX2_areSeen_17 : decode cX2_areSeen 17 = .ok (.iand, 1) := by decide +kernel
theorem dX2_areSeen_18 : decode cX2_areSeen 18 = .ok (.ifCond .eq 24, 3) := by decide +kernel
theorem dX2_areSeen_21 : decode cX2_areSeen 21 = .ok (.aload_n 0, 1) := by decide +kernel
theorem dX2_areSeen_22 : decode cX2_areSeen 22 = .ok (.getfield 18, 3) := by decide +kernel
theorem dX2_areSeen_25 : decode cX2_areSeen 25 = .ok (.iload_n 3, 1) := by decide +kernel
theorem dX2_areSeen_26 : decode cX2_areSeen 26 = .ok (.invokevirtual 58, 3) := by decide +kernel
theorem dX2_areSeen_29 : decode cX2_areSeen 29 = .ok (.checkcast 62, 3) := by decide +kernel
theorem dX2_areSeen_32 : decode cX2_areSeen 32 = .ok (.getfield 216, 3) := by decide +kernel
theorem dX2_areSeen_35 : decode cX2_areSeen 35 = .ok (.iload_n 2, 1) := by decide +kernel
theorem dX2_areSeen_36 : decode cX2_areSeen 36 = .ok (.iand, 1) := by decide +kernel
theorem dX2_areSeen_37 : decode cX2_areSeen 37 = .ok (.ifCond .ne 5, 3) := by decide +kernel
theorem dX2_areSeen_40 : decode cX2_areSeen 40 = .ok (.iconst 0, 1) := by decide +kernel
theorem dX2_areSeen_41 : decode cX2_areSeen 41 = .ok (.ireturn, 1) := by decide +kernel
theorem dX2_areSeen_42 : decode cX2_areSeen 42 = .ok (.iinc 3 1, 3) := by decide +kernel
theorem dX2_areSeen_45 : decode cX2_areSeen 45 = .ok (.goto (-43), 3) := by decide +kernel
theorem dX2_areSeen_48 : decode cX2_areSeen 48 = .ok (.iconst 1, 1) := by decide +kernel
theorem dX2_areSeen_49 : decode cX2_areSeen 49 = .ok (.ireturn, 1) := by decide +kernel
theorem dX4_clear_0 : decode cX4_clear 0 = .ok (.aload_n 0, 1) := by decide +kernel
theorem dX4_clear_1 : decode cX4_clear 1 = .ok (.iconst 0, 1) := by decide +kernel
theorem dX4_clear_2 : decode cX4_clear 2 = .ok (.putfield 15, 3) := by decide +kernel
theorem dX4_clear_5 : decode cX4_clear 5 = .ok (.return_, 1) := by decide +kernel
theorem dX3_forget_0 : decode cX3_forget 0 = .ok (.aload_n 0, 1) := by decide +kernel
theorem dX3_forget_1 : decode cX3_forget 1 = .ok (.getfield 14, 3) := by decide +kernel
theorem dX3_forget_4 : decode cX3_forget 4 = .ok (.invokevirtual 44, 3) := by decide +kernel
theorem dX3_forget_7 : decode cX3_forget 7 = .ok (.aload_n 0, 1) := by decide +kernel
theorem dX3_forget_8 : decode cX3_forget 8 = .ok (.getfield 20, 3) := by decide +kernel
theorem dX3_forget_11 : decode cX3_forget 11 = .ok (.invokevirtual 44, 3) := by decide +kernel
theorem dX3_forget_14 : decode cX3_forget 14 = .ok (.aload_n 0, 1) := by decide +kernel
theorem dX3_forget_15 : decode cX3_forget 15 = .ok (.getfield 23, 3) := by decide +kernel
theorem dX3_forget_18 : decode cX3_forget 18 = .ok (.invokevirtual 44, 3) := by decide +kernel
theorem dX3_forget_21 : decode cX3_forget 21 = .ok (.return_, 1) := by decide +kernel
theorem dX3_allMoves_0 : decode cX3_allMoves 0 = .ok (.iconst 1, 1) := by decide +kernel
theorem dX3_allMoves_1 : decode cX3_allMoves 1 = .ok (.aload_n 0, 1) := by decide +kernel
theorem dX3_allMoves_2 : decode cX3_allMoves 2 = .ok (.getfield 14, 3) := by decide +kernel
theorem dX3_allMoves_5 : decode cX3_allMoves 5 = .ok (.getfield 47, 3) := by decide +kernel
theorem dX3_allMoves_8 : decode cX3_allMoves 8 = .ok (.ishl, 1) := by decide +kernel
theorem dX3_allMoves_9 : decode cX3_allMoves 9 = .ok (.iconst 1, 1) := by decide +kernel
theorem dX3_allMoves_10 : decode cX3_allMoves 10 = .ok (.isub, 1) := by decide +kernel
theorem dX3_allMoves_11 : decode cX3_allMoves 11 = .ok (.ireturn, 1) := by decide +kernel
theorem dX4_get_0 : decode cX4_get 0 = .ok (.iload_n 1, 1) := by decide +kernel
theorem dX4_get_1 : decode cX4_get 1 = .ok (.ifCond .lt 20, 3) := by decide +kernel
theorem dX4_get_4 : decode cX4_get 4 = .ok (.iload_n 1, 1) := by decide +kernel
theorem dX4_get_5 : decode cX4_get 5 = .ok (.aload_n 0, 1) := by decide +kernel
theorem dX4_get_6 : decode cX4_get 6 = .ok (.getfield 15, 3) := by decide +kernel
theorem dX4_get_9 : decode cX4_get 9 = .ok (.if_icmp .ge 12, 3) := by decide +kernel
theorem dX4_get_12 : decode cX4_get 12 = .ok (.aload_n 0, 1) := by decide +kernel
theorem dX4_get_13 : decode cX4_get 13 = .ok (.getfield 9, 3) := by decide +kernel
theorem dX4_get_16 : decode cX4_get 16 = .ok (.iload_n 1, 1) := by decide +kernel
theorem dX4_get_17 : decode cX4_get 17 = .ok (.iaload, 1) := by decide +kernel
theorem dX4_get_18 : decode cX4_get 18 = .ok (.goto 4, 3) := by decide +kernel
theorem dX4_get_21 : decode cX4_get 21 = .ok (.iconst (-1), 1) := by decide +kernel
theorem dX4_get_22 : decode cX4_get 22 = .ok (.ireturn, 1) := by decide +kernel
theorem dX3_tryDone_0 : decode cX3_tryDone 0 = .ok (.aload_n 0, 1) := by decide +kernel
theorem dX3_tryDone_1 : decode cX3_tryDone 1 = .ok (.getfield 40, 3) := by decide +kernel
theorem dX3_tryDone_4 : decode cX3_tryDone 4 = .ok (.getfield 51, 3) := by decide +kernel
theorem dX3_tryDone_7 : decode cX3_tryDone 7 = .ok (.aload_n 0, 1) := by decide +kernel
theorem dX3_tryDone_8 : decode cX3_tryDone 8 = .ok (.getfield 40, 3) := by decide +kernel
theorem dX3_tryDone_11 : decode cX3_tryDone 11 = .ok (.getfield 57, 3) := by decide +kernel
theorem dX3_tryDone_14 : decode cX3_tryDone 14 = .ok (.invokevirtual 60, 3) := by decide +kernel
theorem dX3_tryDone_17 : decode cX3_tryDone 17 = .ok (.iconst 0, 1) := by decide +kernel
theorem dX3_tryDone_18 : decode cX3_tryDone 18 = .ok (.istore_n 2, 1) := by decide +kernel
theorem dX3_tryDone_19 : decode cX3_tryDone 19 = .ok (.iload_n 2, 1) := by decide +kernel
theorem dX3_tryDone_20 : decode cX3_tryDone 20 = .ok (.aload_n 0, 1) := by decide +kernel
theorem dX3_tryDone_21 : decode cX3_tryDone 21 = .ok (.getfield 14, 3) := by decide +kernel
theorem dX3_tryDone_24 : decode cX3_tryDone 24 = .ok (.getfield 47, 3) := by decide +kernel
theorem dX3_tryDone_27 : decode cX3_tryDone 27 = .ok (.if_icmp .ge 51, 3) := by decide +kernel
theorem dX3_tryDone_30 : decode cX3_tryDone 30 = .ok (.iload_n 1, 1) := by decide +kernel
theorem dX3_tryDone_31 : decode cX3_tryDone 31 = .ok (.iload_n 2, 1) := by decide +kernel
theorem dX3_tryDone_32 : decode cX3_tryDone 32 = .ok (.ishr, 1) := by decide +kernel
theorem dX3_tryDone_33 : decode cX3_tryDone 33 = .ok (.iconst 1, 1) := by decide +kernel
theorem dX3_tryDone_34 : decode cX3_tryDone 34 = .ok (.iand, 1) := by decide +kernel
theorem dX3_tryDone_35 : decode cX3_tryDone 35 = .ok (.ifCond .eq 37, 3) := by decide +kernel
theorem dX3_tryDone_38 : decode cX3_tryDone 38 = .ok (.aload_n 0, 1) := by decide +kernel
theorem dX3_tryDone_39 : decode cX3_tryDone 39 = .ok (.getfield 40, 3) := by decide +kernel
theorem dX3_tryDone_42 : decode cX3_tryDone 42 = .ok (.getfield 51, 3) := by decide +kernel
theorem dX3_tryDone_45 : decode cX3_tryDone 45 = .ok (.aload_n 0, 1) := by decide +kernel
theorem dX3_tryDone_46 : decode cX3_tryDone 46 = .ok (.getfield 14, 3) := by decide +kernel
theorem dX3_tryDone_49 : decode cX3_tryDone 49 = .ok (.iload_n 2, 1) := by decide +kernel
theorem dX3_tryDone_50 : decode cX3_tryDone 50 = .ok (.invokevirtual 66, 3) := by decide +kernel
theorem dX3_tryDone_53 : decode cX3_tryDone 53 = .ok (.aload_n 0, 1) := by decide +kernel
theorem dX3_tryDone_54 : decode cX3_tryDone 54 = .ok (.getfield 20, 3) := by decide +kernel
theorem dX3_tryDone_57 : decode cX3_tryDone 57 = .ok (.iload_n 2, 1) := by decide +kernel
theorem dX3_tryDone_58 : decode cX3_tryDone 58 = .ok (.invokevirtual 66, 3) := by decide +kernel
theorem dX3_tryDone_61 : decode cX3_tryDone 61 = .ok (.aload_n 0, 1) := by decide +kernel
theorem dX3_tryDone_62 : decode cX3_tryDone 62 = .ok (.getfield 23, 3) := by decide +kernel
theorem dX3_tryDone_65 : decode cX3_tryDone 65 = .ok (.iload_n 2, 1) := by decide +kernel
theorem dX3_tryDone_66 : decode cX3_tryDone 66 = .ok (.invokevirtual 66, 3) := by decide +kernel
theorem dX3_tryDone_69 : decode cX3_tryDone 69 = .ok (.invokevirtual 70, 3) := by decide +kernel
theorem dX3_tryDone_72 : decode cX3_tryDone 72 = .ok (.iinc 2 1, 3) := by decide +kernel
theorem dX3_tryDone_75 : decode cX3_tryDone 75 = .ok (.goto (-56), 3) := by decide +kernel
theorem dX3_tryDone_78 : decode cX3_tryDone 78 = .ok (.return_, 1) := by decide +kernel
theorem dX3_canStand_0 : decode cX3_canStand 0 = .ok (.aload_n 0, 1) := by decide +kernel
theorem dX3_canStand_1 : decode cX3_canStand 1 = .ok (.getfield 40, 3) := by decide +kernel
theorem dX3_canStand_4 : decode cX3_canStand 4 = .ok (.aload_n 0, 1) := by decide +kernel
theorem dX3_canStand_5 : decode cX3_canStand 5 = .ok (.getfield 14, 3) := by decide +kernel
theorem dX3_canStand_8 : decode cX3_canStand 8 = .ok (.iload_n 1, 1) := by decide +kernel
theorem dX3_canStand_9 : decode cX3_canStand 9 = .ok (.invokevirtual 66, 3) := by decide +kernel
theorem dX3_canStand_12 : decode cX3_canStand 12 = .ok (.invokevirtual 74, 3) := by decide +kernel
theorem dX3_canStand_15 : decode cX3_canStand 15 = .ok (.astore_n 2, 1) := by decide +kernel
theorem dX3_canStand_16 : decode cX3_canStand 16 = .ok (.aload_n 0, 1) := by decide +kernel
theorem dX3_canStand_17 : decode cX3_canStand 17 = .ok (.getfield 40, 3) := by decide +kernel
theorem dX3_canStand_20 : decode cX3_canStand 20 = .ok (.aload_n 0, 1) := by decide +kernel
theorem dX3_canStand_21 : decode cX3_canStand 21 = .ok (.getfield 20, 3) := by decide +kernel
theorem dX3_canStand_24 : decode cX3_canStand 24 = .ok (.iload_n 1, 1) := by decide +kernel
theorem dX3_canStand_25 : decode cX3_canStand 25 = .ok (.invokevirtual 66, 3) := by decide +kernel
theorem dX3_canStand_28 : decode cX3_canStand 28 = .ok (.invokevirtual 78, 3) := by decide +kernel
theorem dX3_canStand_31 : decode cX3_canStand 31 = .ok (.astore_n 3, 1) := by decide +kernel
theorem dX3_canStand_32 : decode cX3_canStand 32 = .ok (.aload_n 2, 1) := by decide +kernel
theorem dX3_canStand_33 : decode cX3_canStand 33 = .ok (.ifnull 38, 3) := by decide +kernel
theorem dX3_canStand_36 : decode cX3_canStand 36 = .ok (.aload_n 3, 1) := by decide +kernel
theorem dX3_canStand_37 : decode cX3_canStand 37 = .ok (.ifnull 34, 3) := by decide +kernel
theorem dX3_canStand_40 : decode cX3_canStand 40 = .ok (.aload_n 0, 1) := by decide +kernel
theorem dX3_canStand_41 : decode cX3_canStand 41 = .ok (.getfield 40, 3) := by decide +kernel
theorem dX3_canStand_44 : decode cX3_canStand 44 = .ok (.aload_n 0, 1) := by decide +kernel
theorem dX3_canStand_45 : decode cX3_canStand 45 = .ok (.getfield 40, 3) := by decide +kernel
theorem dX3_canStand_48 : decode cX3_canStand 48 = .ok (.getfield 51, 3) := by decide +kernel
theorem dX3_canStand_51 : decode cX3_canStand 51 = .ok (.aload_n 2, 1) := by decide +kernel
theorem dX3_canStand_52 : decode cX3_canStand 52 = .ok (.aload_n 3, 1) := by decide +kernel
theorem dX3_canStand_53 : decode cX3_canStand 53 = .ok (.aload_n 0, 1) := by decide +kernel
theorem dX3_canStand_54 : decode cX3_canStand 54 = .ok (.getfield 23, 3) := by decide +kernel
theorem dX3_canStand_57 : decode cX3_canStand 57 = .ok (.iload_n 1, 1) := by decide +kernel
theorem dX3_canStand_58 : decode cX3_canStand 58 = .ok (.invokevirtual 66, 3) := by decide +kernel
theorem dX3_canStand_61 : decode cX3_canStand 61 = .ok (.invokevirtual 82, 3) := by decide +kernel
theorem dX3_canStand_64 : decode cX3_canStand 64 = .ok (.ifCond .ne 7, 3) := by decide +kernel
theorem dX3_canStand_67 : decode cX3_canStand 67 = .ok (.iconst 1, 1) := by decide +kernel
theorem dX3_canStand_68 : decode cX3_canStand 68 = .ok (.goto 4, 3) := by decide +kernel
theorem dX3_canStand_71 : decode cX3_canStand 71 = .ok (.iconst 0, 1) := by decide +kernel
theorem dX3_canStand_72 : decode cX3_canStand 72 = .ok (.ireturn, 1) := by decide +kernel
theorem dX3_allCanStand_0 : decode cX3_allCanStand 0 = .ok (.aload_n 0, 1) := by decide +kernel
theorem dX3_allCanStand_1 : decode cX3_allCanStand 1 = .ok (.aload_n 0, 1) := by decide +kernel
theorem dX3_allCanStand_2 : decode cX3_allCanStand 2 = .ok (.invokevirtual 86, 3) := by decide +kernel
theorem dX3_allCanStand_5 : decode cX3_allCanStand 5 = .ok (.invokevirtual 90, 3) := by decide +kernel
theorem dX3_allCanStand_8 : decode cX3_allCanStand 8 = .ok (.iconst 0, 1) := by decide +kernel
theorem dX3_allCanStand_9 : decode cX3_allCanStand 9 = .ok (.istore_n 1, 1) := by decide +kernel
theorem dX3_allCanStand_10 : decode cX3_allCanStand 10 = .ok (.iload_n 1, 1) := by decide +kernel
theorem dX3_allCanStand_11 : decode cX3_allCanStand 11 = .ok (.aload_n 0, 1) := by decide +kernel
theorem dX3_allCanStand_12 : decode cX3_allCanStand 12 = .ok (.getfield 14, 3) := by decide +kernel
theorem dX3_allCanStand_15 : decode cX3_allCanStand 15 = .ok (.getfield 47, 3) := by decide +kernel
theorem dX3_allCanStand_18 : decode cX3_allCanStand 18 = .ok (.if_icmp .ge 19, 3) := by decide +kernel
theorem dX3_allCanStand_21 : decode cX3_allCanStand 21 = .ok (.aload_n 0, 1) := by decide +kernel
theorem dX3_allCanStand_22 : decode cX3_allCanStand 22 = .ok (.iload_n 1, 1) := by decide +kernel
theorem dX3_allCanStand_23 : decode cX3_allCanStand 23 = .ok (.invokevirtual 93, 3) := by decide +kernel
theorem dX3_allCanStand_26 : decode cX3_allCanStand 26 = .ok (.ifCond .ne 5, 3) := by decide +kernel
theorem dX3_allCanStand_29 : decode cX3_allCanStand 29 = .ok (.iconst 0, 1) := by decide +kernel
theorem dX3_allCanStand_30 : decode cX3_allCanStand 30 = .ok (.ireturn, 1) := by decide +kernel
theorem dX3_allCanStand_31 : decode cX3_allCanStand 31 = .ok (.iinc 1 1, 3) := by decide +kernel
theorem dX3_allCanStand_34 : decode cX3_allCanStand 34 = .ok (.goto (-24), 3) := by decide +kernel
theorem dX3_allCanStand_37 : decode cX3_allCanStand 37 = .ok (.iconst 1, 1) := by decide +kernel
theorem dX3_allCanStand_38 : decode cX3_allCanStand 38 = .ok (.ireturn, 1) := by decide +kernel
theorem dX3_roomsOf_0 : decode cX3_roomsOf 0 = .ok (.aload_n 0, 1) := by decide +kernel
theorem dX3_roomsOf_1 : decode cX3_roomsOf 1 = .ok (.getfield 40, 3) := by decide +kernel
theorem dX3_roomsOf_4 : decode cX3_roomsOf 4 = .ok (.aload_n 0, 1) := by decide +kernel
theorem dX3_roomsOf_5 : decode cX3_roomsOf 5 = .ok (.getfield 40, 3) := by decide +kernel
theorem dX3_roomsOf_8 : decode cX3_roomsOf 8 = .ok (.getfield 57, 3) := by decide +kernel
theorem dX3_roomsOf_11 : decode cX3_roomsOf 11 = .ok (.aload_n 0, 1) := by decide +kernel
theorem dX3_roomsOf_12 : decode cX3_roomsOf 12 = .ok (.getfield 14, 3) := by decide +kernel
theorem dX3_roomsOf_15 : decode cX3_roomsOf 15 = .ok (.iload_n 1, 1) := by decide +kernel
theorem dX3_roomsOf_16 : decode cX3_roomsOf 16 = .ok (.invokevirtual 66, 3) := by decide +kernel
theorem dX3_roomsOf_19 : decode cX3_roomsOf 19 = .ok (.invokevirtual 97, 3) := by decide +kernel
theorem dX3_roomsOf_22 : decode cX3_roomsOf 22 = .ok (.invokevirtual 78, 3) := by decide +kernel
theorem dX3_roomsOf_25 : decode cX3_roomsOf 25 = .ok (.astore_n 2, 1) := by decide +kernel
theorem dX3_roomsOf_26 : decode cX3_roomsOf 26 = .ok (.aload_n 0, 1) := by decide +kernel
theorem dX3_roomsOf_27 : decode cX3_roomsOf 27 = .ok (.getfield 40, 3) := by decide +kernel
theorem dX3_roomsOf_30 : decode cX3_roomsOf 30 = .ok (.aload_n 0, 1) := by decide +kernel
theorem dX3_roomsOf_31 : decode cX3_roomsOf 31 = .ok (.getfield 20, 3) := by decide +kernel
theorem dX3_roomsOf_34 : decode cX3_roomsOf 34 = .ok (.iload_n 1, 1) := by decide +kernel
theorem dX3_roomsOf_35 : decode cX3_roomsOf 35 = .ok (.invokevirtual 66, 3) := by decide +kernel
theorem dX3_roomsOf_38 : decode cX3_roomsOf 38 = .ok (.invokevirtual 78, 3) := by decide +kernel
theorem dX3_roomsOf_41 : decode cX3_roomsOf 41 = .ok (.astore_n 3, 1) := by decide +kernel
theorem dX3_roomsOf_42 : decode cX3_roomsOf 42 = .ok (.aload_n 2, 1) := by decide +kernel
theorem dX3_roomsOf_43 : decode cX3_roomsOf 43 = .ok (.ifnonnull 7, 3) := by decide +kernel
theorem dX3_roomsOf_46 : decode cX3_roomsOf 46 = .ok (.iconst 0, 1) := by decide +kernel
theorem dX3_roomsOf_47 : decode cX3_roomsOf 47 = .ok (.goto 9, 3) := by decide +kernel
theorem dX3_roomsOf_50 : decode cX3_roomsOf 50 = .ok (.iconst 1, 1) := by decide +kernel
theorem dX3_roomsOf_51 : decode cX3_roomsOf 51 = .ok (.aload_n 2, 1) := by decide +kernel
theorem dX3_roomsOf_52 : decode cX3_roomsOf 52 = .ok (.getfield 100, 3) := by decide +kernel
theorem dX3_roomsOf_55 : decode cX3_roomsOf 55 = .ok (.ishl, 1) := by decide +kernel
theorem dX3_roomsOf_56 : decode cX3_roomsOf 56 = .ok (.aload_n 3, 1) := by decide +kernel
theorem dX3_roomsOf_57 : decode cX3_roomsOf 57 = .ok (.ifnonnull 7, 3) := by decide +kernel
theorem dX3_roomsOf_60 : decode cX3_roomsOf 60 = .ok (.iconst 0, 1) := by decide +kernel
theorem dX3_roomsOf_61 : decode cX3_roomsOf 61 = .ok (.goto 9, 3) := by decide +kernel
theorem dX3_roomsOf_64 : decode cX3_roomsOf 64 = .ok (.iconst 1, 1) := by decide +kernel
theorem dX3_roomsOf_65 : decode cX3_roomsOf 65 = .ok (.aload_n 3, 1) := by decide +kernel
theorem dX3_roomsOf_66 : decode cX3_roomsOf 66 = .ok (.getfield 100, 3) := by decide +kernel
theorem dX3_roomsOf_69 : decode cX3_roomsOf 69 = .ok (.ishl, 1) := by decide +kernel
theorem dX3_roomsOf_70 : decode cX3_roomsOf 70 = .ok (.ior, 1) := by decide +kernel
theorem dX3_roomsOf_71 : decode cX3_roomsOf 71 = .ok (.ireturn, 1) := by decide +kernel
theorem dX3_lookAtSets_0 : decode cX3_lookAtSets 0 = .ok (.aload_n 0, 1) := by decide +kernel
theorem dX3_lookAtSets_1 : decode cX3_lookAtSets 1 = .ok (.invokevirtual 86, 3) := by decide +kernel
theorem dX3_lookAtSets_4 : decode cX3_lookAtSets 4 = .ok (.istore_n 1, 1) := by decide +kernel
theorem dX3_lookAtSets_5 : decode cX3_lookAtSets 5 = .ok (.iconst 0, 1) := by decide +kernel
theorem dX3_lookAtSets_6 : decode cX3_lookAtSets 6 = .ok (.istore_n 2, 1) := by decide +kernel
theorem dX3_lookAtSets_7 : decode cX3_lookAtSets 7 = .ok (.iload_n 2, 1) := by decide +kernel
theorem dX3_lookAtSets_8 : decode cX3_lookAtSets 8 = .ok (.iload_n 1, 1) := by decide +kernel
theorem dX3_lookAtSets_9 : decode cX3_lookAtSets 9 = .ok (.if_icmp .gt 92, 3) := by decide +kernel
theorem dX3_lookAtSets_12 : decode cX3_lookAtSets 12 = .ok (.aload_n 0, 1) := by decide +kernel
theorem dX3_lookAtSets_13 : decode cX3_lookAtSets 13 = .ok (.iload_n 2, 1) := by decide +kernel
theorem dX3_lookAtSets_14 : decode cX3_lookAtSets 14 = .ok (.invokevirtual 90, 3) := by decide +kernel
theorem dX3_lookAtSets_17 : decode cX3_lookAtSets 17 = .ok (.aload_n 0, 1) := by decide +kernel
theorem dX3_lookAtSets_18 : decode cX3_lookAtSets 18 = .ok (.getfield 26, 3) := by decide +kernel
theorem dX3_lookAtSets_21 : decode cX3_lookAtSets 21 = .ok (.iload_n 2, 1) := by decide +kernel
theorem dX3_lookAtSets_22 : decode cX3_lookAtSets 22 = .ok (.iconst 0, 1) := by decide +kernel
theorem dX3_lookAtSets_23 : decode cX3_lookAtSets 23 = .ok (.iastore, 1) := by decide +kernel
theorem dX3_lookAtSets_24 : decode cX3_lookAtSets 24 = .ok (.aload_n 0, 1) := by decide +kernel
theorem dX3_lookAtSets_25 : decode cX3_lookAtSets 25 = .ok (.getfield 30, 3) := by decide +kernel
theorem dX3_lookAtSets_28 : decode cX3_lookAtSets 28 = .ok (.iload_n 2, 1) := by decide +kernel
theorem dX3_lookAtSets_29 : decode cX3_lookAtSets 29 = .ok (.iconst 0, 1) := by decide +kernel
theorem dX3_lookAtSets_30 : decode cX3_lookAtSets 30 = .ok (.iastore, 1) := by decide +kernel
theorem dX3_lookAtSets_31 : decode cX3_lookAtSets 31 = .ok (.iconst 0, 1) := by decide +kernel
theorem dX3_lookAtSets_32 : decode cX3_lookAtSets 32 = .ok (.istore_n 3, 1) := by decide +kernel
theorem dX3_lookAtSets_33 : decode cX3_lookAtSets 33 = .ok (.iload_n 3, 1) := by decide +kernel
theorem dX3_lookAtSets_34 : decode cX3_lookAtSets 34 = .ok (.aload_n 0, 1) := by decide +kernel
theorem dX3_lookAtSets_35 : decode cX3_lookAtSets 35 = .ok (.getfield 14, 3) := by decide +kernel
theorem dX3_lookAtSets_38 : decode cX3_lookAtSets 38 = .ok (.getfield 47, 3) := by decide +kernel
theorem dX3_lookAtSets_41 : decode cX3_lookAtSets 41 = .ok (.if_icmp .ge 54, 3) := by decide +kernel
theorem dX3_lookAtSets_44 : decode cX3_lookAtSets 44 = .ok (.iload_n 2, 1) := by decide +kernel
theorem dX3_lookAtSets_45 : decode cX3_lookAtSets 45 = .ok (.iload_n 3, 1) := by decide +kernel
theorem dX3_lookAtSets_46 : decode cX3_lookAtSets 46 = .ok (.ishr, 1) := by decide +kernel
theorem dX3_lookAtSets_47 : decode cX3_lookAtSets 47 = .ok (.iconst 1, 1) := by decide +kernel
theorem dX3_lookAtSets_48 : decode cX3_lookAtSets 48 = .ok (.iand, 1) := by decide +kernel
theorem dX3_lookAtSets_49 : decode cX3_lookAtSets 49 = .ok (.ifCond .eq 20, 3) := by decide +kernel
theorem dX3_lookAtSets_52 : decode cX3_lookAtSets 52 = .ok (.aload_n 0, 1) := by decide +kernel
theorem dX3_lookAtSets_53 : decode cX3_lookAtSets 53 = .ok (.getfield 30, 3) := by decide +kernel
theorem dX3_lookAtSets_56 : decode cX3_lookAtSets 56 = .ok (.iload_n 2, 1) := by decide +kernel
theorem dX3_lookAtSets_57 : decode cX3_lookAtSets 57 = .ok (.dup2, 1) := by decide +kernel
theorem dX3_lookAtSets_58 : decode cX3_lookAtSets 58 = .ok (.iaload, 1) := by decide +kernel
theorem dX3_lookAtSets_59 : decode cX3_lookAtSets 59 = .ok (.aload_n 0, 1) := by decide +kernel
theorem dX3_lookAtSets_60 : decode cX3_lookAtSets 60 = .ok (.iload_n 3, 1) := by decide +kernel
theorem dX3_lookAtSets_61 : decode cX3_lookAtSets 61 = .ok (.invokevirtual 105, 3) := by decide +kernel
theorem dX3_lookAtSets_64 : decode cX3_lookAtSets 64 = .ok (.ior, 1) := by decide +kernel
theorem dX3_lookAtSets_65 : decode cX3_lookAtSets 65 = .ok (.iastore, 1) := by decide +kernel
theorem dX3_lookAtSets_66 : decode cX3_lookAtSets 66 = .ok (.goto 23, 3) := by decide +kernel
theorem dX3_lookAtSets_69 : decode cX3_lookAtSets 69 = .ok (.aload_n 0, 1) := by decide +kernel
theorem dX3_lookAtSets_70 : decode cX3_lookAtSets 70 = .ok (.iload_n 3, 1) := by decide +kernel
theorem dX3_lookAtSets_71 : decode cX3_lookAtSets 71 = .ok (.invokevirtual 93, 3) := by decide +kernel
theorem dX3_lookAtSets_74 : decode cX3_lookAtSets 74 = .ok (.ifCond .eq 15, 3) := by decide +kernel
theorem dX3_lookAtSets_77 : decode cX3_lookAtSets 77 = .ok (.aload_n 0, 1) := by decide +kernel
theorem dX3_lookAtSets_78 : decode cX3_lookAtSets 78 = .ok (.getfield 26, 3) := by decide +kernel
theorem dX3_lookAtSets_81 : decode cX3_lookAtSets 81 = .ok (.iload_n 2, 1) := by decide +kernel
theorem dX3_lookAtSets_82 : decode cX3_lookAtSets 82 = .ok (.dup2, 1) := by decide +kernel
theorem dX3_lookAtSets_83 : decode cX3_lookAtSets 83 = .ok (.iaload, 1) := by decide +kernel
theorem dX3_lookAtSets_84 : decode cX3_lookAtSets 84 = .ok (.iconst 1, 1) := by decide +kernel
theorem dX3_lookAtSets_85 : decode cX3_lookAtSets 85 = .ok (.iload_n 3, 1) := by decide +kernel
theorem dX3_lookAtSets_86 : decode cX3_lookAtSets 86 = .ok (.ishl, 1) := by decide +kernel
theorem dX3_lookAtSets_87 : decode cX3_lookAtSets 87 = .ok (.ior, 1) := by decide +kernel
theorem dX3_lookAtSets_88 : decode cX3_lookAtSets 88 = .ok (.iastore, 1) := by decide +kernel
theorem dX3_lookAtSets_89 : decode cX3_lookAtSets 89 = .ok (.iinc 3 1, 3) := by decide +kernel
theorem dX3_lookAtSets_92 : decode cX3_lookAtSets 92 = .ok (.goto (-59), 3) := by decide +kernel
theorem dX3_lookAtSets_95 : decode cX3_lookAtSets 95 = .ok (.iinc 2 1, 3) := by decide +kernel
theorem dX3_lookAtSets_98 : decode cX3_lookAtSets 98 = .ok (.goto (-91), 3) := by decide +kernel
theorem dX3_lookAtSets_101 : decode cX3_lookAtSets 101 = .ok (.return_, 1) := by decide +kernel
theorem dX3_reachFrom_0 : decode cX3_reachFrom 0 = .ok (.aload_n 0, 1) := by decide +kernel
theorem dX3_reachFrom_1 : decode cX3_reachFrom 1 = .ok (.invokevirtual 86, 3) := by decide +kernel
theorem dX3_reachFrom_4 : decode cX3_reachFrom 4 = .ok (.istore_n 2, 1) := by decide +kernel
theorem dX3_reachFrom_5 : decode cX3_reachFrom 5 = .ok (.iload_n 1, 1) := by decide +kernel
theorem dX3_reachFrom_6 : decode cX3_reachFrom 6 = .ok (.istore_n 3, 1) := by decide +kernel
theorem dX3_reachFrom_7 : decode cX3_reachFrom 7 = .ok (.iload_n 3, 1) := by decide +kernel
theorem dX3_reachFrom_8 : decode cX3_reachFrom 8 = .ok (.iload_n 2, 1) := by decide +kernel
theorem dX3_reachFrom_9 : decode cX3_reachFrom 9 = .ok (.if_icmp .gt 129, 3) := by decide +kernel
theorem dX3_reachFrom_12 : decode cX3_reachFrom 12 = .ok (.aload_n 0, 1) := by decide +kernel
theorem dX3_reachFrom_13 : decode cX3_reachFrom 13 = .ok (.getfield 36, 3) := by decide +kernel
theorem dX3_reachFrom_16 : decode cX3_reachFrom 16 = .ok (.iload_n 3, 1) := by decide +kernel
theorem dX3_reachFrom_17 : decode cX3_reachFrom 17 = .ok (.iload_n 3, 1) := by decide +kernel
theorem dX3_reachFrom_18 : decode cX3_reachFrom 18 = .ok (.iload_n 1, 1) := by decide +kernel
theorem dX3_reachFrom_19 : decode cX3_reachFrom 19 = .ok (.if_icmp .ne 7, 3) := by decide +kernel
theorem dX3_reachFrom_22 : decode cX3_reachFrom 22 = .ok (.iconst 1, 1) := by decide +kernel
theorem dX3_reachFrom_23 : decode cX3_reachFrom 23 = .ok (.goto 4, 3) := by decide +kernel
theorem dX3_reachFrom_26 : decode cX3_reachFrom 26 = .ok (.iconst 0, 1) := by decide +kernel
theorem dX3_reachFrom_27 : decode cX3_reachFrom 27 = .ok (.bastore, 1) := by decide +kernel
theorem dX3_reachFrom_28 : decode cX3_reachFrom 28 = .ok (.iconst 0, 1) := by decide +kernel
theorem dX3_reachFrom_29 : decode cX3_reachFrom 29 = .ok (.istore 4, 2) := by decide +kernel
theorem dX3_reachFrom_31 : decode cX3_reachFrom 31 = .ok (.iload 4, 2) := by decide +kernel
theorem dX3_reachFrom_33 : decode cX3_reachFrom 33 = .ok (.aload_n 0, 1) := by decide +kernel
theorem dX3_reachFrom_34 : decode cX3_reachFrom 34 = .ok (.getfield 14, 3) := by decide +kernel
theorem dX3_reachFrom_37 : decode cX3_reachFrom 37 = .ok (.getfield 47, 3) := by decide +kernel
theorem dX3_reachFrom_40 : decode cX3_reachFrom 40 = .ok (.if_icmp .ge 89, 3) := by decide +kernel
theorem dX3_reachFrom_43 : decode cX3_reachFrom 43 = .ok (.aload_n 0, 1) := by decide +kernel
theorem dX3_reachFrom_44 : decode cX3_reachFrom 44 = .ok (.getfield 36, 3) := by decide +kernel
theorem dX3_reachFrom_47 : decode cX3_reachFrom 47 = .ok (.iload_n 3, 1) := by decide +kernel
theorem dX3_reachFrom_48 : decode cX3_reachFrom 48 = .ok (.baload, 1) := by decide +kernel
theorem dX3_reachFrom_49 : decode cX3_reachFrom 49 = .ok (.ifCond .ne 80, 3) := by decide +kernel
theorem dX3_reachFrom_52 : decode cX3_reachFrom 52 = .ok (.iload_n 3, 1) := by decide +kernel
theorem dX3_reachFrom_53 : decode cX3_reachFrom 53 = .ok (.iconst 1, 1) := by decide +kernel
theorem dX3_reachFrom_54 : decode cX3_reachFrom 54 = .ok (.iload 4, 2) := by decide +kernel
theorem dX3_reachFrom_56 : decode cX3_reachFrom 56 = .ok (.ishl, 1) := by decide +kernel
theorem dX3_reachFrom_57 : decode cX3_reachFrom 57 = .ok (.iconst (-1), 1) := by decide +kernel
theorem dX3_reachFrom_58 : decode cX3_reachFrom 58 = .ok (.ixor, 1) := by decide +kernel
theorem dX3_reachFrom_59 : decode cX3_reachFrom 59 = .ok (.iand, 1) := by decide +kernel
theorem dX3_reachFrom_60 : decode cX3_reachFrom 60 = .ok (.istore 5, 2) := by decide +kernel
theorem dX3_reachFrom_62 : decode cX3_reachFrom 62 = .ok (.iload_n 3, 1) := by decide +kernel
theorem dX3_reachFrom_63 : decode cX3_reachFrom 63 = .ok (.iload_n 1, 1) := by decide +kernel
theorem dX3_reachFrom_64 : decode cX3_reachFrom 64 = .ok (.iconst (-1), 1) := by decide +kernel
theorem dX3_reachFrom_65 : decode cX3_reachFrom 65 = .ok (.ixor, 1) := by decide +kernel
theorem dX3_reachFrom_66 : decode cX3_reachFrom 66 = .ok (.iand, 1) := by decide +kernel
theorem dX3_reachFrom_67 : decode cX3_reachFrom 67 = .ok (.iconst 1, 1) := by decide +kernel
theorem dX3_reachFrom_68 : decode cX3_reachFrom 68 = .ok (.iload 4, 2) := by decide +kernel
theorem dX3_reachFrom_70 : decode cX3_reachFrom 70 = .ok (.ishl, 1) := by decide +kernel
theorem dX3_reachFrom_71 : decode cX3_reachFrom 71 = .ok (.iand, 1) := by decide +kernel
theorem dX3_reachFrom_72 : decode cX3_reachFrom 72 = .ok (.ifCond .eq 7, 3) := by decide +kernel
theorem dX3_reachFrom_75 : decode cX3_reachFrom 75 = .ok (.iconst 1, 1) := by decide +kernel
theorem dX3_reachFrom_76 : decode cX3_reachFrom 76 = .ok (.goto 4, 3) := by decide +kernel
theorem dX3_reachFrom_79 : decode cX3_reachFrom 79 = .ok (.iconst 0, 1) := by decide +kernel
theorem dX3_reachFrom_80 : decode cX3_reachFrom 80 = .ok (.istore 6, 2) := by decide +kernel
theorem dX3_reachFrom_82 : decode cX3_reachFrom 82 = .ok (.aload_n 0, 1) := by decide +kernel
theorem dX3_reachFrom_83 : decode cX3_reachFrom 83 = .ok (.getfield 36, 3) := by decide +kernel
theorem dX3_reachFrom_86 : decode cX3_reachFrom 86 = .ok (.iload_n 3, 1) := by decide +kernel
theorem dX3_reachFrom_87 : decode cX3_reachFrom 87 = .ok (.iload 6, 2) := by decide +kernel
theorem dX3_reachFrom_89 : decode cX3_reachFrom 89 = .ok (.ifCond .eq 32, 3) := by decide +kernel
theorem dX3_reachFrom_92 : decode cX3_reachFrom 92 = .ok (.aload_n 0, 1) := by decide +kernel
theorem dX3_reachFrom_93 : decode cX3_reachFrom 93 = .ok (.getfield 36, 3) := by decide +kernel
theorem dX3_reachFrom_96 : decode cX3_reachFrom 96 = .ok (.iload 5, 2) := by decide +kernel
theorem dX3_reachFrom_98 : decode cX3_reachFrom 98 = .ok (.baload, 1) := by decide +kernel
theorem dX3_reachFrom_99 : decode cX3_reachFrom 99 = .ok (.ifCond .eq 22, 3) := by decide +kernel
theorem dX3_reachFrom_102 : decode cX3_reachFrom 102 = .ok (.aload_n 0, 1) := by decide +kernel
theorem dX3_reachFrom_103 : decode cX3_reachFrom 103 = .ok (.getfield 26, 3) := by decide +kernel
theorem dX3_reachFrom_106 : decode cX3_reachFrom 106 = .ok (.iload 5, 2) := by decide +kernel
theorem dX3_reachFrom_108 : decode cX3_reachFrom 108 = .ok (.iaload, 1) := by decide +kernel
theorem dX3_reachFrom_109 : decode cX3_reachFrom 109 = .ok (.iload 4, 2) := by decide +kernel
theorem dX3_reachFrom_111 : decode cX3_reachFrom 111 = .ok (.ishr, 1) := by decide +kernel
theorem dX3_reachFrom_112 : decode cX3_reachFrom 112 = .ok (.iconst 1, 1) := by decide +kernel
theorem dX3_reachFrom_113 : decode cX3_reachFrom 113 = .ok (.iand, 1) := by decide +kernel
theorem dX3_reachFrom_114 : decode cX3_reachFrom 114 = .ok (.ifCond .eq 7, 3) := by decide +kernel
theorem dX3_reachFrom_117 : decode cX3_reachFrom 117 = .ok (.iconst 1, 1) := by decide +kernel
theorem dX3_reachFrom_118 : decode cX3_reachFrom 118 = .ok (.goto 4, 3) := by decide +kernel
theorem dX3_reachFrom_121 : decode cX3_reachFrom 121 = .ok (.iconst 0, 1) := by decide +kernel
theorem dX3_reachFrom_122 : decode cX3_reachFrom 122 = .ok (.bastore, 1) := by decide +kernel
theorem dX3_reachFrom_123 : decode cX3_reachFrom 123 = .ok (.iinc 4 1, 3) := by decide +kernel
theorem dX3_reachFrom_126 : decode cX3_reachFrom 126 = .ok (.goto (-95), 3) := by decide +kernel
theorem dX3_reachFrom_129 : decode cX3_reachFrom 129 = .ok (.iload_n 3, 1) := by decide +kernel
theorem dX3_reachFrom_130 : decode cX3_reachFrom 130 = .ok (.iconst 1, 1) := by decide +kernel
theorem dX3_reachFrom_131 : decode cX3_reachFrom 131 = .ok (.iadd, 1) := by decide +kernel
theorem dX3_reachFrom_132 : decode cX3_reachFrom 132 = .ok (.iload_n 1, 1) := by decide +kernel
theorem dX3_reachFrom_133 : decode cX3_reachFrom 133 = .ok (.ior, 1) := by decide +kernel
theorem dX3_reachFrom_134 : decode cX3_reachFrom 134 = .ok (.istore_n 3, 1) := by decide +kernel
theorem dX3_reachFrom_135 : decode cX3_reachFrom 135 = .ok (.goto (-128), 3) := by decide +kernel
theorem dX3_reachFrom_138 : decode cX3_reachFrom 138 = .ok (.return_, 1) := by decide +kernel
theorem dX3_isNight_0 : decode cX3_isNight 0 = .ok (.iload_n 2, 1) := by decide +kernel
theorem dX3_isNight_1 : decode cX3_isNight 1 = .ok (.iload_n 1, 1) := by decide +kernel
theorem dX3_isNight_2 : decode cX3_isNight 2 = .ok (.ixor, 1) := by decide +kernel
theorem dX3_isNight_3 : decode cX3_isNight 3 = .ok (.istore 5, 2) := by decide +kernel
theorem dX3_isNight_5 : decode cX3_isNight 5 = .ok (.iload 5, 2) := by decide +kernel
theorem dX3_isNight_7 : decode cX3_isNight 7 = .ok (.ifCond .eq 40, 3) := by decide +kernel
theorem dX3_isNight_10 : decode cX3_isNight 10 = .ok (.aload_n 0, 1) := by decide +kernel
theorem dX3_isNight_11 : decode cX3_isNight 11 = .ok (.getfield 36, 3) := by decide +kernel
theorem dX3_isNight_14 : decode cX3_isNight 14 = .ok (.iload_n 2, 1) := by decide +kernel
theorem dX3_isNight_15 : decode cX3_isNight 15 = .ok (.baload, 1) := by decide +kernel
theorem dX3_isNight_16 : decode cX3_isNight 16 = .ok (.ifCond .eq 31, 3) := by decide +kernel
theorem dX3_isNight_19 : decode cX3_isNight 19 = .ok (.iload 5, 2) := by decide +kernel
theorem dX3_isNight_21 : decode cX3_isNight 21 = .ok (.invokestatic 131, 3) := by decide +kernel
theorem dX3_isNight_24 : decode cX3_isNight 24 = .ok (.iload_n 3, 1) := by decide +kernel
theorem dX3_isNight_25 : decode cX3_isNight 25 = .ok (.if_icmp .gt 22, 3) := by decide +kernel
theorem dX3_isNight_28 : decode cX3_isNight 28 = .ok (.aload_n 0, 1) := by decide +kernel
theorem dX3_isNight_29 : decode cX3_isNight 29 = .ok (.getfield 30, 3) := by decide +kernel
theorem dX3_isNight_32 : decode cX3_isNight 32 = .ok (.iload 5, 2) := by decide +kernel
theorem dX3_isNight_34 : decode cX3_isNight 34 = .ok (.iaload, 1) := by decide +kernel
theorem dX3_isNight_35 : decode cX3_isNight 35 = .ok (.invokestatic 131, 3) := by decide +kernel
theorem dX3_isNight_38 : decode cX3_isNight 38 = .ok (.iload 4, 2) := by decide +kernel
theorem dX3_isNight_40 : decode cX3_isNight 40 = .ok (.if_icmp .gt 7, 3) := by decide +kernel
theorem dX3_isNight_43 : decode cX3_isNight 43 = .ok (.iconst 1, 1) := by decide +kernel
theorem dX3_isNight_44 : decode cX3_isNight 44 = .ok (.goto 4, 3) := by decide +kernel
theorem dX3_isNight_47 : decode cX3_isNight 47 = .ok (.iconst 0, 1) := by decide +kernel
theorem dX3_isNight_48 : decode cX3_isNight 48 = .ok (.ireturn, 1) := by decide +kernel
theorem dX3_plan_0 : decode cX3_plan 0 = .ok (.aload_n 0, 1) := by decide +kernel
theorem dX3_plan_1 : decode cX3_plan 1 = .ok (.invokevirtual 108, 3) := by decide +kernel
theorem dX3_plan_4 : decode cX3_plan 4 = .ok (.aload_n 0, 1) := by decide +kernel
theorem dX3_plan_5 : decode cX3_plan 5 = .ok (.invokevirtual 86, 3) := by decide +kernel
theorem dX3_plan_8 : decode cX3_plan 8 = .ok (.istore_n 3, 1) := by decide +kernel
theorem dX3_plan_9 : decode cX3_plan 9 = .ok (.aload_n 0, 1) := by decide +kernel
theorem dX3_plan_10 : decode cX3_plan 10 = .ok (.getfield 33, 3) := by decide +kernel
theorem dX3_plan_13 : decode cX3_plan 13 = .ok (.iload_n 3, 1) := by decide +kernel
theorem dX3_plan_14 : decode cX3_plan 14 = .ok (.iconst 0, 1) := by decide +kernel
theorem dX3_plan_15 : decode cX3_plan 15 = .ok (.iastore, 1) := by decide +kernel
theorem dX3_plan_16 : decode cX3_plan 16 = .ok (.iload_n 3, 1) := by decide +kernel
theorem dX3_plan_17 : decode cX3_plan 17 = .ok (.iconst 1, 1) := by decide +kernel
theorem dX3_plan_18 : decode cX3_plan 18 = .ok (.isub, 1) := by decide +kernel
theorem dX3_plan_19 : decode cX3_plan 19 = .ok (.istore 4, 2) := by decide +kernel
theorem dX3_plan_21 : decode cX3_plan 21 = .ok (.iload 4, 2) := by decide +kernel
theorem dX3_plan_23 : decode cX3_plan 23 = .ok (.ifCond .lt 85, 3) := by decide +kernel
theorem dX3_plan_26 : decode cX3_plan 26 = .ok (.aload_n 0, 1) := by decide +kernel
theorem dX3_plan_27 : decode cX3_plan 27 = .ok (.getfield 33, 3) := by decide +kernel
theorem dX3_plan_30 : decode cX3_plan 30 = .ok (.iload 4, 2) := by decide +kernel
theorem dX3_plan_32 : decode cX3_plan 32 = .ok (.bipush 99, 2) := by decide +kernel
theorem dX3_plan_34 : decode cX3_plan 34 = .ok (.iastore, 1) := by decide +kernel
theorem dX3_plan_35 : decode cX3_plan 35 = .ok (.aload_n 0, 1) := by decide +kernel
theorem dX3_plan_36 : decode cX3_plan 36 = .ok (.iload 4, 2) := by decide +kernel
theorem dX3_plan_38 : decode cX3_plan 38 = .ok (.invokevirtual 111, 3) := by decide +kernel
theorem dX3_plan_41 : decode cX3_plan 41 = .ok (.iload 4, 2) := by decide +kernel
theorem dX3_plan_43 : decode cX3_plan 43 = .ok (.istore 5, 2) := by decide +kernel
theorem dX3_plan_45 : decode cX3_plan 45 = .ok (.iload 5, 2) := by decide +kernel
theorem dX3_plan_47 : decode cX3_plan 47 = .ok (.iload_n 3, 1) := by decide +kernel
theorem dX3_plan_48 : decode cX3_plan 48 = .ok (.if_icmp .gt 54, 3) := by decide +kernel
theorem dX3_plan_51 : decode cX3_plan 51 = .ok (.aload_n 0, 1) := by decide +kernel
theorem dX3_plan_52 : decode cX3_plan 52 = .ok (.iload 4, 2) := by decide +kernel
theorem dX3_plan_54 : decode cX3_plan 54 = .ok (.iload 5, 2) := by decide +kernel
theorem dX3_plan_56 : decode cX3_plan 56 = .ok (.iload_n 1, 1) := by decide +kernel
theorem dX3_plan_57 : decode cX3_plan 57 = .ok (.iload_n 2, 1) := by decide +kernel
theorem dX3_plan_58 : decode cX3_plan 58 = .ok (.invokevirtual 114, 3) := by decide +kernel
theorem dX3_plan_61 : decode cX3_plan 61 = .ok (.ifCond .eq 29, 3) := by decide +kernel
theorem dX3_plan_64 : decode cX3_plan 64 = .ok (.aload_n 0, 1) := by decide +kernel
theorem dX3_plan_65 : decode cX3_plan 65 = .ok (.getfield 33, 3) := by decide +kernel
theorem dX3_plan_68 : decode cX3_plan 68 = .ok (.iload 4, 2) := by decide +kernel
theorem dX3_plan_70 : decode cX3_plan 70 = .ok (.aload_n 0, 1) := by decide +kernel
theorem dX3_plan_71 : decode cX3_plan 71 = .ok (.getfield 33, 3) := by decide +kernel
theorem dX3_plan_74 : decode cX3_plan 74 = .ok (.iload 4, 2) := by decide +kernel
theorem dX3_plan_76 : decode cX3_plan 76 = .ok (.iaload, 1) := by decide +kernel
theorem dX3_plan_77 : decode cX3_plan 77 = .ok (.aload_n 0, 1) := by decide +kernel
theorem dX3_plan_78 : decode cX3_plan 78 = .ok (.getfield 33, 3) := by decide +kernel
theorem dX3_plan_81 : decode cX3_plan 81 = .ok (.iload 5, 2) := by decide +kernel
theorem dX3_plan_83 : decode cX3_plan 83 = .ok (.iaload, 1) := by decide +kernel
theorem dX3_plan_84 : decode cX3_plan 84 = .ok (.iconst 1, 1) := by decide +kernel
theorem dX3_plan_85 : decode cX3_plan 85 = .ok (.iadd, 1) := by decide +kernel
theorem dX3_plan_86 : decode cX3_plan 86 = .ok (.invokestatic 118, 3) := by decide +kernel
theorem dX3_plan_89 : decode cX3_plan 89 = .ok (.iastore, 1) := by decide +kernel
theorem dX3_plan_90 : decode cX3_plan 90 = .ok (.iload 5, 2) := by decide +kernel
theorem dX3_plan_92 : decode cX3_plan 92 = .ok (.iconst 1, 1) := by decide +kernel
theorem dX3_plan_93 : decode cX3_plan 93 = .ok (.iadd, 1) := by decide +kernel
theorem dX3_plan_94 : decode cX3_plan 94 = .ok (.iload 4, 2) := by decide +kernel
theorem dX3_plan_96 : decode cX3_plan 96 = .ok (.ior, 1) := by decide +kernel
theorem dX3_plan_97 : decode cX3_plan 97 = .ok (.istore 5, 2) := by decide +kernel
theorem dX3_plan_99 : decode cX3_plan 99 = .ok (.goto (-54), 3) := by decide +kernel
theorem dX3_plan_102 : decode cX3_plan 102 = .ok (.iinc 4 (-1), 3) := by decide +kernel
theorem dX3_plan_105 : decode cX3_plan 105 = .ok (.goto (-84), 3) := by decide +kernel
theorem dX3_plan_108 : decode cX3_plan 108 = .ok (.aload_n 0, 1) := by decide +kernel
theorem dX3_plan_109 : decode cX3_plan 109 = .ok (.getfield 33, 3) := by decide +kernel
theorem dX3_plan_112 : decode cX3_plan 112 = .ok (.iconst 0, 1) := by decide +kernel
theorem dX3_plan_113 : decode cX3_plan 113 = .ok (.iaload, 1) := by decide +kernel
theorem dX3_plan_114 : decode cX3_plan 114 = .ok (.ireturn, 1) := by decide +kernel
theorem dX3_leastNight_0 : decode cX3_leastNight 0 = .ok (.aload_n 0, 1) := by decide +kernel
theorem dX3_leastNight_1 : decode cX3_leastNight 1 = .ok (.invokevirtual 86, 3) := by decide +kernel
theorem dX3_leastNight_4 : decode cX3_leastNight 4 = .ok (.istore 5, 2) := by decide +kernel
theorem dX3_leastNight_6 : decode cX3_leastNight 6 = .ok (.iload_n 1, 1) := by decide +kernel
theorem dX3_leastNight_7 : decode cX3_leastNight 7 = .ok (.istore 6, 2) := by decide +kernel
theorem dX3_leastNight_9 : decode cX3_leastNight 9 = .ok (.iload 6, 2) := by decide +kernel
theorem dX3_leastNight_11 : decode cX3_leastNight 11 = .ok (.iload 5, 2) := by decide +kernel
theorem dX3_leastNight_13 : decode cX3_leastNight 13 = .ok (.if_icmp .ge 41, 3) := by decide +kernel
theorem dX3_leastNight_16 : decode cX3_leastNight 16 = .ok (.aload_n 0, 1) := by decide +kernel
theorem dX3_leastNight_17 : decode cX3_leastNight 17 = .ok (.iload_n 1, 1) := by decide +kernel
theorem dX3_leastNight_18 : decode cX3_leastNight 18 = .ok (.iload 6, 2) := by decide +kernel
theorem dX3_leastNight_20 : decode cX3_leastNight 20 = .ok (.iload_n 3, 1) := by decide +kernel
theorem dX3_leastNight_21 : decode cX3_leastNight 21 = .ok (.iload 4, 2) := by decide +kernel
theorem dX3_leastNight_23 : decode cX3_leastNight 23 = .ok (.invokevirtual 114, 3) := by decide +kernel
theorem dX3_leastNight_26 : decode cX3_leastNight 26 = .ok (.ifCond .eq 17, 3) := by decide +kernel
theorem dX3_leastNight_29 : decode cX3_leastNight 29 = .ok (.aload_n 0, 1) := by decide +kernel
theorem dX3_leastNight_30 : decode cX3_leastNight 30 = .ok (.getfield 33, 3) := by decide +kernel
theorem dX3_leastNight_33 : decode cX3_leastNight 33 = .ok (.iload 6, 2) := by decide +kernel
theorem dX3_leastNight_35 : decode cX3_leastNight 35 = .ok (.iaload, 1) := by decide +kernel
theorem dX3_leastNight_36 : decode cX3_leastNight 36 = .ok (.iload_n 2, 1) := by decide +kernel
theorem dX3_leastNight_37 : decode cX3_leastNight 37 = .ok (.if_icmp .ne 6, 3) := by decide +kernel
theorem dX3_leastNight_40 : decode cX3_leastNight 40 = .ok (.iload 6, 2) := by decide +kernel
theorem dX3_leastNight_42 : decode cX3_leastNight 42 = .ok (.ireturn, 1) := by decide +kernel
theorem dX3_leastNight_43 : decode cX3_leastNight 43 = .ok (.iload 6, 2) := by decide +kernel
theorem dX3_leastNight_45 : decode cX3_leastNight 45 = .ok (.iconst 1, 1) := by decide +kernel
theorem dX3_leastNight_46 : decode cX3_leastNight 46 = .ok (.iadd, 1) := by decide +kernel
theorem dX3_leastNight_47 : decode cX3_leastNight 47 = .ok (.iload_n 1, 1) := by decide +kernel
theorem dX3_leastNight_48 : decode cX3_leastNight 48 = .ok (.ior, 1) := by decide +kernel
theorem dX3_leastNight_49 : decode cX3_leastNight 49 = .ok (.istore 6, 2) := by decide +kernel
theorem dX3_leastNight_51 : decode cX3_leastNight 51 = .ok (.goto (-42), 3) := by decide +kernel
theorem dX3_leastNight_54 : decode cX3_leastNight 54 = .ok (.iload 5, 2) := by decide +kernel
theorem dX3_leastNight_56 : decode cX3_leastNight 56 = .ok (.ireturn, 1) := by decide +kernel
theorem dX4_add_0 : decode cX4_add 0 = .ok (.aload_n 0, 1) := by decide +kernel
theorem dX4_add_1 : decode cX4_add 1 = .ok (.getfield 15, 3) := by decide +kernel
theorem dX4_add_4 : decode cX4_add 4 = .ok (.aload_n 0, 1) := by decide +kernel
theorem dX4_add_5 : decode cX4_add 5 = .ok (.getfield 9, 3) := by decide +kernel
theorem dX4_add_8 : decode cX4_add 8 = .ok (.arraylength, 1) := by decide +kernel
theorem dX4_add_9 : decode cX4_add 9 = .ok (.if_icmp .ge 23, 3) := by decide +kernel
theorem dX4_add_12 : decode cX4_add 12 = .ok (.aload_n 0, 1) := by decide +kernel
theorem dX4_add_13 : decode cX4_add 13 = .ok (.getfield 9, 3) := by decide +kernel
theorem dX4_add_16 : decode cX4_add 16 = .ok (.aload_n 0, 1) := by decide +kernel
theorem dX4_add_17 : decode cX4_add 17 = .ok (.getfield 15, 3) := by decide +kernel
theorem dX4_add_20 : decode cX4_add 20 = .ok (.iload_n 1, 1) := by decide +kernel
theorem dX4_add_21 : decode cX4_add 21 = .ok (.iastore, 1) := by decide +kernel
theorem dX4_add_22 : decode cX4_add 22 = .ok (.aload_n 0, 1) := by decide +kernel
theorem dX4_add_23 : decode cX4_add 23 = .ok (.dup, 1) := by decide +kernel
theorem dX4_add_24 : decode cX4_add 24 = .ok (.getfield 15, 3) := by decide +kernel
theorem dX4_add_27 : decode cX4_add 27 = .ok (.iconst 1, 1) := by decide +kernel
theorem dX4_add_28 : decode cX4_add 28 = .ok (.iadd, 1) := by decide +kernel
theorem dX4_add_29 : decode cX4_add 29 = .ok (.putfield 15, 3) := by decide +kernel
theorem dX4_add_32 : decode cX4_add 32 = .ok (.return_, 1) := by decide +kernel
theorem dX3_tellPlan_0 : decode cX3_tellPlan 0 = .ok (.iconst 0, 1) := by decide +kernel
theorem dX3_tellPlan_1 : decode cX3_tellPlan 1 = .ok (.istore 4, 2) := by decide +kernel
theorem dX3_tellPlan_3 : decode cX3_tellPlan 3 = .ok (.aload_n 0, 1) := by decide +kernel
theorem dX3_tellPlan_4 : decode cX3_tellPlan 4 = .ok (.getfield 33, 3) := by decide +kernel
theorem dX3_tellPlan_7 : decode cX3_tellPlan 7 = .ok (.iconst 0, 1) := by decide +kernel
theorem dX3_tellPlan_8 : decode cX3_tellPlan 8 = .ok (.iaload, 1) := by decide +kernel
theorem dX3_tellPlan_9 : decode cX3_tellPlan 9 = .ok (.iconst 1, 1) := by decide +kernel
theorem dX3_tellPlan_10 : decode cX3_tellPlan 10 = .ok (.isub, 1) := by decide +kernel
theorem dX3_tellPlan_11 : decode cX3_tellPlan 11 = .ok (.istore 5, 2) := by decide +kernel
theorem dX3_tellPlan_13 : decode cX3_tellPlan 13 = .ok (.iload 5, 2) := by decide +kernel
theorem dX3_tellPlan_15 : decode cX3_tellPlan 15 = .ok (.ifCond .lt 40, 3) := by decide +kernel
theorem dX3_tellPlan_18 : decode cX3_tellPlan 18 = .ok (.aload_n 0, 1) := by decide +kernel
theorem dX3_tellPlan_19 : decode cX3_tellPlan 19 = .ok (.iload 4, 2) := by decide +kernel
theorem dX3_tellPlan_21 : decode cX3_tellPlan 21 = .ok (.invokevirtual 111, 3) := by decide +kernel
theorem dX3_tellPlan_24 : decode cX3_tellPlan 24 = .ok (.aload_n 0, 1) := by decide +kernel
theorem dX3_tellPlan_25 : decode cX3_tellPlan 25 = .ok (.iload 4, 2) := by decide +kernel
theorem dX3_tellPlan_27 : decode cX3_tellPlan 27 = .ok (.iload 5, 2) := by decide +kernel
theorem dX3_tellPlan_29 : decode cX3_tellPlan 29 = .ok (.iload_n 1, 1) := by decide +kernel
theorem dX3_tellPlan_30 : decode cX3_tellPlan 30 = .ok (.iload_n 2, 1) := by decide +kernel
theorem dX3_tellPlan_31 : decode cX3_tellPlan 31 = .ok (.invokevirtual 124, 3) := by decide +kernel
theorem dX3_tellPlan_34 : decode cX3_tellPlan 34 = .ok (.istore 6, 2) := by decide +kernel
theorem dX3_tellPlan_36 : decode cX3_tellPlan 36 = .ok (.aload_n 3, 1) := by decide +kernel
theorem dX3_tellPlan_37 : decode cX3_tellPlan 37 = .ok (.iload 6, 2) := by decide +kernel
theorem dX3_tellPlan_39 : decode cX3_tellPlan 39 = .ok (.iload 4, 2) := by decide +kernel
theorem dX3_tellPlan_41 : decode cX3_tellPlan 41 = .ok (.ixor, 1) := by decide +kernel
theorem dX3_tellPlan_42 : decode cX3_tellPlan 42 = .ok (.invokevirtual 128, 3) := by decide +kernel
theorem dX3_tellPlan_45 : decode cX3_tellPlan 45 = .ok (.iload 6, 2) := by decide +kernel
theorem dX3_tellPlan_47 : decode cX3_tellPlan 47 = .ok (.istore 4, 2) := by decide +kernel
theorem dX3_tellPlan_49 : decode cX3_tellPlan 49 = .ok (.iinc 5 (-1), 3) := by decide +kernel
theorem dX3_tellPlan_52 : decode cX3_tellPlan 52 = .ok (.goto (-39), 3) := by decide +kernel
theorem dX3_tellPlan_55 : decode cX3_tellPlan 55 = .ok (.return_, 1) := by decide +kernel
theorem dX4_take_0 : decode cX4_take 0 = .ok (.aload_n 0, 1) := by decide +kernel
theorem dX4_take_1 : decode cX4_take 1 = .ok (.getfield 15, 3) := by decide +kernel
theorem dX4_take_4 : decode cX4_take 4 = .ok (.ifCond .gt 5, 3) := by decide +kernel
theorem dX4_take_7 : decode cX4_take 7 = .ok (.iconst 0, 1) := by decide +kernel
theorem dX4_take_8 : decode cX4_take 8 = .ok (.ireturn, 1) := by decide +kernel
theorem dX4_take_9 : decode cX4_take 9 = .ok (.aload_n 0, 1) := by decide +kernel
theorem dX4_take_10 : decode cX4_take 10 = .ok (.dup, 1) := by decide +kernel
theorem dX4_take_11 : decode cX4_take 11 = .ok (.getfield 15, 3) := by decide +kernel
theorem dX4_take_14 : decode cX4_take 14 = .ok (.iconst 1, 1) := by decide +kernel
theorem dX4_take_15 : decode cX4_take 15 = .ok (.isub, 1) := by decide +kernel
theorem dX4_take_16 : decode cX4_take 16 = .ok (.putfield 15, 3) := by decide +kernel
theorem dX4_take_19 : decode cX4_take 19 = .ok (.aload_n 0, 1) := by decide +kernel
theorem dX4_take_20 : decode cX4_take 20 = .ok (.getfield 9, 3) := by decide +kernel
theorem dX4_take_23 : decode cX4_take 23 = .ok (.aload_n 0, 1) := by decide +kernel
theorem dX4_take_24 : decode cX4_take 24 = .ok (.getfield 15, 3) := by decide +kernel
theorem dX4_take_27 : decode cX4_take 27 = .ok (.iaload, 1) := by decide +kernel
theorem dX4_take_28 : decode cX4_take 28 = .ok (.ireturn, 1) := by decide +kernel
theorem dX4_find_0 : decode cX4_find 0 = .ok (.iconst 0, 1) := by decide +kernel
theorem dX4_find_1 : decode cX4_find 1 = .ok (.istore_n 2, 1) := by decide +kernel
theorem dX4_find_2 : decode cX4_find 2 = .ok (.iload_n 2, 1) := by decide +kernel
theorem dX4_find_3 : decode cX4_find 3 = .ok (.aload_n 0, 1) := by decide +kernel
theorem dX4_find_4 : decode cX4_find 4 = .ok (.getfield 15, 3) := by decide +kernel
theorem dX4_find_7 : decode cX4_find 7 = .ok (.if_icmp .ge 21, 3) := by decide +kernel
theorem dX4_find_10 : decode cX4_find 10 = .ok (.aload_n 0, 1) := by decide +kernel
theorem dX4_find_11 : decode cX4_find 11 = .ok (.getfield 9, 3) := by decide +kernel
theorem dX4_find_14 : decode cX4_find 14 = .ok (.iload_n 2, 1) := by decide +kernel
theorem dX4_find_15 : decode cX4_find 15 = .ok (.iaload, 1) := by decide +kernel
theorem dX4_find_16 : decode cX4_find 16 = .ok (.iload_n 1, 1) := by decide +kernel
theorem dX4_find_17 : decode cX4_find 17 = .ok (.if_icmp .ne 5, 3) := by decide +kernel
theorem dX4_find_20 : decode cX4_find 20 = .ok (.iload_n 2, 1) := by decide +kernel
theorem dX4_find_21 : decode cX4_find 21 = .ok (.ireturn, 1) := by decide +kernel
theorem dX4_find_22 : decode cX4_find 22 = .ok (.iinc 2 1, 3) := by decide +kernel
theorem dX4_find_25 : decode cX4_find 25 = .ok (.goto (-23), 3) := by decide +kernel
theorem dX4_find_28 : decode cX4_find 28 = .ok (.iconst (-1), 1) := by decide +kernel
theorem dX4_find_29 : decode cX4_find 29 = .ok (.ireturn, 1) := by decide +kernel
theorem dX4_become_0 : decode cX4_become 0 = .ok (.aload_n 0, 1) := by decide +kernel
theorem dX4_become_1 : decode cX4_become 1 = .ok (.invokevirtual 19, 3) := by decide +kernel
theorem dX4_become_4 : decode cX4_become 4 = .ok (.iconst 0, 1) := by decide +kernel
theorem dX4_become_5 : decode cX4_become 5 = .ok (.istore_n 2, 1) := by decide +kernel
theorem dX4_become_6 : decode cX4_become 6 = .ok (.iload_n 2, 1) := by decide +kernel
theorem dX4_become_7 : decode cX4_become 7 = .ok (.aload_n 1, 1) := by decide +kernel
theorem dX4_become_8 : decode cX4_become 8 = .ok (.getfield 15, 3) := by decide +kernel
theorem dX4_become_11 : decode cX4_become 11 = .ok (.if_icmp .ge 19, 3) := by decide +kernel
theorem dX4_become_14 : decode cX4_become 14 = .ok (.aload_n 0, 1) := by decide +kernel
theorem dX4_become_15 : decode cX4_become 15 = .ok (.aload_n 1, 1) := by decide +kernel
theorem dX4_become_16 : decode cX4_become 16 = .ok (.getfield 9, 3) := by decide +kernel
theorem dX4_become_19 : decode cX4_become 19 = .ok (.iload_n 2, 1) := by decide +kernel
theorem dX4_become_20 : decode cX4_become 20 = .ok (.iaload, 1) := by decide +kernel
theorem dX4_become_21 : decode cX4_become 21 = .ok (.invokevirtual 22, 3) := by decide +kernel
theorem dX4_become_24 : decode cX4_become 24 = .ok (.iinc 2 1, 3) := by decide +kernel
theorem dX4_become_27 : decode cX4_become 27 = .ok (.goto (-21), 3) := by decide +kernel
theorem dX4_become_30 : decode cX4_become 30 = .ok (.return_, 1) := by decide +kernel
theorem dX6_arePresent_0 : decode cX6_arePresent 0 = .ok (.iconst 0, 1) := by decide +kernel
theorem dX6_arePresent_1 : decode cX6_arePresent 1 = .ok (.istore_n 2, 1) := by decide +kernel
theorem dX6_arePresent_2 : decode cX6_arePresent 2 = .ok (.iload_n 2, 1) := by decide +kernel
theorem dX6_arePresent_3 : decode cX6_arePresent 3 = .ok (.aload_n 1, 1) := by decide +kernel
theorem dX6_arePresent_4 : decode cX6_arePresent 4 = .ok (.getfield 60, 3) := by decide +kernel
theorem dX6_arePresent_7 : decode cX6_arePresent 7 = .ok (.if_icmp .ge 26, 3) := by decide +kernel
theorem dX6_arePresent_10 : decode cX6_arePresent 10 = .ok (.aload_n 0, 1) := by decide +kernel
theorem dX6_arePresent_11 : decode cX6_arePresent 11 = .ok (.getfield 40, 3) := by decide +kernel
theorem dX6_arePresent_14 : decode cX6_arePresent 14 = .ok (.aload_n 1, 1) := by decide +kernel
theorem dX6_arePresent_15 : decode cX6_arePresent 15 = .ok (.iload_n 2, 1) := by decide +kernel
theorem dX6_arePresent_16 : decode cX6_arePresent 16 = .ok (.invokevirtual 63, 3) := by decide +kernel
theorem dX6_arePresent_19 : decode cX6_arePresent 19 = .ok (.invokevirtual 66, 3) := by decide +kernel
theorem dX6_arePresent_22 : decode cX6_arePresent 22 = .ok (.ifnonnull 5, 3) := by decide +kernel
theorem dX6_arePresent_25 : decode cX6_arePresent 25 = .ok (.iconst 0, 1) := by decide +kernel
theorem dX6_arePresent_26 : decode cX6_arePresent 26 = .ok (.ireturn, 1) := by decide +kernel
theorem dX6_arePresent_27 : decode cX6_arePresent 27 = .ok (.iinc 2 1, 3) := by decide +kernel
theorem dX6_arePresent_30 : decode cX6_arePresent 30 = .ok (.goto (-28), 3) := by decide +kernel
theorem dX6_arePresent_33 : decode cX6_arePresent 33 = .ok (.iconst 1, 1) := by decide +kernel
theorem dX6_arePresent_34 : decode cX6_arePresent 34 = .ok (.ireturn, 1) := by decide +kernel
theorem dX6_choose_0 : decode cX6_choose 0 = .ok (.iload_n 1, 1) := by decide +kernel
theorem dX6_choose_1 : decode cX6_choose 1 = .ok (.ifCond .eq 12, 3) := by decide +kernel
theorem dX6_choose_4 : decode cX6_choose 4 = .ok (.iload_n 1, 1) := by decide +kernel
theorem dX6_choose_5 : decode cX6_choose 5 = .ok (.invokestatic 44, 3) := by decide +kernel
theorem dX6_choose_8 : decode cX6_choose 8 = .ok (.bipush 7, 2) := by decide +kernel
theorem dX6_choose_10 : decode cX6_choose 10 = .ok (.if_icmp .le 5, 3) := by decide +kernel
theorem dX6_choose_13 : decode cX6_choose 13 = .ok (.iconst 0, 1) := by decide +kernel
theorem dX6_choose_14 : decode cX6_choose 14 = .ok (.ireturn, 1) := by decide +kernel
theorem dX6_choose_15 : decode cX6_choose 15 = .ok (.aload_n 0, 1) := by decide +kernel
theorem dX6_choose_16 : decode cX6_choose 16 = .ok (.getfield 14, 3) := by decide +kernel
theorem dX6_choose_19 : decode cX6_choose 19 = .ok (.invokevirtual 50, 3) := by decide +kernel
theorem dX6_choose_22 : decode cX6_choose 22 = .ok (.iconst 0, 1) := by decide +kernel
theorem dX6_choose_23 : decode cX6_choose 23 = .ok (.istore_n 2, 1) := by decide +kernel
theorem dX6_choose_24 : decode cX6_choose 24 = .ok (.iload_n 2, 1) := by decide +kernel
theorem dX6_choose_25 : decode cX6_choose 25 = .ok (.bipush 32, 2) := by decide +kernel
theorem dX6_choose_27 : decode cX6_choose 27 = .ok (.if_icmp .ge 25, 3) := by decide +kernel
theorem dX6_choose_30 : decode cX6_choose 30 = .ok (.iload_n 1, 1) := by decide +kernel
theorem dX6_choose_31 : decode cX6_choose 31 = .ok (.iload_n 2, 1) := by decide +kernel
theorem dX6_choose_32 : decode cX6_choose 32 = .ok (.iushr, 1) := by decide +kernel
theorem dX6_choose_33 : decode cX6_choose 33 = .ok (.iconst 1, 1) := by decide +kernel
theorem dX6_choose_34 : decode cX6_choose 34 = .ok (.iand, 1) := by decide +kernel
theorem dX6_choose_35 : decode cX6_choose 35 = .ok (.ifCond .eq 11, 3) := by decide +kernel
theorem dX6_choose_38 : decode cX6_choose 38 = .ok (.aload_n 0, 1) := by decide +kernel
theorem dX6_choose_39 : decode cX6_choose 39 = .ok (.getfield 14, 3) := by decide +kernel
theorem dX6_choose_42 : decode cX6_choose 42 = .ok (.iload_n 2, 1) := by decide +kernel
theorem dX6_choose_43 : decode cX6_choose 43 = .ok (.invokevirtual 53, 3) := by decide +kernel
theorem dX6_choose_46 : decode cX6_choose 46 = .ok (.iinc 2 1, 3) := by decide +kernel
theorem dX6_choose_49 : decode cX6_choose 49 = .ok (.goto (-25), 3) := by decide +kernel
theorem dX6_choose_52 : decode cX6_choose 52 = .ok (.aload_n 0, 1) := by decide +kernel
theorem dX6_choose_53 : decode cX6_choose 53 = .ok (.aload_n 0, 1) := by decide +kernel
theorem dX6_choose_54 : decode cX6_choose 54 = .ok (.getfield 14, 3) := by decide +kernel
theorem dX6_choose_57 : decode cX6_choose 57 = .ok (.invokevirtual 56, 3) := by decide +kernel
theorem dX6_choose_60 : decode cX6_choose 60 = .ok (.ireturn, 1) := by decide +kernel
theorem dX6_chosenAt_0 : decode cX6_chosenAt 0 = .ok (.aload_n 0, 1) := by decide +kernel
theorem dX6_chosenAt_1 : decode cX6_chosenAt 1 = .ok (.getfield 40, 3) := by decide +kernel
theorem dX6_chosenAt_4 : decode cX6_chosenAt 4 = .ok (.aload_n 0, 1) := by decide +kernel
theorem dX6_chosenAt_5 : decode cX6_chosenAt 5 = .ok (.getfield 14, 3) := by decide +kernel
theorem dX6_chosenAt_8 : decode cX6_chosenAt 8 = .ok (.iload_n 1, 1) := by decide +kernel
theorem dX6_chosenAt_9 : decode cX6_chosenAt 9 = .ok (.invokevirtual 63, 3) := by decide +kernel
theorem dX6_chosenAt_12 : decode cX6_chosenAt 12 = .ok (.invokevirtual 72, 3) := by decide +kernel
theorem dX6_chosenAt_15 : decode cX6_chosenAt 15 = .ok (.areturn, 1) := by decide +kernel
theorem dX6_lengthOfAll_0 : decode cX6_lengthOfAll 0 = .ok (.aload_n 0, 1) := by decide +kernel
theorem dX6_lengthOfAll_1 : decode cX6_lengthOfAll 1 = .ok (.getfield 14, 3) := by decide +kernel
theorem dX6_lengthOfAll_4 : decode cX6_lengthOfAll 4 = .ok (.getfield 60, 3) := by decide +kernel
theorem dX6_lengthOfAll_7 : decode cX6_lengthOfAll 7 = .ok (.iconst 1, 1) := by decide +kernel
theorem dX6_lengthOfAll_8 : decode cX6_lengthOfAll 8 = .ok (.isub, 1) := by decide +kernel
theorem dX6_lengthOfAll_9 : decode cX6_lengthOfAll 9 = .ok (.aload_n 0, 1) := by decide +kernel
theorem dX6_lengthOfAll_10 : decode cX6_lengthOfAll 10 = .ok (.getfield 40, 3) := by decide +kernel
theorem dX6_lengthOfAll_13 : decode cX6_lengthOfAll 13 = .ok (.getfield 75, 3) := by decide +kernel
theorem dX6_lengthOfAll_16 : decode cX6_lengthOfAll 16 = .ok (.iconst 1, 1) := by decide +kernel
theorem dX6_lengthOfAll_17 : decode cX6_lengthOfAll 17 = .ok (.iaload, 1) := by decide +kernel
theorem dX6_lengthOfAll_18 : decode cX6_lengthOfAll 18 = .ok (.imul, 1) := by decide +kernel
theorem dX6_lengthOfAll_19 : decode cX6_lengthOfAll 19 = .ok (.istore_n 1, 1) := by decide +kernel
theorem dX6_lengthOfAll_20 : decode cX6_lengthOfAll 20 = .ok (.iconst 0, 1) := by decide +kernel
theorem dX6_lengthOfAll_21 : decode cX6_lengthOfAll 21 = .ok (.istore_n 2, 1) := by decide +kernel
theorem dX6_lengthOfAll_22 : decode cX6_lengthOfAll 22 = .ok (.iload_n 2, 1) := by decide +kernel
theorem dX6_lengthOfAll_23 : decode cX6_lengthOfAll 23 = .ok (.aload_n 0, 1) := by decide +kernel
theorem dX6_lengthOfAll_24 : decode cX6_lengthOfAll 24 = .ok (.getfield 14, 3) := by decide +kernel
theorem dX6_lengthOfAll_27 : decode cX6_lengthOfAll 27 = .ok (.getfield 60, 3) := by decide +kernel
theorem dX6_lengthOfAll_30 : decode cX6_lengthOfAll 30 = .ok (.if_icmp .ge 30, 3) := by decide +kernel
theorem dX6_lengthOfAll_33 : decode cX6_lengthOfAll 33 = .ok (.aload_n 0, 1) := by decide +kernel
theorem dX6_lengthOfAll_34 : decode cX6_lengthOfAll 34 = .ok (.iload_n 2, 1) := by decide +kernel
theorem dX6_lengthOfAll_35 : decode cX6_lengthOfAll 35 = .ok (.invokevirtual 78, 3) := by decide +kernel
theorem dX6_lengthOfAll_38 : decode cX6_lengthOfAll 38 = .ok (.astore_n 3, 1) := by decide +kernel
theorem dX6_lengthOfAll_39 : decode cX6_lengthOfAll 39 = .ok (.iload_n 1, 1) := by decide +kernel
theorem dX6_lengthOfAll_40 : decode cX6_lengthOfAll 40 = .ok (.aload_n 3, 1) := by decide +kernel
theorem dX6_lengthOfAll_41 : decode cX6_lengthOfAll 41 = .ok (.ifnonnull 7, 3) := by decide +kernel
theorem dX6_lengthOfAll_44 : decode cX6_lengthOfAll 44 = .ok (.iconst 0, 1) := by decide +kernel
theorem dX6_lengthOfAll_45 : decode cX6_lengthOfAll 45 = .ok (.goto 7, 3) := by decide +kernel
theorem dX6_lengthOfAll_48 : decode cX6_lengthOfAll 48 = .ok (.aload_n 3, 1) := by decide +kernel
theorem dX6_lengthOfAll_49 : decode cX6_lengthOfAll 49 = .ok (.getfield 81, 3) := by decide +kernel
theorem dX6_lengthOfAll_52 : decode cX6_lengthOfAll 52 = .ok (.iadd, 1) := by decide +kernel
theorem dX6_lengthOfAll_53 : decode cX6_lengthOfAll 53 = .ok (.istore_n 1, 1) := by decide +kernel
theorem dX6_lengthOfAll_54 : decode cX6_lengthOfAll 54 = .ok (.iinc 2 1, 3) := by decide +kernel
theorem dX6_lengthOfAll_57 : decode cX6_lengthOfAll 57 = .ok (.goto (-35), 3) := by decide +kernel
theorem dX6_lengthOfAll_60 : decode cX6_lengthOfAll 60 = .ok (.iload_n 1, 1) := by decide +kernel
theorem dX6_lengthOfAll_61 : decode cX6_lengthOfAll 61 = .ok (.ireturn, 1) := by decide +kernel
theorem dX6_goOn_0 : decode cX6_goOn 0 = .ok (.iconst 0, 1) := by decide +kernel
theorem dX6_goOn_1 : decode cX6_goOn 1 = .ok (.istore_n 2, 1) := by decide +kernel
theorem dX6_goOn_2 : decode cX6_goOn 2 = .ok (.iconst 0, 1) := by decide +kernel
theorem dX6_goOn_3 : decode cX6_goOn 3 = .ok (.istore_n 3, 1) := by decide +kernel
theorem dX6_goOn_4 : decode cX6_goOn 4 = .ok (.iload_n 3, 1) := by decide +kernel
theorem dX6_goOn_5 : decode cX6_goOn 5 = .ok (.aload_n 0, 1) := by decide +kernel
theorem dX6_goOn_6 : decode cX6_goOn 6 = .ok (.getfield 14, 3) := by decide +kernel
theorem dX6_goOn_9 : decode cX6_goOn 9 = .ok (.getfield 60, 3) := by decide +kernel
theorem dX6_goOn_12 : decode cX6_goOn 12 = .ok (.if_icmp .ge 60, 3) := by decide +kernel
theorem dX6_goOn_15 : decode cX6_goOn 15 = .ok (.aload_n 0, 1) := by decide +kernel
theorem dX6_goOn_16 : decode cX6_goOn 16 = .ok (.iload_n 3, 1) := by decide +kernel
theorem dX6_goOn_17 : decode cX6_goOn 17 = .ok (.invokevirtual 78, 3) := by decide +kernel
theorem dX6_goOn_20 : decode cX6_goOn 20 = .ok (.astore 4, 2) := by decide +kernel
theorem dX6_goOn_22 : decode cX6_goOn 22 = .ok (.aload 4, 2) := by decide +kernel
theorem dX6_goOn_24 : decode cX6_goOn 24 = .ok (.ifnull 32, 3) := by decide +kernel
theorem dX6_goOn_27 : decode cX6_goOn 27 = .ok (.aload_n 0, 1) := by decide +kernel
theorem dX6_goOn_28 : decode cX6_goOn 28 = .ok (.getfield 40, 3) := by decide +kernel
theorem dX6_goOn_31 : decode cX6_goOn 31 = .ok (.aload 4, 2) := by decide +kernel
theorem dX6_goOn_33 : decode cX6_goOn 33 = .ok (.aload_n 1, 1) := by decide +kernel
theorem dX6_goOn_34 : decode cX6_goOn 34 = .ok (.invokevirtual 86, 3) := by decide +kernel
theorem dX6_goOn_37 : decode cX6_goOn 37 = .ok (.ifCond .ne 19, 3) := by decide +kernel
theorem dX6_goOn_40 : decode cX6_goOn 40 = .ok (.aload_n 0, 1) := by decide +kernel
theorem dX6_goOn_41 : decode cX6_goOn 41 = .ok (.getfield 14, 3) := by decide +kernel
theorem dX6_goOn_44 : decode cX6_goOn 44 = .ok (.aload 4, 2) := by decide +kernel
theorem dX6_goOn_46 : decode cX6_goOn 46 = .ok (.getfield 90, 3) := by decide +kernel
theorem dX6_goOn_49 : decode cX6_goOn 49 = .ok (.invokevirtual 93, 3) := by decide +kernel
theorem dX6_goOn_52 : decode cX6_goOn 52 = .ok (.iconst (-1), 1) := by decide +kernel
theorem dX6_goOn_53 : decode cX6_goOn 53 = .ok (.if_icmp .eq 5, 3) := by decide +kernel
theorem dX6_goOn_56 : decode cX6_goOn 56 = .ok (.iconst 0, 1) := by decide +kernel
theorem dX6_goOn_57 : decode cX6_goOn 57 = .ok (.ireturn, 1) := by decide +kernel
theorem dX6_goOn_58 : decode cX6_goOn 58 = .ok (.iload_n 2, 1) := by decide +kernel
theorem dX6_goOn_59 : decode cX6_goOn 59 = .ok (.aload 4, 2) := by decide +kernel
theorem dX6_goOn_61 : decode cX6_goOn 61 = .ok (.getfield 96, 3) := by decide +kernel
theorem dX6_goOn_64 : decode cX6_goOn 64 = .ok (.iadd, 1) := by decide +kernel
theorem dX6_goOn_65 : decode cX6_goOn 65 = .ok (.istore_n 2, 1) := by decide +kernel
theorem dX6_goOn_66 : decode cX6_goOn 66 = .ok (.iinc 3 1, 3) := by decide +kernel
theorem dX6_goOn_69 : decode cX6_goOn 69 = .ok (.goto (-65), 3) := by decide +kernel
theorem dX6_goOn_72 : decode cX6_goOn 72 = .ok (.iload_n 2, 1) := by decide +kernel
theorem dX6_goOn_73 : decode cX6_goOn 73 = .ok (.aload_n 1, 1) := by decide +kernel
theorem dX6_goOn_74 : decode cX6_goOn 74 = .ok (.getfield 99, 3) := by decide +kernel
theorem dX6_goOn_77 : decode cX6_goOn 77 = .ok (.if_icmp .gt 18, 3) := by decide +kernel
theorem dX6_goOn_80 : decode cX6_goOn 80 = .ok (.aload_n 0, 1) := by decide +kernel
theorem dX6_goOn_81 : decode cX6_goOn 81 = .ok (.invokevirtual 104, 3) := by decide +kernel
theorem dX6_goOn_84 : decode cX6_goOn 84 = .ok (.aload_n 1, 1) := by decide +kernel
theorem dX6_goOn_85 : decode cX6_goOn 85 = .ok (.getfield 108, 3) := by decide +kernel
theorem dX6_goOn_88 : decode cX6_goOn 88 = .ok (.if_icmp .gt 7, 3) := by decide +kernel
theorem dX6_goOn_91 : decode cX6_goOn 91 = .ok (.iconst 1, 1) := by decide +kernel
theorem dX6_goOn_92 : decode cX6_goOn 92 = .ok (.goto 4, 3) := by decide +kernel
theorem dX6_goOn_95 : decode cX6_goOn 95 = .ok (.iconst 0, 1) := by decide +kernel
theorem dX6_goOn_96 : decode cX6_goOn 96 = .ok (.ireturn, 1) := by decide +kernel
theorem dX6_compare_0 : decode cX6_compare 0 = .ok (.iconst 0, 1) := by decide +kernel
theorem dX6_compare_1 : decode cX6_compare 1 = .ok (.istore_n 1, 1) := by decide +kernel
theorem dX6_compare_2 : decode cX6_compare 2 = .ok (.iload_n 1, 1) := by decide +kernel
theorem dX6_compare_3 : decode cX6_compare 3 = .ok (.aload_n 0, 1) := by decide +kernel
theorem dX6_compare_4 : decode cX6_compare 4 = .ok (.getfield 14, 3) := by decide +kernel
theorem dX6_compare_7 : decode cX6_compare 7 = .ok (.getfield 60, 3) := by decide +kernel
theorem dX6_compare_10 : decode cX6_compare 10 = .ok (.if_icmp .ge 100, 3) := by decide +kernel
theorem dX6_compare_13 : decode cX6_compare 13 = .ok (.aload_n 0, 1) := by decide +kernel
theorem dX6_compare_14 : decode cX6_compare 14 = .ok (.iload_n 1, 1) := by decide +kernel
theorem dX6_compare_15 : decode cX6_compare 15 = .ok (.invokevirtual 78, 3) := by decide +kernel
theorem dX6_compare_18 : decode cX6_compare 18 = .ok (.astore_n 2, 1) := by decide +kernel
theorem dX6_compare_19 : decode cX6_compare 19 = .ok (.aload_n 0, 1) := by decide +kernel
theorem dX6_compare_20 : decode cX6_compare 20 = .ok (.getfield 20, 3) := by decide +kernel
theorem dX6_compare_23 : decode cX6_compare 23 = .ok (.iload_n 1, 1) := by decide +kernel
theorem dX6_compare_24 : decode cX6_compare 24 = .ok (.aload_n 2, 1) := by decide +kernel
theorem dX6_compare_25 : decode cX6_compare 25 = .ok (.ifnonnull 7, 3) := by decide +kernel
theorem dX6_compare_28 : decode cX6_compare 28 = .ok (.iconst (-1), 1) := by decide +kernel
theorem dX6_compare_29 : decode cX6_compare 29 = .ok (.goto 14, 3) := by decide +kernel
theorem dX6_compare_32 : decode cX6_compare 32 = .ok (.aload_n 0, 1) := by decide +kernel
theorem dX6_compare_33 : decode cX6_compare 33 = .ok (.getfield 14, 3) := by decide +kernel
theorem dX6_compare_36 : decode cX6_compare 36 = .ok (.aload_n 2, 1) := by decide +kernel
theorem dX6_compare_37 : decode cX6_compare 37 = .ok (.getfield 127, 3) := by decide +kernel
theorem dX6_compare_40 : decode cX6_compare 40 = .ok (.invokevirtual 93, 3) := by decide +kernel
theorem dX6_compare_43 : decode cX6_compare 43 = .ok (.iastore, 1) := by decide +kernel
theorem dX6_compare_44 : decode cX6_compare 44 = .ok (.iconst 0, 1) := by decide +kernel
theorem dX6_compare_45 : decode cX6_compare 45 = .ok (.istore_n 3, 1) := by decide +kernel
theorem dX6_compare_46 : decode cX6_compare 46 = .ok (.iload_n 3, 1) := by decide +kernel
theorem dX6_compare_47 : decode cX6_compare 47 = .ok (.aload_n 0, 1) := by decide +kernel
theorem dX6_compare_48 : decode cX6_compare 48 = .ok (.getfield 14, 3) := by decide +kernel
theorem dX6_compare_51 : decode cX6_compare 51 = .ok (.getfield 60, 3) := by decide +kernel
theorem dX6_compare_54 : decode cX6_compare 54 = .ok (.if_icmp .ge 50, 3) := by decide +kernel
theorem dX6_compare_57 : decode cX6_compare 57 = .ok (.aload_n 0, 1) := by decide +kernel
theorem dX6_compare_58 : decode cX6_compare 58 = .ok (.iload_n 3, 1) := by decide +kernel
theorem dX6_compare_59 : decode cX6_compare 59 = .ok (.invokevirtual 78, 3) := by decide +kernel
theorem dX6_compare_62 : decode cX6_compare 62 = .ok (.astore 4, 2) := by decide +kernel
theorem dX6_compare_64 : decode cX6_compare 64 = .ok (.aload_n 0, 1) := by decide +kernel
theorem dX6_compare_65 : decode cX6_compare 65 = .ok (.getfield 24, 3) := by decide +kernel
theorem dX6_compare_68 : decode cX6_compare 68 = .ok (.iload_n 1, 1) := by decide +kernel
theorem dX6_compare_69 : decode cX6_compare 69 = .ok (.bipush 7, 2) := by decide +kernel
theorem dX6_compare_71 : decode cX6_compare 71 = .ok (.imul, 1) := by decide +kernel
theorem dX6_compare_72 : decode cX6_compare 72 = .ok (.iload_n 3, 1) := by decide +kernel
theorem dX6_compare_73 : decode cX6_compare 73 = .ok (.iadd, 1) := by decide +kernel
theorem dX6_compare_74 : decode cX6_compare 74 = .ok (.aload_n 2, 1) := by decide +kernel
theorem dX6_compare_75 : decode cX6_compare 75 = .ok (.ifnull 8, 3) := by decide +kernel
theorem dX6_compare_78 : decode cX6_compare 78 = .ok (.aload 4, 2) := by decide +kernel
theorem dX6_compare_80 : decode cX6_compare 80 = .ok (.ifnonnull 7, 3) := by decide +kernel
theorem dX6_compare_83 : decode cX6_compare 83 = .ok (.iconst 0, 1) := by decide +kernel
theorem dX6_compare_84 : decode cX6_compare 84 = .ok (.goto 13, 3) := by decide +kernel
theorem dX6_compare_87 : decode cX6_compare 87 = .ok (.aload_n 0, 1) := by decide +kernel
theorem dX6_compare_88 : decode cX6_compare 88 = .ok (.getfield 40, 3) := by decide +kernel
theorem dX6_compare_91 : decode cX6_compare 91 = .ok (.aload_n 2, 1) := by decide +kernel
theorem dX6_compare_92 : decode cX6_compare 92 = .ok (.aload 4, 2) := by decide +kernel
theorem dX6_compare_94 : decode cX6_compare 94 = .ok (.invokevirtual 130, 3) := by decide +kernel
theorem dX6_compare_97 : decode cX6_compare 97 = .ok (.iastore, 1) := by decide +kernel
theorem dX6_compare_98 : decode cX6_compare 98 = .ok (.iinc 3 1, 3) := by decide +kernel
theorem dX6_compare_101 : decode cX6_compare 101 = .ok (.goto (-55), 3) := by decide +kernel
theorem dX6_compare_104 : decode cX6_compare 104 = .ok (.iinc 1 1, 3) := by decide +kernel
theorem dX6_compare_107 : decode cX6_compare 107 = .ok (.goto (-105), 3) := by decide +kernel
theorem dX6_compare_110 : decode cX6_compare 110 = .ok (.return_, 1) := by decide +kernel
theorem dX6_mayFollow_0 : decode cX6_mayFollow 0 = .ok (.iload_n 2, 1) := by decide +kernel
theorem dX6_mayFollow_1 : decode cX6_mayFollow 1 = .ok (.iconst (-1), 1) := by decide +kernel
theorem dX6_mayFollow_2 : decode cX6_mayFollow 2 = .ok (.if_icmp .ne 7, 3) := by decide +kernel
theorem dX6_mayFollow_5 : decode cX6_mayFollow 5 = .ok (.iconst (-1), 1) := by decide +kernel
theorem dX6_mayFollow_6 : decode cX6_mayFollow 6 = .ok (.goto 9, 3) := by decide +kernel
theorem dX6_mayFollow_9 : decode cX6_mayFollow 9 = .ok (.aload_n 0, 1) := by decide +kernel
theorem dX6_mayFollow_10 : decode cX6_mayFollow 10 = .ok (.getfield 20, 3) := by decide +kernel
theorem dX6_mayFollow_13 : decode cX6_mayFollow 13 = .ok (.iload_n 2, 1) := by decide +kernel
theorem dX6_mayFollow_14 : decode cX6_mayFollow 14 = .ok (.iaload, 1) := by decide +kernel
theorem dX6_mayFollow_15 : decode cX6_mayFollow 15 = .ok (.istore 4, 2) := by decide +kernel
theorem dX6_mayFollow_17 : decode cX6_mayFollow 17 = .ok (.iload 4, 2) := by decide +kernel
theorem dX6_mayFollow_19 : decode cX6_mayFollow 19 = .ok (.iconst (-1), 1) := by decide +kernel
theorem dX6_mayFollow_20 : decode cX6_mayFollow 20 = .ok (.if_icmp .eq 12, 3) := by decide +kernel
theorem dX6_mayFollow_23 : decode cX6_mayFollow 23 = .ok (.iload_n 1, 1) := by decide +kernel
theorem dX6_mayFollow_24 : decode cX6_mayFollow 24 = .ok (.iload 4, 2) := by decide +kernel
theorem dX6_mayFollow_26 : decode cX6_mayFollow 26 = .ok (.ishr, 1) := by decide +kernel
theorem dX6_mayFollow_27 : decode cX6_mayFollow 27 = .ok (.iconst 1, 1) := by decide +kernel
theorem dX6_mayFollow_28 : decode cX6_mayFollow 28 = .ok (.iand, 1) := by decide +kernel
theorem dX6_mayFollow_29 : decode cX6_mayFollow 29 = .ok (.ifCond .eq 7, 3) := by decide +kernel
theorem dX6_mayFollow_32 : decode cX6_mayFollow 32 = .ok (.iconst 1, 1) := by decide +kernel
theorem dX6_mayFollow_33 : decode cX6_mayFollow 33 = .ok (.goto 4, 3) := by decide +kernel
theorem dX6_mayFollow_36 : decode cX6_mayFollow 36 = .ok (.iconst 0, 1) := by decide +kernel
theorem dX6_mayFollow_37 : decode cX6_mayFollow 37 = .ok (.istore 5, 2) := by decide +kernel
theorem dX6_mayFollow_39 : decode cX6_mayFollow 39 = .ok (.iload_n 1, 1) := by decide +kernel
theorem dX6_mayFollow_40 : decode cX6_mayFollow 40 = .ok (.iload_n 3, 1) := by decide +kernel
theorem dX6_mayFollow_41 : decode cX6_mayFollow 41 = .ok (.ishr, 1) := by decide +kernel
theorem dX6_mayFollow_42 : decode cX6_mayFollow 42 = .ok (.iconst 1, 1) := by decide +kernel
theorem dX6_mayFollow_43 : decode cX6_mayFollow 43 = .ok (.iand, 1) := by decide +kernel
theorem dX6_mayFollow_44 : decode cX6_mayFollow 44 = .ok (.ifCond .ne 18, 3) := by decide +kernel
theorem dX6_mayFollow_47 : decode cX6_mayFollow 47 = .ok (.iload 5, 2) := by decide +kernel
theorem dX6_mayFollow_49 : decode cX6_mayFollow 49 = .ok (.ifCond .ne 9, 3) := by decide +kernel
theorem dX6_mayFollow_52 : decode cX6_mayFollow 52 = .ok (.iload 4, 2) := by decide +kernel
theorem dX6_mayFollow_54 : decode cX6_mayFollow 54 = .ok (.iload_n 3, 1) := by decide +kernel
theorem dX6_mayFollow_55 : decode cX6_mayFollow 55 = .ok (.if_icmp .ne 7, 3) := by decide +kernel
theorem dX6_mayFollow_58 : decode cX6_mayFollow 58 = .ok (.iconst 1, 1) := by decide +kernel
theorem dX6_mayFollow_59 : decode cX6_mayFollow 59 = .ok (.goto 4, 3) := by decide +kernel
theorem dX6_mayFollow_62 : decode cX6_mayFollow 62 = .ok (.iconst 0, 1) := by decide +kernel
theorem dX6_mayFollow_63 : decode cX6_mayFollow 63 = .ok (.ireturn, 1) := by decide +kernel
theorem dX6_likingBehind_0 : decode cX6_likingBehind 0 = .ok (.iload_n 1, 1) := by decide +kernel
theorem dX6_likingBehind_1 : decode cX6_likingBehind 1 = .ok (.iconst (-1), 1) := by decide +kernel
theorem dX6_likingBehind_2 : decode cX6_likingBehind 2 = .ok (.if_icmp .eq 8, 3) := by decide +kernel
theorem dX6_likingBehind_5 : decode cX6_likingBehind 5 = .ok (.iload_n 2, 1) := by decide +kernel
theorem dX6_likingBehind_6 : decode cX6_likingBehind 6 = .ok (.iconst (-1), 1) := by decide +kernel
theorem dX6_likingBehind_7 : decode cX6_likingBehind 7 = .ok (.if_icmp .ne 7, 3) := by decide +kernel
theorem dX6_likingBehind_10 : decode cX6_likingBehind 10 = .ok (.iconst 0, 1) := by decide +kernel
theorem dX6_likingBehind_11 : decode cX6_likingBehind 11 = .ok (.goto 14, 3) := by decide +kernel
theorem dX6_likingBehind_14 : decode cX6_likingBehind 14 = .ok (.aload_n 0, 1) := by decide +kernel
theorem dX6_likingBehind_15 : decode cX6_likingBehind 15 = .ok (.getfield 24, 3) := by decide +kernel
theorem dX6_likingBehind_18 : decode cX6_likingBehind 18 = .ok (.iload_n 1, 1) := by decide +kernel
theorem dX6_likingBehind_19 : decode cX6_likingBehind 19 = .ok (.bipush 7, 2) := by decide +kernel
theorem dX6_likingBehind_21 : decode cX6_likingBehind 21 = .ok (.imul, 1) := by decide +kernel
theorem dX6_likingBehind_22 : decode cX6_likingBehind 22 = .ok (.iload_n 2, 1) := by decide +kernel
theorem dX6_likingBehind_23 : decode cX6_likingBehind 23 = .ok (.iadd, 1) := by decide +kernel
theorem dX6_likingBehind_24 : decode cX6_likingBehind 24 = .ok (.iaload, 1) := by decide +kernel
theorem dX6_likingBehind_25 : decode cX6_likingBehind 25 = .ok (.ireturn, 1) := by decide +kernel
theorem dX6_worthWith_0 : decode cX6_worthWith 0 = .ok (.aload_n 0, 1) := by decide +kernel
theorem dX6_worthWith_1 : decode cX6_worthWith 1 = .ok (.iload_n 2, 1) := by decide +kernel
theorem dX6_worthWith_2 : decode cX6_worthWith 2 = .ok (.iload_n 3, 1) := by decide +kernel
theorem dX6_worthWith_3 : decode cX6_worthWith 3 = .ok (.invokevirtual 124, 3) := by decide +kernel
theorem dX6_worthWith_6 : decode cX6_worthWith 6 = .ok (.aload_n 0, 1) := by decide +kernel
theorem dX6_worthWith_7 : decode cX6_worthWith 7 = .ok (.getfield 27, 3) := by decide +kernel
theorem dX6_worthWith_10 : decode cX6_worthWith 10 = .ok (.iload_n 1, 1) := by decide +kernel
theorem dX6_worthWith_11 : decode cX6_worthWith 11 = .ok (.iconst 1, 1) := by decide +kernel
theorem dX6_worthWith_12 : decode cX6_worthWith 12 = .ok (.iload_n 3, 1) := by decide +kernel
theorem dX6_worthWith_13 : decode cX6_worthWith 13 = .ok (.ishl, 1) := by decide +kernel
theorem dX6_worthWith_14 : decode cX6_worthWith 14 = .ok (.ior, 1) := by decide +kernel
theorem dX6_worthWith_15 : decode cX6_worthWith 15 = .ok (.bipush 7, 2) := by decide +kernel
theorem dX6_worthWith_17 : decode cX6_worthWith 17 = .ok (.imul, 1) := by decide +kernel
theorem dX6_worthWith_18 : decode cX6_worthWith 18 = .ok (.iload_n 3, 1) := by decide +kernel
theorem dX6_worthWith_19 : decode cX6_worthWith 19 = .ok (.iadd, 1) := by decide +kernel
theorem dX6_worthWith_20 : decode cX6_worthWith 20 = .ok (.iaload, 1) := by decide +kernel
theorem dX6_worthWith_21 : decode cX6_worthWith 21 = .ok (.iadd, 1) := by decide +kernel
theorem dX6_worthWith_22 : decode cX6_worthWith 22 = .ok (.ireturn, 1) := by decide +kernel
theorem dX6_bestNext_0 : decode cX6_bestNext 0 = .ok (.iconst (-1), 1) := by decide +kernel
theorem dX6_bestNext_1 : decode cX6_bestNext 1 = .ok (.istore_n 3, 1) := by decide +kernel
theorem dX6_bestNext_2 : decode cX6_bestNext 2 = .ok (.iconst 0, 1) := by decide +kernel
theorem dX6_bestNext_3 : decode cX6_bestNext 3 = .ok (.istore 4, 2) := by decide +kernel
theorem dX6_bestNext_5 : decode cX6_bestNext 5 = .ok (.iconst 0, 1) := by decide +kernel
theorem dX6_bestNext_6 : decode cX6_bestNext 6 = .ok (.istore 5, 2) := by decide +kernel
theorem dX6_bestNext_8 : decode cX6_bestNext 8 = .ok (.iload 5, 2) := by decide +kernel
theorem dX6_bestNext_10 : decode cX6_bestNext 10 = .ok (.aload_n 0, 1) := by decide +kernel
theorem dX6_bestNext_11 : decode cX6_bestNext 11 = .ok (.getfield 14, 3) := by decide +kernel
theorem dX6_bestNext_14 : decode cX6_bestNext 14 = .ok (.getfield 60, 3) := by decide +kernel
theorem dX6_bestNext_17 : decode cX6_bestNext 17 = .ok (.if_icmp .ge 49, 3) := by decide +kernel
theorem dX6_bestNext_20 : decode cX6_bestNext 20 = .ok (.aload_n 0, 1) := by decide +kernel
theorem dX6_bestNext_21 : decode cX6_bestNext 21 = .ok (.iload_n 1, 1) := by decide +kernel
theorem dX6_bestNext_22 : decode cX6_bestNext 22 = .ok (.iload_n 2, 1) := by decide +kernel
theorem dX6_bestNext_23 : decode cX6_bestNext 23 = .ok (.iload 5, 2) := by decide +kernel
theorem dX6_bestNext_25 : decode cX6_bestNext 25 = .ok (.invokevirtual 138, 3) := by decide +kernel
theorem dX6_bestNext_28 : decode cX6_bestNext 28 = .ok (.ifCond .eq 32, 3) := by decide +kernel
theorem dX6_bestNext_31 : decode cX6_bestNext 31 = .ok (.aload_n 0, 1) := by decide +kernel
theorem dX6_bestNext_32 : decode cX6_bestNext 32 = .ok (.iload_n 1, 1) := by decide +kernel
theorem dX6_bestNext_33 : decode cX6_bestNext 33 = .ok (.iload_n 2, 1) := by decide +kernel
theorem dX6_bestNext_34 : decode cX6_bestNext 34 = .ok (.iload 5, 2) := by decide +kernel
theorem dX6_bestNext_36 : decode cX6_bestNext 36 = .ok (.invokevirtual 134, 3) := by decide +kernel
theorem dX6_bestNext_39 : decode cX6_bestNext 39 = .ok (.istore 6, 2) := by decide +kernel
theorem dX6_bestNext_41 : decode cX6_bestNext 41 = .ok (.iload_n 3, 1) := by decide +kernel
theorem dX6_bestNext_42 : decode cX6_bestNext 42 = .ok (.iconst (-1), 1) := by decide +kernel
theorem dX6_bestNext_43 : decode cX6_bestNext 43 = .ok (.if_icmp .eq 10, 3) := by decide +kernel
theorem dX6_bestNext_46 : decode cX6_bestNext 46 = .ok (.iload 6, 2) := by decide +kernel
theorem dX6_bestNext_48 : decode cX6_bestNext 48 = .ok (.iload 4, 2) := by decide +kernel
theorem dX6_bestNext_50 : decode cX6_bestNext 50 = .ok (.if_icmp .le 10, 3) := by decide +kernel
theorem dX6_bestNext_53 : decode cX6_bestNext 53 = .ok (.iload 5, 2) := by decide +kernel
theorem dX6_bestNext_55 : decode cX6_bestNext 55 = .ok (.istore_n 3, 1) := by decide +kernel
theorem dX6_bestNext_56 : decode cX6_bestNext 56 = .ok (.iload 6, 2) := by decide +kernel
theorem dX6_bestNext_58 : decode cX6_bestNext 58 = .ok (.istore 4, 2) := by decide +kernel
theorem dX6_bestNext_60 : decode cX6_bestNext 60 = .ok (.iinc 5 1, 3) := by decide +kernel
theorem dX6_bestNext_63 : decode cX6_bestNext 63 = .ok (.goto (-55), 3) := by decide +kernel
theorem dX6_bestNext_66 : decode cX6_bestNext 66 = .ok (.iload_n 3, 1) := by decide +kernel
theorem dX6_bestNext_67 : decode cX6_bestNext 67 = .ok (.ireturn, 1) := by decide +kernel
theorem dX6_weigh_0 : decode cX6_weigh 0 = .ok (.iconst 1, 1) := by decide +kernel
theorem dX6_weigh_1 : decode cX6_weigh 1 = .ok (.aload_n 0, 1) := by decide +kernel
theorem dX6_weigh_2 : decode cX6_weigh 2 = .ok (.getfield 14, 3) := by decide +kernel
theorem dX6_weigh_5 : decode cX6_weigh 5 = .ok (.getfield 60, 3) := by decide +kernel
theorem dX6_weigh_8 : decode cX6_weigh 8 = .ok (.ishl, 1) := by decide +kernel
theorem dX6_weigh_9 : decode cX6_weigh 9 = .ok (.iconst 1, 1) := by decide +kernel
theorem dX6_weigh_10 : decode cX6_weigh 10 = .ok (.isub, 1) := by decide +kernel
theorem dX6_weigh_11 : decode cX6_weigh 11 = .ok (.istore_n 1, 1) := by decide +kernel
theorem dX6_weigh_12 : decode cX6_weigh 12 = .ok (.iload_n 1, 1) := by decide +kernel
theorem dX6_weigh_13 : decode cX6_weigh 13 = .ok (.istore_n 2, 1) := by decide +kernel
theorem dX6_weigh_14 : decode cX6_weigh 14 = .ok (.iload_n 2, 1) := by decide +kernel
theorem dX6_weigh_15 : decode cX6_weigh 15 = .ok (.ifCond .le 77, 3) := by decide +kernel
theorem dX6_weigh_18 : decode cX6_weigh 18 = .ok (.iconst 0, 1) := by decide +kernel
theorem dX6_weigh_19 : decode cX6_weigh 19 = .ok (.istore_n 3, 1) := by decide +kernel
theorem dX6_weigh_20 : decode cX6_weigh 20 = .ok (.iload_n 3, 1) := by decide +kernel
theorem dX6_weigh_21 : decode cX6_weigh 21 = .ok (.aload_n 0, 1) := by decide +kernel
theorem dX6_weigh_22 : decode cX6_weigh 22 = .ok (.getfield 14, 3) := by decide +kernel
theorem dX6_weigh_25 : decode cX6_weigh 25 = .ok (.getfield 60, 3) := by decide +kernel
theorem dX6_weigh_28 : decode cX6_weigh 28 = .ok (.if_icmp .ge 58, 3) := by decide +kernel
theorem dX6_weigh_31 : decode cX6_weigh 31 = .ok (.iload_n 2, 1) := by decide +kernel
theorem dX6_weigh_32 : decode cX6_weigh 32 = .ok (.iload_n 3, 1) := by decide +kernel
theorem dX6_weigh_33 : decode cX6_weigh 33 = .ok (.ishr, 1) := by decide +kernel
theorem dX6_weigh_34 : decode cX6_weigh 34 = .ok (.iconst 1, 1) := by decide +kernel
theorem dX6_weigh_35 : decode cX6_weigh 35 = .ok (.iand, 1) := by decide +kernel
theorem dX6_weigh_36 : decode cX6_weigh 36 = .ok (.ifCond .ne 7, 3) := by decide +kernel
theorem dX6_weigh_39 : decode cX6_weigh 39 = .ok (.iconst (-1), 1) := by decide +kernel
theorem dX6_weigh_40 : decode cX6_weigh 40 = .ok (.goto 9, 3) := by decide +kernel
theorem dX6_weigh_43 : decode cX6_weigh 43 = .ok (.aload_n 0, 1) := by decide +kernel
theorem dX6_weigh_44 : decode cX6_weigh 44 = .ok (.iload_n 2, 1) := by decide +kernel
theorem dX6_weigh_45 : decode cX6_weigh 45 = .ok (.iload_n 3, 1) := by decide +kernel
theorem dX6_weigh_46 : decode cX6_weigh 46 = .ok (.invokevirtual 120, 3) := by decide +kernel
theorem dX6_weigh_49 : decode cX6_weigh 49 = .ok (.istore 4, 2) := by decide +kernel
theorem dX6_weigh_51 : decode cX6_weigh 51 = .ok (.aload_n 0, 1) := by decide +kernel
theorem dX6_weigh_52 : decode cX6_weigh 52 = .ok (.getfield 27, 3) := by decide +kernel
theorem dX6_weigh_55 : decode cX6_weigh 55 = .ok (.iload_n 2, 1) := by decide +kernel
theorem dX6_weigh_56 : decode cX6_weigh 56 = .ok (.bipush 7, 2) := by decide +kernel
theorem dX6_weigh_58 : decode cX6_weigh 58 = .ok (.imul, 1) := by decide +kernel
theorem dX6_weigh_59 : decode cX6_weigh 59 = .ok (.iload_n 3, 1) := by decide +kernel
theorem dX6_weigh_60 : decode cX6_weigh 60 = .ok (.iadd, 1) := by decide +kernel
theorem dX6_weigh_61 : decode cX6_weigh 61 = .ok (.iload 4, 2) := by decide +kernel
theorem dX6_weigh_63 : decode cX6_weigh 63 = .ok (.iconst (-1), 1) := by decide +kernel
theorem dX6_weigh_64 : decode cX6_weigh 64 = .ok (.if_icmp .ne 7, 3) := by decide +kernel
theorem dX6_weigh_67 : decode cX6_weigh 67 = .ok (.iconst 0, 1) := by decide +kernel
theorem dX6_weigh_68 : decode cX6_weigh 68 = .ok (.goto 11, 3) := by decide +kernel
theorem dX6_weigh_71 : decode cX6_weigh 71 = .ok (.aload_n 0, 1) := by decide +kernel
theorem dX6_weigh_72 : decode cX6_weigh 72 = .ok (.iload_n 2, 1) := by decide +kernel
theorem dX6_weigh_73 : decode cX6_weigh 73 = .ok (.iload_n 3, 1) := by decide +kernel
theorem dX6_weigh_74 : decode cX6_weigh 74 = .ok (.iload 4, 2) := by decide +kernel
theorem dX6_weigh_76 : decode cX6_weigh 76 = .ok (.invokevirtual 134, 3) := by decide +kernel
theorem dX6_weigh_79 : decode cX6_weigh 79 = .ok (.iastore, 1) := by decide +kernel
theorem dX6_weigh_80 : decode cX6_weigh 80 = .ok (.iinc 3 1, 3) := by decide +kernel
theorem dX6_weigh_83 : decode cX6_weigh 83 = .ok (.goto (-63), 3) := by decide +kernel
theorem dX6_weigh_86 : decode cX6_weigh 86 = .ok (.iinc 2 (-1), 3) := by decide +kernel
theorem dX6_weigh_89 : decode cX6_weigh 89 = .ok (.goto (-75), 3) := by decide +kernel
theorem dX6_weigh_92 : decode cX6_weigh 92 = .ok (.return_, 1) := by decide +kernel
theorem dX6_find_0 : decode cX6_find 0 = .ok (.aload_n 0, 1) := by decide +kernel
theorem dX6_find_1 : decode cX6_find 1 = .ok (.invokevirtual 111, 3) := by decide +kernel
theorem dX6_find_4 : decode cX6_find 4 = .ok (.aload_n 0, 1) := by decide +kernel
theorem dX6_find_5 : decode cX6_find 5 = .ok (.invokevirtual 114, 3) := by decide +kernel
theorem dX6_find_8 : decode cX6_find 8 = .ok (.aload_n 0, 1) := by decide +kernel
theorem dX6_find_9 : decode cX6_find 9 = .ok (.aload_n 1, 1) := by decide +kernel
theorem dX6_find_10 : decode cX6_find 10 = .ok (.getfield 117, 3) := by decide +kernel
theorem dX6_find_13 : decode cX6_find 13 = .ok (.putfield 36, 3) := by decide +kernel
theorem dX6_find_16 : decode cX6_find 16 = .ok (.aload_n 0, 1) := by decide +kernel
theorem dX6_find_17 : decode cX6_find 17 = .ok (.getfield 30, 3) := by decide +kernel
theorem dX6_find_20 : decode cX6_find 20 = .ok (.invokevirtual 50, 3) := by decide +kernel
theorem dX6_find_23 : decode cX6_find 23 = .ok (.aload_n 0, 1) := by decide +kernel
theorem dX6_find_24 : decode cX6_find 24 = .ok (.getfield 33, 3) := by decide +kernel
theorem dX6_find_27 : decode cX6_find 27 = .ok (.invokevirtual 50, 3) := by decide +kernel
theorem dX6_find_30 : decode cX6_find 30 = .ok (.aload_n 1, 1) := by decide +kernel
theorem dX6_find_31 : decode cX6_find 31 = .ok (.getfield 108, 3) := by decide +kernel
theorem dX6_find_34 : decode cX6_find 34 = .ok (.aload_n 0, 1) := by decide +kernel
theorem dX6_find_35 : decode cX6_find 35 = .ok (.invokevirtual 104, 3) := by decide +kernel
theorem dX6_find_38 : decode cX6_find 38 = .ok (.isub, 1) := by decide +kernel
theorem dX6_find_39 : decode cX6_find 39 = .ok (.iconst 2, 1) := by decide +kernel
theorem dX6_find_40 : decode cX6_find 40 = .ok (.idiv, 1) := by decide +kernel
theorem dX6_find_41 : decode cX6_find 41 = .ok (.istore_n 2, 1) := by decide +kernel
theorem dX6_find_42 : decode cX6_find 42 = .ok (.iconst 0, 1) := by decide +kernel
theorem dX6_find_43 : decode cX6_find 43 = .ok (.istore_n 3, 1) := by decide +kernel
theorem dX6_find_44 : decode cX6_find 44 = .ok (.iconst (-1), 1) := by decide +kernel
theorem dX6_find_45 : decode cX6_find 45 = .ok (.istore 4, 2) := by decide +kernel
theorem dX6_find_47 : decode cX6_find 47 = .ok (.iconst 0, 1) := by decide +kernel
theorem dX6_find_48 : decode cX6_find 48 = .ok (.istore 5, 2) := by decide +kernel
theorem dX6_find_50 : decode cX6_find 50 = .ok (.iconst 0, 1) := by decide +kernel
theorem dX6_find_51 : decode cX6_find 51 = .ok (.istore 6, 2) := by decide +kernel
theorem dX6_find_53 : decode cX6_find 53 = .ok (.iload 6, 2) := by decide +kernel
theorem dX6_find_55 : decode cX6_find 55 = .ok (.aload_n 0, 1) := by decide +kernel
theorem dX6_find_56 : decode cX6_find 56 = .ok (.getfield 14, 3) := by decide +kernel
theorem dX6_find_59 : decode cX6_find 59 = .ok (.getfield 60, 3) := by decide +kernel
theorem dX6_find_62 : decode cX6_find 62 = .ok (.if_icmp .ge 101, 3) := by decide +kernel
theorem dX6_find_65 : decode cX6_find 65 = .ok (.aload_n 0, 1) := by decide +kernel
theorem dX6_find_66 : decode cX6_find 66 = .ok (.iload_n 3, 1) := by decide +kernel
theorem dX6_find_67 : decode cX6_find 67 = .ok (.iload 4, 2) := by decide +kernel
theorem dX6_find_69 : decode cX6_find 69 = .ok (.invokevirtual 120, 3) := by decide +kernel
theorem dX6_find_72 : decode cX6_find 72 = .ok (.istore 7, 2) := by decide +kernel
theorem dX6_find_74 : decode cX6_find 74 = .ok (.iload 5, 2) := by decide +kernel
theorem dX6_find_76 : decode cX6_find 76 = .ok (.aload_n 0, 1) := by decide +kernel
theorem dX6_find_77 : decode cX6_find 77 = .ok (.iload 4, 2) := by decide +kernel
theorem dX6_find_79 : decode cX6_find 79 = .ok (.iload 7, 2) := by decide +kernel
theorem dX6_find_81 : decode cX6_find 81 = .ok (.invokevirtual 124, 3) := by decide +kernel
theorem dX6_find_84 : decode cX6_find 84 = .ok (.iadd, 1) := by decide +kernel
theorem dX6_find_85 : decode cX6_find 85 = .ok (.istore 5, 2) := by decide +kernel
theorem dX6_find_87 : decode cX6_find 87 = .ok (.aload_n 0, 1) := by decide +kernel
theorem dX6_find_88 : decode cX6_find 88 = .ok (.iload 7, 2) := by decide +kernel
theorem dX6_find_90 : decode cX6_find 90 = .ok (.invokevirtual 78, 3) := by decide +kernel
theorem dX6_find_93 : decode cX6_find 93 = .ok (.astore 8, 2) := by decide +kernel
theorem dX6_find_95 : decode cX6_find 95 = .ok (.aload_n 0, 1) := by decide +kernel
theorem dX6_find_96 : decode cX6_find 96 = .ok (.getfield 30, 3) := by decide +kernel
theorem dX6_find_99 : decode cX6_find 99 = .ok (.aload_n 0, 1) := by decide +kernel
theorem dX6_find_100 : decode cX6_find 100 = .ok (.getfield 14, 3) := by decide +kernel
theorem dX6_find_103 : decode cX6_find 103 = .ok (.iload 7, 2) := by decide +kernel
theorem dX6_find_105 : decode cX6_find 105 = .ok (.invokevirtual 63, 3) := by decide +kernel
theorem dX6_find_108 : decode cX6_find 108 = .ok (.invokevirtual 53, 3) := by decide +kernel
theorem dX6_find_111 : decode cX6_find 111 = .ok (.aload_n 0, 1) := by decide +kernel
theorem dX6_find_112 : decode cX6_find 112 = .ok (.getfield 33, 3) := by decide +kernel
theorem dX6_find_115 : decode cX6_find 115 = .ok (.iload_n 2, 1) := by decide +kernel
theorem dX6_find_116 : decode cX6_find 116 = .ok (.invokevirtual 53, 3) := by decide +kernel
theorem dX6_find_119 : decode cX6_find 119 = .ok (.iload_n 2, 1) := by decide +kernel
theorem dX6_find_120 : decode cX6_find 120 = .ok (.aload 8, 2) := by decide +kernel
theorem dX6_find_122 : decode cX6_find 122 = .ok (.ifnonnull 7, 3) := by decide +kernel
theorem dX6_find_125 : decode cX6_find 125 = .ok (.iconst 0, 1) := by decide +kernel
theorem dX6_find_126 : decode cX6_find 126 = .ok (.goto 8, 3) := by decide +kernel
theorem dX6_find_129 : decode cX6_find 129 = .ok (.aload 8, 2) := by decide +kernel
theorem dX6_find_131 : decode cX6_find 131 = .ok (.getfield 81, 3) := by decide +kernel
theorem dX6_find_134 : decode cX6_find 134 = .ok (.aload_n 0, 1) := by decide +kernel
theorem dX6_find_135 : decode cX6_find 135 = .ok (.getfield 40, 3) := by decide +kernel
theorem dX6_find_138 : decode cX6_find 138 = .ok (.getfield 75, 3) := by decide +kernel
theorem dX6_find_141 : decode cX6_find 141 = .ok (.iconst 1, 1) := by decide +kernel
theorem dX6_find_142 : decode cX6_find 142 = .ok (.iaload, 1) := by decide +kernel
theorem dX6_find_143 : decode cX6_find 143 = .ok (.iadd, 1) := by decide +kernel
theorem dX6_find_144 : decode cX6_find 144 = .ok (.iadd, 1) := by decide +kernel
theorem dX6_find_145 : decode cX6_find 145 = .ok (.istore_n 2, 1) := by decide +kernel
theorem dX6_find_146 : decode cX6_find 146 = .ok (.iload_n 3, 1) := by decide +kernel
theorem dX6_find_147 : decode cX6_find 147 = .ok (.iconst 1, 1) := by decide +kernel
theorem dX6_find_148 : decode cX6_find 148 = .ok (.iload 7, 2) := by decide +kernel
theorem dX6_find_150 : decode cX6_find 150 = .ok (.ishl, 1) := by decide +kernel
theorem dX6_find_151 : decode cX6_find 151 = .ok (.ior, 1) := by decide +kernel
theorem dX6_find_152 : decode cX6_find 152 = .ok (.istore_n 3, 1) := by decide +kernel
theorem dX6_find_153 : decode cX6_find 153 = .ok (.iload 7, 2) := by decide +kernel
theorem dX6_find_155 : decode cX6_find 155 = .ok (.istore 4, 2) := by decide +kernel
theorem dX6_find_157 : decode cX6_find 157 = .ok (.iinc 6 1, 3) := by decide +kernel
theorem dX6_find_160 : decode cX6_find 160 = .ok (.goto (-107), 3) := by decide +kernel
theorem dX6_find_163 : decode cX6_find 163 = .ok (.iload 5, 2) := by decide +kernel
theorem dX6_find_165 : decode cX6_find 165 = .ok (.ireturn, 1) := by decide +kernel
theorem dX6_putUp_0 : decode cX6_putUp 0 = .ok (.iconst 0, 1) := by decide +kernel
theorem dX6_putUp_1 : decode cX6_putUp 1 = .ok (.istore_n 1, 1) := by decide +kernel
theorem dX6_putUp_2 : decode cX6_putUp 2 = .ok (.iload_n 1, 1) := by decide +kernel
theorem dX6_putUp_3 : decode cX6_putUp 3 = .ok (.bipush 24, 2) := by decide +kernel
theorem dX6_putUp_5 : decode cX6_putUp 5 = .ok (.if_icmp .ge 38, 3) := by decide +kernel
theorem dX6_putUp_8 : decode cX6_putUp 8 = .ok (.aload_n 0, 1) := by decide +kernel
theorem dX6_putUp_9 : decode cX6_putUp 9 = .ok (.getfield 40, 3) := by decide +kernel
theorem dX6_putUp_12 : decode cX6_putUp 12 = .ok (.getfield 142, 3) := by decide +kernel
theorem dX6_putUp_15 : decode cX6_putUp 15 = .ok (.iload_n 1, 1) := by decide +kernel
theorem dX6_putUp_16 : decode cX6_putUp 16 = .ok (.invokevirtual 146, 3) := by decide +kernel
theorem dX6_putUp_19 : decode cX6_putUp 19 = .ok (.aload_n 0, 1) := by decide +kernel
theorem dX6_putUp_20 : decode cX6_putUp 20 = .ok (.getfield 36, 3) := by decide +kernel
theorem dX6_putUp_23 : decode cX6_putUp 23 = .ok (.if_icmp .ne 14, 3) := by decide +kernel
theorem dX6_putUp_26 : decode cX6_putUp 26 = .ok (.aload_n 0, 1) := by decide +kernel
theorem dX6_putUp_27 : decode cX6_putUp 27 = .ok (.getfield 40, 3) := by decide +kernel
theorem dX6_putUp_30 : decode cX6_putUp 30 = .ok (.getfield 142, 3) := by decide +kernel
theorem dX6_putUp_33 : decode cX6_putUp 33 = .ok (.iload_n 1, 1) := by decide +kernel
theorem dX6_putUp_34 : decode cX6_putUp 34 = .ok (.invokevirtual 151, 3) := by decide +kernel
theorem dX6_putUp_37 : decode cX6_putUp 37 = .ok (.iinc 1 1, 3) := by decide +kernel
theorem dX6_putUp_40 : decode cX6_putUp 40 = .ok (.goto (-38), 3) := by decide +kernel
theorem dX6_putUp_43 : decode cX6_putUp 43 = .ok (.iconst 0, 1) := by decide +kernel
theorem dX6_putUp_44 : decode cX6_putUp 44 = .ok (.istore_n 1, 1) := by decide +kernel
theorem dX6_putUp_45 : decode cX6_putUp 45 = .ok (.iload_n 1, 1) := by decide +kernel
theorem dX6_putUp_46 : decode cX6_putUp 46 = .ok (.aload_n 0, 1) := by decide +kernel
theorem dX6_putUp_47 : decode cX6_putUp 47 = .ok (.getfield 30, 3) := by decide +kernel
theorem dX6_putUp_50 : decode cX6_putUp 50 = .ok (.getfield 60, 3) := by decide +kernel
theorem dX6_putUp_53 : decode cX6_putUp 53 = .ok (.if_icmp .ge 39, 3) := by decide +kernel
theorem dX6_putUp_56 : decode cX6_putUp 56 = .ok (.aload_n 0, 1) := by decide +kernel
theorem dX6_putUp_57 : decode cX6_putUp 57 = .ok (.getfield 40, 3) := by decide +kernel
theorem dX6_putUp_60 : decode cX6_putUp 60 = .ok (.getfield 142, 3) := by decide +kernel
theorem dX6_putUp_63 : decode cX6_putUp 63 = .ok (.aload_n 0, 1) := by decide +kernel
theorem dX6_putUp_64 : decode cX6_putUp 64 = .ok (.getfield 30, 3) := by decide +kernel
theorem dX6_putUp_67 : decode cX6_putUp 67 = .ok (.iload_n 1, 1) := by decide +kernel
theorem dX6_putUp_68 : decode cX6_putUp 68 = .ok (.invokevirtual 63, 3) := by decide +kernel
theorem dX6_putUp_71 : decode cX6_putUp 71 = .ok (.aload_n 0, 1) := by decide +kernel
theorem dX6_putUp_72 : decode cX6_putUp 72 = .ok (.getfield 36, 3) := by decide +kernel
theorem dX6_putUp_75 : decode cX6_putUp 75 = .ok (.aload_n 0, 1) := by decide +kernel
theorem dX6_putUp_76 : decode cX6_putUp 76 = .ok (.getfield 33, 3) := by decide +kernel
theorem dX6_putUp_79 : decode cX6_putUp 79 = .ok (.iload_n 1, 1) := by decide +kernel
theorem dX6_putUp_80 : decode cX6_putUp 80 = .ok (.invokevirtual 63, 3) := by decide +kernel
theorem dX6_putUp_83 : decode cX6_putUp 83 = .ok (.invokevirtual 154, 3) := by decide +kernel
theorem dX6_putUp_86 : decode cX6_putUp 86 = .ok (.iinc 1 1, 3) := by decide +kernel
theorem dX6_putUp_89 : decode cX6_putUp 89 = .ok (.goto (-44), 3) := by decide +kernel
theorem dX6_putUp_92 : decode cX6_putUp 92 = .ok (.aload_n 0, 1) := by decide +kernel
theorem dX6_putUp_93 : decode cX6_putUp 93 = .ok (.getfield 30, 3) := by decide +kernel
theorem dX6_putUp_96 : decode cX6_putUp 96 = .ok (.invokevirtual 50, 3) := by decide +kernel
theorem dX6_putUp_99 : decode cX6_putUp 99 = .ok (.return_, 1) := by decide +kernel
theorem dX8_isDigit_0 : decode cX8_isDigit 0 = .ok (.iload_n 0, 1) := by decide +kernel
theorem dX8_isDigit_1 : decode cX8_isDigit 1 = .ok (.bipush 48, 2) := by decide +kernel
theorem dX8_isDigit_3 : decode cX8_isDigit 3 = .ok (.if_icmp .lt 13, 3) := by decide +kernel
theorem dX8_isDigit_6 : decode cX8_isDigit 6 = .ok (.iload_n 0, 1) := by decide +kernel
theorem dX8_isDigit_7 : decode cX8_isDigit 7 = .ok (.bipush 57, 2) := by decide +kernel
theorem dX8_isDigit_9 : decode cX8_isDigit 9 = .ok (.if_icmp .gt 7, 3) := by decide +kernel
theorem dX8_isDigit_12 : decode cX8_isDigit 12 = .ok (.iconst 1, 1) := by decide +kernel
theorem dX8_isDigit_13 : decode cX8_isDigit 13 = .ok (.goto 4, 3) := by decide +kernel
theorem dX8_isDigit_16 : decode cX8_isDigit 16 = .ok (.iconst 0, 1) := by decide +kernel
theorem dX8_isDigit_17 : decode cX8_isDigit 17 = .ok (.ireturn, 1) := by decide +kernel
theorem dX8_beginsThing_0 : decode cX8_beginsThing 0 = .ok (.ldc 67, 2) := by decide +kernel
theorem dX8_beginsThing_2 : decode cX8_beginsThing 2 = .ok (.iload_n 1, 1) := by decide +kernel
theorem dX8_beginsThing_3 : decode cX8_beginsThing 3 = .ok (.i2c, 1) := by decide +kernel
theorem dX8_beginsThing_4 : decode cX8_beginsThing 4 = .ok (.invokevirtual 69, 3) := by decide +kernel
theorem dX8_beginsThing_7 : decode cX8_beginsThing 7 = .ok (.istore_n 2, 1) := by decide +kernel
theorem dX8_beginsThing_8 : decode cX8_beginsThing 8 = .ok (.iload_n 1, 1) := by decide +kernel
theorem dX8_beginsThing_9 : decode cX8_beginsThing 9 = .ok (.bipush 40, 2) := by decide +kernel
theorem dX8_beginsThing_11 : decode cX8_beginsThing 11 = .ok (.if_icmp .ne 24, 3) := by decide +kernel
theorem dX8_beginsThing_14 : decode cX8_beginsThing 14 = .ok (.aload_n 0, 1) := by decide +kernel
theorem dX8_beginsThing_15 : decode cX8_beginsThing 15 = .ok (.dup, 1) := by decide +kernel
theorem dX8_beginsThing_16 : decode cX8_beginsThing 16 = .ok (.getfield 34, 3) := by decide +kernel
theorem dX8_beginsThing_19 : decode cX8_beginsThing 19 = .ok (.iconst 1, 1) := by decide +kernel
theorem dX8_beginsThing_20 : decode cX8_beginsThing 20 = .ok (.iadd, 1) := by decide +kernel
theorem dX8_beginsThing_21 : decode cX8_beginsThing 21 = .ok (.putfield 34, 3) := by decide +kernel
theorem dX8_beginsThing_24 : decode cX8_beginsThing 24 = .ok (.aload_n 0, 1) := by decide +kernel
theorem dX8_beginsThing_25 : decode cX8_beginsThing 25 = .ok (.getfield 20, 3) := by decide +kernel
theorem dX8_beginsThing_28 : decode cX8_beginsThing 28 = .ok (.iload_n 1, 1) := by decide +kernel
theorem dX8_beginsThing_29 : decode cX8_beginsThing 29 = .ok (.invokevirtual 74, 3) := by decide +kernel
theorem dX8_beginsThing_32 : decode cX8_beginsThing 32 = .ok (.goto 94, 3) := by decide +kernel
theorem dX8_beginsThing_35 : decode cX8_beginsThing 35 = .ok (.iload_n 1, 1) := by decide +kernel
theorem dX8_beginsThing_36 : decode cX8_beginsThing 36 = .ok (.bipush 33, 2) := by decide +kernel
theorem dX8_beginsThing_38 : decode cX8_beginsThing 38 = .ok (.if_icmp .eq 9, 3) := by decide +kernel
theorem dX8_beginsThing_41 : decode cX8_beginsThing 41 = .ok (.iload_n 1, 1) := by decide +kernel
theorem dX8_beginsThing_42 : decode cX8_beginsThing 42 = .ok (.bipush 45, 2) := by decide +kernel
theorem dX8_beginsThing_44 : decode cX8_beginsThing 44 = .ok (.if_icmp .ne 25, 3) := by decide +kernel
theorem dX8_beginsThing_47 : decode cX8_beginsThing 47 = .ok (.aload_n 0, 1) := by decide +kernel
theorem dX8_beginsThing_48 : decode cX8_beginsThing 48 = .ok (.getfield 20, 3) := by decide +kernel
theorem dX8_beginsThing_51 : decode cX8_beginsThing 51 = .ok (.iload_n 1, 1) := by decide +kernel
theorem dX8_beginsThing_52 : decode cX8_beginsThing 52 = .ok (.bipush 45, 2) := by decide +kernel
theorem dX8_beginsThing_54 : decode cX8_beginsThing 54 = .ok (.if_icmp .ne 8, 3) := by decide +kernel
theorem dX8_beginsThing_57 : decode cX8_beginsThing 57 = .ok (.bipush 126, 2) := by decide +kernel
theorem dX8_beginsThing_59 : decode cX8_beginsThing 59 = .ok (.goto 4, 3) := by decide +kernel
theorem dX8_beginsThing_62 : decode cX8_beginsThing 62 = .ok (.iload_n 1, 1) := by decide +kernel
theorem dX8_beginsThing_63 : decode cX8_beginsThing 63 = .ok (.invokevirtual 74, 3) := by decide +kernel
theorem dX8_beginsThing_66 : decode cX8_beginsThing 66 = .ok (.goto 60, 3) := by decide +kernel
theorem dX8_beginsThing_69 : decode cX8_beginsThing 69 = .ok (.iload_n 1, 1) := by decide +kernel
theorem dX8_beginsThing_70 : decode cX8_beginsThing 70 = .ok (.invokestatic 54, 3) := by decide +kernel
theorem dX8_beginsThing_73 : decode cX8_beginsThing 73 = .ok (.ifCond .eq 27, 3) := by decide +kernel
theorem dX8_beginsThing_76 : decode cX8_beginsThing 76 = .ok (.aload_n 0, 1) := by decide +kernel
theorem dX8_beginsThing_77 : decode cX8_beginsThing 77 = .ok (.iconst 1, 1) := by decide +kernel
theorem dX8_beginsThing_78 : decode cX8_beginsThing 78 = .ok (.putfield 30, 3) := by decide +kernel
theorem dX8_beginsThing_81 : decode cX8_beginsThing 81 = .ok (.aload_n 0, 1) := by decide +kernel
theorem dX8_beginsThing_82 : decode cX8_beginsThing 82 = .ok (.getfield 14, 3) := by decide +kernel
theorem dX8_beginsThing_85 : decode cX8_beginsThing 85 = .ok (.iload_n 1, 1) := by decide +kernel
theorem dX8_beginsThing_86 : decode cX8_beginsThing 86 = .ok (.bipush 48, 2) := by decide +kernel
theorem dX8_beginsThing_88 : decode cX8_beginsThing 88 = .ok (.isub, 1) := by decide +kernel
theorem dX8_beginsThing_89 : decode cX8_beginsThing 89 = .ok (.invokevirtual 74, 3) := by decide +kernel
theorem dX8_beginsThing_92 : decode cX8_beginsThing 92 = .ok (.aload_n 0, 1) := by decide +kernel
theorem dX8_beginsThing_93 : decode cX8_beginsThing 93 = .ok (.iconst 0, 1) := by decide +kernel
theorem dX8_beginsThing_94 : decode cX8_beginsThing 94 = .ok (.putfield 26, 3) := by decide +kernel
theorem dX8_beginsThing_97 : decode cX8_beginsThing 97 = .ok (.goto 29, 3) := by decide +kernel
theorem dX8_beginsThing_100 : decode cX8_beginsThing 100 = .ok (.iload_n 2, 1) := by decide +kernel
theorem dX8_beginsThing_101 : decode cX8_beginsThing 101 = .ok (.ifCond .lt 23, 3) := by decide +kernel
theorem dX8_beginsThing_104 : decode cX8_beginsThing 104 = .ok (.aload_n 0, 1) := by decide +kernel
theorem dX8_beginsThing_105 : decode cX8_beginsThing 105 = .ok (.getfield 14, 3) := by decide +kernel
theorem dX8_beginsThing_108 : decode cX8_beginsThing 108 = .ok (.sipush 10000, 3) := by decide +kernel
theorem dX8_beginsThing_111 : decode cX8_beginsThing 111 = .ok (.iload_n 2, 1) := by decide +kernel
theorem dX8_beginsThing_112 : decode cX8_beginsThing 112 = .ok (.iadd, 1) := by decide +kernel
theorem dX8_beginsThing_113 : decode cX8_beginsThing 113 = .ok (.invokevirtual 74, 3) := by decide +kernel
theorem dX8_beginsThing_116 : decode cX8_beginsThing 116 = .ok (.aload_n 0, 1) := by decide +kernel
theorem dX8_beginsThing_117 : decode cX8_beginsThing 117 = .ok (.iconst 0, 1) := by decide +kernel
theorem dX8_beginsThing_118 : decode cX8_beginsThing 118 = .ok (.putfield 26, 3) := by decide +kernel
theorem dX8_beginsThing_121 : decode cX8_beginsThing 121 = .ok (.goto 5, 3) := by decide +kernel
theorem dX8_beginsThing_124 : decode cX8_beginsThing 124 = .ok (.iconst 0, 1) := by decide +kernel
theorem dX8_beginsThing_125 : decode cX8_beginsThing 125 = .ok (.ireturn, 1) := by decide +kernel
theorem dX8_beginsThing_126 : decode cX8_beginsThing 126 = .ok (.iconst 1, 1) := by decide +kernel
theorem dX8_beginsThing_127 : decode cX8_beginsThing 127 = .ok (.ireturn, 1) := by decide +kernel
theorem dX8_takesDigit_0 : decode cX8_takesDigit 0 = .ok (.aload_n 0, 1) := by decide +kernel
theorem dX8_takesDigit_1 : decode cX8_takesDigit 1 = .ok (.getfield 30, 3) := by decide +kernel
theorem dX8_takesDigit_4 : decode cX8_takesDigit 4 = .ok (.iconst 1, 1) := by decide +kernel
theorem dX8_takesDigit_5 : decode cX8_takesDigit 5 = .ok (.if_icmp .lt 11, 3) := by decide +kernel
theorem dX8_takesDigit_8 : decode cX8_takesDigit 8 = .ok (.aload_n 0, 1) := by decide +kernel
theorem dX8_takesDigit_9 : decode cX8_takesDigit 9 = .ok (.getfield 30, 3) := by decide +kernel
theorem dX8_takesDigit_12 : decode cX8_takesDigit 12 = .ok (.iconst 3, 1) := by decide +kernel
theorem dX8_takesDigit_13 : decode cX8_takesDigit 13 = .ok (.if_icmp .le 5, 3) := by decide +kernel
theorem dX8_takesDigit_16 : decode cX8_takesDigit 16 = .ok (.iconst 0, 1) := by decide +kernel
theorem dX8_takesDigit_17 : decode cX8_takesDigit 17 = .ok (.ireturn, 1) := by decide +kernel
theorem dX8_takesDigit_18 : decode cX8_takesDigit 18 = .ok (.aload_n 0, 1) := by decide +kernel
theorem dX8_takesDigit_19 : decode cX8_takesDigit 19 = .ok (.getfield 14, 3) := by decide +kernel
theorem dX8_takesDigit_22 : decode cX8_takesDigit 22 = .ok (.aload_n 0, 1) := by decide +kernel
theorem dX8_takesDigit_23 : decode cX8_takesDigit 23 = .ok (.getfield 14, 3) := by decide +kernel
theorem dX8_takesDigit_26 : decode cX8_takesDigit 26 = .ok (.invokevirtual 77, 3) := by decide +kernel
theorem dX8_takesDigit_29 : decode cX8_takesDigit 29 = .ok (.bipush 10, 2) := by decide +kernel
theorem dX8_takesDigit_31 : decode cX8_takesDigit 31 = .ok (.imul, 1) := by decide +kernel
theorem dX8_takesDigit_32 : decode cX8_takesDigit 32 = .ok (.iload_n 1, 1) := by decide +kernel
theorem dX8_takesDigit_33 : decode cX8_takesDigit 33 = .ok (.iadd, 1) := by decide +kernel
theorem dX8_takesDigit_34 : decode cX8_takesDigit 34 = .ok (.bipush 48, 2) := by decide +kernel
theorem dX8_takesDigit_36 : decode cX8_takesDigit 36 = .ok (.isub, 1) := by decide +kernel
theorem dX8_takesDigit_37 : decode cX8_takesDigit 37 = .ok (.invokevirtual 74, 3) := by decide +kernel
theorem dX8_takesDigit_40 : decode cX8_takesDigit 40 = .ok (.aload_n 0, 1) := by decide +kernel
theorem dX8_takesDigit_41 : decode cX8_takesDigit 41 = .ok (.dup, 1) := by decide +kernel
theorem dX8_takesDigit_42 : decode cX8_takesDigit 42 = .ok (.getfield 30, 3) := by decide +kernel
theorem dX8_takesDigit_45 : decode cX8_takesDigit 45 = .ok (.iconst 1, 1) := by decide +kernel
theorem dX8_takesDigit_46 : decode cX8_takesDigit 46 = .ok (.iadd, 1) := by decide +kernel
theorem dX8_takesDigit_47 : decode cX8_takesDigit 47 = .ok (.putfield 30, 3) := by decide +kernel
theorem dX8_takesDigit_50 : decode cX8_takesDigit 50 = .ok (.iconst 1, 1) := by decide +kernel
theorem dX8_takesDigit_51 : decode cX8_takesDigit 51 = .ok (.ireturn, 1) := by decide +kernel
theorem dX8_levelOf_0 : decode cX8_levelOf 0 = .ok (.iload_n 0, 1) := by decide +kernel
theorem dX8_levelOf_1 : decode cX8_levelOf 1 = .ok (.lookupswitch 120 #[(33, 117), (37, 115), (38, 109), (42, 115), (43, 113), (45, 113), (47, 115), (60, 111), (61, 111), (62, 111), (124, 107), (126, 117)], 107) := by decide +kernel
theorem dX8_levelOf_108 : decode cX8_levelOf 108 = .ok (.iconst 1, 1) := by decide +kernel
theorem dX8_levelOf_109 : decode cX8_levelOf 109 = .ok (.ireturn, 1) := by decide +kernel
theorem dX8_levelOf_110 : decode cX8_levelOf 110 = .ok (.iconst 2, 1) := by decide +kernel
theorem dX8_levelOf_111 : decode cX8_levelOf 111 = .ok (.ireturn, 1) := by decide +kernel
theorem dX8_levelOf_112 : decode cX8_levelOf 112 = .ok (.iconst 3, 1) := by decide +kernel
theorem dX8_levelOf_113 : decode cX8_levelOf 113 = .ok (.ireturn, 1) := by decide +kernel
theorem dX8_levelOf_114 : decode cX8_levelOf 114 = .ok (.iconst 4, 1) := by decide +kernel
theorem dX8_levelOf_115 : decode cX8_levelOf 115 = .ok (.ireturn, 1) := by decide +kernel
theorem dX8_levelOf_116 : decode cX8_levelOf 116 = .ok (.iconst 5, 1) := by decide +kernel
theorem dX8_levelOf_117 : decode cX8_levelOf 117 = .ok (.ireturn, 1) := by decide +kernel
theorem dX8_levelOf_118 : decode cX8_levelOf 118 = .ok (.bipush 6, 2) := by decide +kernel
theorem dX8_levelOf_120 : decode cX8_levelOf 120 = .ok (.ireturn, 1) := by decide +kernel
theorem dX8_levelOf_121 : decode cX8_levelOf 121 = .ok (.iconst 0, 1) := by decide +kernel
theorem dX8_levelOf_122 : decode cX8_levelOf 122 = .ok (.ireturn, 1) := by decide +kernel
theorem dX8_unload_0 : decode cX8_unload 0 = .ok (.aload_n 0, 1) := by decide +kernel
theorem dX8_unload_1 : decode cX8_unload 1 = .ok (.getfield 20, 3) := by decide +kernel
theorem dX8_unload_4 : decode cX8_unload 4 = .ok (.getfield 37, 3) := by decide +kernel
theorem dX8_unload_7 : decode cX8_unload 7 = .ok (.iconst 1, 1) := by decide +kernel
theorem dX8_unload_8 : decode cX8_unload 8 = .ok (.isub, 1) := by decide +kernel
theorem dX8_unload_9 : decode cX8_unload 9 = .ok (.istore_n 2, 1) := by decide +kernel
theorem dX8_unload_10 : decode cX8_unload 10 = .ok (.iload_n 2, 1) := by decide +kernel
theorem dX8_unload_11 : decode cX8_unload 11 = .ok (.ifCond .lt 39, 3) := by decide +kernel
theorem dX8_unload_14 : decode cX8_unload 14 = .ok (.aload_n 0, 1) := by decide +kernel
theorem dX8_unload_15 : decode cX8_unload 15 = .ok (.getfield 20, 3) := by decide +kernel
theorem dX8_unload_18 : decode cX8_unload 18 = .ok (.iload_n 2, 1) := by decide +kernel
theorem dX8_unload_19 : decode cX8_unload 19 = .ok (.invokevirtual 40, 3) := by decide +kernel
theorem dX8_unload_22 : decode cX8_unload 22 = .ok (.invokestatic 84, 3) := by decide +kernel
theorem dX8_unload_25 : decode cX8_unload 25 = .ok (.iload_n 1, 1) := by decide +kernel
theorem dX8_unload_26 : decode cX8_unload 26 = .ok (.if_icmp .lt 24, 3) := by decide +kernel
theorem dX8_unload_29 : decode cX8_unload 29 = .ok (.aload_n 0, 1) := by decide +kernel
theorem dX8_unload_30 : decode cX8_unload 30 = .ok (.getfield 14, 3) := by decide +kernel
theorem dX8_unload_33 : decode cX8_unload 33 = .ok (.aload_n 0, 1) := by decide +kernel
theorem dX8_unload_34 : decode cX8_unload 34 = .ok (.getfield 20, 3) := by decide +kernel
theorem dX8_unload_37 : decode cX8_unload 37 = .ok (.invokevirtual 77, 3) := by decide +kernel
theorem dX8_unload_40 : decode cX8_unload 40 = .ok (.ineg, 1) := by decide +kernel
theorem dX8_unload_41 : decode cX8_unload 41 = .ok (.invokevirtual 74, 3) := by decide +kernel
theorem dX8_unload_44 : decode cX8_unload 44 = .ok (.iinc 2 (-1), 3) := by decide +kernel
theorem dX8_unload_47 : decode cX8_unload 47 = .ok (.goto (-37), 3) := by decide +kernel
theorem dX8_unload_50 : decode cX8_unload 50 = .ok (.return_, 1) := by decide +kernel
theorem dX8_closes_0 : decode cX8_closes 0 = .ok (.aload_n 0, 1) := by decide +kernel
theorem dX8_closes_1 : decode cX8_closes 1 = .ok (.getfield 34, 3) := by decide +kernel
theorem dX8_closes_4 : decode cX8_closes 4 = .ok (.ifCond .gt 5, 3) := by decide +kernel
theorem dX8_closes_7 : decode cX8_closes 7 = .ok (.iconst 0, 1) := by decide +kernel
theorem dX8_closes_8 : decode cX8_closes 8 = .ok (.ireturn, 1) := by decide +kernel
theorem dX8_closes_9 : decode cX8_closes 9 = .ok (.aload_n 0, 1) := by decide +kernel
theorem dX8_closes_10 : decode cX8_closes 10 = .ok (.iconst 1, 1) := by decide +kernel
theorem dX8_closes_11 : decode cX8_closes 11 = .ok (.invokevirtual 81, 3) := by decide +kernel
theorem dX8_closes_14 : decode cX8_closes 14 = .ok (.aload_n 0, 1) := by decide +kernel
theorem dX8_closes_15 : decode cX8_closes 15 = .ok (.getfield 20, 3) := by decide +kernel
theorem dX8_closes_18 : decode cX8_closes 18 = .ok (.invokevirtual 77, 3) := by decide +kernel
theorem dX8_closes_21 : decode cX8_closes 21 = .ok (.pop, 1) := by decide +kernel
theorem dX8_closes_22 : decode cX8_closes 22 = .ok (.aload_n 0, 1) := by decide +kernel
theorem dX8_closes_23 : decode cX8_closes 23 = .ok (.dup, 1) := by decide +kernel
theorem dX8_closes_24 : decode cX8_closes 24 = .ok (.getfield 34, 3) := by decide +kernel
theorem dX8_closes_27 : decode cX8_closes 27 = .ok (.iconst 1, 1) := by decide +kernel
theorem dX8_closes_28 : decode cX8_closes 28 = .ok (.isub, 1) := by decide +kernel
theorem dX8_closes_29 : decode cX8_closes 29 = .ok (.putfield 34, 3) := by decide +kernel
theorem dX8_closes_32 : decode cX8_closes 32 = .ok (.iconst 1, 1) := by decide +kernel
theorem dX8_closes_33 : decode cX8_closes 33 = .ok (.ireturn, 1) := by decide +kernel
theorem dX8_endExpression_0 : decode cX8_endExpression 0 = .ok (.aload_n 0, 1) := by decide +kernel
theorem dX8_endExpression_1 : decode cX8_endExpression 1 = .ok (.iconst 1, 1) := by decide +kernel
theorem dX8_endExpression_2 : decode cX8_endExpression 2 = .ok (.invokevirtual 81, 3) := by decide +kernel
theorem dX8_endExpression_5 : decode cX8_endExpression 5 = .ok (.aload_n 0, 1) := by decide +kernel
theorem dX8_endExpression_6 : decode cX8_endExpression 6 = .ok (.getfield 14, 3) := by decide +kernel
theorem dX8_endExpression_9 : decode cX8_endExpression 9 = .ok (.bipush (-59), 2) := by decide +kernel
theorem dX8_endExpression_11 : decode cX8_endExpression 11 = .ok (.invokevirtual 74, 3) := by decide +kernel
theorem dX8_endExpression_14 : decode cX8_endExpression 14 = .ok (.return_, 1) := by decide +kernel
theorem dX8_takesOperator_0 : decode cX8_takesOperator 0 = .ok (.iload_n 1, 1) := by decide +kernel
theorem dX8_takesOperator_1 : decode cX8_takesOperator 1 = .ok (.invokestatic 84, 3) := by decide +kernel
theorem dX8_takesOperator_4 : decode cX8_takesOperator 4 = .ok (.istore_n 2, 1) := by decide +kernel
theorem dX8_takesOperator_5 : decode cX8_takesOperator 5 = .ok (.iload_n 2, 1) := by decide +kernel
theorem dX8_takesOperator_6 : decode cX8_takesOperator 6 = .ok (.iconst 1, 1) := by decide +kernel
theorem dX8_takesOperator_7 : decode cX8_takesOperator 7 = .ok (.if_icmp .lt 8, 3) := by decide +kernel
theorem dX8_takesOperator_10 : decode cX8_takesOperator 10 = .ok (.iload_n 2, 1) := by decide +kernel
theorem dX8_takesOperator_11 : decode cX8_takesOperator 11 = .ok (.iconst 5, 1) := by decide +kernel
theorem dX8_takesOperator_12 : decode cX8_takesOperator 12 = .ok (.if_icmp .le 5, 3) := by decide +kernel
theorem dX8_takesOperator_15 : decode cX8_takesOperator 15 = .ok (.iconst 0, 1) := by decide +kernel
theorem dX8_takesOperator_16 : decode cX8_takesOperator 16 = .ok (.ireturn, 1) := by decide +kernel
theorem dX8_takesOperator_17 : decode cX8_takesOperator 17 = .ok (.aload_n 0, 1) := by decide +kernel
theorem dX8_takesOperator_18 : decode cX8_takesOperator 18 = .ok (.iload_n 2, 1) := by decide +kernel
theorem dX8_takesOperator_19 : decode cX8_takesOperator 19 = .ok (.iconst 1, 1) := by decide +kernel
theorem dX8_takesOperator_20 : decode cX8_takesOperator 20 = .ok (.iadd, 1) := by decide +kernel
theorem dX8_takesOperator_21 : decode cX8_takesOperator 21 = .ok (.invokevirtual 81, 3) := by decide +kernel
theorem dX8_takesOperator_24 : decode cX8_takesOperator 24 = .ok (.iload_n 2, 1) := by decide +kernel
theorem dX8_takesOperator_25 : decode cX8_takesOperator 25 = .ok (.iconst 3, 1) := by decide +kernel
theorem dX8_takesOperator_26 : decode cX8_takesOperator 26 = .ok (.if_icmp .ne 28, 3) := by decide +kernel
theorem dX8_takesOperator_29 : decode cX8_takesOperator 29 = .ok (.aload_n 0, 1) := by decide +kernel
theorem dX8_takesOperator_30 : decode cX8_takesOperator 30 = .ok (.getfield 20, 3) := by decide +kernel
theorem dX8_takesOperator_33 : decode cX8_takesOperator 33 = .ok (.aload_n 0, 1) := by decide +kernel
theorem dX8_takesOperator_34 : decode cX8_takesOperator 34 = .ok (.getfield 20, 3) := by decide +kernel
theorem dX8_takesOperator_37 : decode cX8_takesOperator 37 = .ok (.getfield 37, 3) := by decide +kernel
theorem dX8_takesOperator_40 : decode cX8_takesOperator 40 = .ok (.iconst 1, 1) := by decide +kernel
theorem dX8_takesOperator_41 : decode cX8_takesOperator 41 = .ok (.isub, 1) := by decide +kernel
theorem dX8_takesOperator_42 : decode cX8_takesOperator 42 = .ok (.invokevirtual 40, 3) := by decide +kernel
theorem dX8_takesOperator_45 : decode cX8_takesOperator 45 = .ok (.invokestatic 84, 3) := by decide +kernel
theorem dX8_takesOperator_48 : decode cX8_takesOperator 48 = .ok (.iconst 3, 1) := by decide +kernel
theorem dX8_takesOperator_49 : decode cX8_takesOperator 49 = .ok (.if_icmp .ne 5, 3) := by decide +kernel
theorem dX8_takesOperator_52 : decode cX8_takesOperator 52 = .ok (.iconst 0, 1) := by decide +kernel
theorem dX8_takesOperator_53 : decode cX8_takesOperator 53 = .ok (.ireturn, 1) := by decide +kernel
theorem dX8_takesOperator_54 : decode cX8_takesOperator 54 = .ok (.aload_n 0, 1) := by decide +kernel
theorem dX8_takesOperator_55 : decode cX8_takesOperator 55 = .ok (.iload_n 2, 1) := by decide +kernel
theorem dX8_takesOperator_56 : decode cX8_takesOperator 56 = .ok (.invokevirtual 81, 3) := by decide +kernel
theorem dX8_takesOperator_59 : decode cX8_takesOperator 59 = .ok (.aload_n 0, 1) := by decide +kernel
theorem dX8_takesOperator_60 : decode cX8_takesOperator 60 = .ok (.getfield 20, 3) := by decide +kernel
theorem dX8_takesOperator_63 : decode cX8_takesOperator 63 = .ok (.iload_n 1, 1) := by decide +kernel
theorem dX8_takesOperator_64 : decode cX8_takesOperator 64 = .ok (.invokevirtual 74, 3) := by decide +kernel
theorem dX8_takesOperator_67 : decode cX8_takesOperator 67 = .ok (.aload_n 0, 1) := by decide +kernel
theorem dX8_takesOperator_68 : decode cX8_takesOperator 68 = .ok (.iconst 1, 1) := by decide +kernel
theorem dX8_takesOperator_69 : decode cX8_takesOperator 69 = .ok (.putfield 26, 3) := by decide +kernel
theorem dX8_takesOperator_72 : decode cX8_takesOperator 72 = .ok (.iconst 1, 1) := by decide +kernel
theorem dX8_takesOperator_73 : decode cX8_takesOperator 73 = .ok (.ireturn, 1) := by decide +kernel
theorem dX8_takes_0 : decode cX8_takes 0 = .ok (.aload_n 0, 1) := by decide +kernel
theorem dX8_takes_1 : decode cX8_takes 1 = .ok (.getfield 26, 3) := by decide +kernel
theorem dX8_takes_4 : decode cX8_takes 4 = .ok (.ifCond .eq 9, 3) := by decide +kernel
theorem dX8_takes_7 : decode cX8_takes 7 = .ok (.aload_n 0, 1) := by decide +kernel
theorem dX8_takes_8 : decode cX8_takes 8 = .ok (.iload_n 1, 1) := by decide +kernel
theorem dX8_takes_9 : decode cX8_takes 9 = .ok (.invokevirtual 51, 3) := by decide +kernel
theorem dX8_takes_12 : decode cX8_takes 12 = .ok (.ireturn, 1) := by decide +kernel
theorem dX8_takes_13 : decode cX8_takes 13 = .ok (.iload_n 1, 1) := by decide +kernel
theorem dX8_takes_14 : decode cX8_takes 14 = .ok (.invokestatic 54, 3) := by decide +kernel
theorem dX8_takes_17 : decode cX8_takes 17 = .ok (.ifCond .eq 9, 3) := by decide +kernel
theorem dX8_takes_20 : decode cX8_takes 20 = .ok (.aload_n 0, 1) := by decide +kernel
theorem dX8_takes_21 : decode cX8_takes 21 = .ok (.iload_n 1, 1) := by decide +kernel
theorem dX8_takes_22 : decode cX8_takes 22 = .ok (.invokevirtual 57, 3) := by decide +kernel
theorem dX8_takes_25 : decode cX8_takes 25 = .ok (.ireturn, 1) := by decide +kernel
theorem dX8_takes_26 : decode cX8_takes 26 = .ok (.aload_n 0, 1) := by decide +kernel
theorem dX8_takes_27 : decode cX8_takes 27 = .ok (.iconst 0, 1) := by decide +kernel
theorem dX8_takes_28 : decode cX8_takes 28 = .ok (.putfield 30, 3) := by decide +kernel
theorem dX8_takes_31 : decode cX8_takes 31 = .ok (.iload_n 1, 1) := by decide +kernel
theorem dX8_takes_32 : decode cX8_takes 32 = .ok (.bipush 41, 2) := by decide +kernel
theorem dX8_takes_34 : decode cX8_takes 34 = .ok (.if_icmp .ne 8, 3) := by decide +kernel
theorem dX8_takes_37 : decode cX8_takes 37 = .ok (.aload_n 0, 1) := by decide +kernel
theorem dX8_takes_38 : decode cX8_takes 38 = .ok (.invokevirtual 60, 3) := by decide +kernel
theorem dX8_takes_41 : decode cX8_takes 41 = .ok (.ireturn, 1) := by decide +kernel
theorem dX8_takes_42 : decode cX8_takes 42 = .ok (.iload_n 1, 1) := by decide +kernel
theorem dX8_takes_43 : decode cX8_takes 43 = .ok (.bipush 59, 2) := by decide +kernel
theorem dX8_takes_45 : decode cX8_takes 45 = .ok (.if_icmp .ne 36, 3) := by decide +kernel
theorem dX8_takes_48 : decode cX8_takes 48 = .ok (.aload_n 0, 1) := by decide +kernel
theorem dX8_takes_49 : decode cX8_takes 49 = .ok (.aload_n 0, 1) := by decide +kernel
theorem dX8_takes_50 : decode cX8_takes 50 = .ok (.getfield 34, 3) := by decide +kernel
theorem dX8_takes_53 : decode cX8_takes 53 = .ok (.ifCond .ne 7, 3) := by decide +kernel
theorem dX8_takes_56 : decode cX8_takes 56 = .ok (.iconst 1, 1) := by decide +kernel
theorem dX8_takes_57 : decode cX8_takes 57 = .ok (.goto 4, 3) := by decide +kernel
theorem dX8_takes_60 : decode cX8_takes 60 = .ok (.iconst 0, 1) := by decide +kernel
theorem dX8_takes_61 : decode cX8_takes 61 = .ok (.putfield 26, 3) := by decide +kernel
theorem dX8_takes_64 : decode cX8_takes 64 = .ok (.aload_n 0, 1) := by decide +kernel
theorem dX8_takes_65 : decode cX8_takes 65 = .ok (.invokevirtual 48, 3) := by decide +kernel
theorem dX8_takes_68 : decode cX8_takes 68 = .ok (.aload_n 0, 1) := by decide +kernel
theorem dX8_takes_69 : decode cX8_takes 69 = .ok (.getfield 34, 3) := by decide +kernel
theorem dX8_takes_72 : decode cX8_takes 72 = .ok (.ifCond .ne 7, 3) := by decide +kernel
theorem dX8_takes_75 : decode cX8_takes 75 = .ok (.iconst 1, 1) := by decide +kernel
theorem dX8_takes_76 : decode cX8_takes 76 = .ok (.goto 4, 3) := by decide +kernel
theorem dX8_takes_79 : decode cX8_takes 79 = .ok (.iconst 0, 1) := by decide +kernel
theorem dX8_takes_80 : decode cX8_takes 80 = .ok (.ireturn, 1) := by decide +kernel
theorem dX8_takes_81 : decode cX8_takes 81 = .ok (.aload_n 0, 1) := by decide +kernel
theorem dX8_takes_82 : decode cX8_takes 82 = .ok (.iload_n 1, 1) := by decide +kernel
theorem dX8_takes_83 : decode cX8_takes 83 = .ok (.invokevirtual 64, 3) := by decide +kernel
theorem dX8_takes_86 : decode cX8_takes 86 = .ok (.ireturn, 1) := by decide +kernel
theorem dX8_firstWrong_0 : decode cX8_firstWrong 0 = .ok (.aload_n 0, 1) := by decide +kernel
theorem dX8_firstWrong_1 : decode cX8_firstWrong 1 = .ok (.getfield 14, 3) := by decide +kernel
theorem dX8_firstWrong_4 : decode cX8_firstWrong 4 = .ok (.invokevirtual 23, 3) := by decide +kernel
theorem dX8_firstWrong_7 : decode cX8_firstWrong 7 = .ok (.aload_n 0, 1) := by decide +kernel
theorem dX8_firstWrong_8 : decode cX8_firstWrong 8 = .ok (.getfield 20, 3) := by decide +kernel
theorem dX8_firstWrong_11 : decode cX8_firstWrong 11 = .ok (.invokevirtual 23, 3) := by decide +kernel
theorem dX8_firstWrong_14 : decode cX8_firstWrong 14 = .ok (.aload_n 0, 1) := by decide +kernel
theorem dX8_firstWrong_15 : decode cX8_firstWrong 15 = .ok (.iconst 1, 1) := by decide +kernel
theorem dX8_firstWrong_16 : decode cX8_firstWrong 16 = .ok (.putfield 26, 3) := by decide +kernel
theorem dX8_firstWrong_19 : decode cX8_firstWrong 19 = .ok (.aload_n 0, 1) := by decide +kernel
theorem dX8_firstWrong_20 : decode cX8_firstWrong 20 = .ok (.iconst 0, 1) := by decide +kernel
theorem dX8_firstWrong_21 : decode cX8_firstWrong 21 = .ok (.putfield 30, 3) := by decide +kernel
theorem dX8_firstWrong_24 : decode cX8_firstWrong 24 = .ok (.aload_n 0, 1) := by decide +kernel
theorem dX8_firstWrong_25 : decode cX8_firstWrong 25 = .ok (.iconst 0, 1) := by decide +kernel
theorem dX8_firstWrong_26 : decode cX8_firstWrong 26 = .ok (.putfield 34, 3) := by decide +kernel
theorem dX8_firstWrong_29 : decode cX8_firstWrong 29 = .ok (.iconst 0, 1) := by decide +kernel
theorem dX8_firstWrong_30 : decode cX8_firstWrong 30 = .ok (.istore_n 2, 1) := by decide +kernel
theorem dX8_firstWrong_31 : decode cX8_firstWrong 31 = .ok (.iload_n 2, 1) := by decide +kernel
theorem dX8_firstWrong_32 : decode cX8_firstWrong 32 = .ok (.aload_n 1, 1) := by decide +kernel
theorem dX8_firstWrong_33 : decode cX8_firstWrong 33 = .ok (.getfield 37, 3) := by decide +kernel
theorem dX8_firstWrong_36 : decode cX8_firstWrong 36 = .ok (.if_icmp .ge 29, 3) := by decide +kernel
theorem dX8_firstWrong_39 : decode cX8_firstWrong 39 = .ok (.iload_n 2, 1) := by decide +kernel
theorem dX8_firstWrong_40 : decode cX8_firstWrong 40 = .ok (.bipush 60, 2) := by decide +kernel
theorem dX8_firstWrong_42 : decode cX8_firstWrong 42 = .ok (.if_icmp .ge 15, 3) := by decide +kernel
theorem dX8_firstWrong_45 : decode cX8_firstWrong 45 = .ok (.aload_n 0, 1) := by decide +kernel
theorem dX8_firstWrong_46 : decode cX8_firstWrong 46 = .ok (.aload_n 1, 1) := by decide +kernel
theorem dX8_firstWrong_47 : decode cX8_firstWrong 47 = .ok (.iload_n 2, 1) := by decide +kernel
theorem dX8_firstWrong_48 : decode cX8_firstWrong 48 = .ok (.invokevirtual 40, 3) := by decide +kernel
theorem dX8_firstWrong_51 : decode cX8_firstWrong 51 = .ok (.invokevirtual 44, 3) := by decide +kernel
theorem dX8_firstWrong_54 : decode cX8_firstWrong 54 = .ok (.ifCond .ne 5, 3) := by decide +kernel
theorem dX8_firstWrong_57 : decode cX8_firstWrong 57 = .ok (.iload_n 2, 1) := by decide +kernel
theorem dX8_firstWrong_58 : decode cX8_firstWrong 58 = .ok (.ireturn, 1) := by decide +kernel
theorem dX8_firstWrong_59 : decode cX8_firstWrong 59 = .ok (.iinc 2 1, 3) := by decide +kernel
theorem dX8_firstWrong_62 : decode cX8_firstWrong 62 = .ok (.goto (-31), 3) := by decide +kernel
theorem dX8_firstWrong_65 : decode cX8_firstWrong 65 = .ok (.aload_n 0, 1) := by decide +kernel
theorem dX8_firstWrong_66 : decode cX8_firstWrong 66 = .ok (.getfield 26, 3) := by decide +kernel
theorem dX8_firstWrong_69 : decode cX8_firstWrong 69 = .ok (.ifCond .ne 10, 3) := by decide +kernel
theorem dX8_firstWrong_72 : decode cX8_firstWrong 72 = .ok (.aload_n 0, 1) := by decide +kernel
theorem dX8_firstWrong_73 : decode cX8_firstWrong 73 = .ok (.getfield 34, 3) := by decide +kernel
theorem dX8_firstWrong_76 : decode cX8_firstWrong 76 = .ok (.ifCond .le 8, 3) := by decide +kernel
theorem dX8_firstWrong_79 : decode cX8_firstWrong 79 = .ok (.aload_n 1, 1) := by decide +kernel
theorem dX8_firstWrong_80 : decode cX8_firstWrong 80 = .ok (.getfield 37, 3) := by decide +kernel
theorem dX8_firstWrong_83 : decode cX8_firstWrong 83 = .ok (.ireturn, 1) := by decide +kernel
theorem dX8_firstWrong_84 : decode cX8_firstWrong 84 = .ok (.aload_n 0, 1) := by decide +kernel
theorem dX8_firstWrong_85 : decode cX8_firstWrong 85 = .ok (.invokevirtual 48, 3) := by decide +kernel
theorem dX8_firstWrong_88 : decode cX8_firstWrong 88 = .ok (.iconst (-1), 1) := by decide +kernel
theorem dX8_firstWrong_89 : decode cX8_firstWrong 89 = .ok (.ireturn, 1) := by decide +kernel
theorem dX9_inForce_0 : decode cX9_inForce 0 = .ok (.iconst (-1), 1) := by decide +kernel
theorem dX9_inForce_1 : decode cX9_inForce 1 = .ok (.istore_n 2, 1) := by decide +kernel
theorem dX9_inForce_2 : decode cX9_inForce 2 = .ok (.iconst (-1), 1) := by decide +kernel
theorem dX9_inForce_3 : decode cX9_inForce 3 = .ok (.istore_n 3, 1) := by decide +kernel
theorem dX9_inForce_4 : decode cX9_inForce 4 = .ok (.iconst 0, 1) := by decide +kernel
theorem dX9_inForce_5 : decode cX9_inForce 5 = .ok (.istore 4, 2) := by decide +kernel
theorem dX9_inForce_7 : decode cX9_inForce 7 = .ok (.iload 4, 2) := by decide +kernel
theorem dX9_inForce_9 : decode cX9_inForce 9 = .ok (.aload_n 0, 1) := by decide +kernel
theorem dX9_inForce_10 : decode cX9_inForce 10 = .ok (.getfield 12, 3) := by decide +kernel
theorem dX9_inForce_13 : decode cX9_inForce 13 = .ok (.invokevirtual 79, 3) := by decide +kernel
theorem dX9_inForce_16 : decode cX9_inForce 16 = .ok (.if_icmp .ge 65, 3) := by decide +kernel
theorem dX9_inForce_19 : decode cX9_inForce 19 = .ok (.aload_n 0, 1) := by decide +kernel
theorem dX9_inForce_20 : decode cX9_inForce 20 = .ok (.getfield 12, 3) := by decide +kernel
theorem dX9_inForce_23 : decode cX9_inForce 23 = .ok (.iload 4, 2) := by decide +kernel
theorem dX9_inForce_25 : decode cX9_inForce 25 = .ok (.invokevirtual 81, 3) := by decide +kernel
theorem dX9_inForce_28 : decode cX9_inForce 28 = .ok (.checkcast 70, 3) := by decide +kernel
theorem dX9_inForce_31 : decode cX9_inForce 31 = .ok (.astore 5, 2) := by decide +kernel
theorem dX9_inForce_33 : decode cX9_inForce 33 = .ok (.aload 5, 2) := by decide +kernel
theorem dX9_inForce_35 : decode cX9_inForce 35 = .ok (.getfield 85, 3) := by decide +kernel
theorem dX9_inForce_38 : decode cX9_inForce 38 = .ok (.iload_n 1, 1) := by decide +kernel
theorem dX9_inForce_39 : decode cX9_inForce 39 = .ok (.if_icmp .ne 36, 3) := by decide +kernel
theorem dX9_inForce_42 : decode cX9_inForce 42 = .ok (.aload 5, 2) := by decide +kernel
theorem dX9_inForce_44 : decode cX9_inForce 44 = .ok (.getfield 88, 3) := by decide +kernel
theorem dX9_inForce_47 : decode cX9_inForce 47 = .ok (.aload_n 0, 1) := by decide +kernel
theorem dX9_inForce_48 : decode cX9_inForce 48 = .ok (.getfield 46, 3) := by decide +kernel
theorem dX9_inForce_51 : decode cX9_inForce 51 = .ok (.getfield 91, 3) := by decide +kernel
theorem dX9_inForce_54 : decode cX9_inForce 54 = .ok (.if_icmp .gt 21, 3) := by decide +kernel
theorem dX9_inForce_57 : decode cX9_inForce 57 = .ok (.aload 5, 2) := by decide +kernel
theorem dX9_inForce_59 : decode cX9_inForce 59 = .ok (.getfield 88, 3) := by decide +kernel
theorem dX9_inForce_62 : decode cX9_inForce 62 = .ok (.iload_n 3, 1) := by decide +kernel
theorem dX9_inForce_63 : decode cX9_inForce 63 = .ok (.if_icmp .lt 12, 3) := by decide +kernel
theorem dX9_inForce_66 : decode cX9_inForce 66 = .ok (.iload 4, 2) := by decide +kernel
theorem dX9_inForce_68 : decode cX9_inForce 68 = .ok (.istore_n 2, 1) := by decide +kernel
theorem dX9_inForce_69 : decode cX9_inForce 69 = .ok (.aload 5, 2) := by decide +kernel
theorem dX9_inForce_71 : decode cX9_inForce 71 = .ok (.getfield 88, 3) := by decide +kernel
theorem dX9_inForce_74 : decode cX9_inForce 74 = .ok (.istore_n 3, 1) := by decide +kernel
theorem dX9_inForce_75 : decode cX9_inForce 75 = .ok (.iinc 4 1, 3) := by decide +kernel
theorem dX9_inForce_78 : decode cX9_inForce 78 = .ok (.goto (-71), 3) := by decide +kernel
theorem dX9_inForce_81 : decode cX9_inForce 81 = .ok (.iload_n 2, 1) := by decide +kernel
theorem dX9_inForce_82 : decode cX9_inForce 82 = .ok (.ireturn, 1) := by decide +kernel
theorem dX9_readLetters_0 : decode cX9_readLetters 0 = .ok (.aload_n 0, 1) := by decide +kernel
theorem dX9_readLetters_1 : decode cX9_readLetters 1 = .ok (.getfield 46, 3) := by decide +kernel
theorem dX9_readLetters_4 : decode cX9_readLetters 4 = .ok (.aload_n 1, 1) := by decide +kernel
theorem dX9_readLetters_5 : decode cX9_readLetters 5 = .ok (.aload_n 2, 1) := by decide +kernel
theorem dX9_readLetters_6 : decode cX9_readLetters 6 = .ok (.getfield 112, 3) := by decide +kernel
theorem dX9_readLetters_9 : decode cX9_readLetters 9 = .ok (.aload_n 3, 1) := by decide +kernel
theorem dX9_readLetters_10 : decode cX9_readLetters 10 = .ok (.getfield 136, 3) := by decide +kernel
theorem dX9_readLetters_13 : decode cX9_readLetters 13 = .ok (.iload 4, 2) := by decide +kernel
theorem dX9_readLetters_15 : decode cX9_readLetters 15 = .ok (.invokevirtual 137, 3) := by decide +kernel
theorem dX9_readLetters_18 : decode cX9_readLetters 18 = .ok (.invokevirtual 143, 3) := by decide +kernel
theorem dX9_readLetters_21 : decode cX9_readLetters 21 = .ok (.astore 5, 2) := by decide +kernel
theorem dX9_readLetters_23 : decode cX9_readLetters 23 = .ok (.aload_n 0, 1) := by decide +kernel
theorem dX9_readLetters_24 : decode cX9_readLetters 24 = .ok (.getfield 46, 3) := by decide +kernel
theorem dX9_readLetters_27 : decode cX9_readLetters 27 = .ok (.aload_n 1, 1) := by decide +kernel
theorem dX9_readLetters_28 : decode cX9_readLetters 28 = .ok (.aload_n 2, 1) := by decide +kernel
theorem dX9_readLetters_29 : decode cX9_readLetters 29 = .ok (.getfield 112, 3) := by decide +kernel
theorem dX9_readLetters_32 : decode cX9_readLetters 32 = .ok (.aload_n 3, 1) := by decide +kernel
theorem dX9_readLetters_33 : decode cX9_readLetters 33 = .ok (.getfield 136, 3) := by decide +kernel
theorem dX9_readLetters_36 : decode cX9_readLetters 36 = .ok (.iload 4, 2) := by decide +kernel
theorem dX9_readLetters_38 : decode cX9_readLetters 38 = .ok (.invokevirtual 147, 3) := by decide +kernel
theorem dX9_readLetters_41 : decode cX9_readLetters 41 = .ok (.invokevirtual 143, 3) := by decide +kernel
theorem dX9_readLetters_44 : decode cX9_readLetters 44 = .ok (.astore 6, 2) := by decide +kernel
theorem dX9_readLetters_46 : decode cX9_readLetters 46 = .ok (.aload_n 0, 1) := by decide +kernel
theorem dX9_readLetters_47 : decode cX9_readLetters 47 = .ok (.getfield 33, 3) := by decide +kernel
theorem dX9_readLetters_50 : decode cX9_readLetters 50 = .ok (.iconst 0, 1) := by decide +kernel
theorem dX9_readLetters_51 : decode cX9_readLetters 51 = .ok (.aload_n 3, 1) := by decide +kernel
theorem dX9_readLetters_52 : decode cX9_readLetters 52 = .ok (.getfield 100, 3) := by decide +kernel
theorem dX9_readLetters_55 : decode cX9_readLetters 55 = .ok (.iastore, 1) := by decide +kernel
theorem dX9_readLetters_56 : decode cX9_readLetters 56 = .ok (.aload_n 0, 1) := by decide +kernel
theorem dX9_readLetters_57 : decode cX9_readLetters 57 = .ok (.getfield 33, 3) := by decide +kernel
theorem dX9_readLetters_60 : decode cX9_readLetters 60 = .ok (.iconst 1, 1) := by decide +kernel
theorem dX9_readLetters_61 : decode cX9_readLetters 61 = .ok (.aload_n 3, 1) := by decide +kernel
theorem dX9_readLetters_62 : decode cX9_readLetters 62 = .ok (.getfield 136, 3) := by decide +kernel
theorem dX9_readLetters_65 : decode cX9_readLetters 65 = .ok (.iastore, 1) := by decide +kernel
theorem dX9_readLetters_66 : decode cX9_readLetters 66 = .ok (.aload_n 0, 1) := by decide +kernel
theorem dX9_readLetters_67 : decode cX9_readLetters 67 = .ok (.getfield 33, 3) := by decide +kernel
theorem dX9_readLetters_70 : decode cX9_readLetters 70 = .ok (.iconst 2, 1) := by decide +kernel
theorem dX9_readLetters_71 : decode cX9_readLetters 71 = .ok (.aload_n 0, 1) := by decide +kernel
theorem dX9_readLetters_72 : decode cX9_readLetters 72 = .ok (.getfield 46, 3) := by decide +kernel
theorem dX9_readLetters_75 : decode cX9_readLetters 75 = .ok (.aload_n 3, 1) := by decide +kernel
theorem dX9_readLetters_76 : decode cX9_readLetters 76 = .ok (.invokevirtual 150, 3) := by decide +kernel
theorem dX9_readLetters_79 : decode cX9_readLetters 79 = .ok (.iastore, 1) := by decide +kernel
theorem dX9_readLetters_80 : decode cX9_readLetters 80 = .ok (.aload_n 0, 1) := by decide +kernel
theorem dX9_readLetters_81 : decode cX9_readLetters 81 = .ok (.getfield 33, 3) := by decide +kernel
theorem dX9_readLetters_84 : decode cX9_readLetters 84 = .ok (.iconst 3, 1) := by decide +kernel
theorem dX9_readLetters_85 : decode cX9_readLetters 85 = .ok (.aload_n 0, 1) := by decide +kernel
theorem dX9_readLetters_86 : decode cX9_readLetters 86 = .ok (.getfield 46, 3) := by decide +kernel
theorem dX9_readLetters_89 : decode cX9_readLetters 89 = .ok (.aload_n 3, 1) := by decide +kernel
theorem dX9_readLetters_90 : decode cX9_readLetters 90 = .ok (.invokevirtual 154, 3) := by decide +kernel
theorem dX9_readLetters_93 : decode cX9_readLetters 93 = .ok (.iastore, 1) := by decide +kernel
theorem dX9_readLetters_94 : decode cX9_readLetters 94 = .ok (.aload_n 0, 1) := by decide +kernel
theorem dX9_readLetters_95 : decode cX9_readLetters 95 = .ok (.getfield 33, 3) := by decide +kernel
theorem dX9_readLetters_98 : decode cX9_readLetters 98 = .ok (.iconst 4, 1) := by decide +kernel
theorem dX9_readLetters_99 : decode cX9_readLetters 99 = .ok (.aload 5, 2) := by decide +kernel
theorem dX9_readLetters_101 : decode cX9_readLetters 101 = .ok (.ifnonnull 7, 3) := by decide +kernel
theorem dX9_readLetters_104 : decode cX9_readLetters 104 = .ok (.iconst 0, 1) := by decide +kernel
theorem dX9_readLetters_105 : decode cX9_readLetters 105 = .ok (.goto 4, 3) := by decide +kernel
theorem dX9_readLetters_108 : decode cX9_readLetters 108 = .ok (.iconst 1, 1) := by decide +kernel
theorem dX9_readLetters_109 : decode cX9_readLetters 109 = .ok (.aload 6, 2) := by decide +kernel
theorem dX9_readLetters_111 : decode cX9_readLetters 111 = .ok (.ifnonnull 7, 3) := by decide +kernel
theorem dX9_readLetters_114 : decode cX9_readLetters 114 = .ok (.iconst 0, 1) := by decide +kernel
theorem dX9_readLetters_115 : decode cX9_readLetters 115 = .ok (.goto 4, 3) := by decide +kernel
theorem dX9_readLetters_118 : decode cX9_readLetters 118 = .ok (.iconst 1, 1) := by decide +kernel
theorem dX9_readLetters_119 : decode cX9_readLetters 119 = .ok (.iadd, 1) := by decide +kernel
theorem dX9_readLetters_120 : decode cX9_readLetters 120 = .ok (.iastore, 1) := by decide +kernel
theorem dX9_readLetters_121 : decode cX9_readLetters 121 = .ok (.aload_n 0, 1) := by decide +kernel
theorem dX9_readLetters_122 : decode cX9_readLetters 122 = .ok (.getfield 33, 3) := by decide +kernel
theorem dX9_readLetters_125 : decode cX9_readLetters 125 = .ok (.iconst 5, 1) := by decide +kernel
theorem dX9_readLetters_126 : decode cX9_readLetters 126 = .ok (.aload 5, 2) := by decide +kernel
theorem dX9_readLetters_128 : decode cX9_readLetters 128 = .ok (.ifnull 19, 3) := by decide +kernel
theorem dX9_readLetters_131 : decode cX9_readLetters 131 = .ok (.aload 5, 2) := by decide +kernel
theorem dX9_readLetters_133 : decode cX9_readLetters 133 = .ok (.getfield 157, 3) := by decide +kernel
theorem dX9_readLetters_136 : decode cX9_readLetters 136 = .ok (.aload_n 2, 1) := by decide +kernel
theorem dX9_readLetters_137 : decode cX9_readLetters 137 = .ok (.getfield 157, 3) := by decide +kernel
theorem dX9_readLetters_140 : decode cX9_readLetters 140 = .ok (.if_icmp .ne 7, 3) := by decide +kernel
theorem dX9_readLetters_143 : decode cX9_readLetters 143 = .ok (.iconst 1, 1) := by decide +kernel
theorem dX9_readLetters_144 : decode cX9_readLetters 144 = .ok (.goto 4, 3) := by decide +kernel
theorem dX9_readLetters_147 : decode cX9_readLetters 147 = .ok (.iconst 0, 1) := by decide +kernel
theorem dX9_readLetters_148 : decode cX9_readLetters 148 = .ok (.aload 6, 2) := by decide +kernel
theorem dX9_readLetters_150 : decode cX9_readLetters 150 = .ok (.ifnull 19, 3) := by decide +kernel
theorem dX9_readLetters_153 : decode cX9_readLetters 153 = .ok (.aload 6, 2) := by decide +kernel
theorem dX9_readLetters_155 : decode cX9_readLetters 155 = .ok (.getfield 157, 3) := by decide +kernel
theorem dX9_readLetters_158 : decode cX9_readLetters 158 = .ok (.aload_n 2, 1) := by decide +kernel
theorem dX9_readLetters_159 : decode cX9_readLetters 159 = .ok (.getfield 157, 3) := by decide +kernel
theorem dX9_readLetters_162 : decode cX9_readLetters 162 = .ok (.if_icmp .ne 7, 3) := by decide +kernel
theorem dX9_readLetters_165 : decode cX9_readLetters 165 = .ok (.iconst 1, 1) := by decide +kernel
theorem dX9_readLetters_166 : decode cX9_readLetters 166 = .ok (.goto 4, 3) := by decide +kernel
theorem dX9_readLetters_169 : decode cX9_readLetters 169 = .ok (.iconst 0, 1) := by decide +kernel
theorem dX9_readLetters_170 : decode cX9_readLetters 170 = .ok (.iadd, 1) := by decide +kernel
theorem dX9_readLetters_171 : decode cX9_readLetters 171 = .ok (.iastore, 1) := by decide +kernel
theorem dX9_readLetters_172 : decode cX9_readLetters 172 = .ok (.aload_n 0, 1) := by decide +kernel
theorem dX9_readLetters_173 : decode cX9_readLetters 173 = .ok (.getfield 33, 3) := by decide +kernel
theorem dX9_readLetters_176 : decode cX9_readLetters 176 = .ok (.bipush 6, 2) := by decide +kernel
theorem dX9_readLetters_178 : decode cX9_readLetters 178 = .ok (.aload 5, 2) := by decide +kernel
theorem dX9_readLetters_180 : decode cX9_readLetters 180 = .ok (.ifnull 15, 3) := by decide +kernel
theorem dX9_readLetters_183 : decode cX9_readLetters 183 = .ok (.aload 5, 2) := by decide +kernel
theorem dX9_readLetters_185 : decode cX9_readLetters 185 = .ok (.getfield 112, 3) := by decide +kernel
theorem dX9_readLetters_188 : decode cX9_readLetters 188 = .ok (.aload_n 2, 1) := by decide +kernel
theorem dX9_readLetters_189 : decode cX9_readLetters 189 = .ok (.getfield 160, 3) := by decide +kernel
theorem dX9_readLetters_192 : decode cX9_readLetters 192 = .ok (.if_icmp .eq 20, 3) := by decide +kernel
theorem dX9_readLetters_195 : decode cX9_readLetters 195 = .ok (.aload 6, 2) := by decide +kernel
theorem dX9_readLetters_197 : decode cX9_readLetters 197 = .ok (.ifnull 19, 3) := by decide +kernel
theorem dX9_readLetters_200 : decode cX9_readLetters 200 = .ok (.aload 6, 2) := by decide +kernel
theorem dX9_readLetters_202 : decode cX9_readLetters 202 = .ok (.getfield 112, 3) := by decide +kernel
theorem dX9_readLetters_205 : decode cX9_readLetters 205 = .ok (.aload_n 2, 1) := by decide +kernel
theorem dX9_readLetters_206 : decode cX9_readLetters 206 = .ok (.getfield 160, 3) := by decide +kernel
theorem dX9_readLetters_209 : decode cX9_readLetters 209 = .ok (.if_icmp .ne 7, 3) := by decide +kernel
theorem dX9_readLetters_212 : decode cX9_readLetters 212 = .ok (.iconst 1, 1) := by decide +kernel
theorem dX9_readLetters_213 : decode cX9_readLetters 213 = .ok (.goto 4, 3) := by decide +kernel
theorem dX9_readLetters_216 : decode cX9_readLetters 216 = .ok (.iconst 0, 1) := by decide +kernel
theorem dX9_readLetters_217 : decode cX9_readLetters 217 = .ok (.iastore, 1) := by decide +kernel
theorem dX9_readLetters_218 : decode cX9_readLetters 218 = .ok (.aload_n 0, 1) := by decide +kernel
theorem dX9_readLetters_219 : decode cX9_readLetters 219 = .ok (.getfield 33, 3) := by decide +kernel
theorem dX9_readLetters_222 : decode cX9_readLetters 222 = .ok (.bipush 7, 2) := by decide +kernel
theorem dX9_readLetters_224 : decode cX9_readLetters 224 = .ok (.aload_n 0, 1) := by decide +kernel
theorem dX9_readLetters_225 : decode cX9_readLetters 225 = .ok (.getfield 46, 3) := by decide +kernel
theorem dX9_readLetters_228 : decode cX9_readLetters 228 = .ok (.aload_n 1, 1) := by decide +kernel
theorem dX9_readLetters_229 : decode cX9_readLetters 229 = .ok (.aload_n 2, 1) := by decide +kernel
theorem dX9_readLetters_230 : decode cX9_readLetters 230 = .ok (.aload_n 3, 1) := by decide +kernel
theorem dX9_readLetters_231 : decode cX9_readLetters 231 = .ok (.getfield 100, 3) := by decide +kernel
theorem dX9_readLetters_234 : decode cX9_readLetters 234 = .ok (.invokevirtual 163, 3) := by decide +kernel
theorem dX9_readLetters_237 : decode cX9_readLetters 237 = .ok (.iastore, 1) := by decide +kernel
theorem dX9_readLetters_238 : decode cX9_readLetters 238 = .ok (.aload_n 0, 1) := by decide +kernel
theorem dX9_readLetters_239 : decode cX9_readLetters 239 = .ok (.getfield 33, 3) := by decide +kernel
theorem dX9_readLetters_242 : decode cX9_readLetters 242 = .ok (.bipush 8, 2) := by decide +kernel
theorem dX9_readLetters_244 : decode cX9_readLetters 244 = .ok (.aload_n 2, 1) := by decide +kernel
theorem dX9_readLetters_245 : decode cX9_readLetters 245 = .ok (.getfield 167, 3) := by decide +kernel
theorem dX9_readLetters_248 : decode cX9_readLetters 248 = .ok (.aload_n 2, 1) := by decide +kernel
theorem dX9_readLetters_249 : decode cX9_readLetters 249 = .ok (.getfield 170, 3) := by decide +kernel
theorem dX9_readLetters_252 : decode cX9_readLetters 252 = .ok (.isub, 1) := by decide +kernel
theorem dX9_readLetters_253 : decode cX9_readLetters 253 = .ok (.iastore, 1) := by decide +kernel
theorem dX9_readLetters_254 : decode cX9_readLetters 254 = .ok (.aload_n 0, 1) := by decide +kernel
theorem dX9_readLetters_255 : decode cX9_readLetters 255 = .ok (.getfield 33, 3) := by decide +kernel
theorem dX9_readLetters_258 : decode cX9_readLetters 258 = .ok (.bipush 9, 2) := by decide +kernel
theorem dX9_readLetters_260 : decode cX9_readLetters 260 = .ok (.aload_n 0, 1) := by decide +kernel
theorem dX9_readLetters_261 : decode cX9_readLetters 261 = .ok (.getfield 46, 3) := by decide +kernel
theorem dX9_readLetters_264 : decode cX9_readLetters 264 = .ok (.getfield 91, 3) := by decide +kernel
theorem dX9_readLetters_267 : decode cX9_readLetters 267 = .ok (.iastore, 1) := by decide +kernel
theorem dX9_readLetters_268 : decode cX9_readLetters 268 = .ok (.aload_n 0, 1) := by decide +kernel
theorem dX9_readLetters_269 : decode cX9_readLetters 269 = .ok (.getfield 33, 3) := by decide +kernel
theorem dX9_readLetters_272 : decode cX9_readLetters 272 = .ok (.bipush 10, 2) := by decide +kernel
theorem dX9_readLetters_274 : decode cX9_readLetters 274 = .ok (.aload_n 2, 1) := by decide +kernel
theorem dX9_readLetters_275 : decode cX9_readLetters 275 = .ok (.getfield 173, 3) := by decide +kernel
theorem dX9_readLetters_278 : decode cX9_readLetters 278 = .ok (.iastore, 1) := by decide +kernel
theorem dX9_readLetters_279 : decode cX9_readLetters 279 = .ok (.aload_n 0, 1) := by decide +kernel
theorem dX9_readLetters_280 : decode cX9_readLetters 280 = .ok (.getfield 33, 3) := by decide +kernel
theorem dX9_readLetters_283 : decode cX9_readLetters 283 = .ok (.bipush 11, 2) := by decide +kernel
theorem dX9_readLetters_285 : decode cX9_readLetters 285 = .ok (.aload_n 0, 1) := by decide +kernel
theorem dX9_readLetters_286 : decode cX9_readLetters 286 = .ok (.getfield 46, 3) := by decide +kernel
theorem dX9_readLetters_289 : decode cX9_readLetters 289 = .ok (.getfield 176, 3) := by decide +kernel
theorem dX9_readLetters_292 : decode cX9_readLetters 292 = .ok (.aload_n 3, 1) := by decide +kernel
theorem dX9_readLetters_293 : decode cX9_readLetters 293 = .ok (.getfield 100, 3) := by decide +kernel
theorem dX9_readLetters_296 : decode cX9_readLetters 296 = .ok (.iaload, 1) := by decide +kernel
theorem dX9_readLetters_297 : decode cX9_readLetters 297 = .ok (.iastore, 1) := by decide +kernel
theorem dX9_readLetters_298 : decode cX9_readLetters 298 = .ok (.return_, 1) := by decide +kernel
theorem dX9_joined_0 : decode cX9_joined 0 = .ok (.iload_n 0, 1) := by decide +kernel
theorem dX9_joined_1 : decode cX9_joined 1 = .ok (.lookupswitch 168 #[(38, 97), (42, 152), (43, 144), (45, 148), (47, 156), (60, 111), (61, 133), (62, 122), (124, 83)], 83) := by decide +kernel
theorem dX9_joined_84 : decode cX9_joined 84 = .ok (.iload_n 1, 1) := by decide +kernel
theorem dX9_joined_85 : decode cX9_joined 85 = .ok (.ifCond .ne 7, 3) := by decide +kernel
theorem dX9_joined_88 : decode cX9_joined 88 = .ok (.iload_n 2, 1) := by decide +kernel
theorem dX9_joined_89 : decode cX9_joined 89 = .ok (.ifCond .eq 7, 3) := by decide +kernel
theorem dX9_joined_92 : decode cX9_joined 92 = .ok (.iconst 1, 1) := by decide +kernel
theorem dX9_joined_93 : decode cX9_joined 93 = .ok (.goto 4, 3) := by decide +kernel
theorem dX9_joined_96 : decode cX9_joined 96 = .ok (.iconst 0, 1) := by decide +kernel
theorem dX9_joined_97 : decode cX9_joined 97 = .ok (.ireturn, 1) := by decide +kernel
theorem dX9_joined_98 : decode cX9_joined 98 = .ok (.iload_n 1, 1) := by decide +kernel
theorem dX9_joined_99 : decode cX9_joined 99 = .ok (.ifCond .eq 11, 3) := by decide +kernel
theorem dX9_joined_102 : decode cX9_joined 102 = .ok (.iload_n 2, 1) := by decide +kernel
theorem dX9_joined_103 : decode cX9_joined 103 = .ok (.ifCond .eq 7, 3) := by decide +kernel
theorem dX9_joined_106 : decode cX9_joined 106 = .ok (.iconst 1, 1) := by decide +kernel
theorem dX9_joined_107 : decode cX9_joined 107 = .ok (.goto 4, 3) := by decide +kernel
theorem dX9_joined_110 : decode cX9_joined 110 = .ok (.iconst 0, 1) := by decide +kernel
theorem dX9_joined_111 : decode cX9_joined 111 = .ok (.ireturn, 1) := by decide +kernel
theorem dX9_joined_112 : decode cX9_joined 112 = .ok (.iload_n 1, 1) := by decide +kernel
theorem dX9_joined_113 : decode cX9_joined 113 = .ok (.iload_n 2, 1) := by decide +kernel
theorem dX9_joined_114 : decode cX9_joined 114 = .ok (.if_icmp .ge 7, 3) := by decide +kernel
theorem dX9_joined_117 : decode cX9_joined 117 = .ok (.iconst 1, 1) := by decide +kernel
theorem dX9_joined_118 : decode cX9_joined 118 = .ok (.goto 4, 3) := by decide +kernel
theorem dX9_joined_121 : decode cX9_joined 121 = .ok (.iconst 0, 1) := by decide +kernel
theorem dX9_joined_122 : decode cX9_joined 122 = .ok (.ireturn, 1) := by decide +kernel
theorem dX9_joined_123 : decode cX9_joined 123 = .ok (.iload_n 1, 1) := by decide +kernel
theorem dX9_joined_124 : decode cX9_joined 124 = .ok (.iload_n 2, 1) := by decide +kernel
theorem dX9_joined_125 : decode cX9_joined 125 = .ok (.if_icmp .le 7, 3) := by decide +kernel
theorem dX9_joined_128 : decode cX9_joined 128 = .ok (.iconst 1, 1) := by decide +kernel
theorem dX9_joined_129 : decode cX9_joined 129 = .ok (.goto 4, 3) := by decide +kernel
theorem dX9_joined_132 : decode cX9_joined 132 = .ok (.iconst 0, 1) := by decide +kernel
theorem dX9_joined_133 : decode cX9_joined 133 = .ok (.ireturn, 1) := by decide +kernel
theorem dX9_joined_134 : decode cX9_joined 134 = .ok (.iload_n 1, 1) := by decide +kernel
theorem dX9_joined_135 : decode cX9_joined 135 = .ok (.iload_n 2, 1) := by decide +kernel
theorem dX9_joined_136 : decode cX9_joined 136 = .ok (.if_icmp .ne 7, 3) := by decide +kernel
theorem dX9_joined_139 : decode cX9_joined 139 = .ok (.iconst 1, 1) := by decide +kernel
theorem dX9_joined_140 : decode cX9_joined 140 = .ok (.goto 4, 3) := by decide +kernel
theorem dX9_joined_143 : decode cX9_joined 143 = .ok (.iconst 0, 1) := by decide +kernel
theorem dX9_joined_144 : decode cX9_joined 144 = .ok (.ireturn, 1) := by decide +kernel
theorem dX9_joined_145 : decode cX9_joined 145 = .ok (.iload_n 1, 1) := by decide +kernel
theorem dX9_joined_146 : decode cX9_joined 146 = .ok (.iload_n 2, 1) := by decide +kernel
theorem dX9_joined_147 : decode cX9_joined 147 = .ok (.iadd, 1) := by decide +kernel
theorem dX9_joined_148 : decode cX9_joined 148 = .ok (.ireturn, 1) := by decide +kernel
theorem dX9_joined_149 : decode cX9_joined 149 = .ok (.iload_n 1, 1) := by decide +kernel
theorem dX9_joined_150 : decode cX9_joined 150 = .ok (.iload_n 2, 1) := by decide +kernel
theorem dX9_joined_151 : decode cX9_joined 151 = .ok (.isub, 1) := by decide +kernel
theorem dX9_joined_152 : decode cX9_joined 152 = .ok (.ireturn, 1) := by decide +kernel
theorem dX9_joined_153 : decode cX9_joined 153 = .ok (.iload_n 1, 1) := by decide +kernel
theorem dX9_joined_154 : decode cX9_joined 154 = .ok (.iload_n 2, 1) := by decide +kernel
theorem dX9_joined_155 : decode cX9_joined 155 = .ok (.imul, 1) := by decide +kernel
theorem dX9_joined_156 : decode cX9_joined 156 = .ok (.ireturn, 1) := by decide +kernel
theorem dX9_joined_157 : decode cX9_joined 157 = .ok (.iload_n 2, 1) := by decide +kernel
theorem dX9_joined_158 : decode cX9_joined 158 = .ok (.ifCond .ne 7, 3) := by decide +kernel
theorem dX9_joined_161 : decode cX9_joined 161 = .ok (.iconst 0, 1) := by decide +kernel
theorem dX9_joined_162 : decode cX9_joined 162 = .ok (.goto 6, 3) := by decide +kernel
theorem dX9_joined_165 : decode cX9_joined 165 = .ok (.iload_n 1, 1) := by decide +kernel
theorem dX9_joined_166 : decode cX9_joined 166 = .ok (.iload_n 2, 1) := by decide +kernel
theorem dX9_joined_167 : decode cX9_joined 167 = .ok (.idiv, 1) := by decide +kernel
theorem dX9_joined_168 : decode cX9_joined 168 = .ok (.ireturn, 1) := by decide +kernel
theorem dX9_joined_169 : decode cX9_joined 169 = .ok (.iload_n 2, 1) := by decide +kernel
theorem dX9_joined_170 : decode cX9_joined 170 = .ok (.ifCond .ne 7, 3) := by decide +kernel
theorem dX9_joined_173 : decode cX9_joined 173 = .ok (.iconst 0, 1) := by decide +kernel
theorem dX9_joined_174 : decode cX9_joined 174 = .ok (.goto 6, 3) := by decide +kernel
theorem dX9_joined_177 : decode cX9_joined 177 = .ok (.iload_n 1, 1) := by decide +kernel
theorem dX9_joined_178 : decode cX9_joined 178 = .ok (.iload_n 2, 1) := by decide +kernel
theorem dX9_joined_179 : decode cX9_joined 179 = .ok (.irem, 1) := by decide +kernel
theorem dX9_joined_180 : decode cX9_joined 180 = .ok (.ireturn, 1) := by decide +kernel
theorem dX9_work_0 : decode cX9_work 0 = .ok (.iload_n 1, 1) := by decide +kernel
theorem dX9_work_1 : decode cX9_work 1 = .ok (.sipush 10000, 3) := by decide +kernel
theorem dX9_work_4 : decode cX9_work 4 = .ok (.if_icmp .lt 40, 3) := by decide +kernel
theorem dX9_work_7 : decode cX9_work 7 = .ok (.aload_n 0, 1) := by decide +kernel
theorem dX9_work_8 : decode cX9_work 8 = .ok (.getfield 42, 3) := by decide +kernel
theorem dX9_work_11 : decode cX9_work 11 = .ok (.iload_n 1, 1) := by decide +kernel
theorem dX9_work_12 : decode cX9_work 12 = .ok (.sipush 10000, 3) := by decide +kernel
theorem dX9_work_15 : decode cX9_work 15 = .ok (.isub, 1) := by decide +kernel
theorem dX9_work_16 : decode cX9_work 16 = .ok (.aload_n 0, 1) := by decide +kernel
theorem dX9_work_17 : decode cX9_work 17 = .ok (.getfield 33, 3) := by decide +kernel
theorem dX9_work_20 : decode cX9_work 20 = .ok (.arraylength, 1) := by decide +kernel
theorem dX9_work_21 : decode cX9_work 21 = .ok (.if_icmp .ge 16, 3) := by decide +kernel
theorem dX9_work_24 : decode cX9_work 24 = .ok (.aload_n 0, 1) := by decide +kernel
theorem dX9_work_25 : decode cX9_work 25 = .ok (.getfield 33, 3) := by decide +kernel
theorem dX9_work_28 : decode cX9_work 28 = .ok (.iload_n 1, 1) := by decide +kernel
theorem dX9_work_29 : decode cX9_work 29 = .ok (.sipush 10000, 3) := by decide +kernel
theorem dX9_work_32 : decode cX9_work 32 = .ok (.isub, 1) := by decide +kernel
theorem dX9_work_33 : decode cX9_work 33 = .ok (.iaload, 1) := by decide +kernel
theorem dX9_work_34 : decode cX9_work 34 = .ok (.goto 4, 3) := by decide +kernel
theorem dX9_work_37 : decode cX9_work 37 = .ok (.iconst 0, 1) := by decide +kernel
theorem dX9_work_38 : decode cX9_work 38 = .ok (.invokevirtual 179, 3) := by decide +kernel
theorem dX9_work_41 : decode cX9_work 41 = .ok (.goto 101, 3) := by decide +kernel
theorem dX9_work_44 : decode cX9_work 44 = .ok (.iload_n 1, 1) := by decide +kernel
theorem dX9_work_45 : decode cX9_work 45 = .ok (.ifCond .lt 14, 3) := by decide +kernel
theorem dX9_work_48 : decode cX9_work 48 = .ok (.aload_n 0, 1) := by decide +kernel
theorem dX9_work_49 : decode cX9_work 49 = .ok (.getfield 42, 3) := by decide +kernel
theorem dX9_work_52 : decode cX9_work 52 = .ok (.iload_n 1, 1) := by decide +kernel
theorem dX9_work_53 : decode cX9_work 53 = .ok (.invokevirtual 179, 3) := by decide +kernel
theorem dX9_work_56 : decode cX9_work 56 = .ok (.goto 86, 3) := by decide +kernel
theorem dX9_work_59 : decode cX9_work 59 = .ok (.iload_n 1, 1) := by decide +kernel
theorem dX9_work_60 : decode cX9_work 60 = .ok (.bipush (-33), 2) := by decide +kernel
theorem dX9_work_62 : decode cX9_work 62 = .ok (.if_icmp .ne 28, 3) := by decide +kernel
theorem dX9_work_65 : decode cX9_work 65 = .ok (.aload_n 0, 1) := by decide +kernel
theorem dX9_work_66 : decode cX9_work 66 = .ok (.getfield 42, 3) := by decide +kernel
theorem dX9_work_69 : decode cX9_work 69 = .ok (.aload_n 0, 1) := by decide +kernel
theorem dX9_work_70 : decode cX9_work 70 = .ok (.getfield 42, 3) := by decide +kernel
theorem dX9_work_73 : decode cX9_work 73 = .ok (.invokevirtual 133, 3) := by decide +kernel
theorem dX9_work_76 : decode cX9_work 76 = .ok (.ifCond .ne 7, 3) := by decide +kernel
theorem dX9_work_79 : decode cX9_work 79 = .ok (.iconst 1, 1) := by decide +kernel
theorem dX9_work_80 : decode cX9_work 80 = .ok (.goto 4, 3) := by decide +kernel
theorem dX9_work_83 : decode cX9_work 83 = .ok (.iconst 0, 1) := by decide +kernel
theorem dX9_work_84 : decode cX9_work 84 = .ok (.invokevirtual 179, 3) := by decide +kernel
theorem dX9_work_87 : decode cX9_work 87 = .ok (.goto 55, 3) := by decide +kernel
theorem dX9_work_90 : decode cX9_work 90 = .ok (.iload_n 1, 1) := by decide +kernel
theorem dX9_work_91 : decode cX9_work 91 = .ok (.bipush (-126), 2) := by decide +kernel
theorem dX9_work_93 : decode cX9_work 93 = .ok (.if_icmp .ne 21, 3) := by decide +kernel
theorem dX9_work_96 : decode cX9_work 96 = .ok (.aload_n 0, 1) := by decide +kernel
theorem dX9_work_97 : decode cX9_work 97 = .ok (.getfield 42, 3) := by decide +kernel
theorem dX9_work_100 : decode cX9_work 100 = .ok (.aload_n 0, 1) := by decide +kernel
theorem dX9_work_101 : decode cX9_work 101 = .ok (.getfield 42, 3) := by decide +kernel
theorem dX9_work_104 : decode cX9_work 104 = .ok (.invokevirtual 133, 3) := by decide +kernel
theorem dX9_work_107 : decode cX9_work 107 = .ok (.ineg, 1) := by decide +kernel
theorem dX9_work_108 : decode cX9_work 108 = .ok (.invokevirtual 179, 3) := by decide +kernel
theorem dX9_work_111 : decode cX9_work 111 = .ok (.goto 31, 3) := by decide +kernel
theorem dX9_work_114 : decode cX9_work 114 = .ok (.aload_n 0, 1) := by decide +kernel
theorem dX9_work_115 : decode cX9_work 115 = .ok (.getfield 42, 3) := by decide +kernel
theorem dX9_work_118 : decode cX9_work 118 = .ok (.invokevirtual 133, 3) := by decide +kernel
theorem dX9_work_121 : decode cX9_work 121 = .ok (.istore_n 2, 1) := by decide +kernel
theorem dX9_work_122 : decode cX9_work 122 = .ok (.aload_n 0, 1) := by decide +kernel
theorem dX9_work_123 : decode cX9_work 123 = .ok (.getfield 42, 3) := by decide +kernel
theorem dX9_work_126 : decode cX9_work 126 = .ok (.iload_n 1, 1) := by decide +kernel
theorem dX9_work_127 : decode cX9_work 127 = .ok (.ineg, 1) := by decide +kernel
theorem dX9_work_128 : decode cX9_work 128 = .ok (.aload_n 0, 1) := by decide +kernel
theorem dX9_work_129 : decode cX9_work 129 = .ok (.getfield 42, 3) := by decide +kernel
theorem dX9_work_132 : decode cX9_work 132 = .ok (.invokevirtual 133, 3) := by decide +kernel
theorem dX9_work_135 : decode cX9_work 135 = .ok (.iload_n 2, 1) := by decide +kernel
theorem dX9_work_136 : decode cX9_work 136 = .ok (.invokestatic 181, 3) := by decide +kernel
theorem dX9_work_139 : decode cX9_work 139 = .ok (.invokevirtual 179, 3) := by decide +kernel
theorem dX9_work_142 : decode cX9_work 142 = .ok (.return_, 1) := by decide +kernel
theorem dX9_firstBroken_0 : decode cX9_firstBroken 0 = .ok (.aload_n 0, 1) := by decide +kernel
theorem dX9_firstBroken_1 : decode cX9_firstBroken 1 = .ok (.aload_n 2, 1) := by decide +kernel
theorem dX9_firstBroken_2 : decode cX9_firstBroken 2 = .ok (.getfield 112, 3) := by decide +kernel
theorem dX9_firstBroken_5 : decode cX9_firstBroken 5 = .ok (.invokevirtual 117, 3) := by decide +kernel
theorem dX9_firstBroken_8 : decode cX9_firstBroken 8 = .ok (.istore 5, 2) := by decide +kernel
theorem dX9_firstBroken_10 : decode cX9_firstBroken 10 = .ok (.iload 5, 2) := by decide +kernel
theorem dX9_firstBroken_12 : decode cX9_firstBroken 12 = .ok (.ifCond .lt 15, 3) := by decide +kernel
theorem dX9_firstBroken_15 : decode cX9_firstBroken 15 = .ok (.iload 5, 2) := by decide +kernel
theorem dX9_firstBroken_17 : decode cX9_firstBroken 17 = .ok (.aload_n 0, 1) := by decide +kernel
theorem dX9_firstBroken_18 : decode cX9_firstBroken 18 = .ok (.getfield 12, 3) := by decide +kernel
theorem dX9_firstBroken_21 : decode cX9_firstBroken 21 = .ok (.invokevirtual 79, 3) := by decide +kernel
theorem dX9_firstBroken_24 : decode cX9_firstBroken 24 = .ok (.if_icmp .lt 6, 3) := by decide +kernel
theorem dX9_firstBroken_27 : decode cX9_firstBroken 27 = .ok (.bipush (-2), 2) := by decide +kernel
theorem dX9_firstBroken_29 : decode cX9_firstBroken 29 = .ok (.ireturn, 1) := by decide +kernel
theorem dX9_firstBroken_30 : decode cX9_firstBroken 30 = .ok (.aload_n 0, 1) := by decide +kernel
theorem dX9_firstBroken_31 : decode cX9_firstBroken 31 = .ok (.aload_n 1, 1) := by decide +kernel
theorem dX9_firstBroken_32 : decode cX9_firstBroken 32 = .ok (.aload_n 2, 1) := by decide +kernel
theorem dX9_firstBroken_33 : decode cX9_firstBroken 33 = .ok (.aload_n 3, 1) := by decide +kernel
theorem dX9_firstBroken_34 : decode cX9_firstBroken 34 = .ok (.iload 4, 2) := by decide +kernel
theorem dX9_firstBroken_36 : decode cX9_firstBroken 36 = .ok (.invokevirtual 121, 3) := by decide +kernel
theorem dX9_firstBroken_39 : decode cX9_firstBroken 39 = .ok (.aload_n 0, 1) := by decide +kernel
theorem dX9_firstBroken_40 : decode cX9_firstBroken 40 = .ok (.getfield 12, 3) := by decide +kernel
theorem dX9_firstBroken_43 : decode cX9_firstBroken 43 = .ok (.iload 5, 2) := by decide +kernel
theorem dX9_firstBroken_45 : decode cX9_firstBroken 45 = .ok (.invokevirtual 81, 3) := by decide +kernel
theorem dX9_firstBroken_48 : decode cX9_firstBroken 48 = .ok (.checkcast 70, 3) := by decide +kernel
theorem dX9_firstBroken_51 : decode cX9_firstBroken 51 = .ok (.getfield 125, 3) := by decide +kernel
theorem dX9_firstBroken_54 : decode cX9_firstBroken 54 = .ok (.astore 6, 2) := by decide +kernel
theorem dX9_firstBroken_56 : decode cX9_firstBroken 56 = .ok (.iconst 0, 1) := by decide +kernel
theorem dX9_firstBroken_57 : decode cX9_firstBroken 57 = .ok (.istore 7, 2) := by decide +kernel
theorem dX9_firstBroken_59 : decode cX9_firstBroken 59 = .ok (.aload_n 0, 1) := by decide +kernel
theorem dX9_firstBroken_60 : decode cX9_firstBroken 60 = .ok (.getfield 42, 3) := by decide +kernel
theorem dX9_firstBroken_63 : decode cX9_firstBroken 63 = .ok (.invokevirtual 127, 3) := by decide +kernel
theorem dX9_firstBroken_66 : decode cX9_firstBroken 66 = .ok (.iconst 0, 1) := by decide +kernel
theorem dX9_firstBroken_67 : decode cX9_firstBroken 67 = .ok (.istore 8, 2) := by decide +kernel
theorem dX9_firstBroken_69 : decode cX9_firstBroken 69 = .ok (.iload 8, 2) := by decide +kernel
theorem dX9_firstBroken_71 : decode cX9_firstBroken 71 = .ok (.aload 6, 2) := by decide +kernel
theorem dX9_firstBroken_73 : decode cX9_firstBroken 73 = .ok (.arraylength, 1) := by decide +kernel
theorem dX9_firstBroken_74 : decode cX9_firstBroken 74 = .ok (.if_icmp .ge 47, 3) := by decide +kernel
theorem dX9_firstBroken_77 : decode cX9_firstBroken 77 = .ok (.aload 6, 2) := by decide +kernel
theorem dX9_firstBroken_79 : decode cX9_firstBroken 79 = .ok (.iload 8, 2) := by decide +kernel
theorem dX9_firstBroken_81 : decode cX9_firstBroken 81 = .ok (.iaload, 1) := by decide +kernel
theorem dX9_firstBroken_82 : decode cX9_firstBroken 82 = .ok (.bipush (-59), 2) := by decide +kernel
theorem dX9_firstBroken_84 : decode cX9_firstBroken 84 = .ok (.if_icmp .eq 15, 3) := by decide +kernel
theorem dX9_firstBroken_87 : decode cX9_firstBroken 87 = .ok (.aload_n 0, 1) := by decide +kernel
theorem dX9_firstBroken_88 : decode cX9_firstBroken 88 = .ok (.aload 6, 2) := by decide +kernel
theorem dX9_firstBroken_90 : decode cX9_firstBroken 90 = .ok (.iload 8, 2) := by decide +kernel
theorem dX9_firstBroken_92 : decode cX9_firstBroken 92 = .ok (.iaload, 1) := by decide +kernel
theorem dX9_firstBroken_93 : decode cX9_firstBroken 93 = .ok (.invokevirtual 130, 3) := by decide +kernel
theorem dX9_firstBroken_96 : decode cX9_firstBroken 96 = .ok (.goto 19, 3) := by decide +kernel
theorem dX9_firstBroken_99 : decode cX9_firstBroken 99 = .ok (.aload_n 0, 1) := by decide +kernel
theorem dX9_firstBroken_100 : decode cX9_firstBroken 100 = .ok (.getfield 42, 3) := by decide +kernel
theorem dX9_firstBroken_103 : decode cX9_firstBroken 103 = .ok (.invokevirtual 133, 3) := by decide +kernel
theorem dX9_firstBroken_106 : decode cX9_firstBroken 106 = .ok (.ifCond .ne 6, 3) := by decide +kernel
theorem dX9_firstBroken_109 : decode cX9_firstBroken 109 = .ok (.iload 7, 2) := by decide +kernel
theorem dX9_firstBroken_111 : decode cX9_firstBroken 111 = .ok (.ireturn, 1) := by decide +kernel
theorem dX9_firstBroken_112 : decode cX9_firstBroken 112 = .ok (.iinc 7 1, 3) := by decide +kernel
theorem dX9_firstBroken_115 : decode cX9_firstBroken 115 = .ok (.iinc 8 1, 3) := by decide +kernel
theorem dX9_firstBroken_118 : decode cX9_firstBroken 118 = .ok (.goto (-49), 3) := by decide +kernel
theorem dX9_firstBroken_121 : decode cX9_firstBroken 121 = .ok (.bipush (-2), 2) := by decide +kernel
theorem dX9_firstBroken_123 : decode cX9_firstBroken 123 = .ok (.ireturn, 1) := by decide +kernel
theorem dX9_unfit_0 : decode cX9_unfit 0 = .ok (.aload_n 0, 1) := by decide +kernel
theorem dX9_unfit_1 : decode cX9_unfit 1 = .ok (.getfield 46, 3) := by decide +kernel
theorem dX9_unfit_4 : decode cX9_unfit 4 = .ok (.aload_n 1, 1) := by decide +kernel
theorem dX9_unfit_5 : decode cX9_unfit 5 = .ok (.aload_n 2, 1) := by decide +kernel
theorem dX9_unfit_6 : decode cX9_unfit 6 = .ok (.aload_n 3, 1) := by decide +kernel
theorem dX9_unfit_7 : decode cX9_unfit 7 = .ok (.iload 4, 2) := by decide +kernel
theorem dX9_unfit_9 : decode cX9_unfit 9 = .ok (.invokevirtual 96, 3) := by decide +kernel
theorem dX9_unfit_12 : decode cX9_unfit 12 = .ok (.istore 5, 2) := by decide +kernel
theorem dX9_unfit_14 : decode cX9_unfit 14 = .ok (.iload 5, 2) := by decide +kernel
theorem dX9_unfit_16 : decode cX9_unfit 16 = .ok (.ifCond .eq 6, 3) := by decide +kernel
theorem dX9_unfit_19 : decode cX9_unfit 19 = .ok (.iload 5, 2) := by decide +kernel
theorem dX9_unfit_21 : decode cX9_unfit 21 = .ok (.ireturn, 1) := by decide +kernel
theorem dX9_unfit_22 : decode cX9_unfit 22 = .ok (.aload_n 0, 1) := by decide +kernel
theorem dX9_unfit_23 : decode cX9_unfit 23 = .ok (.getfield 46, 3) := by decide +kernel
theorem dX9_unfit_26 : decode cX9_unfit 26 = .ok (.aload_n 1, 1) := by decide +kernel
theorem dX9_unfit_27 : decode cX9_unfit 27 = .ok (.aload_n 2, 1) := by decide +kernel
theorem dX9_unfit_28 : decode cX9_unfit 28 = .ok (.aload_n 3, 1) := by decide +kernel
theorem dX9_unfit_29 : decode cX9_unfit 29 = .ok (.getfield 100, 3) := by decide +kernel
theorem dX9_unfit_32 : decode cX9_unfit 32 = .ok (.invokevirtual 105, 3) := by decide +kernel
theorem dX9_unfit_35 : decode cX9_unfit 35 = .ok (.ifCond .eq 5, 3) := by decide +kernel
theorem dX9_unfit_38 : decode cX9_unfit 38 = .ok (.iconst 5, 1) := by decide +kernel
theorem dX9_unfit_39 : decode cX9_unfit 39 = .ok (.ireturn, 1) := by decide +kernel
theorem dX9_unfit_40 : decode cX9_unfit 40 = .ok (.aload_n 0, 1) := by decide +kernel
theorem dX9_unfit_41 : decode cX9_unfit 41 = .ok (.aload_n 1, 1) := by decide +kernel
theorem dX9_unfit_42 : decode cX9_unfit 42 = .ok (.aload_n 2, 1) := by decide +kernel
theorem dX9_unfit_43 : decode cX9_unfit 43 = .ok (.aload_n 3, 1) := by decide +kernel
theorem dX9_unfit_44 : decode cX9_unfit 44 = .ok (.iload 4, 2) := by decide +kernel
theorem dX9_unfit_46 : decode cX9_unfit 46 = .ok (.invokevirtual 109, 3) := by decide +kernel
theorem dX9_unfit_49 : decode cX9_unfit 49 = .ok (.bipush (-2), 2) := by decide +kernel
theorem dX9_unfit_51 : decode cX9_unfit 51 = .ok (.if_icmp .ne 7, 3) := by decide +kernel
theorem dX9_unfit_54 : decode cX9_unfit 54 = .ok (.iconst 0, 1) := by decide +kernel
theorem dX9_unfit_55 : decode cX9_unfit 55 = .ok (.goto 5, 3) := by decide +kernel
theorem dX9_unfit_58 : decode cX9_unfit 58 = .ok (.bipush 6, 2) := by decide +kernel
theorem dX9_unfit_60 : decode cX9_unfit 60 = .ok (.ireturn, 1) := by decide +kernel
theorem dX10_brightness_0 : decode cX10_brightness 0 = .ok (.iload_n 0, 1) := by decide +kernel
theorem dX10_brightness_1 : decode cX10_brightness 1 = .ok (.ifCond .ne 8, 3) := by decide +kernel
theorem dX10_brightness_4 : decode cX10_brightness 4 = .ok (.iload_n 1, 1) := by decide +kernel
theorem dX10_brightness_5 : decode cX10_brightness 5 = .ok (.i2b, 1) := by decide +kernel
theorem dX10_brightness_6 : decode cX10_brightness 6 = .ok (.goto 14, 3) := by decide +kernel
theorem dX10_brightness_9 : decode cX10_brightness 9 = .ok (.iload_n 0, 1) := by decide +kernel
theorem dX10_brightness_10 : decode cX10_brightness 10 = .ok (.iconst 1, 1) := by decide +kernel
theorem dX10_brightness_11 : decode cX10_brightness 11 = .ok (.if_icmp .ne 8, 3) := by decide +kernel
theorem dX10_brightness_14 : decode cX10_brightness 14 = .ok (.iload_n 1, 1) := by decide +kernel
theorem dX10_brightness_15 : decode cX10_brightness 15 = .ok (.i2s, 1) := by decide +kernel
theorem dX10_brightness_16 : decode cX10_brightness 16 = .ok (.goto 4, 3) := by decide +kernel
theorem dX10_brightness_19 : decode cX10_brightness 19 = .ok (.iload_n 1, 1) := by decide +kernel
theorem dX10_brightness_20 : decode cX10_brightness 20 = .ok (.istore_n 2, 1) := by decide +kernel
theorem dX10_brightness_21 : decode cX10_brightness 21 = .ok (.iconst 0, 1) := by decide +kernel
theorem dX10_brightness_22 : decode cX10_brightness 22 = .ok (.sipush 9999, 3) := by decide +kernel
theorem dX10_brightness_25 : decode cX10_brightness 25 = .ok (.iload_n 2, 1) := by decide +kernel
theorem dX10_brightness_26 : decode cX10_brightness 26 = .ok (.invokestatic 35, 3) := by decide +kernel
theorem dX10_brightness_29 : decode cX10_brightness 29 = .ok (.invokestatic 40, 3) := by decide +kernel
theorem dX10_brightness_32 : decode cX10_brightness 32 = .ok (.ireturn, 1) := by decide +kernel
theorem dX10_readSheet_0 : decode cX10_readSheet 0 = .ok (.iload_n 3, 1) := by decide +kernel
theorem dX10_readSheet_1 : decode cX10_readSheet 1 = .ok (.istore 5, 2) := by decide +kernel
theorem dX10_readSheet_3 : decode cX10_readSheet 3 = .ok (.iconst 0, 1) := by decide +kernel
theorem dX10_readSheet_4 : decode cX10_readSheet 4 = .ok (.istore 6, 2) := by decide +kernel
theorem dX10_readSheet_6 : decode cX10_readSheet 6 = .ok (.iload 6, 2) := by decide +kernel
theorem dX10_readSheet_8 : decode cX10_readSheet 8 = .ok (.bipush 24, 2) := by decide +kernel
theorem dX10_readSheet_10 : decode cX10_readSheet 10 = .ok (.if_icmp .ge 39, 3) := by decide +kernel
theorem dX10_readSheet_13 : decode cX10_readSheet 13 = .ok (.aload_n 0, 1) := by decide +kernel
theorem dX10_readSheet_14 : decode cX10_readSheet 14 = .ok (.getfield 9, 3) := by decide +kernel
theorem dX10_readSheet_17 : decode cX10_readSheet 17 = .ok (.iload 6, 2) := by decide +kernel
theorem dX10_readSheet_19 : decode cX10_readSheet 19 = .ok (.iload 6, 2) := by decide +kernel
theorem dX10_readSheet_21 : decode cX10_readSheet 21 = .ok (.iload_n 2, 1) := by decide +kernel
theorem dX10_readSheet_22 : decode cX10_readSheet 22 = .ok (.if_icmp .ge 12, 3) := by decide +kernel
theorem dX10_readSheet_25 : decode cX10_readSheet 25 = .ok (.iload_n 1, 1) := by decide +kernel
theorem dX10_readSheet_26 : decode cX10_readSheet 26 = .ok (.iload 5, 2) := by decide +kernel
theorem dX10_readSheet_28 : decode cX10_readSheet 28 = .ok (.invokestatic 31, 3) := by decide +kernel
theorem dX10_readSheet_31 : decode cX10_readSheet 31 = .ok (.goto 4, 3) := by decide +kernel
theorem dX10_readSheet_34 : decode cX10_readSheet 34 = .ok (.iconst 0, 1) := by decide +kernel
theorem dX10_readSheet_35 : decode cX10_readSheet 35 = .ok (.iastore, 1) := by decide +kernel
theorem dX10_readSheet_36 : decode cX10_readSheet 36 = .ok (.iload 5, 2) := by decide +kernel
theorem dX10_readSheet_38 : decode cX10_readSheet 38 = .ok (.iload 4, 2) := by decide +kernel
theorem dX10_readSheet_40 : decode cX10_readSheet 40 = .ok (.iadd, 1) := by decide +kernel
theorem dX10_readSheet_41 : decode cX10_readSheet 41 = .ok (.istore 5, 2) := by decide +kernel
theorem dX10_readSheet_43 : decode cX10_readSheet 43 = .ok (.iinc 6 1, 3) := by decide +kernel
theorem dX10_readSheet_46 : decode cX10_readSheet 46 = .ok (.goto (-40), 3) := by decide +kernel
theorem dX10_readSheet_49 : decode cX10_readSheet 49 = .ok (.return_, 1) := by decide +kernel
theorem dX11_room_0 : decode cX11_room 0 = .ok (.aload_n 0, 1) := by decide +kernel
theorem dX11_room_1 : decode cX11_room 1 = .ok (.getfield 10, 3) := by decide +kernel
theorem dX11_room_4 : decode cX11_room 4 = .ok (.getfield 67, 3) := by decide +kernel
theorem dX11_room_7 : decode cX11_room 7 = .ok (.bipush 10, 2) := by decide +kernel
theorem dX11_room_9 : decode cX11_room 9 = .ok (.if_icmp .lt 5, 3) := by decide +kernel
theorem dX11_room_12 : decode cX11_room 12 = .ok (.iconst (-1), 1) := by decide +kernel
theorem dX11_room_13 : decode cX11_room 13 = .ok (.ireturn, 1) := by decide +kernel
theorem dX11_room_14 : decode cX11_room 14 = .ok (.aload_n 0, 1) := by decide +kernel
theorem dX11_room_15 : decode cX11_room 15 = .ok (.getfield 10, 3) := by decide +kernel
theorem dX11_room_18 : decode cX11_room 18 = .ok (.dup, 1) := by decide +kernel
theorem dX11_room_19 : decode cX11_room 19 = .ok (.getfield 67, 3) := by decide +kernel
theorem dX11_room_22 : decode cX11_room 22 = .ok (.iconst 1, 1) := by decide +kernel
theorem dX11_room_23 : decode cX11_room 23 = .ok (.iadd, 1) := by decide +kernel
theorem dX11_room_24 : decode cX11_room 24 = .ok (.putfield 67, 3) := by decide +kernel
theorem dX11_room_27 : decode cX11_room 27 = .ok (.aload_n 0, 1) := by decide +kernel
theorem dX11_room_28 : decode cX11_room 28 = .ok (.getfield 10, 3) := by decide +kernel
theorem dX11_room_31 : decode cX11_room 31 = .ok (.aload_n 0, 1) := by decide +kernel
theorem dX11_room_32 : decode cX11_room 32 = .ok (.getfield 10, 3) := by decide +kernel
theorem dX11_room_35 : decode cX11_room 35 = .ok (.getfield 71, 3) := by decide +kernel
theorem dX11_room_38 : decode cX11_room 38 = .ok (.iconst 0, 1) := by decide +kernel
theorem dX11_room_39 : decode cX11_room 39 = .ok (.aconst_null, 1) := by decide +kernel
theorem dX11_room_40 : decode cX11_room 40 = .ok (.iconst (-1), 1) := by decide +kernel
theorem dX11_room_41 : decode cX11_room 41 = .ok (.invokevirtual 74, 3) := by decide +kernel
theorem dX11_room_44 : decode cX11_room 44 = .ok (.aload_n 0, 1) := by decide +kernel
theorem dX11_room_45 : decode cX11_room 45 = .ok (.getfield 10, 3) := by decide +kernel
theorem dX11_room_48 : decode cX11_room 48 = .ok (.getfield 67, 3) := by decide +kernel
theorem dX11_room_51 : decode cX11_room 51 = .ok (.iconst 1, 1) := by decide +kernel
theorem dX11_room_52 : decode cX11_room 52 = .ok (.isub, 1) := by decide +kernel
theorem dX11_room_53 : decode cX11_room 53 = .ok (.ireturn, 1) := by decide +kernel
theorem dX11_within_0 : decode cX11_within 0 = .ok (.iload_n 0, 1) := by decide +kernel
theorem dX11_within_1 : decode cX11_within 1 = .ok (.iload_n 1, 1) := by decide +kernel
theorem dX11_within_2 : decode cX11_within 2 = .ok (.if_icmp .lt 12, 3) := by decide +kernel
theorem dX11_within_5 : decode cX11_within 5 = .ok (.iload_n 0, 1) := by decide +kernel
theorem dX11_within_6 : decode cX11_within 6 = .ok (.iload_n 2, 1) := by decide +kernel
theorem dX11_within_7 : decode cX11_within 7 = .ok (.if_icmp .gt 7, 3) := by decide +kernel
theorem dX11_within_10 : decode cX11_within 10 = .ok (.iconst 1, 1) := by decide +kernel
theorem dX11_within_11 : decode cX11_within 11 = .ok (.goto 4, 3) := by decide +kernel
theorem dX11_within_14 : decode cX11_within 14 = .ok (.iconst 0, 1) := by decide +kernel
theorem dX11_within_15 : decode cX11_within 15 = .ok (.ireturn, 1) := by decide +kernel
theorem dX11_light_0 : decode cX11_light 0 = .ok (.aload_n 0, 1) := by decide +kernel
theorem dX11_light_1 : decode cX11_light 1 = .ok (.getfield 10, 3) := by decide +kernel
theorem dX11_light_4 : decode cX11_light 4 = .ok (.iload_n 1, 1) := by decide +kernel
theorem dX11_light_5 : decode cX11_light 5 = .ok (.invokevirtual 125, 3) := by decide +kernel
theorem dX11_light_8 : decode cX11_light 8 = .ok (.astore 6, 2) := by decide +kernel
theorem dX11_light_10 : decode cX11_light 10 = .ok (.aload 6, 2) := by decide +kernel
theorem dX11_light_12 : decode cX11_light 12 = .ok (.ifnull 18, 3) := by decide +kernel
theorem dX11_light_15 : decode cX11_light 15 = .ok (.iload_n 2, 1) := by decide +kernel
theorem dX11_light_16 : decode cX11_light 16 = .ok (.iconst 0, 1) := by decide +kernel
theorem dX11_light_17 : decode cX11_light 17 = .ok (.iconst 3, 1) := by decide +kernel
theorem dX11_light_18 : decode cX11_light 18 = .ok (.invokestatic 82, 3) := by decide +kernel
theorem dX11_light_21 : decode cX11_light 21 = .ok (.ifCond .eq 9, 3) := by decide +kernel
theorem dX11_light_24 : decode cX11_light 24 = .ok (.iload_n 3, 1) := by decide +kernel
theorem dX11_light_25 : decode cX11_light 25 = .ok (.bipush 24, 2) := by decide +kernel
theorem dX11_light_27 : decode cX11_light 27 = .ok (.if_icmp .le 5, 3) := by decide +kernel
theorem dX11_light_30 : decode cX11_light 30 = .ok (.iconst (-1), 1) := by decide +kernel
theorem dX11_light_31 : decode cX11_light 31 = .ok (.ireturn, 1) := by decide +kernel
theorem dX11_light_32 : decode cX11_light 32 = .ok (.iload_n 2, 1) := by decide +kernel
theorem dX11_light_33 : decode cX11_light 33 = .ok (.iconst 3, 1) := by decide +kernel
theorem dX11_light_34 : decode cX11_light 34 = .ok (.if_icmp .ne 15, 3) := by decide +kernel
theorem dX11_light_37 : decode cX11_light 37 = .ok (.aload 6, 2) := by decide +kernel
theorem dX11_light_39 : decode cX11_light 39 = .ok (.getfield 129, 3) := by decide +kernel
theorem dX11_light_42 : decode cX11_light 42 = .ok (.iconst 0, 1) := by decide +kernel
theorem dX11_light_43 : decode cX11_light 43 = .ok (.invokestatic 132, 3) := by decide +kernel
theorem dX11_light_46 : decode cX11_light 46 = .ok (.bipush (-3), 2) := by decide +kernel
theorem dX11_light_48 : decode cX11_light 48 = .ok (.ireturn, 1) := by decide +kernel
theorem dX11_light_49 : decode cX11_light 49 = .ok (.iload_n 3, 1) := by decide +kernel
theorem dX11_light_50 : decode cX11_light 50 = .ok (.ifCond .ge 6, 3) := by decide +kernel
theorem dX11_light_53 : decode cX11_light 53 = .ok (.bipush (-2), 2) := by decide +kernel
theorem dX11_light_55 : decode cX11_light 55 = .ok (.ireturn, 1) := by decide +kernel
theorem dX11_light_56 : decode cX11_light 56 = .ok (.aload 6, 2) := by decide +kernel
theorem dX11_light_58 : decode cX11_light 58 = .ok (.iload_n 2, 1) := by decide +kernel
theorem dX11_light_59 : decode cX11_light 59 = .ok (.iload_n 3, 1) := by decide +kernel
theorem dX11_light_60 : decode cX11_light 60 = .ok (.iload 4, 2) := by decide +kernel
theorem dX11_light_62 : decode cX11_light 62 = .ok (.iload 5, 2) := by decide +kernel
theorem dX11_light_64 : decode cX11_light 64 = .ok (.invokevirtual 138, 3) := by decide +kernel
theorem dX11_light_67 : decode cX11_light 67 = .ok (.aload_n 0, 1) := by decide +kernel
theorem dX11_light_68 : decode cX11_light 68 = .ok (.getfield 10, 3) := by decide +kernel
theorem dX11_light_71 : decode cX11_light 71 = .ok (.aload 6, 2) := by decide +kernel
theorem dX11_light_73 : decode cX11_light 73 = .ok (.invokevirtual 141, 3) := by decide +kernel
theorem dX11_light_76 : decode cX11_light 76 = .ok (.ireturn, 1) := by decide +kernel
theorem dX11_blind_0 : decode cX11_blind 0 = .ok (.aload_n 0, 1) := by decide +kernel
theorem dX11_blind_1 : decode cX11_blind 1 = .ok (.getfield 10, 3) := by decide +kernel
theorem dX11_blind_4 : decode cX11_blind 4 = .ok (.iload_n 1, 1) := by decide +kernel
theorem dX11_blind_5 : decode cX11_blind 5 = .ok (.invokevirtual 125, 3) := by decide +kernel
theorem dX11_blind_8 : decode cX11_blind 8 = .ok (.astore 4, 2) := by decide +kernel
theorem dX11_blind_10 : decode cX11_blind 10 = .ok (.aload 4, 2) := by decide +kernel
theorem dX11_blind_12 : decode cX11_blind 12 = .ok (.ifnull 23, 3) := by decide +kernel
theorem dX11_blind_15 : decode cX11_blind 15 = .ok (.iload_n 2, 1) := by decide +kernel
theorem dX11_blind_16 : decode cX11_blind 16 = .ok (.iconst 0, 1) := by decide +kernel
theorem dX11_blind_17 : decode cX11_blind 17 = .ok (.bipush 23, 2) := by decide +kernel
theorem dX11_blind_19 : decode cX11_blind 19 = .ok (.invokestatic 82, 3) := by decide +kernel
theorem dX11_blind_22 : decode cX11_blind 22 = .ok (.ifCond .eq 13, 3) := by decide +kernel
theorem dX11_blind_25 : decode cX11_blind 25 = .ok (.iload_n 3, 1) := by decide +kernel
theorem dX11_blind_26 : decode cX11_blind 26 = .ok (.iconst 0, 1) := by decide +kernel
theorem dX11_blind_27 : decode cX11_blind 27 = .ok (.bipush 23, 2) := by decide +kernel
theorem dX11_blind_29 : decode cX11_blind 29 = .ok (.invokestatic 82, 3) := by decide +kernel
theorem dX11_blind_32 : decode cX11_blind 32 = .ok (.ifCond .ne 5, 3) := by decide +kernel
theorem dX11_blind_35 : decode cX11_blind 35 = .ok (.iconst 0, 1) := by decide +kernel
theorem dX11_blind_36 : decode cX11_blind 36 = .ok (.ireturn, 1) := by decide +kernel
theorem dX11_blind_37 : decode cX11_blind 37 = .ok (.aload 4, 2) := by decide +kernel
theorem dX11_blind_39 : decode cX11_blind 39 = .ok (.iload_n 2, 1) := by decide +kernel
theorem dX11_blind_40 : decode cX11_blind 40 = .ok (.putfield 145, 3) := by decide +kernel
theorem dX11_blind_43 : decode cX11_blind 43 = .ok (.aload 4, 2) := by decide +kernel
theorem dX11_blind_45 : decode cX11_blind 45 = .ok (.iload_n 3, 1) := by decide +kernel
theorem dX11_blind_46 : decode cX11_blind 46 = .ok (.putfield 148, 3) := by decide +kernel
theorem dX11_blind_49 : decode cX11_blind 49 = .ok (.iconst 1, 1) := by decide +kernel
theorem dX11_blind_50 : decode cX11_blind 50 = .ok (.ireturn, 1) := by decide +kernel
theorem dX11_mayBecome_0 : decode cX11_mayBecome 0 = .ok (.iload_n 1, 1) := by decide +kernel
theorem dX11_mayBecome_1 : decode cX11_mayBecome 1 = .ok (.tableswitch 60 0 2 #[27, 37, 45], 27) := by decide +kernel
theorem dX11_mayBecome_28 : decode cX11_mayBecome 28 = .ok (.iload_n 2, 1) := by decide +kernel
theorem dX11_mayBecome_29 : decode cX11_mayBecome 29 = .ok (.bipush 100, 2) := by decide +kernel
theorem dX11_mayBecome_31 : decode cX11_mayBecome 31 = .ok (.sipush 200, 3) := by decide +kernel
theorem dX11_mayBecome_34 : decode cX11_mayBecome 34 = .ok (.invokestatic 82, 3) := by decide +kernel
theorem dX11_mayBecome_37 : decode cX11_mayBecome 37 = .ok (.ireturn, 1) := by decide +kernel
theorem dX11_mayBecome_38 : decode cX11_mayBecome 38 = .ok (.iload_n 2, 1) := by decide +kernel
theorem dX11_mayBecome_39 : decode cX11_mayBecome 39 = .ok (.iconst 0, 1) := by decide +kernel
theorem dX11_mayBecome_40 : decode cX11_mayBecome 40 = .ok (.bipush 99, 2) := by decide +kernel
theorem dX11_mayBecome_42 : decode cX11_mayBecome 42 = .ok (.invokestatic 82, 3) := by decide +kernel
theorem dX11_mayBecome_45 : decode cX11_mayBecome 45 = .ok (.ireturn, 1) := by decide +kernel
theorem dX11_mayBecome_46 : decode cX11_mayBecome 46 = .ok (.iload_n 2, 1) := by decide +kernel
theorem dX11_mayBecome_47 : decode cX11_mayBecome 47 = .ok (.iconst 0, 1) := by decide +kernel
theorem dX11_mayBecome_48 : decode cX11_mayBecome 48 = .ok (.aload_n 0, 1) := by decide +kernel
theorem dX11_mayBecome_49 : decode cX11_mayBecome 49 = .ok (.getfield 10, 3) := by decide +kernel
theorem dX11_mayBecome_52 : decode cX11_mayBecome 52 = .ok (.getfield 155, 3) := by decide +kernel
theorem dX11_mayBecome_55 : decode cX11_mayBecome 55 = .ok (.iconst 3, 1) := by decide +kernel
theorem dX11_mayBecome_56 : decode cX11_mayBecome 56 = .ok (.iaload, 1) := by decide +kernel
theorem dX11_mayBecome_57 : decode cX11_mayBecome 57 = .ok (.invokestatic 82, 3) := by decide +kernel
theorem dX11_mayBecome_60 : decode cX11_mayBecome 60 = .ok (.ireturn, 1) := by decide +kernel
theorem dX11_mayBecome_61 : decode cX11_mayBecome 61 = .ok (.iload_n 2, 1) := by decide +kernel
theorem dX11_mayBecome_62 : decode cX11_mayBecome 62 = .ok (.aload_n 0, 1) := by decide +kernel
theorem dX11_mayBecome_63 : decode cX11_mayBecome 63 = .ok (.getfield 10, 3) := by decide +kernel
theorem dX11_mayBecome_66 : decode cX11_mayBecome 66 = .ok (.getfield 155, 3) := by decide +kernel
theorem dX11_mayBecome_69 : decode cX11_mayBecome 69 = .ok (.iconst 2, 1) := by decide +kernel
theorem dX11_mayBecome_70 : decode cX11_mayBecome 70 = .ok (.iaload, 1) := by decide +kernel
theorem dX11_mayBecome_71 : decode cX11_mayBecome 71 = .ok (.bipush 23, 2) := by decide +kernel
theorem dX11_mayBecome_73 : decode cX11_mayBecome 73 = .ok (.invokestatic 82, 3) := by decide +kernel
theorem dX11_mayBecome_76 : decode cX11_mayBecome 76 = .ok (.ireturn, 1) := by decide +kernel
theorem dX11_set_0 : decode cX11_set 0 = .ok (.iload_n 1, 1) := by decide +kernel
theorem dX11_set_1 : decode cX11_set 1 = .ok (.iconst 0, 1) := by decide +kernel
theorem dX11_set_2 : decode cX11_set 2 = .ok (.iconst 3, 1) := by decide +kernel
theorem dX11_set_3 : decode cX11_set 3 = .ok (.invokestatic 82, 3) := by decide +kernel
theorem dX11_set_6 : decode cX11_set 6 = .ok (.ifCond .eq 12, 3) := by decide +kernel
theorem dX11_set_9 : decode cX11_set 9 = .ok (.aload_n 0, 1) := by decide +kernel
theorem dX11_set_10 : decode cX11_set 10 = .ok (.iload_n 1, 1) := by decide +kernel
theorem dX11_set_11 : decode cX11_set 11 = .ok (.iload_n 2, 1) := by decide +kernel
theorem dX11_set_12 : decode cX11_set 12 = .ok (.invokevirtual 151, 3) := by decide +kernel
theorem dX11_set_15 : decode cX11_set 15 = .ok (.ifCond .ne 5, 3) := by decide +kernel
theorem dX11_set_18 : decode cX11_set 18 = .ok (.iconst (-1), 1) := by decide +kernel
theorem dX11_set_19 : decode cX11_set 19 = .ok (.ireturn, 1) := by decide +kernel
theorem dX11_set_20 : decode cX11_set 20 = .ok (.aload_n 0, 1) := by decide +kernel
theorem dX11_set_21 : decode cX11_set 21 = .ok (.getfield 10, 3) := by decide +kernel
theorem dX11_set_24 : decode cX11_set 24 = .ok (.getfield 155, 3) := by decide +kernel
theorem dX11_set_27 : decode cX11_set 27 = .ok (.iload_n 1, 1) := by decide +kernel
theorem dX11_set_28 : decode cX11_set 28 = .ok (.iaload, 1) := by decide +kernel
theorem dX11_set_29 : decode cX11_set 29 = .ok (.istore_n 3, 1) := by decide +kernel
theorem dX11_set_30 : decode cX11_set 30 = .ok (.aload_n 0, 1) := by decide +kernel
theorem dX11_set_31 : decode cX11_set 31 = .ok (.getfield 10, 3) := by decide +kernel
theorem dX11_set_34 : decode cX11_set 34 = .ok (.getfield 155, 3) := by decide +kernel
theorem dX11_set_37 : decode cX11_set 37 = .ok (.iload_n 1, 1) := by decide +kernel
theorem dX11_set_38 : decode cX11_set 38 = .ok (.iload_n 2, 1) := by decide +kernel
theorem dX11_set_39 : decode cX11_set 39 = .ok (.iastore, 1) := by decide +kernel
theorem dX11_set_40 : decode cX11_set 40 = .ok (.iload_n 3, 1) := by decide +kernel
theorem dX11_set_41 : decode cX11_set 41 = .ok (.ireturn, 1) := by decide +kernel
theorem dX11_tell_0 : decode cX11_tell 0 = .ok (.aload_n 0, 1) := by decide +kernel
theorem dX11_tell_1 : decode cX11_tell 1 = .ok (.getfield 10, 3) := by decide +kernel
theorem dX11_tell_4 : decode cX11_tell 4 = .ok (.iload_n 1, 1) := by decide +kernel
theorem dX11_tell_5 : decode cX11_tell 5 = .ok (.invokevirtual 184, 3) := by decide +kernel
theorem dX11_tell_8 : decode cX11_tell 8 = .ok (.astore 4, 2) := by decide +kernel
theorem dX11_tell_10 : decode cX11_tell 10 = .ok (.aload 4, 2) := by decide +kernel
theorem dX11_tell_12 : decode cX11_tell 12 = .ok (.ifnonnull 6, 3) := by decide +kernel
theorem dX11_tell_15 : decode cX11_tell 15 = .ok (.bipush (-2), 2) := by decide +kernel
theorem dX11_tell_17 : decode cX11_tell 17 = .ok (.ireturn, 1) := by decide +kernel
theorem dX11_tell_18 : decode cX11_tell 18 = .ok (.iload_n 3, 1) := by decide +kernel
theorem dX11_tell_19 : decode cX11_tell 19 = .ok (.iconst (-1), 1) := by decide +kernel
theorem dX11_tell_20 : decode cX11_tell 20 = .ok (.if_icmp .eq 19, 3) := by decide +kernel
theorem dX11_tell_23 : decode cX11_tell 23 = .ok (.iload_n 3, 1) := by decide +kernel
theorem dX11_tell_24 : decode cX11_tell 24 = .ok (.iload_n 1, 1) := by decide +kernel
theorem dX11_tell_25 : decode cX11_tell 25 = .ok (.if_icmp .eq 18, 3) := by decide +kernel
theorem dX11_tell_28 : decode cX11_tell 28 = .ok (.aload_n 0, 1) := by decide +kernel
theorem dX11_tell_29 : decode cX11_tell 29 = .ok (.getfield 10, 3) := by decide +kernel
theorem dX11_tell_32 : decode cX11_tell 32 = .ok (.iload_n 3, 1) := by decide +kernel
theorem dX11_tell_33 : decode cX11_tell 33 = .ok (.invokevirtual 184, 3) := by decide +kernel
theorem dX11_tell_36 : decode cX11_tell 36 = .ok (.ifnull 7, 3) := by decide +kernel
theorem dX11_tell_39 : decode cX11_tell 39 = .ok (.iconst 1, 1) := by decide +kernel
theorem dX11_tell_40 : decode cX11_tell 40 = .ok (.goto 4, 3) := by decide +kernel
theorem dX11_tell_43 : decode cX11_tell 43 = .ok (.iconst 0, 1) := by decide +kernel
theorem dX11_tell_44 : decode cX11_tell 44 = .ok (.istore 5, 2) := by decide +kernel
theorem dX11_tell_46 : decode cX11_tell 46 = .ok (.bipush (-2), 2) := by decide +kernel
theorem dX11_tell_48 : decode cX11_tell 48 = .ok (.istore 6, 2) := by decide +kernel
theorem dX11_tell_50 : decode cX11_tell 50 = .ok (.iload_n 2, 1) := by decide +kernel
theorem dX11_tell_51 : decode cX11_tell 51 = .ok (.ifCond .ne 35, 3) := by decide +kernel
theorem dX11_tell_54 : decode cX11_tell 54 = .ok (.iload 5, 2) := by decide +kernel
theorem dX11_tell_56 : decode cX11_tell 56 = .ok (.ifCond .eq 30, 3) := by decide +kernel
theorem dX11_tell_59 : decode cX11_tell 59 = .ok (.aload 4, 2) := by decide +kernel
theorem dX11_tell_61 : decode cX11_tell 61 = .ok (.getfield 188, 3) := by decide +kernel
theorem dX11_tell_64 : decode cX11_tell 64 = .ok (.istore 6, 2) := by decide +kernel
theorem dX11_tell_66 : decode cX11_tell 66 = .ok (.aload_n 0, 1) := by decide +kernel
theorem dX11_tell_67 : decode cX11_tell 67 = .ok (.getfield 10, 3) := by decide +kernel
theorem dX11_tell_70 : decode cX11_tell 70 = .ok (.aload 4, 2) := by decide +kernel
theorem dX11_tell_72 : decode cX11_tell 72 = .ok (.aload_n 0, 1) := by decide +kernel
theorem dX11_tell_73 : decode cX11_tell 73 = .ok (.getfield 10, 3) := by decide +kernel
theorem dX11_tell_76 : decode cX11_tell 76 = .ok (.iload_n 3, 1) := by decide +kernel
theorem dX11_tell_77 : decode cX11_tell 77 = .ok (.invokevirtual 184, 3) := by decide +kernel
theorem dX11_tell_80 : decode cX11_tell 80 = .ok (.invokevirtual 191, 3) := by decide +kernel
theorem dX11_tell_83 : decode cX11_tell 83 = .ok (.goto 89, 3) := by decide +kernel
theorem dX11_tell_86 : decode cX11_tell 86 = .ok (.iload_n 2, 1) := by decide +kernel
theorem dX11_tell_87 : decode cX11_tell 87 = .ok (.iconst 1, 1) := by decide +kernel
theorem dX11_tell_88 : decode cX11_tell 88 = .ok (.if_icmp .ne 24, 3) := by decide +kernel
theorem dX11_tell_91 : decode cX11_tell 91 = .ok (.iload 5, 2) := by decide +kernel
theorem dX11_tell_93 : decode cX11_tell 93 = .ok (.ifCond .eq 19, 3) := by decide +kernel
theorem dX11_tell_96 : decode cX11_tell 96 = .ok (.aload 4, 2) := by decide +kernel
theorem dX11_tell_98 : decode cX11_tell 98 = .ok (.getfield 195, 3) := by decide +kernel
theorem dX11_tell_101 : decode cX11_tell 101 = .ok (.istore 6, 2) := by decide +kernel
theorem dX11_tell_103 : decode cX11_tell 103 = .ok (.aload 4, 2) := by decide +kernel
theorem dX11_tell_105 : decode cX11_tell 105 = .ok (.iload_n 3, 1) := by decide +kernel
theorem dX11_tell_106 : decode cX11_tell 106 = .ok (.putfield 195, 3) := by decide +kernel
theorem dX11_tell_109 : decode cX11_tell 109 = .ok (.goto 63, 3) := by decide +kernel
theorem dX11_tell_112 : decode cX11_tell 112 = .ok (.iload_n 2, 1) := by decide +kernel
theorem dX11_tell_113 : decode cX11_tell 113 = .ok (.iconst 2, 1) := by decide +kernel
theorem dX11_tell_114 : decode cX11_tell 114 = .ok (.if_icmp .ne 29, 3) := by decide +kernel
theorem dX11_tell_117 : decode cX11_tell 117 = .ok (.iload_n 3, 1) := by decide +kernel
theorem dX11_tell_118 : decode cX11_tell 118 = .ok (.iconst 0, 1) := by decide +kernel
theorem dX11_tell_119 : decode cX11_tell 119 = .ok (.ldc 198, 2) := by decide +kernel
theorem dX11_tell_121 : decode cX11_tell 121 = .ok (.invokestatic 82, 3) := by decide +kernel
theorem dX11_tell_124 : decode cX11_tell 124 = .ok (.ifCond .eq 19, 3) := by decide +kernel
theorem dX11_tell_127 : decode cX11_tell 127 = .ok (.aload 4, 2) := by decide +kernel
theorem dX11_tell_129 : decode cX11_tell 129 = .ok (.getfield 199, 3) := by decide +kernel
theorem dX11_tell_132 : decode cX11_tell 132 = .ok (.istore 6, 2) := by decide +kernel
theorem dX11_tell_134 : decode cX11_tell 134 = .ok (.aload 4, 2) := by decide +kernel
theorem dX11_tell_136 : decode cX11_tell 136 = .ok (.iload_n 3, 1) := by decide +kernel
theorem dX11_tell_137 : decode cX11_tell 137 = .ok (.putfield 199, 3) := by decide +kernel
theorem dX11_tell_140 : decode cX11_tell 140 = .ok (.goto 32, 3) := by decide +kernel
theorem dX11_tell_143 : decode cX11_tell 143 = .ok (.iload_n 2, 1) := by decide +kernel
theorem dX11_tell_144 : decode cX11_tell 144 = .ok (.iconst 3, 1) := by decide +kernel
theorem dX11_tell_145 : decode cX11_tell 145 = .ok (.if_icmp .ne 27, 3) := by decide +kernel
theorem dX11_tell_148 : decode cX11_tell 148 = .ok (.iload_n 3, 1) := by decide +kernel
theorem dX11_tell_149 : decode cX11_tell 149 = .ok (.iconst 0, 1) := by decide +kernel
theorem dX11_tell_150 : decode cX11_tell 150 = .ok (.sipush 400, 3) := by decide +kernel
theorem dX11_tell_153 : decode cX11_tell 153 = .ok (.invokestatic 82, 3) := by decide +kernel
theorem dX11_tell_156 : decode cX11_tell 156 = .ok (.ifCond .eq 16, 3) := by decide +kernel
theorem dX11_tell_159 : decode cX11_tell 159 = .ok (.aload 4, 2) := by decide +kernel
theorem dX11_tell_161 : decode cX11_tell 161 = .ok (.getfield 202, 3) := by decide +kernel
theorem dX11_tell_164 : decode cX11_tell 164 = .ok (.istore 6, 2) := by decide +kernel
theorem dX11_tell_166 : decode cX11_tell 166 = .ok (.aload 4, 2) := by decide +kernel
theorem dX11_tell_168 : decode cX11_tell 168 = .ok (.iload_n 3, 1) := by decide +kernel
theorem dX11_tell_169 : decode cX11_tell 169 = .ok (.putfield 202, 3) := by decide +kernel
theorem dX11_tell_172 : decode cX11_tell 172 = .ok (.iload 6, 2) := by decide +kernel
theorem dX11_tell_174 : decode cX11_tell 174 = .ok (.ireturn, 1) := by decide +kernel
theorem dX11_sign_0 : decode cX11_sign 0 = .ok (.aload_n 0, 1) := by decide +kernel
theorem dX11_sign_1 : decode cX11_sign 1 = .ok (.getfield 48, 3) := by decide +kernel
theorem dX11_sign_4 : decode cX11_sign 4 = .ok (.getfield 205, 3) := by decide +kernel
theorem dX11_sign_7 : decode cX11_sign 7 = .ok (.bipush 96, 2) := by decide +kernel
theorem dX11_sign_9 : decode cX11_sign 9 = .ok (.if_icmp .le 5, 3) := by decide +kernel
theorem dX11_sign_12 : decode cX11_sign 12 = .ok (.iconst (-1), 1) := by decide +kernel
theorem dX11_sign_13 : decode cX11_sign 13 = .ok (.ireturn, 1) := by decide +kernel
theorem dX11_sign_14 : decode cX11_sign 14 = .ok (.aload_n 0, 1) := by decide +kernel
theorem dX11_sign_15 : decode cX11_sign 15 = .ok (.getfield 48, 3) := by decide +kernel
theorem dX11_sign_18 : decode cX11_sign 18 = .ok (.iload_n 1, 1) := by decide +kernel
theorem dX11_sign_19 : decode cX11_sign 19 = .ok (.bipush 24, 2) := by decide +kernel
theorem dX11_sign_21 : decode cX11_sign 21 = .ok (.iushr, 1) := by decide +kernel
theorem dX11_sign_22 : decode cX11_sign 22 = .ok (.sipush 255, 3) := by decide +kernel
theorem dX11_sign_25 : decode cX11_sign 25 = .ok (.iand, 1) := by decide +kernel
theorem dX11_sign_26 : decode cX11_sign 26 = .ok (.invokevirtual 207, 3) := by decide +kernel
theorem dX11_sign_29 : decode cX11_sign 29 = .ok (.aload_n 0, 1) := by decide +kernel
theorem dX11_sign_30 : decode cX11_sign 30 = .ok (.getfield 48, 3) := by decide +kernel
theorem dX11_sign_33 : decode cX11_sign 33 = .ok (.iload_n 1, 1) := by decide +kernel
theorem dX11_sign_34 : decode cX11_sign 34 = .ok (.bipush 16, 2) := by decide +kernel
theorem dX11_sign_36 : decode cX11_sign 36 = .ok (.iushr, 1) := by decide +kernel
theorem dX11_sign_37 : decode cX11_sign 37 = .ok (.sipush 255, 3) := by decide +kernel
theorem dX11_sign_40 : decode cX11_sign 40 = .ok (.iand, 1) := by decide +kernel
theorem dX11_sign_41 : decode cX11_sign 41 = .ok (.invokevirtual 207, 3) := by decide +kernel
theorem dX11_sign_44 : decode cX11_sign 44 = .ok (.aload_n 0, 1) := by decide +kernel
theorem dX11_sign_45 : decode cX11_sign 45 = .ok (.getfield 48, 3) := by decide +kernel
theorem dX11_sign_48 : decode cX11_sign 48 = .ok (.iload_n 1, 1) := by decide +kernel
theorem dX11_sign_49 : decode cX11_sign 49 = .ok (.bipush 8, 2) := by decide +kernel
theorem dX11_sign_51 : decode cX11_sign 51 = .ok (.iushr, 1) := by decide +kernel
theorem dX11_sign_52 : decode cX11_sign 52 = .ok (.sipush 255, 3) := by decide +kernel
theorem dX11_sign_55 : decode cX11_sign 55 = .ok (.iand, 1) := by decide +kernel
theorem dX11_sign_56 : decode cX11_sign 56 = .ok (.invokevirtual 207, 3) := by decide +kernel
theorem dX11_sign_59 : decode cX11_sign 59 = .ok (.aload_n 0, 1) := by decide +kernel
theorem dX11_sign_60 : decode cX11_sign 60 = .ok (.getfield 48, 3) := by decide +kernel
theorem dX11_sign_63 : decode cX11_sign 63 = .ok (.iload_n 1, 1) := by decide +kernel
theorem dX11_sign_64 : decode cX11_sign 64 = .ok (.sipush 255, 3) := by decide +kernel
theorem dX11_sign_67 : decode cX11_sign 67 = .ok (.iand, 1) := by decide +kernel
theorem dX11_sign_68 : decode cX11_sign 68 = .ok (.invokevirtual 207, 3) := by decide +kernel
theorem dX11_sign_71 : decode cX11_sign 71 = .ok (.aload_n 0, 1) := by decide +kernel
theorem dX11_sign_72 : decode cX11_sign 72 = .ok (.getfield 48, 3) := by decide +kernel
theorem dX11_sign_75 : decode cX11_sign 75 = .ok (.getfield 205, 3) := by decide +kernel
theorem dX11_sign_78 : decode cX11_sign 78 = .ok (.ireturn, 1) := by decide +kernel
theorem dX11_end_0 : decode cX11_end 0 = .ok (.iload_n 1, 1) := by decide +kernel
theorem dX11_end_1 : decode cX11_end 1 = .ok (.iconst 0, 1) := by decide +kernel
theorem dX11_end_2 : decode cX11_end 2 = .ok (.aload_n 0, 1) := by decide +kernel
theorem dX11_end_3 : decode cX11_end 3 = .ok (.getfield 48, 3) := by decide +kernel
theorem dX11_end_6 : decode cX11_end 6 = .ok (.getfield 205, 3) := by decide +kernel
theorem dX11_end_9 : decode cX11_end 9 = .ok (.invokestatic 82, 3) := by decide +kernel
theorem dX11_end_12 : decode cX11_end 12 = .ok (.ifCond .ne 5, 3) := by decide +kernel
theorem dX11_end_15 : decode cX11_end 15 = .ok (.iconst 0, 1) := by decide +kernel
theorem dX11_end_16 : decode cX11_end 16 = .ok (.ireturn, 1) := by decide +kernel
theorem dX11_end_17 : decode cX11_end 17 = .ok (.aload_n 0, 1) := by decide +kernel
theorem dX11_end_18 : decode cX11_end 18 = .ok (.getfield 48, 3) := by decide +kernel
theorem dX11_end_21 : decode cX11_end 21 = .ok (.iload_n 1, 1) := by decide +kernel
theorem dX11_end_22 : decode cX11_end 22 = .ok (.putfield 205, 3) := by decide +kernel
theorem dX11_end_25 : decode cX11_end 25 = .ok (.iconst 1, 1) := by decide +kernel
theorem dX11_end_26 : decode cX11_end 26 = .ok (.ireturn, 1) := by decide +kernel
theorem dX11_force_0 : decode cX11_force 0 = .ok (.aload_n 0, 1) := by decide +kernel
theorem dX11_force_1 : decode cX11_force 1 = .ok (.getfield 10, 3) := by decide +kernel
theorem dX11_force_4 : decode cX11_force 4 = .ok (.iload_n 1, 1) := by decide +kernel
theorem dX11_force_5 : decode cX11_force 5 = .ok (.invokevirtual 184, 3) := by decide +kernel
theorem dX11_force_8 : decode cX11_force 8 = .ok (.ifnonnull 7, 3) := by decide +kernel
theorem dX11_force_11 : decode cX11_force 11 = .ok (.iconst (-1), 1) := by decide +kernel
theorem dX11_force_12 : decode cX11_force 12 = .ok (.goto 11, 3) := by decide +kernel
theorem dX11_force_15 : decode cX11_force 15 = .ok (.aload_n 0, 1) := by decide +kernel
theorem dX11_force_16 : decode cX11_force 16 = .ok (.getfield 21, 3) := by decide +kernel
theorem dX11_force_19 : decode cX11_force 19 = .ok (.iload_n 1, 1) := by decide +kernel
theorem dX11_force_20 : decode cX11_force 20 = .ok (.invokevirtual 219, 3) := by decide +kernel
theorem dX11_force_23 : decode cX11_force 23 = .ok (.ireturn, 1) := by decide +kernel
theorem dX11_why_0 : decode cX11_why 0 = .ok (.aload_n 0, 1) := by decide +kernel
theorem dX11_why_1 : decode cX11_why 1 = .ok (.getfield 10, 3) := by decide +kernel
theorem dX11_why_4 : decode cX11_why 4 = .ok (.iload_n 1, 1) := by decide +kernel
theorem dX11_why_5 : decode cX11_why 5 = .ok (.invokevirtual 184, 3) := by decide +kernel
theorem dX11_why_8 : decode cX11_why 8 = .ok (.astore 4, 2) := by decide +kernel
theorem dX11_why_10 : decode cX11_why 10 = .ok (.aload_n 0, 1) := by decide +kernel
theorem dX11_why_11 : decode cX11_why 11 = .ok (.getfield 10, 3) := by decide +kernel
theorem dX11_why_14 : decode cX11_why 14 = .ok (.iload_n 2, 1) := by decide +kernel
theorem dX11_why_15 : decode cX11_why 15 = .ok (.invokevirtual 125, 3) := by decide +kernel
theorem dX11_why_18 : decode cX11_why 18 = .ok (.astore 5, 2) := by decide +kernel
theorem dX11_why_20 : decode cX11_why 20 = .ok (.aload 4, 2) := by decide +kernel
theorem dX11_why_22 : decode cX11_why 22 = .ok (.ifnull 8, 3) := by decide +kernel
theorem dX11_why_25 : decode cX11_why 25 = .ok (.aload 5, 2) := by decide +kernel
theorem dX11_why_27 : decode cX11_why 27 = .ok (.ifnonnull 7, 3) := by decide +kernel
theorem dX11_why_30 : decode cX11_why 30 = .ok (.iconst (-1), 1) := by decide +kernel
theorem dX11_why_31 : decode cX11_why 31 = .ok (.goto 22, 3) := by decide +kernel
theorem dX11_why_34 : decode cX11_why 34 = .ok (.aload_n 0, 1) := by decide +kernel
theorem dX11_why_35 : decode cX11_why 35 = .ok (.getfield 21, 3) := by decide +kernel
theorem dX11_why_38 : decode cX11_why 38 = .ok (.aload_n 0, 1) := by decide +kernel
theorem dX11_why_39 : decode cX11_why 39 = .ok (.getfield 10, 3) := by decide +kernel
theorem dX11_why_42 : decode cX11_why 42 = .ok (.getfield 223, 3) := by decide +kernel
theorem dX11_why_45 : decode cX11_why 45 = .ok (.aload 4, 2) := by decide +kernel
theorem dX11_why_47 : decode cX11_why 47 = .ok (.aload 5, 2) := by decide +kernel
theorem dX11_why_49 : decode cX11_why 49 = .ok (.iload_n 3, 1) := by decide +kernel
theorem dX11_why_50 : decode cX11_why 50 = .ok (.invokevirtual 227, 3) := by decide +kernel
theorem dX11_why_53 : decode cX11_why 53 = .ok (.ireturn, 1) := by decide +kernel
theorem dX11_fits_0 : decode cX11_fits 0 = .ok (.aload_n 0, 1) := by decide +kernel
theorem dX11_fits_1 : decode cX11_fits 1 = .ok (.getfield 10, 3) := by decide +kernel
theorem dX11_fits_4 : decode cX11_fits 4 = .ok (.iload_n 1, 1) := by decide +kernel
theorem dX11_fits_5 : decode cX11_fits 5 = .ok (.invokevirtual 231, 3) := by decide +kernel
theorem dX11_fits_8 : decode cX11_fits 8 = .ok (.astore 4, 2) := by decide +kernel
theorem dX11_fits_10 : decode cX11_fits 10 = .ok (.aload_n 0, 1) := by decide +kernel
theorem dX11_fits_11 : decode cX11_fits 11 = .ok (.getfield 10, 3) := by decide +kernel
theorem dX11_fits_14 : decode cX11_fits 14 = .ok (.iload_n 2, 1) := by decide +kernel
theorem dX11_fits_15 : decode cX11_fits 15 = .ok (.invokevirtual 125, 3) := by decide +kernel
theorem dX11_fits_18 : decode cX11_fits 18 = .ok (.astore 5, 2) := by decide +kernel
theorem dX11_fits_20 : decode cX11_fits 20 = .ok (.aload 4, 2) := by decide +kernel
theorem dX11_fits_22 : decode cX11_fits 22 = .ok (.ifnull 8, 3) := by decide +kernel
theorem dX11_fits_25 : decode cX11_fits 25 = .ok (.aload 5, 2) := by decide +kernel
theorem dX11_fits_27 : decode cX11_fits 27 = .ok (.ifnonnull 7, 3) := by decide +kernel
theorem dX11_fits_30 : decode cX11_fits 30 = .ok (.iconst (-1), 1) := by decide +kernel
theorem dX11_fits_31 : decode cX11_fits 31 = .ok (.goto 22, 3) := by decide +kernel
theorem dX11_fits_34 : decode cX11_fits 34 = .ok (.aload_n 0, 1) := by decide +kernel
theorem dX11_fits_35 : decode cX11_fits 35 = .ok (.getfield 21, 3) := by decide +kernel
theorem dX11_fits_38 : decode cX11_fits 38 = .ok (.aload_n 0, 1) := by decide +kernel
theorem dX11_fits_39 : decode cX11_fits 39 = .ok (.getfield 10, 3) := by decide +kernel
theorem dX11_fits_42 : decode cX11_fits 42 = .ok (.getfield 223, 3) := by decide +kernel
theorem dX11_fits_45 : decode cX11_fits 45 = .ok (.aload 4, 2) := by decide +kernel
theorem dX11_fits_47 : decode cX11_fits 47 = .ok (.aload 5, 2) := by decide +kernel
theorem dX11_fits_49 : decode cX11_fits 49 = .ok (.iload_n 3, 1) := by decide +kernel
theorem dX11_fits_50 : decode cX11_fits 50 = .ok (.invokevirtual 234, 3) := by decide +kernel
theorem dX11_fits_53 : decode cX11_fits 53 = .ok (.ireturn, 1) := by decide +kernel
theorem dX11_hang_0 : decode cX11_hang 0 = .ok (.aload_n 0, 1) := by decide +kernel
theorem dX11_hang_1 : decode cX11_hang 1 = .ok (.getfield 10, 3) := by decide +kernel
theorem dX11_hang_4 : decode cX11_hang 4 = .ok (.iload_n 1, 1) := by decide +kernel
theorem dX11_hang_5 : decode cX11_hang 5 = .ok (.invokevirtual 231, 3) := by decide +kernel
theorem dX11_hang_8 : decode cX11_hang 8 = .ok (.astore 4, 2) := by decide +kernel
theorem dX11_hang_10 : decode cX11_hang 10 = .ok (.aload_n 0, 1) := by decide +kernel
theorem dX11_hang_11 : decode cX11_hang 11 = .ok (.getfield 10, 3) := by decide +kernel
theorem dX11_hang_14 : decode cX11_hang 14 = .ok (.iload_n 2, 1) := by decide +kernel
theorem dX11_hang_15 : decode cX11_hang 15 = .ok (.invokevirtual 125, 3) := by decide +kernel
theorem dX11_hang_18 : decode cX11_hang 18 = .ok (.astore 5, 2) := by decide +kernel
theorem dX11_hang_20 : decode cX11_hang 20 = .ok (.aload 4, 2) := by decide +kernel
theorem dX11_hang_22 : decode cX11_hang 22 = .ok (.ifnull 8, 3) := by decide +kernel
theorem dX11_hang_25 : decode cX11_hang 25 = .ok (.aload 5, 2) := by decide +kernel
theorem dX11_hang_27 : decode cX11_hang 27 = .ok (.ifnonnull 5, 3) := by decide +kernel
theorem dX11_hang_30 : decode cX11_hang 30 = .ok (.iconst (-1), 1) := by decide +kernel
theorem dX11_hang_31 : decode cX11_hang 31 = .ok (.ireturn, 1) := by decide +kernel
theorem dX11_hang_32 : decode cX11_hang 32 = .ok (.aload_n 0, 1) := by decide +kernel
theorem dX11_hang_33 : decode cX11_hang 33 = .ok (.getfield 21, 3) := by decide +kernel
theorem dX11_hang_36 : decode cX11_hang 36 = .ok (.aload_n 0, 1) := by decide +kernel
theorem dX11_hang_37 : decode cX11_hang 37 = .ok (.getfield 10, 3) := by decide +kernel
theorem dX11_hang_40 : decode cX11_hang 40 = .ok (.getfield 223, 3) := by decide +kernel
theorem dX11_hang_43 : decode cX11_hang 43 = .ok (.aload 4, 2) := by decide +kernel
theorem dX11_hang_45 : decode cX11_hang 45 = .ok (.aload 5, 2) := by decide +kernel
theorem dX11_hang_47 : decode cX11_hang 47 = .ok (.iload_n 3, 1) := by decide +kernel
theorem dX11_hang_48 : decode cX11_hang 48 = .ok (.invokevirtual 234, 3) := by decide +kernel
theorem dX11_hang_51 : decode cX11_hang 51 = .ok (.istore 6, 2) := by decide +kernel
theorem dX11_hang_53 : decode cX11_hang 53 = .ok (.iload 6, 2) := by decide +kernel
theorem dX11_hang_55 : decode cX11_hang 55 = .ok (.ifCond .ne 24, 3) := by decide +kernel
theorem dX11_hang_58 : decode cX11_hang 58 = .ok (.aload_n 0, 1) := by decide +kernel
theorem dX11_hang_59 : decode cX11_hang 59 = .ok (.getfield 10, 3) := by decide +kernel
theorem dX11_hang_62 : decode cX11_hang 62 = .ok (.getfield 223, 3) := by decide +kernel
theorem dX11_hang_65 : decode cX11_hang 65 = .ok (.aload 4, 2) := by decide +kernel
theorem dX11_hang_67 : decode cX11_hang 67 = .ok (.getfield 183, 3) := by decide +kernel
theorem dX11_hang_70 : decode cX11_hang 70 = .ok (.aload 5, 2) := by decide +kernel
theorem dX11_hang_72 : decode cX11_hang 72 = .ok (.getfield 122, 3) := by decide +kernel
theorem dX11_hang_75 : decode cX11_hang 75 = .ok (.iload_n 3, 1) := by decide +kernel
theorem dX11_hang_76 : decode cX11_hang 76 = .ok (.invokevirtual 237, 3) := by decide +kernel
theorem dX11_hang_79 : decode cX11_hang 79 = .ok (.iload 6, 2) := by decide +kernel
theorem dX11_hang_81 : decode cX11_hang 81 = .ok (.ireturn, 1) := by decide +kernel
theorem dX11_store_0 : decode cX11_store 0 = .ok (.aload_n 0, 1) := by decide +kernel
theorem dX11_store_1 : decode cX11_store 1 = .ok (.getfield 10, 3) := by decide +kernel
theorem dX11_store_4 : decode cX11_store 4 = .ok (.iload_n 1, 1) := by decide +kernel
theorem dX11_store_5 : decode cX11_store 5 = .ok (.invokevirtual 184, 3) := by decide +kernel
theorem dX11_store_8 : decode cX11_store 8 = .ok (.astore_n 2, 1) := by decide +kernel
theorem dX11_store_9 : decode cX11_store 9 = .ok (.aload_n 2, 1) := by decide +kernel
theorem dX11_store_10 : decode cX11_store 10 = .ok (.ifnull 35, 3) := by decide +kernel
theorem dX11_store_13 : decode cX11_store 13 = .ok (.aload_n 2, 1) := by decide +kernel
theorem dX11_store_14 : decode cX11_store 14 = .ok (.getfield 243, 3) := by decide +kernel
theorem dX11_store_17 : decode cX11_store 17 = .ok (.iconst 3, 1) := by decide +kernel
theorem dX11_store_18 : decode cX11_store 18 = .ok (.if_icmp .eq 27, 3) := by decide +kernel
theorem dX11_store_21 : decode cX11_store 21 = .ok (.aload_n 2, 1) := by decide +kernel
theorem dX11_store_22 : decode cX11_store 22 = .ok (.getfield 243, 3) := by decide +kernel
theorem dX11_store_25 : decode cX11_store 25 = .ok (.ifCond .ne 22, 3) := by decide +kernel
theorem dX11_store_28 : decode cX11_store 28 = .ok (.aload_n 0, 1) := by decide +kernel
theorem dX11_store_29 : decode cX11_store 29 = .ok (.getfield 10, 3) := by decide +kernel
theorem dX11_store_32 : decode cX11_store 32 = .ok (.getfield 223, 3) := by decide +kernel
theorem dX11_store_35 : decode cX11_store 35 = .ok (.aload_n 2, 1) := by decide +kernel
theorem dX11_store_36 : decode cX11_store 36 = .ok (.getfield 183, 3) := by decide +kernel
theorem dX11_store_39 : decode cX11_store 39 = .ok (.invokevirtual 246, 3) := by decide +kernel
theorem dX11_store_42 : decode cX11_store 42 = .ok (.ifCond .ne 5, 3) := by decide +kernel
theorem dX11_store_45 : decode cX11_store 45 = .ok (.iconst 0, 1) := by decide +kernel
theorem dX11_store_46 : decode cX11_store 46 = .ok (.ireturn, 1) := by decide +kernel
theorem dX11_store_47 : decode cX11_store 47 = .ok (.aload_n 2, 1) := by decide +kernel
theorem dX11_store_48 : decode cX11_store 48 = .ok (.iconst 0, 1) := by decide +kernel
theorem dX11_store_49 : decode cX11_store 49 = .ok (.putfield 243, 3) := by decide +kernel
theorem dX11_store_52 : decode cX11_store 52 = .ok (.aload_n 0, 1) := by decide +kernel
theorem dX11_store_53 : decode cX11_store 53 = .ok (.getfield 10, 3) := by decide +kernel
theorem dX11_store_56 : decode cX11_store 56 = .ok (.getfield 223, 3) := by decide +kernel
theorem dX11_store_59 : decode cX11_store 59 = .ok (.aload_n 2, 1) := by decide +kernel
theorem dX11_store_60 : decode cX11_store 60 = .ok (.getfield 183, 3) := by decide +kernel
theorem dX11_store_63 : decode cX11_store 63 = .ok (.invokevirtual 249, 3) := by decide +kernel
theorem dX11_store_66 : decode cX11_store 66 = .ok (.iconst 1, 1) := by decide +kernel
theorem dX11_store_67 : decode cX11_store 67 = .ok (.ireturn, 1) := by decide +kernel
theorem dX11_send_0 : decode cX11_send 0 = .ok (.aload_n 0, 1) := by decide +kernel
theorem dX11_send_1 : decode cX11_send 1 = .ok (.getfield 10, 3) := by decide +kernel
theorem dX11_send_4 : decode cX11_send 4 = .ok (.iload_n 1, 1) := by decide +kernel
theorem dX11_send_5 : decode cX11_send 5 = .ok (.invokevirtual 231, 3) := by decide +kernel
theorem dX11_send_8 : decode cX11_send 8 = .ok (.astore_n 2, 1) := by decide +kernel
theorem dX11_send_9 : decode cX11_send 9 = .ok (.aload_n 2, 1) := by decide +kernel
theorem dX11_send_10 : decode cX11_send 10 = .ok (.ifnonnull 5, 3) := by decide +kernel
theorem dX11_send_13 : decode cX11_send 13 = .ok (.iconst 0, 1) := by decide +kernel
theorem dX11_send_14 : decode cX11_send 14 = .ok (.ireturn, 1) := by decide +kernel
theorem dX11_send_15 : decode cX11_send 15 = .ok (.aload_n 2, 1) := by decide +kernel
theorem dX11_send_16 : decode cX11_send 16 = .ok (.iconst 2, 1) := by decide +kernel
theorem dX11_send_17 : decode cX11_send 17 = .ok (.putfield 243, 3) := by decide +kernel
theorem dX11_send_20 : decode cX11_send 20 = .ok (.aload_n 0, 1) := by decide +kernel
theorem dX11_send_21 : decode cX11_send 21 = .ok (.getfield 10, 3) := by decide +kernel
theorem dX11_send_24 : decode cX11_send 24 = .ok (.getfield 223, 3) := by decide +kernel
theorem dX11_send_27 : decode cX11_send 27 = .ok (.aload_n 2, 1) := by decide +kernel
theorem dX11_send_28 : decode cX11_send 28 = .ok (.getfield 183, 3) := by decide +kernel
theorem dX11_send_31 : decode cX11_send 31 = .ok (.invokevirtual 249, 3) := by decide +kernel
theorem dX11_send_34 : decode cX11_send 34 = .ok (.iconst 1, 1) := by decide +kernel
theorem dX11_send_35 : decode cX11_send 35 = .ok (.ireturn, 1) := by decide +kernel
theorem dX11_placeOf_0 : decode cX11_placeOf 0 = .ok (.aload_n 0, 1) := by decide +kernel
theorem dX11_placeOf_1 : decode cX11_placeOf 1 = .ok (.getfield 10, 3) := by decide +kernel
theorem dX11_placeOf_4 : decode cX11_placeOf 4 = .ok (.aload_n 1, 1) := by decide +kernel
theorem dX11_placeOf_5 : decode cX11_placeOf 5 = .ok (.invokevirtual 295, 3) := by decide +kernel
theorem dX11_placeOf_8 : decode cX11_placeOf 8 = .ok (.astore_n 3, 1) := by decide +kernel
theorem dX11_placeOf_9 : decode cX11_placeOf 9 = .ok (.aload_n 3, 1) := by decide +kernel
theorem dX11_placeOf_10 : decode cX11_placeOf 10 = .ok (.ifnonnull 5, 3) := by decide +kernel
theorem dX11_placeOf_13 : decode cX11_placeOf 13 = .ok (.iconst (-1), 1) := by decide +kernel
theorem dX11_placeOf_14 : decode cX11_placeOf 14 = .ok (.ireturn, 1) := by decide +kernel
theorem dX11_placeOf_15 : decode cX11_placeOf 15 = .ok (.aload_n 0, 1) := by decide +kernel
theorem dX11_placeOf_16 : decode cX11_placeOf 16 = .ok (.getfield 10, 3) := by decide +kernel
theorem dX11_placeOf_19 : decode cX11_placeOf 19 = .ok (.getfield 223, 3) := by decide +kernel
theorem dX11_placeOf_22 : decode cX11_placeOf 22 = .ok (.aload_n 1, 1) := by decide +kernel
theorem dX11_placeOf_23 : decode cX11_placeOf 23 = .ok (.getfield 183, 3) := by decide +kernel
theorem dX11_placeOf_26 : decode cX11_placeOf 26 = .ok (.invokevirtual 269, 3) := by decide +kernel
theorem dX11_placeOf_29 : decode cX11_placeOf 29 = .ok (.istore 4, 2) := by decide +kernel
theorem dX11_placeOf_31 : decode cX11_placeOf 31 = .ok (.iload_n 2, 1) := by decide +kernel
theorem dX11_placeOf_32 : decode cX11_placeOf 32 = .ok (.tableswitch 86 1 5 #[36, 41, 86, 44, 65], 36) := by decide +kernel
theorem dX11_placeOf_68 : decode cX11_placeOf 68 = .ok (.aload_n 3, 1) := by decide +kernel
theorem dX11_placeOf_69 : decode cX11_placeOf 69 = .ok (.getfield 122, 3) := by decide +kernel
theorem dX11_placeOf_72 : decode cX11_placeOf 72 = .ok (.ireturn, 1) := by decide +kernel
theorem dX11_placeOf_73 : decode cX11_placeOf 73 = .ok (.iload 4, 2) := by decide +kernel
theorem dX11_placeOf_75 : decode cX11_placeOf 75 = .ok (.ireturn, 1) := by decide +kernel
theorem dX11_placeOf_76 : decode cX11_placeOf 76 = .ok (.aload_n 0, 1) := by decide +kernel
theorem dX11_placeOf_77 : decode cX11_placeOf 77 = .ok (.getfield 10, 3) := by decide +kernel
theorem dX11_placeOf_80 : decode cX11_placeOf 80 = .ok (.getfield 223, 3) := by decide +kernel
theorem dX11_placeOf_83 : decode cX11_placeOf 83 = .ok (.aload_n 1, 1) := by decide +kernel
theorem dX11_placeOf_84 : decode cX11_placeOf 84 = .ok (.getfield 183, 3) := by decide +kernel
theorem dX11_placeOf_87 : decode cX11_placeOf 87 = .ok (.aload_n 3, 1) := by decide +kernel
theorem dX11_placeOf_88 : decode cX11_placeOf 88 = .ok (.getfield 122, 3) := by decide +kernel
theorem dX11_placeOf_91 : decode cX11_placeOf 91 = .ok (.iload 4, 2) := by decide +kernel
theorem dX11_placeOf_93 : decode cX11_placeOf 93 = .ok (.invokevirtual 415, 3) := by decide +kernel
theorem dX11_placeOf_96 : decode cX11_placeOf 96 = .ok (.ireturn, 1) := by decide +kernel
theorem dX11_placeOf_97 : decode cX11_placeOf 97 = .ok (.aload_n 0, 1) := by decide +kernel
theorem dX11_placeOf_98 : decode cX11_placeOf 98 = .ok (.getfield 10, 3) := by decide +kernel
theorem dX11_placeOf_101 : decode cX11_placeOf 101 = .ok (.getfield 223, 3) := by decide +kernel
theorem dX11_placeOf_104 : decode cX11_placeOf 104 = .ok (.aload_n 1, 1) := by decide +kernel
theorem dX11_placeOf_105 : decode cX11_placeOf 105 = .ok (.getfield 183, 3) := by decide +kernel
theorem dX11_placeOf_108 : decode cX11_placeOf 108 = .ok (.aload_n 3, 1) := by decide +kernel
theorem dX11_placeOf_109 : decode cX11_placeOf 109 = .ok (.getfield 122, 3) := by decide +kernel
theorem dX11_placeOf_112 : decode cX11_placeOf 112 = .ok (.iload 4, 2) := by decide +kernel
theorem dX11_placeOf_114 : decode cX11_placeOf 114 = .ok (.invokevirtual 265, 3) := by decide +kernel
theorem dX11_placeOf_117 : decode cX11_placeOf 117 = .ok (.ireturn, 1) := by decide +kernel
theorem dX11_placeOf_118 : decode cX11_placeOf 118 = .ok (.aload_n 3, 1) := by decide +kernel
theorem dX11_placeOf_119 : decode cX11_placeOf 119 = .ok (.getfield 400, 3) := by decide +kernel
theorem dX11_placeOf_122 : decode cX11_placeOf 122 = .ok (.ireturn, 1) := by decide +kernel
theorem dX11_at_0 : decode cX11_at 0 = .ok (.aload_n 0, 1) := by decide +kernel
theorem dX11_at_1 : decode cX11_at 1 = .ok (.getfield 10, 3) := by decide +kernel
theorem dX11_at_4 : decode cX11_at 4 = .ok (.iload_n 1, 1) := by decide +kernel
theorem dX11_at_5 : decode cX11_at 5 = .ok (.invokevirtual 184, 3) := by decide +kernel
theorem dX11_at_8 : decode cX11_at 8 = .ok (.astore_n 3, 1) := by decide +kernel
theorem dX11_at_9 : decode cX11_at 9 = .ok (.aload_n 3, 1) := by decide +kernel
theorem dX11_at_10 : decode cX11_at 10 = .ok (.ifnull 13, 3) := by decide +kernel
theorem dX11_at_13 : decode cX11_at 13 = .ok (.iload_n 2, 1) := by decide +kernel
theorem dX11_at_14 : decode cX11_at 14 = .ok (.iconst 0, 1) := by decide +kernel
theorem dX11_at_15 : decode cX11_at 15 = .ok (.bipush 7, 2) := by decide +kernel
theorem dX11_at_17 : decode cX11_at 17 = .ok (.invokestatic 82, 3) := by decide +kernel
theorem dX11_at_20 : decode cX11_at 20 = .ok (.ifCond .ne 11, 3) := by decide +kernel
theorem dX11_at_23 : decode cX11_at 23 = .ok (.new 251, 3) := by decide +kernel
theorem dX11_at_26 : decode cX11_at 26 = .ok (.dup, 1) := by decide +kernel
theorem dX11_at_27 : decode cX11_at 27 = .ok (.invokespecial 253, 3) := by decide +kernel
theorem dX11_at_30 : decode cX11_at 30 = .ok (.athrow, 1) := by decide +kernel
theorem dX11_at_31 : decode cX11_at 31 = .ok (.iload_n 2, 1) := by decide +kernel
theorem dX11_at_32 : decode cX11_at 32 = .ok (.ifCond .ne 12, 3) := by decide +kernel
theorem dX11_at_35 : decode cX11_at 35 = .ok (.aload_n 0, 1) := by decide +kernel
theorem dX11_at_36 : decode cX11_at 36 = .ok (.getfield 10, 3) := by decide +kernel
theorem dX11_at_39 : decode cX11_at 39 = .ok (.aload_n 3, 1) := by decide +kernel
theorem dX11_at_40 : decode cX11_at 40 = .ok (.invokevirtual 254, 3) := by decide +kernel
theorem dX11_at_43 : decode cX11_at 43 = .ok (.ireturn, 1) := by decide +kernel
theorem dX11_at_44 : decode cX11_at 44 = .ok (.iload_n 2, 1) := by decide +kernel
theorem dX11_at_45 : decode cX11_at 45 = .ok (.iconst 3, 1) := by decide +kernel
theorem dX11_at_46 : decode cX11_at 46 = .ok (.if_icmp .ne 8, 3) := by decide +kernel
theorem dX11_at_49 : decode cX11_at 49 = .ok (.aload_n 3, 1) := by decide +kernel
theorem dX11_at_50 : decode cX11_at 50 = .ok (.getfield 258, 3) := by decide +kernel
theorem dX11_at_53 : decode cX11_at 53 = .ok (.ireturn, 1) := by decide +kernel
theorem dX11_at_54 : decode cX11_at 54 = .ok (.iload_n 2, 1) := by decide +kernel
theorem dX11_at_55 : decode cX11_at 55 = .ok (.bipush 7, 2) := by decide +kernel
theorem dX11_at_57 : decode cX11_at 57 = .ok (.if_icmp .ne 10, 3) := by decide +kernel
theorem dX11_at_60 : decode cX11_at 60 = .ok (.aload_n 3, 1) := by decide +kernel
theorem dX11_at_61 : decode cX11_at 61 = .ok (.getfield 188, 3) := by decide +kernel
theorem dX11_at_64 : decode cX11_at 64 = .ok (.goto 9, 3) := by decide +kernel
theorem dX11_at_67 : decode cX11_at 67 = .ok (.aload_n 0, 1) := by decide +kernel
theorem dX11_at_68 : decode cX11_at 68 = .ok (.aload_n 3, 1) := by decide +kernel
theorem dX11_at_69 : decode cX11_at 69 = .ok (.iload_n 2, 1) := by decide +kernel
theorem dX11_at_70 : decode cX11_at 70 = .ok (.invokevirtual 261, 3) := by decide +kernel
theorem dX11_at_73 : decode cX11_at 73 = .ok (.ireturn, 1) := by decide +kernel
theorem dX11_on_0 : decode cX11_on 0 = .ok (.aload_n 0, 1) := by decide +kernel
theorem dX11_on_1 : decode cX11_on 1 = .ok (.getfield 10, 3) := by decide +kernel
theorem dX11_on_4 : decode cX11_on 4 = .ok (.iload_n 1, 1) := by decide +kernel
theorem dX11_on_5 : decode cX11_on 5 = .ok (.invokevirtual 125, 3) := by decide +kernel
theorem dX11_on_8 : decode cX11_on 8 = .ok (.ifnonnull 5, 3) := by decide +kernel
theorem dX11_on_11 : decode cX11_on 11 = .ok (.iconst (-1), 1) := by decide +kernel
theorem dX11_on_12 : decode cX11_on 12 = .ok (.ireturn, 1) := by decide +kernel
theorem dX11_on_13 : decode cX11_on 13 = .ok (.aload_n 0, 1) := by decide +kernel
theorem dX11_on_14 : decode cX11_on 14 = .ok (.getfield 44, 3) := by decide +kernel
theorem dX11_on_17 : decode cX11_on 17 = .ok (.invokevirtual 216, 3) := by decide +kernel
theorem dX11_on_20 : decode cX11_on 20 = .ok (.iconst (-1), 1) := by decide +kernel
theorem dX11_on_21 : decode cX11_on 21 = .ok (.istore_n 2, 1) := by decide +kernel
theorem dX11_on_22 : decode cX11_on 22 = .ok (.aload_n 0, 1) := by decide +kernel
theorem dX11_on_23 : decode cX11_on 23 = .ok (.getfield 10, 3) := by decide +kernel
theorem dX11_on_26 : decode cX11_on 26 = .ok (.getfield 223, 3) := by decide +kernel
theorem dX11_on_29 : decode cX11_on 29 = .ok (.iconst (-1), 1) := by decide +kernel
theorem dX11_on_30 : decode cX11_on 30 = .ok (.iload_n 1, 1) := by decide +kernel
theorem dX11_on_31 : decode cX11_on 31 = .ok (.iload_n 2, 1) := by decide +kernel
theorem dX11_on_32 : decode cX11_on 32 = .ok (.invokevirtual 265, 3) := by decide +kernel
theorem dX11_on_35 : decode cX11_on 35 = .ok (.istore_n 3, 1) := by decide +kernel
theorem dX11_on_36 : decode cX11_on 36 = .ok (.iconst 0, 1) := by decide +kernel
theorem dX11_on_37 : decode cX11_on 37 = .ok (.istore 4, 2) := by decide +kernel
theorem dX11_on_39 : decode cX11_on 39 = .ok (.iload 4, 2) := by decide +kernel
theorem dX11_on_41 : decode cX11_on 41 = .ok (.bipush 24, 2) := by decide +kernel
theorem dX11_on_43 : decode cX11_on 43 = .ok (.if_icmp .ge 48, 3) := by decide +kernel
theorem dX11_on_46 : decode cX11_on 46 = .ok (.iload_n 3, 1) := by decide +kernel
theorem dX11_on_47 : decode cX11_on 47 = .ok (.iconst (-1), 1) := by decide +kernel
theorem dX11_on_48 : decode cX11_on 48 = .ok (.if_icmp .eq 43, 3) := by decide +kernel
theorem dX11_on_51 : decode cX11_on 51 = .ok (.aload_n 0, 1) := by decide +kernel
theorem dX11_on_52 : decode cX11_on 52 = .ok (.getfield 44, 3) := by decide +kernel
theorem dX11_on_55 : decode cX11_on 55 = .ok (.iload_n 3, 1) := by decide +kernel
theorem dX11_on_56 : decode cX11_on 56 = .ok (.invokevirtual 207, 3) := by decide +kernel
theorem dX11_on_59 : decode cX11_on 59 = .ok (.aload_n 0, 1) := by decide +kernel
theorem dX11_on_60 : decode cX11_on 60 = .ok (.getfield 10, 3) := by decide +kernel
theorem dX11_on_63 : decode cX11_on 63 = .ok (.getfield 223, 3) := by decide +kernel
theorem dX11_on_66 : decode cX11_on 66 = .ok (.iload_n 3, 1) := by decide +kernel
theorem dX11_on_67 : decode cX11_on 67 = .ok (.invokevirtual 269, 3) := by decide +kernel
theorem dX11_on_70 : decode cX11_on 70 = .ok (.istore_n 2, 1) := by decide +kernel
theorem dX11_on_71 : decode cX11_on 71 = .ok (.aload_n 0, 1) := by decide +kernel
theorem dX11_on_72 : decode cX11_on 72 = .ok (.getfield 10, 3) := by decide +kernel
theorem dX11_on_75 : decode cX11_on 75 = .ok (.getfield 223, 3) := by decide +kernel
theorem dX11_on_78 : decode cX11_on 78 = .ok (.iconst (-1), 1) := by decide +kernel
theorem dX11_on_79 : decode cX11_on 79 = .ok (.iload_n 1, 1) := by decide +kernel
theorem dX11_on_80 : decode cX11_on 80 = .ok (.iload_n 2, 1) := by decide +kernel
theorem dX11_on_81 : decode cX11_on 81 = .ok (.invokevirtual 265, 3) := by decide +kernel
theorem dX11_on_84 : decode cX11_on 84 = .ok (.istore_n 3, 1) := by decide +kernel
theorem dX11_on_85 : decode cX11_on 85 = .ok (.iinc 4 1, 3) := by decide +kernel
theorem dX11_on_88 : decode cX11_on 88 = .ok (.goto (-49), 3) := by decide +kernel
theorem dX11_on_91 : decode cX11_on 91 = .ok (.aload_n 0, 1) := by decide +kernel
theorem dX11_on_92 : decode cX11_on 92 = .ok (.getfield 44, 3) := by decide +kernel
theorem dX11_on_95 : decode cX11_on 95 = .ok (.getfield 205, 3) := by decide +kernel
theorem dX11_on_98 : decode cX11_on 98 = .ok (.ireturn, 1) := by decide +kernel
theorem dX11_leastPlace_0 : decode cX11_leastPlace 0 = .ok (.aload_n 0, 1) := by decide +kernel
theorem dX11_leastPlace_1 : decode cX11_leastPlace 1 = .ok (.getfield 21, 3) := by decide +kernel
theorem dX11_leastPlace_4 : decode cX11_leastPlace 4 = .ok (.aload_n 0, 1) := by decide +kernel
theorem dX11_leastPlace_5 : decode cX11_leastPlace 5 = .ok (.getfield 10, 3) := by decide +kernel
theorem dX11_leastPlace_8 : decode cX11_leastPlace 8 = .ok (.getfield 223, 3) := by decide +kernel
theorem dX11_leastPlace_11 : decode cX11_leastPlace 11 = .ok (.aload_n 1, 1) := by decide +kernel
theorem dX11_leastPlace_12 : decode cX11_leastPlace 12 = .ok (.aload_n 2, 1) := by decide +kernel
theorem dX11_leastPlace_13 : decode cX11_leastPlace 13 = .ok (.iconst 0, 1) := by decide +kernel
theorem dX11_leastPlace_14 : decode cX11_leastPlace 14 = .ok (.invokevirtual 234, 3) := by decide +kernel
theorem dX11_leastPlace_17 : decode cX11_leastPlace 17 = .ok (.ifCond .ne 7, 3) := by decide +kernel
theorem dX11_leastPlace_20 : decode cX11_leastPlace 20 = .ok (.iconst 0, 1) := by decide +kernel
theorem dX11_leastPlace_21 : decode cX11_leastPlace 21 = .ok (.goto 4, 3) := by decide +kernel
theorem dX11_leastPlace_24 : decode cX11_leastPlace 24 = .ok (.iconst (-1), 1) := by decide +kernel
theorem dX11_leastPlace_25 : decode cX11_leastPlace 25 = .ok (.istore_n 3, 1) := by decide +kernel
theorem dX11_leastPlace_26 : decode cX11_leastPlace 26 = .ok (.iconst 0, 1) := by decide +kernel
theorem dX11_leastPlace_27 : decode cX11_leastPlace 27 = .ok (.istore 4, 2) := by decide +kernel
theorem dX11_leastPlace_29 : decode cX11_leastPlace 29 = .ok (.iload 4, 2) := by decide +kernel
theorem dX11_leastPlace_31 : decode cX11_leastPlace 31 = .ok (.aload_n 0, 1) := by decide +kernel
theorem dX11_leastPlace_32 : decode cX11_leastPlace 32 = .ok (.getfield 10, 3) := by decide +kernel
theorem dX11_leastPlace_35 : decode cX11_leastPlace 35 = .ok (.getfield 158, 3) := by decide +kernel
theorem dX11_leastPlace_38 : decode cX11_leastPlace 38 = .ok (.invokevirtual 90, 3) := by decide +kernel
theorem dX11_leastPlace_41 : decode cX11_leastPlace 41 = .ok (.if_icmp .ge 122, 3) := by decide +kernel
theorem dX11_leastPlace_44 : decode cX11_leastPlace 44 = .ok (.iload_n 3, 1) := by decide +kernel
theorem dX11_leastPlace_45 : decode cX11_leastPlace 45 = .ok (.ifCond .eq 118, 3) := by decide +kernel
theorem dX11_leastPlace_48 : decode cX11_leastPlace 48 = .ok (.iload 4, 2) := by decide +kernel
theorem dX11_leastPlace_50 : decode cX11_leastPlace 50 = .ok (.aload_n 1, 1) := by decide +kernel
theorem dX11_leastPlace_51 : decode cX11_leastPlace 51 = .ok (.getfield 183, 3) := by decide +kernel
theorem dX11_leastPlace_54 : decode cX11_leastPlace 54 = .ok (.if_icmp .eq 103, 3) := by decide +kernel
theorem dX11_leastPlace_57 : decode cX11_leastPlace 57 = .ok (.aload_n 0, 1) := by decide +kernel
theorem dX11_leastPlace_58 : decode cX11_leastPlace 58 = .ok (.getfield 10, 3) := by decide +kernel
theorem dX11_leastPlace_61 : decode cX11_leastPlace 61 = .ok (.getfield 223, 3) := by decide +kernel
theorem dX11_leastPlace_64 : decode cX11_leastPlace 64 = .ok (.iload 4, 2) := by decide +kernel
theorem dX11_leastPlace_66 : decode cX11_leastPlace 66 = .ok (.invokevirtual 418, 3) := by decide +kernel
theorem dX11_leastPlace_69 : decode cX11_leastPlace 69 = .ok (.aload_n 2, 1) := by decide +kernel
theorem dX11_leastPlace_70 : decode cX11_leastPlace 70 = .ok (.getfield 122, 3) := by decide +kernel
theorem dX11_leastPlace_73 : decode cX11_leastPlace 73 = .ok (.if_icmp .eq 6, 3) := by decide +kernel
theorem dX11_leastPlace_76 : decode cX11_leastPlace 76 = .ok (.goto 81, 3) := by decide +kernel
theorem dX11_leastPlace_79 : decode cX11_leastPlace 79 = .ok (.aload_n 0, 1) := by decide +kernel
theorem dX11_leastPlace_80 : decode cX11_leastPlace 80 = .ok (.getfield 10, 3) := by decide +kernel
theorem dX11_leastPlace_83 : decode cX11_leastPlace 83 = .ok (.getfield 223, 3) := by decide +kernel
theorem dX11_leastPlace_86 : decode cX11_leastPlace 86 = .ok (.iload 4, 2) := by decide +kernel
theorem dX11_leastPlace_88 : decode cX11_leastPlace 88 = .ok (.invokevirtual 269, 3) := by decide +kernel
theorem dX11_leastPlace_91 : decode cX11_leastPlace 91 = .ok (.aload_n 0, 1) := by decide +kernel
theorem dX11_leastPlace_92 : decode cX11_leastPlace 92 = .ok (.getfield 10, 3) := by decide +kernel
theorem dX11_leastPlace_95 : decode cX11_leastPlace 95 = .ok (.getfield 158, 3) := by decide +kernel
theorem dX11_leastPlace_98 : decode cX11_leastPlace 98 = .ok (.iload 4, 2) := by decide +kernel
theorem dX11_leastPlace_100 : decode cX11_leastPlace 100 = .ok (.invokevirtual 272, 3) := by decide +kernel
theorem dX11_leastPlace_103 : decode cX11_leastPlace 103 = .ok (.checkcast 161, 3) := by decide +kernel
theorem dX11_leastPlace_106 : decode cX11_leastPlace 106 = .ok (.getfield 164, 3) := by decide +kernel
theorem dX11_leastPlace_109 : decode cX11_leastPlace 109 = .ok (.iadd, 1) := by decide +kernel
theorem dX11_leastPlace_110 : decode cX11_leastPlace 110 = .ok (.aload_n 0, 1) := by decide +kernel
theorem dX11_leastPlace_111 : decode cX11_leastPlace 111 = .ok (.getfield 10, 3) := by decide +kernel
theorem dX11_leastPlace_114 : decode cX11_leastPlace 114 = .ok (.getfield 155, 3) := by decide +kernel
theorem dX11_leastPlace_117 : decode cX11_leastPlace 117 = .ok (.iconst 1, 1) := by decide +kernel
theorem dX11_leastPlace_118 : decode cX11_leastPlace 118 = .ok (.iaload, 1) := by decide +kernel
theorem dX11_leastPlace_119 : decode cX11_leastPlace 119 = .ok (.iadd, 1) := by decide +kernel
theorem dX11_leastPlace_120 : decode cX11_leastPlace 120 = .ok (.istore 5, 2) := by decide +kernel
theorem dX11_leastPlace_122 : decode cX11_leastPlace 122 = .ok (.iload_n 3, 1) := by decide +kernel
theorem dX11_leastPlace_123 : decode cX11_leastPlace 123 = .ok (.iconst (-1), 1) := by decide +kernel
theorem dX11_leastPlace_124 : decode cX11_leastPlace 124 = .ok (.if_icmp .eq 9, 3) := by decide +kernel
theorem dX11_leastPlace_127 : decode cX11_leastPlace 127 = .ok (.iload 5, 2) := by decide +kernel
theorem dX11_leastPlace_129 : decode cX11_leastPlace 129 = .ok (.iload_n 3, 1) := by decide +kernel
theorem dX11_leastPlace_130 : decode cX11_leastPlace 130 = .ok (.if_icmp .ge 27, 3) := by decide +kernel
theorem dX11_leastPlace_133 : decode cX11_leastPlace 133 = .ok (.aload_n 0, 1) := by decide +kernel
theorem dX11_leastPlace_134 : decode cX11_leastPlace 134 = .ok (.getfield 21, 3) := by decide +kernel
theorem dX11_leastPlace_137 : decode cX11_leastPlace 137 = .ok (.aload_n 0, 1) := by decide +kernel
theorem dX11_leastPlace_138 : decode cX11_leastPlace 138 = .ok (.getfield 10, 3) := by decide +kernel
theorem dX11_leastPlace_141 : decode cX11_leastPlace 141 = .ok (.getfield 223, 3) := by decide +kernel
theorem dX11_leastPlace_144 : decode cX11_leastPlace 144 = .ok (.aload_n 1, 1) := by decide +kernel
theorem dX11_leastPlace_145 : decode cX11_leastPlace 145 = .ok (.aload_n 2, 1) := by decide +kernel
theorem dX11_leastPlace_146 : decode cX11_leastPlace 146 = .ok (.iload 5, 2) := by decide +kernel
theorem dX11_leastPlace_148 : decode cX11_leastPlace 148 = .ok (.invokevirtual 234, 3) := by decide +kernel
theorem dX11_leastPlace_151 : decode cX11_leastPlace 151 = .ok (.ifCond .ne 6, 3) := by decide +kernel
theorem dX11_leastPlace_154 : decode cX11_leastPlace 154 = .ok (.iload 5, 2) := by decide +kernel
theorem dX11_leastPlace_156 : decode cX11_leastPlace 156 = .ok (.istore_n 3, 1) := by decide +kernel
theorem dX11_leastPlace_157 : decode cX11_leastPlace 157 = .ok (.iinc 4 1, 3) := by decide +kernel
theorem dX11_leastPlace_160 : decode cX11_leastPlace 160 = .ok (.goto (-131), 3) := by decide +kernel
theorem dX11_leastPlace_163 : decode cX11_leastPlace 163 = .ok (.iload_n 3, 1) := by decide +kernel
theorem dX11_leastPlace_164 : decode cX11_leastPlace 164 = .ok (.ireturn, 1) := by decide +kernel
theorem dX11_places_0 : decode cX11_places 0 = .ok (.aload_n 0, 1) := by decide +kernel
theorem dX11_places_1 : decode cX11_places 1 = .ok (.getfield 10, 3) := by decide +kernel
theorem dX11_places_4 : decode cX11_places 4 = .ok (.iload_n 1, 1) := by decide +kernel
theorem dX11_places_5 : decode cX11_places 5 = .ok (.invokevirtual 231, 3) := by decide +kernel
theorem dX11_places_8 : decode cX11_places 8 = .ok (.astore_n 2, 1) := by decide +kernel
theorem dX11_places_9 : decode cX11_places 9 = .ok (.aload_n 2, 1) := by decide +kernel
theorem dX11_places_10 : decode cX11_places 10 = .ok (.ifnonnull 5, 3) := by decide +kernel
theorem dX11_places_13 : decode cX11_places 13 = .ok (.iconst (-1), 1) := by decide +kernel
theorem dX11_places_14 : decode cX11_places 14 = .ok (.ireturn, 1) := by decide +kernel
theorem dX11_places_15 : decode cX11_places 15 = .ok (.aload_n 0, 1) := by decide +kernel
theorem dX11_places_16 : decode cX11_places 16 = .ok (.getfield 44, 3) := by decide +kernel
theorem dX11_places_19 : decode cX11_places 19 = .ok (.invokevirtual 216, 3) := by decide +kernel
theorem dX11_places_22 : decode cX11_places 22 = .ok (.iconst 0, 1) := by decide +kernel
theorem dX11_places_23 : decode cX11_places 23 = .ok (.istore_n 3, 1) := by decide +kernel
theorem dX11_places_24 : decode cX11_places 24 = .ok (.iload_n 3, 1) := by decide +kernel
theorem dX11_places_25 : decode cX11_places 25 = .ok (.aload_n 0, 1) := by decide +kernel
theorem dX11_places_26 : decode cX11_places 26 = .ok (.getfield 10, 3) := by decide +kernel
theorem dX11_places_29 : decode cX11_places 29 = .ok (.getfield 105, 3) := by decide +kernel
theorem dX11_places_32 : decode cX11_places 32 = .ok (.invokevirtual 90, 3) := by decide +kernel
theorem dX11_places_35 : decode cX11_places 35 = .ok (.if_icmp .ge 53, 3) := by decide +kernel
theorem dX11_places_38 : decode cX11_places 38 = .ok (.aload_n 0, 1) := by decide +kernel
theorem dX11_places_39 : decode cX11_places 39 = .ok (.aload_n 2, 1) := by decide +kernel
theorem dX11_places_40 : decode cX11_places 40 = .ok (.aload_n 0, 1) := by decide +kernel
theorem dX11_places_41 : decode cX11_places 41 = .ok (.getfield 10, 3) := by decide +kernel
theorem dX11_places_44 : decode cX11_places 44 = .ok (.getfield 105, 3) := by decide +kernel
theorem dX11_places_47 : decode cX11_places 47 = .ok (.iload_n 3, 1) := by decide +kernel
theorem dX11_places_48 : decode cX11_places 48 = .ok (.invokevirtual 272, 3) := by decide +kernel
theorem dX11_places_51 : decode cX11_places 51 = .ok (.checkcast 108, 3) := by decide +kernel
theorem dX11_places_54 : decode cX11_places 54 = .ok (.invokevirtual 276, 3) := by decide +kernel
theorem dX11_places_57 : decode cX11_places 57 = .ok (.istore 4, 2) := by decide +kernel
theorem dX11_places_59 : decode cX11_places 59 = .ok (.iload 4, 2) := by decide +kernel
theorem dX11_places_61 : decode cX11_places 61 = .ok (.iconst (-1), 1) := by decide +kernel
theorem dX11_places_62 : decode cX11_places 62 = .ok (.if_icmp .eq 20, 3) := by decide +kernel
theorem dX11_places_65 : decode cX11_places 65 = .ok (.aload_n 0, 1) := by decide +kernel
theorem dX11_places_66 : decode cX11_places 66 = .ok (.getfield 44, 3) := by decide +kernel
theorem dX11_places_69 : decode cX11_places 69 = .ok (.iload_n 3, 1) := by decide +kernel
theorem dX11_places_70 : decode cX11_places 70 = .ok (.invokevirtual 207, 3) := by decide +kernel
theorem dX11_places_73 : decode cX11_places 73 = .ok (.aload_n 0, 1) := by decide +kernel
theorem dX11_places_74 : decode cX11_places 74 = .ok (.getfield 44, 3) := by decide +kernel
theorem dX11_places_77 : decode cX11_places 77 = .ok (.iload 4, 2) := by decide +kernel
theorem dX11_places_79 : decode cX11_places 79 = .ok (.invokevirtual 207, 3) := by decide +kernel
theorem dX11_places_82 : decode cX11_places 82 = .ok (.iinc 3 1, 3) := by decide +kernel
theorem dX11_places_85 : decode cX11_places 85 = .ok (.goto (-61), 3) := by decide +kernel
theorem dX11_places_88 : decode cX11_places 88 = .ok (.aload_n 0, 1) := by decide +kernel
theorem dX11_places_89 : decode cX11_places 89 = .ok (.getfield 44, 3) := by decide +kernel
theorem dX11_places_92 : decode cX11_places 92 = .ok (.getfield 205, 3) := by decide +kernel
theorem dX11_places_95 : decode cX11_places 95 = .ok (.iconst 2, 1) := by decide +kernel
theorem dX11_places_96 : decode cX11_places 96 = .ok (.idiv, 1) := by decide +kernel
theorem dX11_places_97 : decode cX11_places 97 = .ok (.ireturn, 1) := by decide +kernel
theorem dX11_of_0 : decode cX11_of 0 = .ok (.aload_n 0, 1) := by decide +kernel
theorem dX11_of_1 : decode cX11_of 1 = .ok (.getfield 10, 3) := by decide +kernel
theorem dX11_of_4 : decode cX11_of 4 = .ok (.iload_n 1, 1) := by decide +kernel
theorem dX11_of_5 : decode cX11_of 5 = .ok (.invokevirtual 125, 3) := by decide +kernel
theorem dX11_of_8 : decode cX11_of 8 = .ok (.astore_n 3, 1) := by decide +kernel
theorem dX11_of_9 : decode cX11_of 9 = .ok (.aload_n 3, 1) := by decide +kernel
theorem dX11_of_10 : decode cX11_of 10 = .ok (.ifnonnull 5, 3) := by decide +kernel
theorem dX11_of_13 : decode cX11_of 13 = .ok (.iconst (-1), 1) := by decide +kernel
theorem dX11_of_14 : decode cX11_of 14 = .ok (.ireturn, 1) := by decide +kernel
theorem dX11_of_15 : decode cX11_of 15 = .ok (.iload_n 2, 1) := by decide +kernel
theorem dX11_of_16 : decode cX11_of 16 = .ok (.tableswitch 73 0 3 #[32, 41, 50, 59], 32) := by decide +kernel
theorem dX11_of_48 : decode cX11_of 48 = .ok (.aload_n 0, 1) := by decide +kernel
theorem dX11_of_49 : decode cX11_of 49 = .ok (.getfield 10, 3) := by decide +kernel
theorem dX11_of_52 : decode cX11_of 52 = .ok (.aload_n 3, 1) := by decide +kernel
theorem dX11_of_53 : decode cX11_of 53 = .ok (.invokevirtual 141, 3) := by decide +kernel
theorem dX11_of_56 : decode cX11_of 56 = .ok (.ireturn, 1) := by decide +kernel
theorem dX11_of_57 : decode cX11_of 57 = .ok (.aload_n 0, 1) := by decide +kernel
theorem dX11_of_58 : decode cX11_of 58 = .ok (.getfield 10, 3) := by decide +kernel
theorem dX11_of_61 : decode cX11_of 61 = .ok (.aload_n 3, 1) := by decide +kernel
theorem dX11_of_62 : decode cX11_of 62 = .ok (.invokevirtual 280, 3) := by decide +kernel
theorem dX11_of_65 : decode cX11_of 65 = .ok (.ireturn, 1) := by decide +kernel
theorem dX11_of_66 : decode cX11_of 66 = .ok (.aload_n 0, 1) := by decide +kernel
theorem dX11_of_67 : decode cX11_of 67 = .ok (.getfield 10, 3) := by decide +kernel
theorem dX11_of_70 : decode cX11_of 70 = .ok (.aload_n 3, 1) := by decide +kernel
theorem dX11_of_71 : decode cX11_of 71 = .ok (.invokevirtual 283, 3) := by decide +kernel
theorem dX11_of_74 : decode cX11_of 74 = .ok (.ireturn, 1) := by decide +kernel
theorem dX11_of_75 : decode cX11_of 75 = .ok (.aload_n 3, 1) := by decide +kernel
theorem dX11_of_76 : decode cX11_of 76 = .ok (.getfield 113, 3) := by decide +kernel
theorem dX11_of_79 : decode cX11_of 79 = .ok (.aload_n 0, 1) := by decide +kernel
theorem dX11_of_80 : decode cX11_of 80 = .ok (.getfield 10, 3) := by decide +kernel
theorem dX11_of_83 : decode cX11_of 83 = .ok (.aload_n 3, 1) := by decide +kernel
theorem dX11_of_84 : decode cX11_of 84 = .ok (.invokevirtual 286, 3) := by decide +kernel
theorem dX11_of_87 : decode cX11_of 87 = .ok (.isub, 1) := by decide +kernel
theorem dX11_of_88 : decode cX11_of 88 = .ok (.ireturn, 1) := by decide +kernel
theorem dX11_of_89 : decode cX11_of 89 = .ok (.iconst (-1), 1) := by decide +kernel
theorem dX11_of_90 : decode cX11_of 90 = .ok (.ireturn, 1) := by decide +kernel
theorem dX11_step_0 : decode cX11_step 0 = .ok (.iload_n 1, 1) := by decide +kernel
theorem dX11_step_1 : decode cX11_step 1 = .ok (.iconst 0, 1) := by decide +kernel
theorem dX11_step_2 : decode cX11_step 2 = .ok (.bipush 100, 2) := by decide +kernel
theorem dX11_step_4 : decode cX11_step 4 = .ok (.invokestatic 82, 3) := by decide +kernel
theorem dX11_step_7 : decode cX11_step 7 = .ok (.ifCond .eq 18, 3) := by decide +kernel
theorem dX11_step_10 : decode cX11_step 10 = .ok (.iload_n 1, 1) := by decide +kernel
theorem dX11_step_11 : decode cX11_step 11 = .ok (.sipush 400, 3) := by decide +kernel
theorem dX11_step_14 : decode cX11_step 14 = .ok (.aload_n 0, 1) := by decide +kernel
theorem dX11_step_15 : decode cX11_step 15 = .ok (.getfield 10, 3) := by decide +kernel
theorem dX11_step_18 : decode cX11_step 18 = .ok (.getfield 289, 3) := by decide +kernel
theorem dX11_step_21 : decode cX11_step 21 = .ok (.isub, 1) := by decide +kernel
theorem dX11_step_22 : decode cX11_step 22 = .ok (.if_icmp .le 5, 3) := by decide +kernel
theorem dX11_step_25 : decode cX11_step 25 = .ok (.iconst (-1), 1) := by decide +kernel
theorem dX11_step_26 : decode cX11_step 26 = .ok (.ireturn, 1) := by decide +kernel
theorem dX11_step_27 : decode cX11_step 27 = .ok (.iconst 0, 1) := by decide +kernel
theorem dX11_step_28 : decode cX11_step 28 = .ok (.istore_n 2, 1) := by decide +kernel
theorem dX11_step_29 : decode cX11_step 29 = .ok (.iload_n 2, 1) := by decide +kernel
theorem dX11_step_30 : decode cX11_step 30 = .ok (.iload_n 1, 1) := by decide +kernel
theorem dX11_step_31 : decode cX11_step 31 = .ok (.if_icmp .ge 16, 3) := by decide +kernel
theorem dX11_step_34 : decode cX11_step 34 = .ok (.aload_n 0, 1) := by decide +kernel
theorem dX11_step_35 : decode cX11_step 35 = .ok (.getfield 10, 3) := by decide +kernel
theorem dX11_step_38 : decode cX11_step 38 = .ok (.invokevirtual 292, 3) := by decide +kernel
theorem dX11_step_41 : decode cX11_step 41 = .ok (.iinc 2 1, 3) := by decide +kernel
theorem dX11_step_44 : decode cX11_step 44 = .ok (.goto (-15), 3) := by decide +kernel
theorem dX11_step_47 : decode cX11_step 47 = .ok (.aload_n 0, 1) := by decide +kernel
theorem dX11_step_48 : decode cX11_step 48 = .ok (.getfield 10, 3) := by decide +kernel
theorem dX11_step_51 : decode cX11_step 51 = .ok (.getfield 289, 3) := by decide +kernel
theorem dX11_step_54 : decode cX11_step 54 = .ok (.ireturn, 1) := by decide +kernel
theorem dX11_fades_0 : decode cX11_fades 0 = .ok (.aload_n 0, 1) := by decide +kernel
theorem dX11_fades_1 : decode cX11_fades 1 = .ok (.getfield 10, 3) := by decide +kernel
theorem dX11_fades_4 : decode cX11_fades 4 = .ok (.iload_n 1, 1) := by decide +kernel
theorem dX11_fades_5 : decode cX11_fades 5 = .ok (.invokevirtual 184, 3) := by decide +kernel
theorem dX11_fades_8 : decode cX11_fades 8 = .ok (.astore_n 2, 1) := by decide +kernel
theorem dX11_fades_9 : decode cX11_fades 9 = .ok (.aload_n 2, 1) := by decide +kernel
theorem dX11_fades_10 : decode cX11_fades 10 = .ok (.ifnonnull 7, 3) := by decide +kernel
theorem dX11_fades_13 : decode cX11_fades 13 = .ok (.aconst_null, 1) := by decide +kernel
theorem dX11_fades_14 : decode cX11_fades 14 = .ok (.goto 11, 3) := by decide +kernel
theorem dX11_fades_17 : decode cX11_fades 17 = .ok (.aload_n 0, 1) := by decide +kernel
theorem dX11_fades_18 : decode cX11_fades 18 = .ok (.getfield 10, 3) := by decide +kernel
theorem dX11_fades_21 : decode cX11_fades 21 = .ok (.aload_n 2, 1) := by decide +kernel
theorem dX11_fades_22 : decode cX11_fades 22 = .ok (.invokevirtual 295, 3) := by decide +kernel
theorem dX11_fades_25 : decode cX11_fades 25 = .ok (.astore_n 3, 1) := by decide +kernel
theorem dX11_fades_26 : decode cX11_fades 26 = .ok (.aload_n 2, 1) := by decide +kernel
theorem dX11_fades_27 : decode cX11_fades 27 = .ok (.ifnull 7, 3) := by decide +kernel
theorem dX11_fades_30 : decode cX11_fades 30 = .ok (.aload_n 3, 1) := by decide +kernel
theorem dX11_fades_31 : decode cX11_fades 31 = .ok (.ifnonnull 5, 3) := by decide +kernel
theorem dX11_fades_34 : decode cX11_fades 34 = .ok (.iconst (-1), 1) := by decide +kernel
theorem dX11_fades_35 : decode cX11_fades 35 = .ok (.ireturn, 1) := by decide +kernel
theorem dX11_fades_36 : decode cX11_fades 36 = .ok (.aload_n 2, 1) := by decide +kernel
theorem dX11_fades_37 : decode cX11_fades 37 = .ok (.getfield 258, 3) := by decide +kernel
theorem dX11_fades_40 : decode cX11_fades 40 = .ok (.aload_n 2, 1) := by decide +kernel
theorem dX11_fades_41 : decode cX11_fades 41 = .ok (.getfield 199, 3) := by decide +kernel
theorem dX11_fades_44 : decode cX11_fades 44 = .ok (.if_icmp .le 11, 3) := by decide +kernel
theorem dX11_fades_47 : decode cX11_fades 47 = .ok (.aload_n 0, 1) := by decide +kernel
theorem dX11_fades_48 : decode cX11_fades 48 = .ok (.getfield 10, 3) := by decide +kernel
theorem dX11_fades_51 : decode cX11_fades 51 = .ok (.getfield 289, 3) := by decide +kernel
theorem dX11_fades_54 : decode cX11_fades 54 = .ok (.ireturn, 1) := by decide +kernel
theorem dX11_fades_55 : decode cX11_fades 55 = .ok (.aload_n 0, 1) := by decide +kernel
theorem dX11_fades_56 : decode cX11_fades 56 = .ok (.getfield 10, 3) := by decide +kernel
theorem dX11_fades_59 : decode cX11_fades 59 = .ok (.aload_n 3, 1) := by decide +kernel
theorem dX11_fades_60 : decode cX11_fades 60 = .ok (.invokevirtual 141, 3) := by decide +kernel
theorem dX11_fades_63 : decode cX11_fades 63 = .ok (.istore 4, 2) := by decide +kernel
theorem dX11_fades_65 : decode cX11_fades 65 = .ok (.iload 4, 2) := by decide +kernel
theorem dX11_fades_67 : decode cX11_fades 67 = .ok (.ifCond .gt 5, 3) := by decide +kernel
theorem dX11_fades_70 : decode cX11_fades 70 = .ok (.iconst (-1), 1) := by decide +kernel
theorem dX11_fades_71 : decode cX11_fades 71 = .ok (.ireturn, 1) := by decide +kernel
theorem dX11_fades_72 : decode cX11_fades 72 = .ok (.aload_n 0, 1) := by decide +kernel
theorem dX11_fades_73 : decode cX11_fades 73 = .ok (.getfield 10, 3) := by decide +kernel
theorem dX11_fades_76 : decode cX11_fades 76 = .ok (.getfield 289, 3) := by decide +kernel
theorem dX11_fades_79 : decode cX11_fades 79 = .ok (.aload_n 2, 1) := by decide +kernel
theorem dX11_fades_80 : decode cX11_fades 80 = .ok (.getfield 199, 3) := by decide +kernel
theorem dX11_fades_83 : decode cX11_fades 83 = .ok (.aload_n 2, 1) := by decide +kernel
theorem dX11_fades_84 : decode cX11_fades 84 = .ok (.getfield 258, 3) := by decide +kernel
theorem dX11_fades_87 : decode cX11_fades 87 = .ok (.isub, 1) := by decide +kernel
theorem dX11_fades_88 : decode cX11_fades 88 = .ok (.iload 4, 2) := by decide +kernel
theorem dX11_fades_90 : decode cX11_fades 90 = .ok (.idiv, 1) := by decide +kernel
theorem dX11_fades_91 : decode cX11_fades 91 = .ok (.iadd, 1) := by decide +kernel
theorem dX11_fades_92 : decode cX11_fades 92 = .ok (.istore 5, 2) := by decide +kernel
theorem dX11_fades_94 : decode cX11_fades 94 = .ok (.iload 5, 2) := by decide +kernel
theorem dX11_fades_96 : decode cX11_fades 96 = .ok (.sipush 400, 3) := by decide +kernel
theorem dX11_fades_99 : decode cX11_fades 99 = .ok (.if_icmp .ge 8, 3) := by decide +kernel
theorem dX11_fades_102 : decode cX11_fades 102 = .ok (.iload 5, 2) := by decide +kernel
theorem dX11_fades_104 : decode cX11_fades 104 = .ok (.goto 4, 3) := by decide +kernel
theorem dX11_fades_107 : decode cX11_fades 107 = .ok (.iconst (-1), 1) := by decide +kernel
theorem dX11_fades_108 : decode cX11_fades 108 = .ok (.ireturn, 1) := by decide +kernel
theorem dX11_shown_0 : decode cX11_shown 0 = .ok (.aload_n 0, 1) := by decide +kernel
theorem dX11_shown_1 : decode cX11_shown 1 = .ok (.getfield 10, 3) := by decide +kernel
theorem dX11_shown_4 : decode cX11_shown 4 = .ok (.iload_n 1, 1) := by decide +kernel
theorem dX11_shown_5 : decode cX11_shown 5 = .ok (.invokevirtual 184, 3) := by decide +kernel
theorem dX11_shown_8 : decode cX11_shown 8 = .ok (.ifnull 29, 3) := by decide +kernel
theorem dX11_shown_11 : decode cX11_shown 11 = .ok (.iload_n 2, 1) := by decide +kernel
theorem dX11_shown_12 : decode cX11_shown 12 = .ok (.iconst 0, 1) := by decide +kernel
theorem dX11_shown_13 : decode cX11_shown 13 = .ok (.sipush 400, 3) := by decide +kernel
theorem dX11_shown_16 : decode cX11_shown 16 = .ok (.invokestatic 82, 3) := by decide +kernel
theorem dX11_shown_19 : decode cX11_shown 19 = .ok (.ifCond .eq 18, 3) := by decide +kernel
theorem dX11_shown_22 : decode cX11_shown 22 = .ok (.iload_n 3, 1) := by decide +kernel
theorem dX11_shown_23 : decode cX11_shown 23 = .ok (.iload_n 2, 1) := by decide +kernel
theorem dX11_shown_24 : decode cX11_shown 24 = .ok (.sipush 400, 3) := by decide +kernel
theorem dX11_shown_27 : decode cX11_shown 27 = .ok (.invokestatic 82, 3) := by decide +kernel
theorem dX11_shown_30 : decode cX11_shown 30 = .ok (.ifCond .eq 7, 3) := by decide +kernel
theorem dX11_shown_33 : decode cX11_shown 33 = .ok (.iconst 1, 1) := by decide +kernel
theorem dX11_shown_34 : decode cX11_shown 34 = .ok (.goto 4, 3) := by decide +kernel
theorem dX11_shown_37 : decode cX11_shown 37 = .ok (.iconst 0, 1) := by decide +kernel
theorem dX11_shown_38 : decode cX11_shown 38 = .ok (.istore 4, 2) := by decide +kernel
theorem dX11_shown_40 : decode cX11_shown 40 = .ok (.iload 4, 2) := by decide +kernel
theorem dX11_shown_42 : decode cX11_shown 42 = .ok (.ifCond .eq 18, 3) := by decide +kernel
theorem dX11_shown_45 : decode cX11_shown 45 = .ok (.aload_n 0, 1) := by decide +kernel
theorem dX11_shown_46 : decode cX11_shown 46 = .ok (.getfield 10, 3) := by decide +kernel
theorem dX11_shown_49 : decode cX11_shown 49 = .ok (.iconst 1, 1) := by decide +kernel
theorem dX11_shown_50 : decode cX11_shown 50 = .ok (.iload_n 1, 1) := by decide +kernel
theorem dX11_shown_51 : decode cX11_shown 51 = .ok (.ishl, 1) := by decide +kernel
theorem dX11_shown_52 : decode cX11_shown 52 = .ok (.iload_n 2, 1) := by decide +kernel
theorem dX11_shown_53 : decode cX11_shown 53 = .ok (.iload_n 3, 1) := by decide +kernel
theorem dX11_shown_54 : decode cX11_shown 54 = .ok (.invokevirtual 299, 3) := by decide +kernel
theorem dX11_shown_57 : decode cX11_shown 57 = .ok (.goto 4, 3) := by decide +kernel
theorem dX11_shown_60 : decode cX11_shown 60 = .ok (.iconst (-1), 1) := by decide +kernel
theorem dX11_shown_61 : decode cX11_shown 61 = .ok (.ireturn, 1) := by decide +kernel
theorem dX11_owed_0 : decode cX11_owed 0 = .ok (.iload_n 1, 1) := by decide +kernel
theorem dX11_owed_1 : decode cX11_owed 1 = .ok (.iconst 0, 1) := by decide +kernel
theorem dX11_owed_2 : decode cX11_owed 2 = .ok (.bipush 7, 2) := by decide +kernel
theorem dX11_owed_4 : decode cX11_owed 4 = .ok (.invokestatic 82, 3) := by decide +kernel
theorem dX11_owed_7 : decode cX11_owed 7 = .ok (.ifCond .eq 18, 3) := by decide +kernel
theorem dX11_owed_10 : decode cX11_owed 10 = .ok (.iload_n 2, 1) := by decide +kernel
theorem dX11_owed_11 : decode cX11_owed 11 = .ok (.iconst 0, 1) := by decide +kernel
theorem dX11_owed_12 : decode cX11_owed 12 = .ok (.aload_n 0, 1) := by decide +kernel
theorem dX11_owed_13 : decode cX11_owed 13 = .ok (.getfield 10, 3) := by decide +kernel
theorem dX11_owed_16 : decode cX11_owed 16 = .ok (.getfield 289, 3) := by decide +kernel
theorem dX11_owed_19 : decode cX11_owed 19 = .ok (.invokestatic 82, 3) := by decide +kernel
theorem dX11_owed_22 : decode cX11_owed 22 = .ok (.ifCond .ne 5, 3) := by decide +kernel
theorem dX11_owed_25 : decode cX11_owed 25 = .ok (.iconst (-1), 1) := by decide +kernel
theorem dX11_owed_26 : decode cX11_owed 26 = .ok (.ireturn, 1) := by decide +kernel
theorem dX11_owed_27 : decode cX11_owed 27 = .ok (.aload_n 0, 1) := by decide +kernel
theorem dX11_owed_28 : decode cX11_owed 28 = .ok (.getfield 10, 3) := by decide +kernel
theorem dX11_owed_31 : decode cX11_owed 31 = .ok (.iload_n 1, 1) := by decide +kernel
theorem dX11_owed_32 : decode cX11_owed 32 = .ok (.invokevirtual 302, 3) := by decide +kernel
theorem dX11_owed_35 : decode cX11_owed 35 = .ok (.istore_n 3, 1) := by decide +kernel
theorem dX11_owed_36 : decode cX11_owed 36 = .ok (.iload_n 2, 1) := by decide +kernel
theorem dX11_owed_37 : decode cX11_owed 37 = .ok (.iload_n 3, 1) := by decide +kernel
theorem dX11_owed_38 : decode cX11_owed 38 = .ok (.invokestatic 305, 3) := by decide +kernel
theorem dX11_owed_41 : decode cX11_owed 41 = .ok (.imul, 1) := by decide +kernel
theorem dX11_owed_42 : decode cX11_owed 42 = .ok (.aload_n 0, 1) := by decide +kernel
theorem dX11_owed_43 : decode cX11_owed 43 = .ok (.getfield 10, 3) := by decide +kernel
theorem dX11_owed_46 : decode cX11_owed 46 = .ok (.iload_n 3, 1) := by decide +kernel
theorem dX11_owed_47 : decode cX11_owed 47 = .ok (.aload_n 0, 1) := by decide +kernel
theorem dX11_owed_48 : decode cX11_owed 48 = .ok (.getfield 10, 3) := by decide +kernel
theorem dX11_owed_51 : decode cX11_owed 51 = .ok (.getfield 289, 3) := by decide +kernel
theorem dX11_owed_54 : decode cX11_owed 54 = .ok (.iload_n 2, 1) := by decide +kernel
theorem dX11_owed_55 : decode cX11_owed 55 = .ok (.isub, 1) := by decide +kernel
theorem dX11_owed_56 : decode cX11_owed 56 = .ok (.aload_n 0, 1) := by decide +kernel
theorem dX11_owed_57 : decode cX11_owed 57 = .ok (.getfield 10, 3) := by decide +kernel
theorem dX11_owed_60 : decode cX11_owed 60 = .ok (.getfield 289, 3) := by decide +kernel
theorem dX11_owed_63 : decode cX11_owed 63 = .ok (.invokevirtual 299, 3) := by decide +kernel
theorem dX11_owed_66 : decode cX11_owed 66 = .ok (.isub, 1) := by decide +kernel
theorem dX11_owed_67 : decode cX11_owed 67 = .ok (.ireturn, 1) := by decide +kernel
theorem dX11_like_0 : decode cX11_like 0 = .ok (.iload_n 1, 1) := by decide +kernel
theorem dX11_like_1 : decode cX11_like 1 = .ok (.iconst 0, 1) := by decide +kernel
theorem dX11_like_2 : decode cX11_like 2 = .ok (.bipush 7, 2) := by decide +kernel
theorem dX11_like_4 : decode cX11_like 4 = .ok (.invokestatic 82, 3) := by decide +kernel
theorem dX11_like_7 : decode cX11_like 7 = .ok (.ifCond .eq 24, 3) := by decide +kernel
theorem dX11_like_10 : decode cX11_like 10 = .ok (.iload_n 2, 1) := by decide +kernel
theorem dX11_like_11 : decode cX11_like 11 = .ok (.iconst 0, 1) := by decide +kernel
theorem dX11_like_12 : decode cX11_like 12 = .ok (.bipush 7, 2) := by decide +kernel
theorem dX11_like_14 : decode cX11_like 14 = .ok (.invokestatic 82, 3) := by decide +kernel
theorem dX11_like_17 : decode cX11_like 17 = .ok (.ifCond .eq 14, 3) := by decide +kernel
theorem dX11_like_20 : decode cX11_like 20 = .ok (.iload_n 3, 1) := by decide +kernel
theorem dX11_like_21 : decode cX11_like 21 = .ok (.bipush (-99), 2) := by decide +kernel
theorem dX11_like_23 : decode cX11_like 23 = .ok (.bipush 99, 2) := by decide +kernel
theorem dX11_like_25 : decode cX11_like 25 = .ok (.invokestatic 82, 3) := by decide +kernel
theorem dX11_like_28 : decode cX11_like 28 = .ok (.ifCond .ne 11, 3) := by decide +kernel
theorem dX11_like_31 : decode cX11_like 31 = .ok (.new 251, 3) := by decide +kernel
theorem dX11_like_34 : decode cX11_like 34 = .ok (.dup, 1) := by decide +kernel
theorem dX11_like_35 : decode cX11_like 35 = .ok (.invokespecial 253, 3) := by decide +kernel
theorem dX11_like_38 : decode cX11_like 38 = .ok (.athrow, 1) := by decide +kernel
theorem dX11_like_39 : decode cX11_like 39 = .ok (.aload_n 0, 1) := by decide +kernel
theorem dX11_like_40 : decode cX11_like 40 = .ok (.getfield 10, 3) := by decide +kernel
theorem dX11_like_43 : decode cX11_like 43 = .ok (.getfield 310, 3) := by decide +kernel
theorem dX11_like_46 : decode cX11_like 46 = .ok (.iload_n 1, 1) := by decide +kernel
theorem dX11_like_47 : decode cX11_like 47 = .ok (.bipush 8, 2) := by decide +kernel
theorem dX11_like_49 : decode cX11_like 49 = .ok (.imul, 1) := by decide +kernel
theorem dX11_like_50 : decode cX11_like 50 = .ok (.iload_n 2, 1) := by decide +kernel
theorem dX11_like_51 : decode cX11_like 51 = .ok (.iadd, 1) := by decide +kernel
theorem dX11_like_52 : decode cX11_like 52 = .ok (.iaload, 1) := by decide +kernel
theorem dX11_like_53 : decode cX11_like 53 = .ok (.istore 4, 2) := by decide +kernel
theorem dX11_like_55 : decode cX11_like 55 = .ok (.aload_n 0, 1) := by decide +kernel
theorem dX11_like_56 : decode cX11_like 56 = .ok (.getfield 10, 3) := by decide +kernel
theorem dX11_like_59 : decode cX11_like 59 = .ok (.getfield 310, 3) := by decide +kernel
theorem dX11_like_62 : decode cX11_like 62 = .ok (.iload_n 1, 1) := by decide +kernel
theorem dX11_like_63 : decode cX11_like 63 = .ok (.bipush 8, 2) := by decide +kernel
theorem dX11_like_65 : decode cX11_like 65 = .ok (.imul, 1) := by decide +kernel
theorem dX11_like_66 : decode cX11_like 66 = .ok (.iload_n 2, 1) := by decide +kernel
theorem dX11_like_67 : decode cX11_like 67 = .ok (.iadd, 1) := by decide +kernel
theorem dX11_like_68 : decode cX11_like 68 = .ok (.iload_n 3, 1) := by decide +kernel
theorem dX11_like_69 : decode cX11_like 69 = .ok (.iastore, 1) := by decide +kernel
theorem dX11_like_70 : decode cX11_like 70 = .ok (.aload_n 0, 1) := by decide +kernel
theorem dX11_like_71 : decode cX11_like 71 = .ok (.getfield 10, 3) := by decide +kernel
theorem dX11_like_74 : decode cX11_like 74 = .ok (.getfield 310, 3) := by decide +kernel
theorem dX11_like_77 : decode cX11_like 77 = .ok (.iload_n 2, 1) := by decide +kernel
theorem dX11_like_78 : decode cX11_like 78 = .ok (.bipush 8, 2) := by decide +kernel
theorem dX11_like_80 : decode cX11_like 80 = .ok (.imul, 1) := by decide +kernel
theorem dX11_like_81 : decode cX11_like 81 = .ok (.iload_n 1, 1) := by decide +kernel
theorem dX11_like_82 : decode cX11_like 82 = .ok (.iadd, 1) := by decide +kernel
theorem dX11_like_83 : decode cX11_like 83 = .ok (.iload_n 3, 1) := by decide +kernel
theorem dX11_like_84 : decode cX11_like 84 = .ok (.iastore, 1) := by decide +kernel
theorem dX11_like_85 : decode cX11_like 85 = .ok (.iload 4, 2) := by decide +kernel
theorem dX11_like_87 : decode cX11_like 87 = .ok (.ireturn, 1) := by decide +kernel
theorem dX11_best_0 : decode cX11_best 0 = .ok (.aload_n 0, 1) := by decide +kernel
theorem dX11_best_1 : decode cX11_best 1 = .ok (.getfield 10, 3) := by decide +kernel
theorem dX11_best_4 : decode cX11_best 4 = .ok (.iload_n 1, 1) := by decide +kernel
theorem dX11_best_5 : decode cX11_best 5 = .ok (.invokevirtual 125, 3) := by decide +kernel
theorem dX11_best_8 : decode cX11_best 8 = .ok (.astore_n 3, 1) := by decide +kernel
theorem dX11_best_9 : decode cX11_best 9 = .ok (.aload_n 3, 1) := by decide +kernel
theorem dX11_best_10 : decode cX11_best 10 = .ok (.ifnull 25, 3) := by decide +kernel
theorem dX11_best_13 : decode cX11_best 13 = .ok (.aload_n 0, 1) := by decide +kernel
theorem dX11_best_14 : decode cX11_best 14 = .ok (.getfield 28, 3) := by decide +kernel
theorem dX11_best_17 : decode cX11_best 17 = .ok (.iload_n 2, 1) := by decide +kernel
theorem dX11_best_18 : decode cX11_best 18 = .ok (.invokevirtual 313, 3) := by decide +kernel
theorem dX11_best_21 : decode cX11_best 21 = .ok (.ifCond .eq 14, 3) := by decide +kernel
theorem dX11_best_24 : decode cX11_best 24 = .ok (.aload_n 0, 1) := by decide +kernel
theorem dX11_best_25 : decode cX11_best 25 = .ok (.getfield 28, 3) := by decide +kernel
theorem dX11_best_28 : decode cX11_best 28 = .ok (.aload_n 3, 1) := by decide +kernel
theorem dX11_best_29 : decode cX11_best 29 = .ok (.invokevirtual 316, 3) := by decide +kernel
theorem dX11_best_32 : decode cX11_best 32 = .ok (.ifCond .ne 11, 3) := by decide +kernel
theorem dX11_best_35 : decode cX11_best 35 = .ok (.new 251, 3) := by decide +kernel
theorem dX11_best_38 : decode cX11_best 38 = .ok (.dup, 1) := by decide +kernel
theorem dX11_best_39 : decode cX11_best 39 = .ok (.invokespecial 253, 3) := by decide +kernel
theorem dX11_best_42 : decode cX11_best 42 = .ok (.athrow, 1) := by decide +kernel
theorem dX11_best_43 : decode cX11_best 43 = .ok (.aload_n 0, 1) := by decide +kernel
theorem dX11_best_44 : decode cX11_best 44 = .ok (.getfield 28, 3) := by decide +kernel
theorem dX11_best_47 : decode cX11_best 47 = .ok (.aload_n 3, 1) := by decide +kernel
theorem dX11_best_48 : decode cX11_best 48 = .ok (.invokevirtual 320, 3) := by decide +kernel
theorem dX11_best_51 : decode cX11_best 51 = .ok (.istore 4, 2) := by decide +kernel
theorem dX11_best_53 : decode cX11_best 53 = .ok (.aload_n 0, 1) := by decide +kernel
theorem dX11_best_54 : decode cX11_best 54 = .ok (.getfield 44, 3) := by decide +kernel
theorem dX11_best_57 : decode cX11_best 57 = .ok (.aload_n 0, 1) := by decide +kernel
theorem dX11_best_58 : decode cX11_best 58 = .ok (.getfield 28, 3) := by decide +kernel
theorem dX11_best_61 : decode cX11_best 61 = .ok (.getfield 323, 3) := by decide +kernel
theorem dX11_best_64 : decode cX11_best 64 = .ok (.invokevirtual 326, 3) := by decide +kernel
theorem dX11_best_67 : decode cX11_best 67 = .ok (.iload 4, 2) := by decide +kernel
theorem dX11_best_69 : decode cX11_best 69 = .ok (.ireturn, 1) := by decide +kernel
theorem dX11_lay_0 : decode cX11_lay 0 = .ok (.aload_n 0, 1) := by decide +kernel
theorem dX11_lay_1 : decode cX11_lay 1 = .ok (.getfield 28, 3) := by decide +kernel
theorem dX11_lay_4 : decode cX11_lay 4 = .ok (.getfield 323, 3) := by decide +kernel
theorem dX11_lay_7 : decode cX11_lay 7 = .ok (.getfield 205, 3) := by decide +kernel
theorem dX11_lay_10 : decode cX11_lay 10 = .ok (.istore_n 1, 1) := by decide +kernel
theorem dX11_lay_11 : decode cX11_lay 11 = .ok (.iload_n 1, 1) := by decide +kernel
theorem dX11_lay_12 : decode cX11_lay 12 = .ok (.ifCond .eq 20, 3) := by decide +kernel
theorem dX11_lay_15 : decode cX11_lay 15 = .ok (.aload_n 0, 1) := by decide +kernel
theorem dX11_lay_16 : decode cX11_lay 16 = .ok (.getfield 28, 3) := by decide +kernel
theorem dX11_lay_19 : decode cX11_lay 19 = .ok (.aload_n 0, 1) := by decide +kernel
theorem dX11_lay_20 : decode cX11_lay 20 = .ok (.getfield 28, 3) := by decide +kernel
theorem dX11_lay_23 : decode cX11_lay 23 = .ok (.getfield 323, 3) := by decide +kernel
theorem dX11_lay_26 : decode cX11_lay 26 = .ok (.invokevirtual 330, 3) := by decide +kernel
theorem dX11_lay_29 : decode cX11_lay 29 = .ok (.ifCond .ne 5, 3) := by decide +kernel
theorem dX11_lay_32 : decode cX11_lay 32 = .ok (.iconst (-1), 1) := by decide +kernel
theorem dX11_lay_33 : decode cX11_lay 33 = .ok (.ireturn, 1) := by decide +kernel
theorem dX11_lay_34 : decode cX11_lay 34 = .ok (.aload_n 0, 1) := by decide +kernel
theorem dX11_lay_35 : decode cX11_lay 35 = .ok (.getfield 28, 3) := by decide +kernel
theorem dX11_lay_38 : decode cX11_lay 38 = .ok (.invokevirtual 334, 3) := by decide +kernel
theorem dX11_lay_41 : decode cX11_lay 41 = .ok (.iload_n 1, 1) := by decide +kernel
theorem dX11_lay_42 : decode cX11_lay 42 = .ok (.ireturn, 1) := by decide +kernel
theorem dX11_tale_0 : decode cX11_tale 0 = .ok (.aload_n 0, 1) := by decide +kernel
theorem dX11_tale_1 : decode cX11_tale 1 = .ok (.getfield 10, 3) := by decide +kernel
theorem dX11_tale_4 : decode cX11_tale 4 = .ok (.iload_n 1, 1) := by decide +kernel
theorem dX11_tale_5 : decode cX11_tale 5 = .ok (.invokevirtual 184, 3) := by decide +kernel
theorem dX11_tale_8 : decode cX11_tale 8 = .ok (.ifnull 27, 3) := by decide +kernel
theorem dX11_tale_11 : decode cX11_tale 11 = .ok (.aload_n 0, 1) := by decide +kernel
theorem dX11_tale_12 : decode cX11_tale 12 = .ok (.getfield 51, 3) := by decide +kernel
theorem dX11_tale_15 : decode cX11_tale 15 = .ok (.iload_n 1, 1) := by decide +kernel
theorem dX11_tale_16 : decode cX11_tale 16 = .ok (.invokevirtual 337, 3) := by decide +kernel
theorem dX11_tale_19 : decode cX11_tale 19 = .ok (.iconst (-1), 1) := by decide +kernel
theorem dX11_tale_20 : decode cX11_tale 20 = .ok (.if_icmp .ne 15, 3) := by decide +kernel
theorem dX11_tale_23 : decode cX11_tale 23 = .ok (.aload_n 0, 1) := by decide +kernel
theorem dX11_tale_24 : decode cX11_tale 24 = .ok (.getfield 51, 3) := by decide +kernel
theorem dX11_tale_27 : decode cX11_tale 27 = .ok (.getfield 205, 3) := by decide +kernel
theorem dX11_tale_30 : decode cX11_tale 30 = .ok (.bipush 12, 2) := by decide +kernel
theorem dX11_tale_32 : decode cX11_tale 32 = .ok (.if_icmp .lt 5, 3) := by decide +kernel
theorem dX11_tale_35 : decode cX11_tale 35 = .ok (.iconst (-1), 1) := by decide +kernel
theorem dX11_tale_36 : decode cX11_tale 36 = .ok (.ireturn, 1) := by decide +kernel
theorem dX11_tale_37 : decode cX11_tale 37 = .ok (.aload_n 0, 1) := by decide +kernel
theorem dX11_tale_38 : decode cX11_tale 38 = .ok (.getfield 51, 3) := by decide +kernel
theorem dX11_tale_41 : decode cX11_tale 41 = .ok (.iload_n 1, 1) := by decide +kernel
theorem dX11_tale_42 : decode cX11_tale 42 = .ok (.invokevirtual 207, 3) := by decide +kernel
theorem dX11_tale_45 : decode cX11_tale 45 = .ok (.aload_n 0, 1) := by decide +kernel
theorem dX11_tale_46 : decode cX11_tale 46 = .ok (.getfield 51, 3) := by decide +kernel
theorem dX11_tale_49 : decode cX11_tale 49 = .ok (.getfield 205, 3) := by decide +kernel
theorem dX11_tale_52 : decode cX11_tale 52 = .ok (.ireturn, 1) := by decide +kernel
theorem dX11_route_0 : decode cX11_route 0 = .ok (.aload_n 0, 1) := by decide +kernel
theorem dX11_route_1 : decode cX11_route 1 = .ok (.getfield 10, 3) := by decide +kernel
theorem dX11_route_4 : decode cX11_route 4 = .ok (.iload_n 1, 1) := by decide +kernel
theorem dX11_route_5 : decode cX11_route 5 = .ok (.invokevirtual 78, 3) := by decide +kernel
theorem dX11_route_8 : decode cX11_route 8 = .ok (.ifCond .eq 27, 3) := by decide +kernel
theorem dX11_route_11 : decode cX11_route 11 = .ok (.aload_n 0, 1) := by decide +kernel
theorem dX11_route_12 : decode cX11_route 12 = .ok (.getfield 54, 3) := by decide +kernel
theorem dX11_route_15 : decode cX11_route 15 = .ok (.iload_n 1, 1) := by decide +kernel
theorem dX11_route_16 : decode cX11_route 16 = .ok (.invokevirtual 337, 3) := by decide +kernel
theorem dX11_route_19 : decode cX11_route 19 = .ok (.iconst (-1), 1) := by decide +kernel
theorem dX11_route_20 : decode cX11_route 20 = .ok (.if_icmp .ne 15, 3) := by decide +kernel
theorem dX11_route_23 : decode cX11_route 23 = .ok (.aload_n 0, 1) := by decide +kernel
theorem dX11_route_24 : decode cX11_route 24 = .ok (.getfield 54, 3) := by decide +kernel
theorem dX11_route_27 : decode cX11_route 27 = .ok (.getfield 205, 3) := by decide +kernel
theorem dX11_route_30 : decode cX11_route 30 = .ok (.bipush 10, 2) := by decide +kernel
theorem dX11_route_32 : decode cX11_route 32 = .ok (.if_icmp .lt 5, 3) := by decide +kernel
theorem dX11_route_35 : decode cX11_route 35 = .ok (.iconst (-1), 1) := by decide +kernel
theorem dX11_route_36 : decode cX11_route 36 = .ok (.ireturn, 1) := by decide +kernel
theorem dX11_route_37 : decode cX11_route 37 = .ok (.aload_n 0, 1) := by decide +kernel
theorem dX11_route_38 : decode cX11_route 38 = .ok (.getfield 54, 3) := by decide +kernel
theorem dX11_route_41 : decode cX11_route 41 = .ok (.iload_n 1, 1) := by decide +kernel
theorem dX11_route_42 : decode cX11_route 42 = .ok (.invokevirtual 207, 3) := by decide +kernel
theorem dX11_route_45 : decode cX11_route 45 = .ok (.aload_n 0, 1) := by decide +kernel
theorem dX11_route_46 : decode cX11_route 46 = .ok (.getfield 54, 3) := by decide +kernel
theorem dX11_route_49 : decode cX11_route 49 = .ok (.getfield 205, 3) := by decide +kernel
theorem dX11_route_52 : decode cX11_route 52 = .ok (.ireturn, 1) := by decide +kernel
theorem dX11_meeting_0 : decode cX11_meeting 0 = .ok (.aload_n 1, 1) := by decide +kernel
theorem dX11_meeting_1 : decode cX11_meeting 1 = .ok (.ifnonnull 7, 3) := by decide +kernel
theorem dX11_meeting_4 : decode cX11_meeting 4 = .ok (.aconst_null, 1) := by decide +kernel
theorem dX11_meeting_5 : decode cX11_meeting 5 = .ok (.goto 11, 3) := by decide +kernel
theorem dX11_meeting_8 : decode cX11_meeting 8 = .ok (.aload_n 0, 1) := by decide +kernel
theorem dX11_meeting_9 : decode cX11_meeting 9 = .ok (.getfield 10, 3) := by decide +kernel
theorem dX11_meeting_12 : decode cX11_meeting 12 = .ok (.aload_n 1, 1) := by decide +kernel
theorem dX11_meeting_13 : decode cX11_meeting 13 = .ok (.invokevirtual 295, 3) := by decide +kernel
theorem dX11_meeting_16 : decode cX11_meeting 16 = .ok (.astore_n 2, 1) := by decide +kernel
theorem dX11_meeting_17 : decode cX11_meeting 17 = .ok (.aload_n 1, 1) := by decide +kernel
theorem dX11_meeting_18 : decode cX11_meeting 18 = .ok (.ifnull 7, 3) := by decide +kernel
theorem dX11_meeting_21 : decode cX11_meeting 21 = .ok (.aload_n 2, 1) := by decide +kernel
theorem dX11_meeting_22 : decode cX11_meeting 22 = .ok (.ifnonnull 7, 3) := by decide +kernel
theorem dX11_meeting_25 : decode cX11_meeting 25 = .ok (.iconst (-1), 1) := by decide +kernel
theorem dX11_meeting_26 : decode cX11_meeting 26 = .ok (.goto 14, 3) := by decide +kernel
theorem dX11_meeting_29 : decode cX11_meeting 29 = .ok (.aload_n 0, 1) := by decide +kernel
theorem dX11_meeting_30 : decode cX11_meeting 30 = .ok (.getfield 54, 3) := by decide +kernel
theorem dX11_meeting_33 : decode cX11_meeting 33 = .ok (.aload_n 2, 1) := by decide +kernel
theorem dX11_meeting_34 : decode cX11_meeting 34 = .ok (.getfield 400, 3) := by decide +kernel
theorem dX11_meeting_37 : decode cX11_meeting 37 = .ok (.invokevirtual 337, 3) := by decide +kernel
theorem dX11_meeting_40 : decode cX11_meeting 40 = .ok (.istore_n 3, 1) := by decide +kernel
theorem dX11_meeting_41 : decode cX11_meeting 41 = .ok (.iload_n 3, 1) := by decide +kernel
theorem dX11_meeting_42 : decode cX11_meeting 42 = .ok (.iconst (-1), 1) := by decide +kernel
theorem dX11_meeting_43 : decode cX11_meeting 43 = .ok (.if_icmp .ne 7, 3) := by decide +kernel
theorem dX11_meeting_46 : decode cX11_meeting 46 = .ok (.iconst (-1), 1) := by decide +kernel
theorem dX11_meeting_47 : decode cX11_meeting 47 = .ok (.goto 31, 3) := by decide +kernel
theorem dX11_meeting_50 : decode cX11_meeting 50 = .ok (.iload_n 3, 1) := by decide +kernel
theorem dX11_meeting_51 : decode cX11_meeting 51 = .ok (.bipush 16, 2) := by decide +kernel
theorem dX11_meeting_53 : decode cX11_meeting 53 = .ok (.imul, 1) := by decide +kernel
theorem dX11_meeting_54 : decode cX11_meeting 54 = .ok (.aload_n 2, 1) := by decide +kernel
theorem dX11_meeting_55 : decode cX11_meeting 55 = .ok (.getfield 122, 3) := by decide +kernel
theorem dX11_meeting_58 : decode cX11_meeting 58 = .ok (.iadd, 1) := by decide +kernel
theorem dX11_meeting_59 : decode cX11_meeting 59 = .ok (.sipush 4096, 3) := by decide +kernel
theorem dX11_meeting_62 : decode cX11_meeting 62 = .ok (.imul, 1) := by decide +kernel
theorem dX11_meeting_63 : decode cX11_meeting 63 = .ok (.aload_n 0, 1) := by decide +kernel
theorem dX11_meeting_64 : decode cX11_meeting 64 = .ok (.getfield 10, 3) := by decide +kernel
theorem dX11_meeting_67 : decode cX11_meeting 67 = .ok (.getfield 223, 3) := by decide +kernel
theorem dX11_meeting_70 : decode cX11_meeting 70 = .ok (.aload_n 1, 1) := by decide +kernel
theorem dX11_meeting_71 : decode cX11_meeting 71 = .ok (.getfield 183, 3) := by decide +kernel
theorem dX11_meeting_74 : decode cX11_meeting 74 = .ok (.invokevirtual 269, 3) := by decide +kernel
theorem dX11_meeting_77 : decode cX11_meeting 77 = .ok (.iadd, 1) := by decide +kernel
theorem dX11_meeting_78 : decode cX11_meeting 78 = .ok (.ireturn, 1) := by decide +kernel
theorem dX11_longestAfter_0 : decode cX11_longestAfter 0 = .ok (.iconst 0, 1) := by decide +kernel
theorem dX11_longestAfter_1 : decode cX11_longestAfter 1 = .ok (.istore_n 2, 1) := by decide +kernel
theorem dX11_longestAfter_2 : decode cX11_longestAfter 2 = .ok (.iload_n 1, 1) := by decide +kernel
theorem dX11_longestAfter_3 : decode cX11_longestAfter 3 = .ok (.iconst 1, 1) := by decide +kernel
theorem dX11_longestAfter_4 : decode cX11_longestAfter 4 = .ok (.iadd, 1) := by decide +kernel
theorem dX11_longestAfter_5 : decode cX11_longestAfter 5 = .ok (.istore_n 3, 1) := by decide +kernel
theorem dX11_longestAfter_6 : decode cX11_longestAfter 6 = .ok (.iload_n 3, 1) := by decide +kernel
theorem dX11_longestAfter_7 : decode cX11_longestAfter 7 = .ok (.aload_n 0, 1) := by decide +kernel
theorem dX11_longestAfter_8 : decode cX11_longestAfter 8 = .ok (.getfield 51, 3) := by decide +kernel
theorem dX11_longestAfter_11 : decode cX11_longestAfter 11 = .ok (.getfield 205, 3) := by decide +kernel
theorem dX11_longestAfter_14 : decode cX11_longestAfter 14 = .ok (.if_icmp .ge 35, 3) := by decide +kernel
theorem dX11_longestAfter_17 : decode cX11_longestAfter 17 = .ok (.aload_n 0, 1) := by decide +kernel
theorem dX11_longestAfter_18 : decode cX11_longestAfter 18 = .ok (.getfield 57, 3) := by decide +kernel
theorem dX11_longestAfter_21 : decode cX11_longestAfter 21 = .ok (.iload_n 3, 1) := by decide +kernel
theorem dX11_longestAfter_22 : decode cX11_longestAfter 22 = .ok (.iaload, 1) := by decide +kernel
theorem dX11_longestAfter_23 : decode cX11_longestAfter 23 = .ok (.aload_n 0, 1) := by decide +kernel
theorem dX11_longestAfter_24 : decode cX11_longestAfter 24 = .ok (.getfield 57, 3) := by decide +kernel
theorem dX11_longestAfter_27 : decode cX11_longestAfter 27 = .ok (.iload_n 1, 1) := by decide +kernel
theorem dX11_longestAfter_28 : decode cX11_longestAfter 28 = .ok (.iaload, 1) := by decide +kernel
theorem dX11_longestAfter_29 : decode cX11_longestAfter 29 = .ok (.if_icmp .le 14, 3) := by decide +kernel
theorem dX11_longestAfter_32 : decode cX11_longestAfter 32 = .ok (.iload_n 2, 1) := by decide +kernel
theorem dX11_longestAfter_33 : decode cX11_longestAfter 33 = .ok (.aload_n 0, 1) := by decide +kernel
theorem dX11_longestAfter_34 : decode cX11_longestAfter 34 = .ok (.getfield 61, 3) := by decide +kernel
theorem dX11_longestAfter_37 : decode cX11_longestAfter 37 = .ok (.iload_n 3, 1) := by decide +kernel
theorem dX11_longestAfter_38 : decode cX11_longestAfter 38 = .ok (.iaload, 1) := by decide +kernel
theorem dX11_longestAfter_39 : decode cX11_longestAfter 39 = .ok (.invokestatic 347, 3) := by decide +kernel
theorem dX11_longestAfter_42 : decode cX11_longestAfter 42 = .ok (.istore_n 2, 1) := by decide +kernel
theorem dX11_longestAfter_43 : decode cX11_longestAfter 43 = .ok (.iinc 3 1, 3) := by decide +kernel
theorem dX11_longestAfter_46 : decode cX11_longestAfter 46 = .ok (.goto (-40), 3) := by decide +kernel
theorem dX11_longestAfter_49 : decode cX11_longestAfter 49 = .ok (.iload_n 2, 1) := by decide +kernel
theorem dX11_longestAfter_50 : decode cX11_longestAfter 50 = .ok (.ireturn, 1) := by decide +kernel
theorem dX11_tellChain_0 : decode cX11_tellChain 0 = .ok (.aload_n 0, 1) := by decide +kernel
theorem dX11_tellChain_1 : decode cX11_tellChain 1 = .ok (.getfield 44, 3) := by decide +kernel
theorem dX11_tellChain_4 : decode cX11_tellChain 4 = .ok (.invokevirtual 216, 3) := by decide +kernel
theorem dX11_tellChain_7 : decode cX11_tellChain 7 = .ok (.iload_n 1, 1) := by decide +kernel
theorem dX11_tellChain_8 : decode cX11_tellChain 8 = .ok (.istore_n 2, 1) := by decide +kernel
theorem dX11_tellChain_9 : decode cX11_tellChain 9 = .ok (.iconst (-1), 1) := by decide +kernel
theorem dX11_tellChain_10 : decode cX11_tellChain 10 = .ok (.istore_n 3, 1) := by decide +kernel
theorem dX11_tellChain_11 : decode cX11_tellChain 11 = .ok (.iconst 0, 1) := by decide +kernel
theorem dX11_tellChain_12 : decode cX11_tellChain 12 = .ok (.istore 4, 2) := by decide +kernel
theorem dX11_tellChain_14 : decode cX11_tellChain 14 = .ok (.iload 4, 2) := by decide +kernel
theorem dX11_tellChain_16 : decode cX11_tellChain 16 = .ok (.aload_n 0, 1) := by decide +kernel
theorem dX11_tellChain_17 : decode cX11_tellChain 17 = .ok (.getfield 51, 3) := by decide +kernel
theorem dX11_tellChain_20 : decode cX11_tellChain 20 = .ok (.getfield 205, 3) := by decide +kernel
theorem dX11_tellChain_23 : decode cX11_tellChain 23 = .ok (.if_icmp .ge 62, 3) := by decide +kernel
theorem dX11_tellChain_26 : decode cX11_tellChain 26 = .ok (.iload_n 2, 1) := by decide +kernel
theorem dX11_tellChain_27 : decode cX11_tellChain 27 = .ok (.ifCond .le 52, 3) := by decide +kernel
theorem dX11_tellChain_30 : decode cX11_tellChain 30 = .ok (.aload_n 0, 1) := by decide +kernel
theorem dX11_tellChain_31 : decode cX11_tellChain 31 = .ok (.getfield 61, 3) := by decide +kernel
theorem dX11_tellChain_34 : decode cX11_tellChain 34 = .ok (.iload 4, 2) := by decide +kernel
theorem dX11_tellChain_36 : decode cX11_tellChain 36 = .ok (.iaload, 1) := by decide +kernel
theorem dX11_tellChain_37 : decode cX11_tellChain 37 = .ok (.iload_n 2, 1) := by decide +kernel
theorem dX11_tellChain_38 : decode cX11_tellChain 38 = .ok (.if_icmp .ne 41, 3) := by decide +kernel
theorem dX11_tellChain_41 : decode cX11_tellChain 41 = .ok (.aload_n 0, 1) := by decide +kernel
theorem dX11_tellChain_42 : decode cX11_tellChain 42 = .ok (.getfield 57, 3) := by decide +kernel
theorem dX11_tellChain_45 : decode cX11_tellChain 45 = .ok (.iload 4, 2) := by decide +kernel
theorem dX11_tellChain_47 : decode cX11_tellChain 47 = .ok (.iaload, 1) := by decide +kernel
theorem dX11_tellChain_48 : decode cX11_tellChain 48 = .ok (.iload_n 3, 1) := by decide +kernel
theorem dX11_tellChain_49 : decode cX11_tellChain 49 = .ok (.if_icmp .le 30, 3) := by decide +kernel
theorem dX11_tellChain_52 : decode cX11_tellChain 52 = .ok (.aload_n 0, 1) := by decide +kernel
theorem dX11_tellChain_53 : decode cX11_tellChain 53 = .ok (.getfield 44, 3) := by decide +kernel
theorem dX11_tellChain_56 : decode cX11_tellChain 56 = .ok (.aload_n 0, 1) := by decide +kernel
theorem dX11_tellChain_57 : decode cX11_tellChain 57 = .ok (.getfield 51, 3) := by decide +kernel
theorem dX11_tellChain_60 : decode cX11_tellChain 60 = .ok (.iload 4, 2) := by decide +kernel
theorem dX11_tellChain_62 : decode cX11_tellChain 62 = .ok (.invokevirtual 339, 3) := by decide +kernel
theorem dX11_tellChain_65 : decode cX11_tellChain 65 = .ok (.invokevirtual 207, 3) := by decide +kernel
theorem dX11_tellChain_68 : decode cX11_tellChain 68 = .ok (.aload_n 0, 1) := by decide +kernel
theorem dX11_tellChain_69 : decode cX11_tellChain 69 = .ok (.getfield 57, 3) := by decide +kernel
theorem dX11_tellChain_72 : decode cX11_tellChain 72 = .ok (.iload 4, 2) := by decide +kernel
theorem dX11_tellChain_74 : decode cX11_tellChain 74 = .ok (.iaload, 1) := by decide +kernel
theorem dX11_tellChain_75 : decode cX11_tellChain 75 = .ok (.istore_n 3, 1) := by decide +kernel
theorem dX11_tellChain_76 : decode cX11_tellChain 76 = .ok (.iinc 2 (-1), 3) := by decide +kernel
theorem dX11_tellChain_79 : decode cX11_tellChain 79 = .ok (.iinc 4 1, 3) := by decide +kernel
theorem dX11_tellChain_82 : decode cX11_tellChain 82 = .ok (.goto (-68), 3) := by decide +kernel
theorem dX11_tellChain_85 : decode cX11_tellChain 85 = .ok (.return_, 1) := by decide +kernel
theorem dX11_breaks_0 : decode cX11_breaks 0 = .ok (.iconst 0, 1) := by decide +kernel
theorem dX11_breaks_1 : decode cX11_breaks 1 = .ok (.istore_n 1, 1) := by decide +kernel
theorem dX11_breaks_2 : decode cX11_breaks 2 = .ok (.iconst 0, 1) := by decide +kernel
theorem dX11_breaks_3 : decode cX11_breaks 3 = .ok (.istore_n 2, 1) := by decide +kernel
theorem dX11_breaks_4 : decode cX11_breaks 4 = .ok (.iload_n 2, 1) := by decide +kernel
theorem dX11_breaks_5 : decode cX11_breaks 5 = .ok (.aload_n 0, 1) := by decide +kernel
theorem dX11_breaks_6 : decode cX11_breaks 6 = .ok (.getfield 51, 3) := by decide +kernel
theorem dX11_breaks_9 : decode cX11_breaks 9 = .ok (.getfield 205, 3) := by decide +kernel
theorem dX11_breaks_12 : decode cX11_breaks 12 = .ok (.if_icmp .ge 52, 3) := by decide +kernel
theorem dX11_breaks_15 : decode cX11_breaks 15 = .ok (.aload_n 0, 1) := by decide +kernel
theorem dX11_breaks_16 : decode cX11_breaks 16 = .ok (.getfield 57, 3) := by decide +kernel
theorem dX11_breaks_19 : decode cX11_breaks 19 = .ok (.iload_n 2, 1) := by decide +kernel
theorem dX11_breaks_20 : decode cX11_breaks 20 = .ok (.aload_n 0, 1) := by decide +kernel
theorem dX11_breaks_21 : decode cX11_breaks 21 = .ok (.aload_n 0, 1) := by decide +kernel
theorem dX11_breaks_22 : decode cX11_breaks 22 = .ok (.getfield 10, 3) := by decide +kernel
theorem dX11_breaks_25 : decode cX11_breaks 25 = .ok (.aload_n 0, 1) := by decide +kernel
theorem dX11_breaks_26 : decode cX11_breaks 26 = .ok (.getfield 51, 3) := by decide +kernel
theorem dX11_breaks_29 : decode cX11_breaks 29 = .ok (.iload_n 2, 1) := by decide +kernel
theorem dX11_breaks_30 : decode cX11_breaks 30 = .ok (.invokevirtual 339, 3) := by decide +kernel
theorem dX11_breaks_33 : decode cX11_breaks 33 = .ok (.invokevirtual 184, 3) := by decide +kernel
theorem dX11_breaks_36 : decode cX11_breaks 36 = .ok (.invokevirtual 341, 3) := by decide +kernel
theorem dX11_breaks_39 : decode cX11_breaks 39 = .ok (.iastore, 1) := by decide +kernel
theorem dX11_breaks_40 : decode cX11_breaks 40 = .ok (.iload_n 1, 1) := by decide +kernel
theorem dX11_breaks_41 : decode cX11_breaks 41 = .ok (.aload_n 0, 1) := by decide +kernel
theorem dX11_breaks_42 : decode cX11_breaks 42 = .ok (.getfield 57, 3) := by decide +kernel
theorem dX11_breaks_45 : decode cX11_breaks 45 = .ok (.iload_n 2, 1) := by decide +kernel
theorem dX11_breaks_46 : decode cX11_breaks 46 = .ok (.iaload, 1) := by decide +kernel
theorem dX11_breaks_47 : decode cX11_breaks 47 = .ok (.iconst (-1), 1) := by decide +kernel
theorem dX11_breaks_48 : decode cX11_breaks 48 = .ok (.if_icmp .ne 7, 3) := by decide +kernel
theorem dX11_breaks_51 : decode cX11_breaks 51 = .ok (.iconst 0, 1) := by decide +kernel
theorem dX11_breaks_52 : decode cX11_breaks 52 = .ok (.goto 4, 3) := by decide +kernel
theorem dX11_breaks_55 : decode cX11_breaks 55 = .ok (.iconst 1, 1) := by decide +kernel
theorem dX11_breaks_56 : decode cX11_breaks 56 = .ok (.iadd, 1) := by decide +kernel
theorem dX11_breaks_57 : decode cX11_breaks 57 = .ok (.istore_n 1, 1) := by decide +kernel
theorem dX11_breaks_58 : decode cX11_breaks 58 = .ok (.iinc 2 1, 3) := by decide +kernel
theorem dX11_breaks_61 : decode cX11_breaks 61 = .ok (.goto (-57), 3) := by decide +kernel
theorem dX11_breaks_64 : decode cX11_breaks 64 = .ok (.iconst 0, 1) := by decide +kernel
theorem dX11_breaks_65 : decode cX11_breaks 65 = .ok (.istore_n 2, 1) := by decide +kernel
theorem dX11_breaks_66 : decode cX11_breaks 66 = .ok (.aload_n 0, 1) := by decide +kernel
theorem dX11_breaks_67 : decode cX11_breaks 67 = .ok (.getfield 51, 3) := by decide +kernel
theorem dX11_breaks_70 : decode cX11_breaks 70 = .ok (.getfield 205, 3) := by decide +kernel
theorem dX11_breaks_73 : decode cX11_breaks 73 = .ok (.iconst 1, 1) := by decide +kernel
theorem dX11_breaks_74 : decode cX11_breaks 74 = .ok (.isub, 1) := by decide +kernel
theorem dX11_breaks_75 : decode cX11_breaks 75 = .ok (.istore_n 3, 1) := by decide +kernel
theorem dX11_breaks_76 : decode cX11_breaks 76 = .ok (.iload_n 3, 1) := by decide +kernel
theorem dX11_breaks_77 : decode cX11_breaks 77 = .ok (.ifCond .lt 47, 3) := by decide +kernel
theorem dX11_breaks_80 : decode cX11_breaks 80 = .ok (.aload_n 0, 1) := by decide +kernel
theorem dX11_breaks_81 : decode cX11_breaks 81 = .ok (.getfield 61, 3) := by decide +kernel
theorem dX11_breaks_84 : decode cX11_breaks 84 = .ok (.iload_n 3, 1) := by decide +kernel
theorem dX11_breaks_85 : decode cX11_breaks 85 = .ok (.aload_n 0, 1) := by decide +kernel
theorem dX11_breaks_86 : decode cX11_breaks 86 = .ok (.getfield 57, 3) := by decide +kernel
theorem dX11_breaks_89 : decode cX11_breaks 89 = .ok (.iload_n 3, 1) := by decide +kernel
theorem dX11_breaks_90 : decode cX11_breaks 90 = .ok (.iaload, 1) := by decide +kernel
theorem dX11_breaks_91 : decode cX11_breaks 91 = .ok (.iconst (-1), 1) := by decide +kernel
theorem dX11_breaks_92 : decode cX11_breaks 92 = .ok (.if_icmp .ne 7, 3) := by decide +kernel
theorem dX11_breaks_95 : decode cX11_breaks 95 = .ok (.iconst 0, 1) := by decide +kernel
theorem dX11_breaks_96 : decode cX11_breaks 96 = .ok (.goto 10, 3) := by decide +kernel
theorem dX11_breaks_99 : decode cX11_breaks 99 = .ok (.iconst 1, 1) := by decide +kernel
theorem dX11_breaks_100 : decode cX11_breaks 100 = .ok (.aload_n 0, 1) := by decide +kernel
theorem dX11_breaks_101 : decode cX11_breaks 101 = .ok (.iload_n 3, 1) := by decide +kernel
theorem dX11_breaks_102 : decode cX11_breaks 102 = .ok (.invokevirtual 344, 3) := by decide +kernel
theorem dX11_breaks_105 : decode cX11_breaks 105 = .ok (.iadd, 1) := by decide +kernel
theorem dX11_breaks_106 : decode cX11_breaks 106 = .ok (.iastore, 1) := by decide +kernel
theorem dX11_breaks_107 : decode cX11_breaks 107 = .ok (.iload_n 2, 1) := by decide +kernel
theorem dX11_breaks_108 : decode cX11_breaks 108 = .ok (.aload_n 0, 1) := by decide +kernel
theorem dX11_breaks_109 : decode cX11_breaks 109 = .ok (.getfield 61, 3) := by decide +kernel
theorem dX11_breaks_112 : decode cX11_breaks 112 = .ok (.iload_n 3, 1) := by decide +kernel
theorem dX11_breaks_113 : decode cX11_breaks 113 = .ok (.iaload, 1) := by decide +kernel
theorem dX11_breaks_114 : decode cX11_breaks 114 = .ok (.invokestatic 347, 3) := by decide +kernel
theorem dX11_breaks_117 : decode cX11_breaks 117 = .ok (.istore_n 2, 1) := by decide +kernel
theorem dX11_breaks_118 : decode cX11_breaks 118 = .ok (.iinc 3 (-1), 3) := by decide +kernel
theorem dX11_breaks_121 : decode cX11_breaks 121 = .ok (.goto (-45), 3) := by decide +kernel
theorem dX11_breaks_124 : decode cX11_breaks 124 = .ok (.aload_n 0, 1) := by decide +kernel
theorem dX11_breaks_125 : decode cX11_breaks 125 = .ok (.iload_n 2, 1) := by decide +kernel
theorem dX11_breaks_126 : decode cX11_breaks 126 = .ok (.invokevirtual 353, 3) := by decide +kernel
theorem dX11_breaks_129 : decode cX11_breaks 129 = .ok (.iload_n 1, 1) := by decide +kernel
theorem dX11_breaks_130 : decode cX11_breaks 130 = .ok (.iload_n 2, 1) := by decide +kernel
theorem dX11_breaks_131 : decode cX11_breaks 131 = .ok (.isub, 1) := by decide +kernel
theorem dX11_breaks_132 : decode cX11_breaks 132 = .ok (.ireturn, 1) := by decide +kernel
theorem dX11_shut_0 : decode cX11_shut 0 = .ok (.aload_n 0, 1) := by decide +kernel
theorem dX11_shut_1 : decode cX11_shut 1 = .ok (.getfield 10, 3) := by decide +kernel
theorem dX11_shut_4 : decode cX11_shut 4 = .ok (.iload_n 1, 1) := by decide +kernel
theorem dX11_shut_5 : decode cX11_shut 5 = .ok (.invokevirtual 78, 3) := by decide +kernel
theorem dX11_shut_8 : decode cX11_shut 8 = .ok (.ifCond .ne 5, 3) := by decide +kernel
theorem dX11_shut_11 : decode cX11_shut 11 = .ok (.iconst 0, 1) := by decide +kernel
theorem dX11_shut_12 : decode cX11_shut 12 = .ok (.ireturn, 1) := by decide +kernel
theorem dX11_shut_13 : decode cX11_shut 13 = .ok (.aload_n 0, 1) := by decide +kernel
theorem dX11_shut_14 : decode cX11_shut 14 = .ok (.getfield 10, 3) := by decide +kernel
theorem dX11_shut_17 : decode cX11_shut 17 = .ok (.iload_n 2, 1) := by decide +kernel
theorem dX11_shut_18 : decode cX11_shut 18 = .ok (.ifCond .eq 17, 3) := by decide +kernel
theorem dX11_shut_21 : decode cX11_shut 21 = .ok (.aload_n 0, 1) := by decide +kernel
theorem dX11_shut_22 : decode cX11_shut 22 = .ok (.getfield 10, 3) := by decide +kernel
theorem dX11_shut_25 : decode cX11_shut 25 = .ok (.getfield 356, 3) := by decide +kernel
theorem dX11_shut_28 : decode cX11_shut 28 = .ok (.iconst 1, 1) := by decide +kernel
theorem dX11_shut_29 : decode cX11_shut 29 = .ok (.iload_n 1, 1) := by decide +kernel
theorem dX11_shut_30 : decode cX11_shut 30 = .ok (.ishl, 1) := by decide +kernel
theorem dX11_shut_31 : decode cX11_shut 31 = .ok (.ior, 1) := by decide +kernel
theorem dX11_shut_32 : decode cX11_shut 32 = .ok (.goto 16, 3) := by decide +kernel
theorem dX11_shut_35 : decode cX11_shut 35 = .ok (.aload_n 0, 1) := by decide +kernel
theorem dX11_shut_36 : decode cX11_shut 36 = .ok (.getfield 10, 3) := by decide +kernel
theorem dX11_shut_39 : decode cX11_shut 39 = .ok (.getfield 356, 3) := by decide +kernel
theorem dX11_shut_42 : decode cX11_shut 42 = .ok (.iconst 1, 1) := by decide +kernel
theorem dX11_shut_43 : decode cX11_shut 43 = .ok (.iload_n 1, 1) := by decide +kernel
theorem dX11_shut_44 : decode cX11_shut 44 = .ok (.ishl, 1) := by decide +kernel
theorem dX11_shut_45 : decode cX11_shut 45 = .ok (.iconst (-1), 1) := by decide +kernel
theorem dX11_shut_46 : decode cX11_shut 46 = .ok (.ixor, 1) := by decide +kernel
theorem dX11_shut_47 : decode cX11_shut 47 = .ok (.iand, 1) := by decide +kernel
theorem dX11_shut_48 : decode cX11_shut 48 = .ok (.putfield 356, 3) := by decide +kernel
theorem dX11_shut_51 : decode cX11_shut 51 = .ok (.iconst 1, 1) := by decide +kernel
theorem dX11_shut_52 : decode cX11_shut 52 = .ok (.ireturn, 1) := by decide +kernel
theorem dX11_way_0 : decode cX11_way 0 = .ok (.aload_n 0, 1) := by decide +kernel
theorem dX11_way_1 : decode cX11_way 1 = .ok (.getfield 10, 3) := by decide +kernel
theorem dX11_way_4 : decode cX11_way 4 = .ok (.iload_n 1, 1) := by decide +kernel
theorem dX11_way_5 : decode cX11_way 5 = .ok (.invokevirtual 184, 3) := by decide +kernel
theorem dX11_way_8 : decode cX11_way 8 = .ok (.astore 4, 2) := by decide +kernel
theorem dX11_way_10 : decode cX11_way 10 = .ok (.aload 4, 2) := by decide +kernel
theorem dX11_way_12 : decode cX11_way 12 = .ok (.ifnull 25, 3) := by decide +kernel
theorem dX11_way_15 : decode cX11_way 15 = .ok (.aload_n 0, 1) := by decide +kernel
theorem dX11_way_16 : decode cX11_way 16 = .ok (.getfield 10, 3) := by decide +kernel
theorem dX11_way_19 : decode cX11_way 19 = .ok (.iload_n 2, 1) := by decide +kernel
theorem dX11_way_20 : decode cX11_way 20 = .ok (.invokevirtual 78, 3) := by decide +kernel
theorem dX11_way_23 : decode cX11_way 23 = .ok (.ifCond .eq 14, 3) := by decide +kernel
theorem dX11_way_26 : decode cX11_way 26 = .ok (.aload_n 0, 1) := by decide +kernel
theorem dX11_way_27 : decode cX11_way 27 = .ok (.getfield 10, 3) := by decide +kernel
theorem dX11_way_30 : decode cX11_way 30 = .ok (.iload_n 3, 1) := by decide +kernel
theorem dX11_way_31 : decode cX11_way 31 = .ok (.invokevirtual 78, 3) := by decide +kernel
theorem dX11_way_34 : decode cX11_way 34 = .ok (.ifCond .ne 5, 3) := by decide +kernel
theorem dX11_way_37 : decode cX11_way 37 = .ok (.iconst (-1), 1) := by decide +kernel
theorem dX11_way_38 : decode cX11_way 38 = .ok (.ireturn, 1) := by decide +kernel
theorem dX11_way_39 : decode cX11_way 39 = .ok (.aload_n 0, 1) := by decide +kernel
theorem dX11_way_40 : decode cX11_way 40 = .ok (.getfield 10, 3) := by decide +kernel
theorem dX11_way_43 : decode cX11_way 43 = .ok (.aload 4, 2) := by decide +kernel
theorem dX11_way_45 : decode cX11_way 45 = .ok (.iload_n 2, 1) := by decide +kernel
theorem dX11_way_46 : decode cX11_way 46 = .ok (.iload_n 3, 1) := by decide +kernel
theorem dX11_way_47 : decode cX11_way 47 = .ok (.iconst (-1), 1) := by decide +kernel
theorem dX11_way_48 : decode cX11_way 48 = .ok (.invokevirtual 359, 3) := by decide +kernel
theorem dX11_way_51 : decode cX11_way 51 = .ok (.istore 5, 2) := by decide +kernel
theorem dX11_way_53 : decode cX11_way 53 = .ok (.iload 5, 2) := by decide +kernel
theorem dX11_way_55 : decode cX11_way 55 = .ok (.bipush 99, 2) := by decide +kernel
theorem dX11_way_57 : decode cX11_way 57 = .ok (.if_icmp .ne 6, 3) := by decide +kernel
theorem dX11_way_60 : decode cX11_way 60 = .ok (.bipush (-2), 2) := by decide +kernel
theorem dX11_way_62 : decode cX11_way 62 = .ok (.ireturn, 1) := by decide +kernel
theorem dX11_way_63 : decode cX11_way 63 = .ok (.aload_n 0, 1) := by decide +kernel
theorem dX11_way_64 : decode cX11_way 64 = .ok (.getfield 44, 3) := by decide +kernel
theorem dX11_way_67 : decode cX11_way 67 = .ok (.invokevirtual 216, 3) := by decide +kernel
theorem dX11_way_70 : decode cX11_way 70 = .ok (.aload_n 0, 1) := by decide +kernel
theorem dX11_way_71 : decode cX11_way 71 = .ok (.getfield 44, 3) := by decide +kernel
theorem dX11_way_74 : decode cX11_way 74 = .ok (.iload_n 2, 1) := by decide +kernel
theorem dX11_way_75 : decode cX11_way 75 = .ok (.invokevirtual 207, 3) := by decide +kernel
theorem dX11_way_78 : decode cX11_way 78 = .ok (.iload_n 2, 1) := by decide +kernel
theorem dX11_way_79 : decode cX11_way 79 = .ok (.istore 6, 2) := by decide +kernel
theorem dX11_way_81 : decode cX11_way 81 = .ok (.iload 5, 2) := by decide +kernel
theorem dX11_way_83 : decode cX11_way 83 = .ok (.iconst 1, 1) := by decide +kernel
theorem dX11_way_84 : decode cX11_way 84 = .ok (.isub, 1) := by decide +kernel
theorem dX11_way_85 : decode cX11_way 85 = .ok (.istore 7, 2) := by decide +kernel
theorem dX11_way_87 : decode cX11_way 87 = .ok (.iload 7, 2) := by decide +kernel
theorem dX11_way_89 : decode cX11_way 89 = .ok (.ifCond .lt 33, 3) := by decide +kernel
theorem dX11_way_92 : decode cX11_way 92 = .ok (.aload_n 0, 1) := by decide +kernel
theorem dX11_way_93 : decode cX11_way 93 = .ok (.getfield 10, 3) := by decide +kernel
theorem dX11_way_96 : decode cX11_way 96 = .ok (.aload 4, 2) := by decide +kernel
theorem dX11_way_98 : decode cX11_way 98 = .ok (.iload 6, 2) := by decide +kernel
theorem dX11_way_100 : decode cX11_way 100 = .ok (.iload 7, 2) := by decide +kernel
theorem dX11_way_102 : decode cX11_way 102 = .ok (.invokevirtual 363, 3) := by decide +kernel
theorem dX11_way_105 : decode cX11_way 105 = .ok (.istore 6, 2) := by decide +kernel
theorem dX11_way_107 : decode cX11_way 107 = .ok (.aload_n 0, 1) := by decide +kernel
theorem dX11_way_108 : decode cX11_way 108 = .ok (.getfield 44, 3) := by decide +kernel
theorem dX11_way_111 : decode cX11_way 111 = .ok (.iload 6, 2) := by decide +kernel
theorem dX11_way_113 : decode cX11_way 113 = .ok (.invokevirtual 207, 3) := by decide +kernel
theorem dX11_way_116 : decode cX11_way 116 = .ok (.iinc 7 (-1), 3) := by decide +kernel
theorem dX11_way_119 : decode cX11_way 119 = .ok (.goto (-32), 3) := by decide +kernel
theorem dX11_way_122 : decode cX11_way 122 = .ok (.iload 5, 2) := by decide +kernel
theorem dX11_way_124 : decode cX11_way 124 = .ok (.ireturn, 1) := by decide +kernel
theorem dX11_bars_0 : decode cX11_bars 0 = .ok (.aload_n 0, 1) := by decide +kernel
theorem dX11_bars_1 : decode cX11_bars 1 = .ok (.getfield 10, 3) := by decide +kernel
theorem dX11_bars_4 : decode cX11_bars 4 = .ok (.iload_n 1, 1) := by decide +kernel
theorem dX11_bars_5 : decode cX11_bars 5 = .ok (.invokevirtual 184, 3) := by decide +kernel
theorem dX11_bars_8 : decode cX11_bars 8 = .ok (.astore 4, 2) := by decide +kernel
theorem dX11_bars_10 : decode cX11_bars 10 = .ok (.aload 4, 2) := by decide +kernel
theorem dX11_bars_12 : decode cX11_bars 12 = .ok (.ifnull 25, 3) := by decide +kernel
theorem dX11_bars_15 : decode cX11_bars 15 = .ok (.aload_n 0, 1) := by decide +kernel
theorem dX11_bars_16 : decode cX11_bars 16 = .ok (.getfield 10, 3) := by decide +kernel
theorem dX11_bars_19 : decode cX11_bars 19 = .ok (.iload_n 2, 1) := by decide +kernel
theorem dX11_bars_20 : decode cX11_bars 20 = .ok (.invokevirtual 78, 3) := by decide +kernel
theorem dX11_bars_23 : decode cX11_bars 23 = .ok (.ifCond .eq 14, 3) := by decide +kernel
theorem dX11_bars_26 : decode cX11_bars 26 = .ok (.aload_n 0, 1) := by decide +kernel
theorem dX11_bars_27 : decode cX11_bars 27 = .ok (.getfield 10, 3) := by decide +kernel
theorem dX11_bars_30 : decode cX11_bars 30 = .ok (.iload_n 3, 1) := by decide +kernel
theorem dX11_bars_31 : decode cX11_bars 31 = .ok (.invokevirtual 78, 3) := by decide +kernel
theorem dX11_bars_34 : decode cX11_bars 34 = .ok (.ifCond .ne 5, 3) := by decide +kernel
theorem dX11_bars_37 : decode cX11_bars 37 = .ok (.iconst (-1), 1) := by decide +kernel
theorem dX11_bars_38 : decode cX11_bars 38 = .ok (.ireturn, 1) := by decide +kernel
theorem dX11_bars_39 : decode cX11_bars 39 = .ok (.aload_n 0, 1) := by decide +kernel
theorem dX11_bars_40 : decode cX11_bars 40 = .ok (.getfield 10, 3) := by decide +kernel
theorem dX11_bars_43 : decode cX11_bars 43 = .ok (.aload 4, 2) := by decide +kernel
theorem dX11_bars_45 : decode cX11_bars 45 = .ok (.iload_n 2, 1) := by decide +kernel
theorem dX11_bars_46 : decode cX11_bars 46 = .ok (.iload_n 3, 1) := by decide +kernel
theorem dX11_bars_47 : decode cX11_bars 47 = .ok (.iconst (-1), 1) := by decide +kernel
theorem dX11_bars_48 : decode cX11_bars 48 = .ok (.invokevirtual 359, 3) := by decide +kernel
theorem dX11_bars_51 : decode cX11_bars 51 = .ok (.bipush 99, 2) := by decide +kernel
theorem dX11_bars_53 : decode cX11_bars 53 = .ok (.if_icmp .eq 6, 3) := by decide +kernel
theorem dX11_bars_56 : decode cX11_bars 56 = .ok (.bipush (-2), 2) := by decide +kernel
theorem dX11_bars_58 : decode cX11_bars 58 = .ok (.ireturn, 1) := by decide +kernel
theorem dX11_bars_59 : decode cX11_bars 59 = .ok (.iconst 0, 1) := by decide +kernel
theorem dX11_bars_60 : decode cX11_bars 60 = .ok (.istore 5, 2) := by decide +kernel
theorem dX11_bars_62 : decode cX11_bars 62 = .ok (.iload 5, 2) := by decide +kernel
theorem dX11_bars_64 : decode cX11_bars 64 = .ok (.aload_n 0, 1) := by decide +kernel
theorem dX11_bars_65 : decode cX11_bars 65 = .ok (.getfield 10, 3) := by decide +kernel
theorem dX11_bars_68 : decode cX11_bars 68 = .ok (.getfield 86, 3) := by decide +kernel
theorem dX11_bars_71 : decode cX11_bars 71 = .ok (.invokevirtual 90, 3) := by decide +kernel
theorem dX11_bars_74 : decode cX11_bars 74 = .ok (.if_icmp .ge 30, 3) := by decide +kernel
theorem dX11_bars_77 : decode cX11_bars 77 = .ok (.aload_n 0, 1) := by decide +kernel
theorem dX11_bars_78 : decode cX11_bars 78 = .ok (.getfield 10, 3) := by decide +kernel
theorem dX11_bars_81 : decode cX11_bars 81 = .ok (.aload 4, 2) := by decide +kernel
theorem dX11_bars_83 : decode cX11_bars 83 = .ok (.iload_n 2, 1) := by decide +kernel
theorem dX11_bars_84 : decode cX11_bars 84 = .ok (.iload_n 3, 1) := by decide +kernel
theorem dX11_bars_85 : decode cX11_bars 85 = .ok (.iload 5, 2) := by decide +kernel
theorem dX11_bars_87 : decode cX11_bars 87 = .ok (.invokevirtual 359, 3) := by decide +kernel
theorem dX11_bars_90 : decode cX11_bars 90 = .ok (.bipush 99, 2) := by decide +kernel
theorem dX11_bars_92 : decode cX11_bars 92 = .ok (.if_icmp .eq 6, 3) := by decide +kernel
theorem dX11_bars_95 : decode cX11_bars 95 = .ok (.iload 5, 2) := by decide +kernel
theorem dX11_bars_97 : decode cX11_bars 97 = .ok (.ireturn, 1) := by decide +kernel
theorem dX11_bars_98 : decode cX11_bars 98 = .ok (.iinc 5 1, 3) := by decide +kernel
theorem dX11_bars_101 : decode cX11_bars 101 = .ok (.goto (-39), 3) := by decide +kernel
theorem dX11_bars_104 : decode cX11_bars 104 = .ok (.iconst (-1), 1) := by decide +kernel
theorem dX11_bars_105 : decode cX11_bars 105 = .ok (.ireturn, 1) := by decide +kernel
theorem dX11_move_0 : decode cX11_move 0 = .ok (.aload_n 0, 1) := by decide +kernel
theorem dX11_move_1 : decode cX11_move 1 = .ok (.getfield 10, 3) := by decide +kernel
theorem dX11_move_4 : decode cX11_move 4 = .ok (.iload_n 1, 1) := by decide +kernel
theorem dX11_move_5 : decode cX11_move 5 = .ok (.invokevirtual 231, 3) := by decide +kernel
theorem dX11_move_8 : decode cX11_move 8 = .ok (.ifnull 46, 3) := by decide +kernel
theorem dX11_move_11 : decode cX11_move 11 = .ok (.aload_n 0, 1) := by decide +kernel
theorem dX11_move_12 : decode cX11_move 12 = .ok (.getfield 10, 3) := by decide +kernel
theorem dX11_move_15 : decode cX11_move 15 = .ok (.iload_n 2, 1) := by decide +kernel
theorem dX11_move_16 : decode cX11_move 16 = .ok (.invokevirtual 125, 3) := by decide +kernel
theorem dX11_move_19 : decode cX11_move 19 = .ok (.ifnull 35, 3) := by decide +kernel
theorem dX11_move_22 : decode cX11_move 22 = .ok (.iload_n 3, 1) := by decide +kernel
theorem dX11_move_23 : decode cX11_move 23 = .ok (.sipush (-1000), 3) := by decide +kernel
theorem dX11_move_26 : decode cX11_move 26 = .ok (.sipush 4000, 3) := by decide +kernel
theorem dX11_move_29 : decode cX11_move 29 = .ok (.invokestatic 82, 3) := by decide +kernel
theorem dX11_move_32 : decode cX11_move 32 = .ok (.ifCond .eq 22, 3) := by decide +kernel
theorem dX11_move_35 : decode cX11_move 35 = .ok (.aload_n 0, 1) := by decide +kernel
theorem dX11_move_36 : decode cX11_move 36 = .ok (.getfield 35, 3) := by decide +kernel
theorem dX11_move_39 : decode cX11_move 39 = .ok (.getfield 367, 3) := by decide +kernel
theorem dX11_move_42 : decode cX11_move 42 = .ok (.iload_n 1, 1) := by decide +kernel
theorem dX11_move_43 : decode cX11_move 43 = .ok (.invokevirtual 337, 3) := by decide +kernel
theorem dX11_move_46 : decode cX11_move 46 = .ok (.iconst (-1), 1) := by decide +kernel
theorem dX11_move_47 : decode cX11_move 47 = .ok (.if_icmp .ne 7, 3) := by decide +kernel
theorem dX11_move_50 : decode cX11_move 50 = .ok (.iconst 1, 1) := by decide +kernel
theorem dX11_move_51 : decode cX11_move 51 = .ok (.goto 4, 3) := by decide +kernel
theorem dX11_move_54 : decode cX11_move 54 = .ok (.iconst 0, 1) := by decide +kernel
theorem dX11_move_55 : decode cX11_move 55 = .ok (.istore 4, 2) := by decide +kernel
theorem dX11_move_57 : decode cX11_move 57 = .ok (.iload 4, 2) := by decide +kernel
theorem dX11_move_59 : decode cX11_move 59 = .ok (.ifCond .eq 18, 3) := by decide +kernel
theorem dX11_move_62 : decode cX11_move 62 = .ok (.aload_n 0, 1) := by decide +kernel
theorem dX11_move_63 : decode cX11_move 63 = .ok (.getfield 35, 3) := by decide +kernel
theorem dX11_move_66 : decode cX11_move 66 = .ok (.getfield 367, 3) := by decide +kernel
theorem dX11_move_69 : decode cX11_move 69 = .ok (.getfield 205, 3) := by decide +kernel
theorem dX11_move_72 : decode cX11_move 72 = .ok (.bipush 8, 2) := by decide +kernel
theorem dX11_move_74 : decode cX11_move 74 = .ok (.if_icmp .lt 5, 3) := by decide +kernel
theorem dX11_move_77 : decode cX11_move 77 = .ok (.iconst (-1), 1) := by decide +kernel
theorem dX11_move_78 : decode cX11_move 78 = .ok (.ireturn, 1) := by decide +kernel
theorem dX11_move_79 : decode cX11_move 79 = .ok (.aload_n 0, 1) := by decide +kernel
theorem dX11_move_80 : decode cX11_move 80 = .ok (.getfield 35, 3) := by decide +kernel
theorem dX11_move_83 : decode cX11_move 83 = .ok (.getfield 367, 3) := by decide +kernel
theorem dX11_move_86 : decode cX11_move 86 = .ok (.iload_n 1, 1) := by decide +kernel
theorem dX11_move_87 : decode cX11_move 87 = .ok (.invokevirtual 207, 3) := by decide +kernel
theorem dX11_move_90 : decode cX11_move 90 = .ok (.aload_n 0, 1) := by decide +kernel
theorem dX11_move_91 : decode cX11_move 91 = .ok (.getfield 35, 3) := by decide +kernel
theorem dX11_move_94 : decode cX11_move 94 = .ok (.getfield 369, 3) := by decide +kernel
theorem dX11_move_97 : decode cX11_move 97 = .ok (.iload_n 2, 1) := by decide +kernel
theorem dX11_move_98 : decode cX11_move 98 = .ok (.invokevirtual 207, 3) := by decide +kernel
theorem dX11_move_101 : decode cX11_move 101 = .ok (.aload_n 0, 1) := by decide +kernel
theorem dX11_move_102 : decode cX11_move 102 = .ok (.getfield 35, 3) := by decide +kernel
theorem dX11_move_105 : decode cX11_move 105 = .ok (.getfield 371, 3) := by decide +kernel
theorem dX11_move_108 : decode cX11_move 108 = .ok (.iload_n 3, 1) := by decide +kernel
theorem dX11_move_109 : decode cX11_move 109 = .ok (.invokevirtual 207, 3) := by decide +kernel
theorem dX11_move_112 : decode cX11_move 112 = .ok (.aload_n 0, 1) := by decide +kernel
theorem dX11_move_113 : decode cX11_move 113 = .ok (.getfield 35, 3) := by decide +kernel
theorem dX11_move_116 : decode cX11_move 116 = .ok (.getfield 367, 3) := by decide +kernel
theorem dX11_move_119 : decode cX11_move 119 = .ok (.getfield 205, 3) := by decide +kernel
theorem dX11_move_122 : decode cX11_move 122 = .ok (.iconst 1, 1) := by decide +kernel
theorem dX11_move_123 : decode cX11_move 123 = .ok (.isub, 1) := by decide +kernel
theorem dX11_move_124 : decode cX11_move 124 = .ok (.ireturn, 1) := by decide +kernel
theorem dX11_nights_0 : decode cX11_nights 0 = .ok (.iload_n 1, 1) := by decide +kernel
theorem dX11_nights_1 : decode cX11_nights 1 = .ok (.iconst 1, 1) := by decide +kernel
theorem dX11_nights_2 : decode cX11_nights 2 = .ok (.bipush 8, 2) := by decide +kernel
theorem dX11_nights_4 : decode cX11_nights 4 = .ok (.invokestatic 82, 3) := by decide +kernel
theorem dX11_nights_7 : decode cX11_nights 7 = .ok (.ifCond .eq 13, 3) := by decide +kernel
theorem dX11_nights_10 : decode cX11_nights 10 = .ok (.iload_n 2, 1) := by decide +kernel
theorem dX11_nights_11 : decode cX11_nights 11 = .ok (.iconst 1, 1) := by decide +kernel
theorem dX11_nights_12 : decode cX11_nights 12 = .ok (.bipush 8, 2) := by decide +kernel
theorem dX11_nights_14 : decode cX11_nights 14 = .ok (.invokestatic 82, 3) := by decide +kernel
theorem dX11_nights_17 : decode cX11_nights 17 = .ok (.ifCond .ne 5, 3) := by decide +kernel
theorem dX11_nights_20 : decode cX11_nights 20 = .ok (.iconst (-1), 1) := by decide +kernel
theorem dX11_nights_21 : decode cX11_nights 21 = .ok (.ireturn, 1) := by decide +kernel
theorem dX11_nights_22 : decode cX11_nights 22 = .ok (.aload_n 0, 1) := by decide +kernel
theorem dX11_nights_23 : decode cX11_nights 23 = .ok (.getfield 35, 3) := by decide +kernel
theorem dX11_nights_26 : decode cX11_nights 26 = .ok (.iload_n 1, 1) := by decide +kernel
theorem dX11_nights_27 : decode cX11_nights 27 = .ok (.iload_n 2, 1) := by decide +kernel
theorem dX11_nights_28 : decode cX11_nights 28 = .ok (.invokevirtual 374, 3) := by decide +kernel
theorem dX11_nights_31 : decode cX11_nights 31 = .ok (.istore_n 3, 1) := by decide +kernel
theorem dX11_nights_32 : decode cX11_nights 32 = .ok (.iload_n 3, 1) := by decide +kernel
theorem dX11_nights_33 : decode cX11_nights 33 = .ok (.bipush 99, 2) := by decide +kernel
theorem dX11_nights_35 : decode cX11_nights 35 = .ok (.if_icmp .ne 6, 3) := by decide +kernel
theorem dX11_nights_38 : decode cX11_nights 38 = .ok (.bipush (-2), 2) := by decide +kernel
theorem dX11_nights_40 : decode cX11_nights 40 = .ok (.ireturn, 1) := by decide +kernel
theorem dX11_nights_41 : decode cX11_nights 41 = .ok (.aload_n 0, 1) := by decide +kernel
theorem dX11_nights_42 : decode cX11_nights 42 = .ok (.getfield 44, 3) := by decide +kernel
theorem dX11_nights_45 : decode cX11_nights 45 = .ok (.invokevirtual 216, 3) := by decide +kernel
theorem dX11_nights_48 : decode cX11_nights 48 = .ok (.aload_n 0, 1) := by decide +kernel
theorem dX11_nights_49 : decode cX11_nights 49 = .ok (.getfield 35, 3) := by decide +kernel
theorem dX11_nights_52 : decode cX11_nights 52 = .ok (.iload_n 1, 1) := by decide +kernel
theorem dX11_nights_53 : decode cX11_nights 53 = .ok (.iload_n 2, 1) := by decide +kernel
theorem dX11_nights_54 : decode cX11_nights 54 = .ok (.aload_n 0, 1) := by decide +kernel
theorem dX11_nights_55 : decode cX11_nights 55 = .ok (.getfield 44, 3) := by decide +kernel
theorem dX11_nights_58 : decode cX11_nights 58 = .ok (.invokevirtual 377, 3) := by decide +kernel
theorem dX11_nights_61 : decode cX11_nights 61 = .ok (.iload_n 3, 1) := by decide +kernel
theorem dX11_nights_62 : decode cX11_nights 62 = .ok (.ireturn, 1) := by decide +kernel
theorem dX11_done_0 : decode cX11_done 0 = .ok (.aload_n 0, 1) := by decide +kernel
theorem dX11_done_1 : decode cX11_done 1 = .ok (.getfield 35, 3) := by decide +kernel
theorem dX11_done_4 : decode cX11_done 4 = .ok (.invokevirtual 381, 3) := by decide +kernel
theorem dX11_done_7 : decode cX11_done 7 = .ok (.ifCond .ne 6, 3) := by decide +kernel
theorem dX11_done_10 : decode cX11_done 10 = .ok (.bipush (-2), 2) := by decide +kernel
theorem dX11_done_12 : decode cX11_done 12 = .ok (.ireturn, 1) := by decide +kernel
theorem dX11_done_13 : decode cX11_done 13 = .ok (.aload_n 0, 1) := by decide +kernel
theorem dX11_done_14 : decode cX11_done 14 = .ok (.getfield 35, 3) := by decide +kernel
theorem dX11_done_17 : decode cX11_done 17 = .ok (.getfield 367, 3) := by decide +kernel
theorem dX11_done_20 : decode cX11_done 20 = .ok (.getfield 205, 3) := by decide +kernel
theorem dX11_done_23 : decode cX11_done 23 = .ok (.istore_n 1, 1) := by decide +kernel
theorem dX11_done_24 : decode cX11_done 24 = .ok (.aload_n 0, 1) := by decide +kernel
theorem dX11_done_25 : decode cX11_done 25 = .ok (.getfield 10, 3) := by decide +kernel
theorem dX11_done_28 : decode cX11_done 28 = .ok (.getfield 223, 3) := by decide +kernel
theorem dX11_done_31 : decode cX11_done 31 = .ok (.aload_n 0, 1) := by decide +kernel
theorem dX11_done_32 : decode cX11_done 32 = .ok (.getfield 10, 3) := by decide +kernel
theorem dX11_done_35 : decode cX11_done 35 = .ok (.getfield 385, 3) := by decide +kernel
theorem dX11_done_38 : decode cX11_done 38 = .ok (.invokevirtual 388, 3) := by decide +kernel
theorem dX11_done_41 : decode cX11_done 41 = .ok (.aload_n 0, 1) := by decide +kernel
theorem dX11_done_42 : decode cX11_done 42 = .ok (.getfield 35, 3) := by decide +kernel
theorem dX11_done_45 : decode cX11_done 45 = .ok (.invokevirtual 391, 3) := by decide +kernel
theorem dX11_done_48 : decode cX11_done 48 = .ok (.iload_n 1, 1) := by decide +kernel
theorem dX11_done_49 : decode cX11_done 49 = .ok (.ireturn, 1) := by decide +kernel
theorem dX11_insert_0 : decode cX11_insert 0 = .ok (.aload_n 0, 1) := by decide +kernel
theorem dX11_insert_1 : decode cX11_insert 1 = .ok (.getfield 44, 3) := by decide +kernel
theorem dX11_insert_4 : decode cX11_insert 4 = .ok (.getfield 205, 3) := by decide +kernel
theorem dX11_insert_7 : decode cX11_insert 7 = .ok (.istore_n 3, 1) := by decide +kernel
theorem dX11_insert_8 : decode cX11_insert 8 = .ok (.aload_n 0, 1) := by decide +kernel
theorem dX11_insert_9 : decode cX11_insert 9 = .ok (.getfield 44, 3) := by decide +kernel
theorem dX11_insert_12 : decode cX11_insert 12 = .ok (.iload_n 1, 1) := by decide +kernel
theorem dX11_insert_13 : decode cX11_insert 13 = .ok (.invokevirtual 207, 3) := by decide +kernel
theorem dX11_insert_16 : decode cX11_insert 16 = .ok (.aload_n 0, 1) := by decide +kernel
theorem dX11_insert_17 : decode cX11_insert 17 = .ok (.getfield 44, 3) := by decide +kernel
theorem dX11_insert_20 : decode cX11_insert 20 = .ok (.getfield 205, 3) := by decide +kernel
theorem dX11_insert_23 : decode cX11_insert 23 = .ok (.iconst 1, 1) := by decide +kernel
theorem dX11_insert_24 : decode cX11_insert 24 = .ok (.isub, 1) := by decide +kernel
theorem dX11_insert_25 : decode cX11_insert 25 = .ok (.istore 4, 2) := by decide +kernel
theorem dX11_insert_27 : decode cX11_insert 27 = .ok (.iload 4, 2) := by decide +kernel
theorem dX11_insert_29 : decode cX11_insert 29 = .ok (.ifCond .le 65, 3) := by decide +kernel
theorem dX11_insert_32 : decode cX11_insert 32 = .ok (.aload_n 0, 1) := by decide +kernel
theorem dX11_insert_33 : decode cX11_insert 33 = .ok (.getfield 64, 3) := by decide +kernel
theorem dX11_insert_36 : decode cX11_insert 36 = .ok (.iload 4, 2) := by decide +kernel
theorem dX11_insert_38 : decode cX11_insert 38 = .ok (.iconst 1, 1) := by decide +kernel
theorem dX11_insert_39 : decode cX11_insert 39 = .ok (.isub, 1) := by decide +kernel
theorem dX11_insert_40 : decode cX11_insert 40 = .ok (.iaload, 1) := by decide +kernel
theorem dX11_insert_41 : decode cX11_insert 41 = .ok (.iload_n 2, 1) := by decide +kernel
theorem dX11_insert_42 : decode cX11_insert 42 = .ok (.if_icmp .ge 52, 3) := by decide +kernel
theorem dX11_insert_45 : decode cX11_insert 45 = .ok (.aload_n 0, 1) := by decide +kernel
theorem dX11_insert_46 : decode cX11_insert 46 = .ok (.getfield 44, 3) := by decide +kernel
theorem dX11_insert_49 : decode cX11_insert 49 = .ok (.getfield 421, 3) := by decide +kernel
theorem dX11_insert_52 : decode cX11_insert 52 = .ok (.iload 4, 2) := by decide +kernel
theorem dX11_insert_54 : decode cX11_insert 54 = .ok (.aload_n 0, 1) := by decide +kernel
theorem dX11_insert_55 : decode cX11_insert 55 = .ok (.getfield 44, 3) := by decide +kernel
theorem dX11_insert_58 : decode cX11_insert 58 = .ok (.getfield 421, 3) := by decide +kernel
theorem dX11_insert_61 : decode cX11_insert 61 = .ok (.iload 4, 2) := by decide +kernel
theorem dX11_insert_63 : decode cX11_insert 63 = .ok (.iconst 1, 1) := by decide +kernel
theorem dX11_insert_64 : decode cX11_insert 64 = .ok (.isub, 1) := by decide +kernel
theorem dX11_insert_65 : decode cX11_insert 65 = .ok (.iaload, 1) := by decide +kernel
theorem dX11_insert_66 : decode cX11_insert 66 = .ok (.iastore, 1) := by decide +kernel
theorem dX11_insert_67 : decode cX11_insert 67 = .ok (.aload_n 0, 1) := by decide +kernel
theorem dX11_insert_68 : decode cX11_insert 68 = .ok (.getfield 64, 3) := by decide +kernel
theorem dX11_insert_71 : decode cX11_insert 71 = .ok (.iload 4, 2) := by decide +kernel
theorem dX11_insert_73 : decode cX11_insert 73 = .ok (.aload_n 0, 1) := by decide +kernel
theorem dX11_insert_74 : decode cX11_insert 74 = .ok (.getfield 64, 3) := by decide +kernel
theorem dX11_insert_77 : decode cX11_insert 77 = .ok (.iload 4, 2) := by decide +kernel
theorem dX11_insert_79 : decode cX11_insert 79 = .ok (.iconst 1, 1) := by decide +kernel
theorem dX11_insert_80 : decode cX11_insert 80 = .ok (.isub, 1) := by decide +kernel
theorem dX11_insert_81 : decode cX11_insert 81 = .ok (.iaload, 1) := by decide +kernel
theorem dX11_insert_82 : decode cX11_insert 82 = .ok (.iastore, 1) := by decide +kernel
theorem dX11_insert_83 : decode cX11_insert 83 = .ok (.iload 4, 2) := by decide +kernel
theorem dX11_insert_85 : decode cX11_insert 85 = .ok (.iconst 1, 1) := by decide +kernel
theorem dX11_insert_86 : decode cX11_insert 86 = .ok (.isub, 1) := by decide +kernel
theorem dX11_insert_87 : decode cX11_insert 87 = .ok (.istore_n 3, 1) := by decide +kernel
theorem dX11_insert_88 : decode cX11_insert 88 = .ok (.iinc 4 (-1), 3) := by decide +kernel
theorem dX11_insert_91 : decode cX11_insert 91 = .ok (.goto (-64), 3) := by decide +kernel
theorem dX11_insert_94 : decode cX11_insert 94 = .ok (.aload_n 0, 1) := by decide +kernel
theorem dX11_insert_95 : decode cX11_insert 95 = .ok (.getfield 44, 3) := by decide +kernel
theorem dX11_insert_98 : decode cX11_insert 98 = .ok (.getfield 421, 3) := by decide +kernel
theorem dX11_insert_101 : decode cX11_insert 101 = .ok (.iload_n 3, 1) := by decide +kernel
theorem dX11_insert_102 : decode cX11_insert 102 = .ok (.iload_n 1, 1) := by decide +kernel
theorem dX11_insert_103 : decode cX11_insert 103 = .ok (.iastore, 1) := by decide +kernel
theorem dX11_insert_104 : decode cX11_insert 104 = .ok (.aload_n 0, 1) := by decide +kernel
theorem dX11_insert_105 : decode cX11_insert 105 = .ok (.getfield 64, 3) := by decide +kernel
theorem dX11_insert_108 : decode cX11_insert 108 = .ok (.iload_n 3, 1) := by decide +kernel
theorem dX11_insert_109 : decode cX11_insert 109 = .ok (.iload_n 2, 1) := by decide +kernel
theorem dX11_insert_110 : decode cX11_insert 110 = .ok (.iastore, 1) := by decide +kernel
theorem dX11_insert_111 : decode cX11_insert 111 = .ok (.return_, 1) := by decide +kernel
theorem dX11_stand_0 : decode cX11_stand 0 = .ok (.aload_n 0, 1) := by decide +kernel
theorem dX11_stand_1 : decode cX11_stand 1 = .ok (.getfield 10, 3) := by decide +kernel
theorem dX11_stand_4 : decode cX11_stand 4 = .ok (.iload_n 1, 1) := by decide +kernel
theorem dX11_stand_5 : decode cX11_stand 5 = .ok (.invokevirtual 184, 3) := by decide +kernel
theorem dX11_stand_8 : decode cX11_stand 8 = .ok (.astore_n 2, 1) := by decide +kernel
theorem dX11_stand_9 : decode cX11_stand 9 = .ok (.aload_n 2, 1) := by decide +kernel
theorem dX11_stand_10 : decode cX11_stand 10 = .ok (.ifnonnull 7, 3) := by decide +kernel
theorem dX11_stand_13 : decode cX11_stand 13 = .ok (.aconst_null, 1) := by decide +kernel
theorem dX11_stand_14 : decode cX11_stand 14 = .ok (.goto 11, 3) := by decide +kernel
theorem dX11_stand_17 : decode cX11_stand 17 = .ok (.aload_n 0, 1) := by decide +kernel
theorem dX11_stand_18 : decode cX11_stand 18 = .ok (.getfield 10, 3) := by decide +kernel
theorem dX11_stand_21 : decode cX11_stand 21 = .ok (.aload_n 2, 1) := by decide +kernel
theorem dX11_stand_22 : decode cX11_stand 22 = .ok (.invokevirtual 295, 3) := by decide +kernel
theorem dX11_stand_25 : decode cX11_stand 25 = .ok (.astore_n 3, 1) := by decide +kernel
theorem dX11_stand_26 : decode cX11_stand 26 = .ok (.aload_n 2, 1) := by decide +kernel
theorem dX11_stand_27 : decode cX11_stand 27 = .ok (.ifnull 7, 3) := by decide +kernel
theorem dX11_stand_30 : decode cX11_stand 30 = .ok (.aload_n 3, 1) := by decide +kernel
theorem dX11_stand_31 : decode cX11_stand 31 = .ok (.ifnonnull 5, 3) := by decide +kernel
theorem dX11_stand_34 : decode cX11_stand 34 = .ok (.iconst (-1), 1) := by decide +kernel
theorem dX11_stand_35 : decode cX11_stand 35 = .ok (.ireturn, 1) := by decide +kernel
theorem dX11_stand_36 : decode cX11_stand 36 = .ok (.aload_n 0, 1) := by decide +kernel
theorem dX11_stand_37 : decode cX11_stand 37 = .ok (.getfield 10, 3) := by decide +kernel
theorem dX11_stand_40 : decode cX11_stand 40 = .ok (.getfield 223, 3) := by decide +kernel
theorem dX11_stand_43 : decode cX11_stand 43 = .ok (.aload_n 2, 1) := by decide +kernel
theorem dX11_stand_44 : decode cX11_stand 44 = .ok (.getfield 183, 3) := by decide +kernel
theorem dX11_stand_47 : decode cX11_stand 47 = .ok (.invokevirtual 269, 3) := by decide +kernel
theorem dX11_stand_50 : decode cX11_stand 50 = .ok (.istore 4, 2) := by decide +kernel
theorem dX11_stand_52 : decode cX11_stand 52 = .ok (.aload_n 0, 1) := by decide +kernel
theorem dX11_stand_53 : decode cX11_stand 53 = .ok (.getfield 10, 3) := by decide +kernel
theorem dX11_stand_56 : decode cX11_stand 56 = .ok (.getfield 385, 3) := by decide +kernel
theorem dX11_stand_59 : decode cX11_stand 59 = .ok (.aload_n 0, 1) := by decide +kernel
theorem dX11_stand_60 : decode cX11_stand 60 = .ok (.getfield 10, 3) := by decide +kernel
theorem dX11_stand_63 : decode cX11_stand 63 = .ok (.getfield 223, 3) := by decide +kernel
theorem dX11_stand_66 : decode cX11_stand 66 = .ok (.invokevirtual 388, 3) := by decide +kernel
theorem dX11_stand_69 : decode cX11_stand 69 = .ok (.aload_n 0, 1) := by decide +kernel
theorem dX11_stand_70 : decode cX11_stand 70 = .ok (.getfield 10, 3) := by decide +kernel
theorem dX11_stand_73 : decode cX11_stand 73 = .ok (.getfield 385, 3) := by decide +kernel
theorem dX11_stand_76 : decode cX11_stand 76 = .ok (.aload_n 2, 1) := by decide +kernel
theorem dX11_stand_77 : decode cX11_stand 77 = .ok (.getfield 183, 3) := by decide +kernel
theorem dX11_stand_80 : decode cX11_stand 80 = .ok (.invokevirtual 249, 3) := by decide +kernel
theorem dX11_stand_83 : decode cX11_stand 83 = .ok (.aload_n 0, 1) := by decide +kernel
theorem dX11_stand_84 : decode cX11_stand 84 = .ok (.getfield 44, 3) := by decide +kernel
theorem dX11_stand_87 : decode cX11_stand 87 = .ok (.invokevirtual 216, 3) := by decide +kernel
theorem dX11_stand_90 : decode cX11_stand 90 = .ok (.iconst 0, 1) := by decide +kernel
theorem dX11_stand_91 : decode cX11_stand 91 = .ok (.istore 5, 2) := by decide +kernel
theorem dX11_stand_93 : decode cX11_stand 93 = .ok (.iload 5, 2) := by decide +kernel
theorem dX11_stand_95 : decode cX11_stand 95 = .ok (.aload_n 0, 1) := by decide +kernel
theorem dX11_stand_96 : decode cX11_stand 96 = .ok (.getfield 10, 3) := by decide +kernel
theorem dX11_stand_99 : decode cX11_stand 99 = .ok (.getfield 158, 3) := by decide +kernel
theorem dX11_stand_102 : decode cX11_stand 102 = .ok (.invokevirtual 90, 3) := by decide +kernel
theorem dX11_stand_105 : decode cX11_stand 105 = .ok (.if_icmp .ge 85, 3) := by decide +kernel
theorem dX11_stand_108 : decode cX11_stand 108 = .ok (.aload_n 0, 1) := by decide +kernel
theorem dX11_stand_109 : decode cX11_stand 109 = .ok (.getfield 10, 3) := by decide +kernel
theorem dX11_stand_112 : decode cX11_stand 112 = .ok (.getfield 158, 3) := by decide +kernel
theorem dX11_stand_115 : decode cX11_stand 115 = .ok (.iload 5, 2) := by decide +kernel
theorem dX11_stand_117 : decode cX11_stand 117 = .ok (.invokevirtual 272, 3) := by decide +kernel
theorem dX11_stand_120 : decode cX11_stand 120 = .ok (.checkcast 161, 3) := by decide +kernel
theorem dX11_stand_123 : decode cX11_stand 123 = .ok (.astore 6, 2) := by decide +kernel
theorem dX11_stand_125 : decode cX11_stand 125 = .ok (.aload_n 0, 1) := by decide +kernel
theorem dX11_stand_126 : decode cX11_stand 126 = .ok (.getfield 10, 3) := by decide +kernel
theorem dX11_stand_129 : decode cX11_stand 129 = .ok (.aload 6, 2) := by decide +kernel
theorem dX11_stand_131 : decode cX11_stand 131 = .ok (.invokevirtual 254, 3) := by decide +kernel
theorem dX11_stand_134 : decode cX11_stand 134 = .ok (.ifCond .ne 50, 3) := by decide +kernel
theorem dX11_stand_137 : decode cX11_stand 137 = .ok (.aload_n 0, 1) := by decide +kernel
theorem dX11_stand_138 : decode cX11_stand 138 = .ok (.getfield 21, 3) := by decide +kernel
theorem dX11_stand_141 : decode cX11_stand 141 = .ok (.aload_n 0, 1) := by decide +kernel
theorem dX11_stand_142 : decode cX11_stand 142 = .ok (.getfield 10, 3) := by decide +kernel
theorem dX11_stand_145 : decode cX11_stand 145 = .ok (.getfield 385, 3) := by decide +kernel
theorem dX11_stand_148 : decode cX11_stand 148 = .ok (.aload 6, 2) := by decide +kernel
theorem dX11_stand_150 : decode cX11_stand 150 = .ok (.aload_n 3, 1) := by decide +kernel
theorem dX11_stand_151 : decode cX11_stand 151 = .ok (.iload 4, 2) := by decide +kernel
theorem dX11_stand_153 : decode cX11_stand 153 = .ok (.invokevirtual 234, 3) := by decide +kernel
theorem dX11_stand_156 : decode cX11_stand 156 = .ok (.ifCond .ne 28, 3) := by decide +kernel
theorem dX11_stand_159 : decode cX11_stand 159 = .ok (.aload_n 0, 1) := by decide +kernel
theorem dX11_stand_160 : decode cX11_stand 160 = .ok (.iload 5, 2) := by decide +kernel
theorem dX11_stand_162 : decode cX11_stand 162 = .ok (.aload_n 0, 1) := by decide +kernel
theorem dX11_stand_163 : decode cX11_stand 163 = .ok (.getfield 10, 3) := by decide +kernel
theorem dX11_stand_166 : decode cX11_stand 166 = .ok (.aload_n 0, 1) := by decide +kernel
theorem dX11_stand_167 : decode cX11_stand 167 = .ok (.getfield 10, 3) := by decide +kernel
theorem dX11_stand_170 : decode cX11_stand 170 = .ok (.getfield 385, 3) := by decide +kernel
theorem dX11_stand_173 : decode cX11_stand 173 = .ok (.aload 6, 2) := by decide +kernel
theorem dX11_stand_175 : decode cX11_stand 175 = .ok (.aload_n 3, 1) := by decide +kernel
theorem dX11_stand_176 : decode cX11_stand 176 = .ok (.iload 4, 2) := by decide +kernel
theorem dX11_stand_178 : decode cX11_stand 178 = .ok (.invokevirtual 394, 3) := by decide +kernel
theorem dX11_stand_181 : decode cX11_stand 181 = .ok (.invokevirtual 397, 3) := by decide +kernel
theorem dX11_stand_184 : decode cX11_stand 184 = .ok (.iinc 5 1, 3) := by decide +kernel
theorem dX11_stand_187 : decode cX11_stand 187 = .ok (.goto (-94), 3) := by decide +kernel
theorem dX11_stand_190 : decode cX11_stand 190 = .ok (.aload_n 0, 1) := by decide +kernel
theorem dX11_stand_191 : decode cX11_stand 191 = .ok (.getfield 44, 3) := by decide +kernel
theorem dX11_stand_194 : decode cX11_stand 194 = .ok (.getfield 205, 3) := by decide +kernel
theorem dX11_stand_197 : decode cX11_stand 197 = .ok (.ireturn, 1) := by decide +kernel
theorem dX11_sight_0 : decode cX11_sight 0 = .ok (.aload_n 0, 1) := by decide +kernel
theorem dX11_sight_1 : decode cX11_sight 1 = .ok (.getfield 10, 3) := by decide +kernel
theorem dX11_sight_4 : decode cX11_sight 4 = .ok (.iload_n 2, 1) := by decide +kernel
theorem dX11_sight_5 : decode cX11_sight 5 = .ok (.invokevirtual 125, 3) := by decide +kernel
theorem dX11_sight_8 : decode cX11_sight 8 = .ok (.astore_n 3, 1) := by decide +kernel
theorem dX11_sight_9 : decode cX11_sight 9 = .ok (.aload_n 3, 1) := by decide +kernel
theorem dX11_sight_10 : decode cX11_sight 10 = .ok (.ifnull 22, 3) := by decide +kernel
theorem dX11_sight_13 : decode cX11_sight 13 = .ok (.aload_n 0, 1) := by decide +kernel
theorem dX11_sight_14 : decode cX11_sight 14 = .ok (.getfield 10, 3) := by decide +kernel
theorem dX11_sight_17 : decode cX11_sight 17 = .ok (.iload_n 1, 1) := by decide +kernel
theorem dX11_sight_18 : decode cX11_sight 18 = .ok (.invokevirtual 78, 3) := by decide +kernel
theorem dX11_sight_21 : decode cX11_sight 21 = .ok (.ifCond .eq 11, 3) := by decide +kernel
theorem dX11_sight_24 : decode cX11_sight 24 = .ok (.aload_n 3, 1) := by decide +kernel
theorem dX11_sight_25 : decode cX11_sight 25 = .ok (.getfield 400, 3) := by decide +kernel
theorem dX11_sight_28 : decode cX11_sight 28 = .ok (.iload_n 1, 1) := by decide +kernel
theorem dX11_sight_29 : decode cX11_sight 29 = .ok (.if_icmp .ne 5, 3) := by decide +kernel
theorem dX11_sight_32 : decode cX11_sight 32 = .ok (.iconst 0, 1) := by decide +kernel
theorem dX11_sight_33 : decode cX11_sight 33 = .ok (.ireturn, 1) := by decide +kernel
theorem dX11_sight_34 : decode cX11_sight 34 = .ok (.aload_n 3, 1) := by decide +kernel
theorem dX11_sight_35 : decode cX11_sight 35 = .ok (.dup, 1) := by decide +kernel
theorem dX11_sight_36 : decode cX11_sight 36 = .ok (.getfield 403, 3) := by decide +kernel
theorem dX11_sight_39 : decode cX11_sight 39 = .ok (.iconst 1, 1) := by decide +kernel
theorem dX11_sight_40 : decode cX11_sight 40 = .ok (.iload_n 1, 1) := by decide +kernel
theorem dX11_sight_41 : decode cX11_sight 41 = .ok (.ishl, 1) := by decide +kernel
theorem dX11_sight_42 : decode cX11_sight 42 = .ok (.ior, 1) := by decide +kernel
theorem dX11_sight_43 : decode cX11_sight 43 = .ok (.putfield 403, 3) := by decide +kernel
theorem dX11_sight_46 : decode cX11_sight 46 = .ok (.iconst 1, 1) := by decide +kernel
theorem dX11_sight_47 : decode cX11_sight 47 = .ok (.ireturn, 1) := by decide +kernel
theorem dX11_guard_0 : decode cX11_guard 0 = .ok (.iload_n 1, 1) := by decide +kernel
theorem dX11_guard_1 : decode cX11_guard 1 = .ok (.iconst 0, 1) := by decide +kernel
theorem dX11_guard_2 : decode cX11_guard 2 = .ok (.sipush 999, 3) := by decide +kernel
theorem dX11_guard_5 : decode cX11_guard 5 = .ok (.invokestatic 82, 3) := by decide +kernel
theorem dX11_guard_8 : decode cX11_guard 8 = .ok (.ifCond .ne 5, 3) := by decide +kernel
theorem dX11_guard_11 : decode cX11_guard 11 = .ok (.iconst (-1), 1) := by decide +kernel
theorem dX11_guard_12 : decode cX11_guard 12 = .ok (.ireturn, 1) := by decide +kernel
theorem dX11_guard_13 : decode cX11_guard 13 = .ok (.aload_n 0, 1) := by decide +kernel
theorem dX11_guard_14 : decode cX11_guard 14 = .ok (.getfield 10, 3) := by decide +kernel
theorem dX11_guard_17 : decode cX11_guard 17 = .ok (.iload_n 1, 1) := by decide +kernel
theorem dX11_guard_18 : decode cX11_guard 18 = .ok (.invokevirtual 406, 3) := by decide +kernel
theorem dX11_guard_21 : decode cX11_guard 21 = .ok (.istore_n 2, 1) := by decide +kernel
theorem dX11_guard_22 : decode cX11_guard 22 = .ok (.iconst 1, 1) := by decide +kernel
theorem dX11_guard_23 : decode cX11_guard 23 = .ok (.aload_n 0, 1) := by decide +kernel
theorem dX11_guard_24 : decode cX11_guard 24 = .ok (.getfield 10, 3) := by decide +kernel
theorem dX11_guard_27 : decode cX11_guard 27 = .ok (.getfield 67, 3) := by decide +kernel
theorem dX11_guard_30 : decode cX11_guard 30 = .ok (.ishl, 1) := by decide +kernel
theorem dX11_guard_31 : decode cX11_guard 31 = .ok (.iconst 1, 1) := by decide +kernel
theorem dX11_guard_32 : decode cX11_guard 32 = .ok (.isub, 1) := by decide +kernel
theorem dX11_guard_33 : decode cX11_guard 33 = .ok (.istore_n 3, 1) := by decide +kernel
theorem dX11_guard_34 : decode cX11_guard 34 = .ok (.iload_n 3, 1) := by decide +kernel
theorem dX11_guard_35 : decode cX11_guard 35 = .ok (.iconst 1, 1) := by decide +kernel
theorem dX11_guard_36 : decode cX11_guard 36 = .ok (.isub, 1) := by decide +kernel
theorem dX11_guard_37 : decode cX11_guard 37 = .ok (.istore 4, 2) := by decide +kernel
theorem dX11_guard_39 : decode cX11_guard 39 = .ok (.iload 4, 2) := by decide +kernel
theorem dX11_guard_41 : decode cX11_guard 41 = .ok (.ifCond .lt 49, 3) := by decide +kernel
theorem dX11_guard_44 : decode cX11_guard 44 = .ok (.iload 4, 2) := by decide +kernel
theorem dX11_guard_46 : decode cX11_guard 46 = .ok (.invokestatic 305, 3) := by decide +kernel
theorem dX11_guard_49 : decode cX11_guard 49 = .ok (.iload_n 3, 1) := by decide +kernel
theorem dX11_guard_50 : decode cX11_guard 50 = .ok (.invokestatic 305, 3) := by decide +kernel
theorem dX11_guard_53 : decode cX11_guard 53 = .ok (.if_icmp .gt 7, 3) := by decide +kernel
theorem dX11_guard_56 : decode cX11_guard 56 = .ok (.iconst 1, 1) := by decide +kernel
theorem dX11_guard_57 : decode cX11_guard 57 = .ok (.goto 4, 3) := by decide +kernel
theorem dX11_guard_60 : decode cX11_guard 60 = .ok (.iconst 0, 1) := by decide +kernel
theorem dX11_guard_61 : decode cX11_guard 61 = .ok (.istore 5, 2) := by decide +kernel
theorem dX11_guard_63 : decode cX11_guard 63 = .ok (.iload 5, 2) := by decide +kernel
theorem dX11_guard_65 : decode cX11_guard 65 = .ok (.ifCond .eq 19, 3) := by decide +kernel
theorem dX11_guard_68 : decode cX11_guard 68 = .ok (.aload_n 0, 1) := by decide +kernel
theorem dX11_guard_69 : decode cX11_guard 69 = .ok (.getfield 10, 3) := by decide +kernel
theorem dX11_guard_72 : decode cX11_guard 72 = .ok (.iload_n 2, 1) := by decide +kernel
theorem dX11_guard_73 : decode cX11_guard 73 = .ok (.iload 4, 2) := by decide +kernel
theorem dX11_guard_75 : decode cX11_guard 75 = .ok (.invokevirtual 409, 3) := by decide +kernel
theorem dX11_guard_78 : decode cX11_guard 78 = .ok (.ifCond .eq 6, 3) := by decide +kernel
theorem dX11_guard_81 : decode cX11_guard 81 = .ok (.iload 4, 2) := by decide +kernel
theorem dX11_guard_83 : decode cX11_guard 83 = .ok (.istore_n 3, 1) := by decide +kernel
theorem dX11_guard_84 : decode cX11_guard 84 = .ok (.iinc 4 (-1), 3) := by decide +kernel
theorem dX11_guard_87 : decode cX11_guard 87 = .ok (.goto (-48), 3) := by decide +kernel
theorem dX11_guard_90 : decode cX11_guard 90 = .ok (.aload_n 0, 1) := by decide +kernel
theorem dX11_guard_91 : decode cX11_guard 91 = .ok (.getfield 44, 3) := by decide +kernel
theorem dX11_guard_94 : decode cX11_guard 94 = .ok (.invokevirtual 216, 3) := by decide +kernel
theorem dX11_guard_97 : decode cX11_guard 97 = .ok (.aload_n 0, 1) := by decide +kernel
theorem dX11_guard_98 : decode cX11_guard 98 = .ok (.getfield 44, 3) := by decide +kernel
theorem dX11_guard_101 : decode cX11_guard 101 = .ok (.iload_n 3, 1) := by decide +kernel
theorem dX11_guard_102 : decode cX11_guard 102 = .ok (.invokevirtual 207, 3) := by decide +kernel
theorem dX11_guard_105 : decode cX11_guard 105 = .ok (.iload_n 3, 1) := by decide +kernel
theorem dX11_guard_106 : decode cX11_guard 106 = .ok (.invokestatic 305, 3) := by decide +kernel
theorem dX11_guard_109 : decode cX11_guard 109 = .ok (.ireturn, 1) := by decide +kernel
theorem dX11_count_0 : decode cX11_count 0 = .ok (.iload_n 1, 1) := by decide +kernel
theorem dX11_count_1 : decode cX11_count 1 = .ok (.tableswitch 233 0 15 #[79, 87, 98, 109, 120, 131, 139, 150, 158, 166, 177, 185, 193, 203, 213, 223], 79) := by decide +kernel
theorem dX11_count_80 : decode cX11_count 80 = .ok (.aload_n 0, 1) := by decide +kernel
theorem dX11_count_81 : decode cX11_count 81 = .ok (.getfield 10, 3) := by decide +kernel
theorem dX11_count_84 : decode cX11_count 84 = .ok (.getfield 67, 3) := by decide +kernel
theorem dX11_count_87 : decode cX11_count 87 = .ok (.ireturn, 1) := by decide +kernel
theorem dX11_count_88 : decode cX11_count 88 = .ok (.aload_n 0, 1) := by decide +kernel
theorem dX11_count_89 : decode cX11_count 89 = .ok (.getfield 10, 3) := by decide +kernel
theorem dX11_count_92 : decode cX11_count 92 = .ok (.getfield 86, 3) := by decide +kernel
theorem dX11_count_95 : decode cX11_count 95 = .ok (.invokevirtual 90, 3) := by decide +kernel
theorem dX11_count_98 : decode cX11_count 98 = .ok (.ireturn, 1) := by decide +kernel
theorem dX11_count_99 : decode cX11_count 99 = .ok (.aload_n 0, 1) := by decide +kernel
theorem dX11_count_100 : decode cX11_count 100 = .ok (.getfield 10, 3) := by decide +kernel
theorem dX11_count_103 : decode cX11_count 103 = .ok (.getfield 105, 3) := by decide +kernel
theorem dX11_count_106 : decode cX11_count 106 = .ok (.invokevirtual 90, 3) := by decide +kernel
theorem dX11_count_109 : decode cX11_count 109 = .ok (.ireturn, 1) := by decide +kernel
theorem dX11_count_110 : decode cX11_count 110 = .ok (.aload_n 0, 1) := by decide +kernel
theorem dX11_count_111 : decode cX11_count 111 = .ok (.getfield 10, 3) := by decide +kernel
theorem dX11_count_114 : decode cX11_count 114 = .ok (.getfield 158, 3) := by decide +kernel
theorem dX11_count_117 : decode cX11_count 117 = .ok (.invokevirtual 90, 3) := by decide +kernel
theorem dX11_count_120 : decode cX11_count 120 = .ok (.ireturn, 1) := by decide +kernel
theorem dX11_count_121 : decode cX11_count 121 = .ok (.aload_n 0, 1) := by decide +kernel
theorem dX11_count_122 : decode cX11_count 122 = .ok (.getfield 21, 3) := by decide +kernel
theorem dX11_count_125 : decode cX11_count 125 = .ok (.getfield 209, 3) := by decide +kernel
theorem dX11_count_128 : decode cX11_count 128 = .ok (.invokevirtual 90, 3) := by decide +kernel
theorem dX11_count_131 : decode cX11_count 131 = .ok (.ireturn, 1) := by decide +kernel
theorem dX11_count_132 : decode cX11_count 132 = .ok (.aload_n 0, 1) := by decide +kernel
theorem dX11_count_133 : decode cX11_count 133 = .ok (.getfield 10, 3) := by decide +kernel
theorem dX11_count_136 : decode cX11_count 136 = .ok (.getfield 289, 3) := by decide +kernel
theorem dX11_count_139 : decode cX11_count 139 = .ok (.ireturn, 1) := by decide +kernel
theorem dX11_count_140 : decode cX11_count 140 = .ok (.aload_n 0, 1) := by decide +kernel
theorem dX11_count_141 : decode cX11_count 141 = .ok (.getfield 10, 3) := by decide +kernel
theorem dX11_count_144 : decode cX11_count 144 = .ok (.getfield 223, 3) := by decide +kernel
theorem dX11_count_147 : decode cX11_count 147 = .ok (.invokevirtual 412, 3) := by decide +kernel
theorem dX11_count_150 : decode cX11_count 150 = .ok (.ireturn, 1) := by decide +kernel
theorem dX11_count_151 : decode cX11_count 151 = .ok (.aload_n 0, 1) := by decide +kernel
theorem dX11_count_152 : decode cX11_count 152 = .ok (.getfield 51, 3) := by decide +kernel
theorem dX11_count_155 : decode cX11_count 155 = .ok (.getfield 205, 3) := by decide +kernel
theorem dX11_count_158 : decode cX11_count 158 = .ok (.ireturn, 1) := by decide +kernel
theorem dX11_count_159 : decode cX11_count 159 = .ok (.aload_n 0, 1) := by decide +kernel
theorem dX11_count_160 : decode cX11_count 160 = .ok (.getfield 54, 3) := by decide +kernel
theorem dX11_count_163 : decode cX11_count 163 = .ok (.getfield 205, 3) := by decide +kernel
theorem dX11_count_166 : decode cX11_count 166 = .ok (.ireturn, 1) := by decide +kernel
theorem dX11_count_167 : decode cX11_count 167 = .ok (.aload_n 0, 1) := by decide +kernel
theorem dX11_count_168 : decode cX11_count 168 = .ok (.getfield 35, 3) := by decide +kernel
theorem dX11_count_171 : decode cX11_count 171 = .ok (.getfield 367, 3) := by decide +kernel
theorem dX11_count_174 : decode cX11_count 174 = .ok (.getfield 205, 3) := by decide +kernel
theorem dX11_count_177 : decode cX11_count 177 = .ok (.ireturn, 1) := by decide +kernel
theorem dX11_count_178 : decode cX11_count 178 = .ok (.aload_n 0, 1) := by decide +kernel
theorem dX11_count_179 : decode cX11_count 179 = .ok (.getfield 44, 3) := by decide +kernel
theorem dX11_count_182 : decode cX11_count 182 = .ok (.getfield 205, 3) := by decide +kernel
theorem dX11_count_185 : decode cX11_count 185 = .ok (.ireturn, 1) := by decide +kernel
theorem dX11_count_186 : decode cX11_count 186 = .ok (.aload_n 0, 1) := by decide +kernel
theorem dX11_count_187 : decode cX11_count 187 = .ok (.getfield 48, 3) := by decide +kernel
theorem dX11_count_190 : decode cX11_count 190 = .ok (.getfield 205, 3) := by decide +kernel
theorem dX11_count_193 : decode cX11_count 193 = .ok (.ireturn, 1) := by decide +kernel
theorem dX11_count_194 : decode cX11_count 194 = .ok (.aload_n 0, 1) := by decide +kernel
theorem dX11_count_195 : decode cX11_count 195 = .ok (.getfield 10, 3) := by decide +kernel
theorem dX11_count_198 : decode cX11_count 198 = .ok (.getfield 155, 3) := by decide +kernel
theorem dX11_count_201 : decode cX11_count 201 = .ok (.iconst 2, 1) := by decide +kernel
theorem dX11_count_202 : decode cX11_count 202 = .ok (.iaload, 1) := by decide +kernel
theorem dX11_count_203 : decode cX11_count 203 = .ok (.ireturn, 1) := by decide +kernel
theorem dX11_count_204 : decode cX11_count 204 = .ok (.aload_n 0, 1) := by decide +kernel
theorem dX11_count_205 : decode cX11_count 205 = .ok (.getfield 10, 3) := by decide +kernel
theorem dX11_count_208 : decode cX11_count 208 = .ok (.getfield 155, 3) := by decide +kernel
theorem dX11_count_211 : decode cX11_count 211 = .ok (.iconst 3, 1) := by decide +kernel
theorem dX11_count_212 : decode cX11_count 212 = .ok (.iaload, 1) := by decide +kernel
theorem dX11_count_213 : decode cX11_count 213 = .ok (.ireturn, 1) := by decide +kernel
theorem dX11_count_214 : decode cX11_count 214 = .ok (.aload_n 0, 1) := by decide +kernel
theorem dX11_count_215 : decode cX11_count 215 = .ok (.getfield 10, 3) := by decide +kernel
theorem dX11_count_218 : decode cX11_count 218 = .ok (.getfield 155, 3) := by decide +kernel
theorem dX11_count_221 : decode cX11_count 221 = .ok (.iconst 0, 1) := by decide +kernel
theorem dX11_count_222 : decode cX11_count 222 = .ok (.iaload, 1) := by decide +kernel
theorem dX11_count_223 : decode cX11_count 223 = .ok (.ireturn, 1) := by decide +kernel
theorem dX11_count_224 : decode cX11_count 224 = .ok (.aload_n 0, 1) := by decide +kernel
theorem dX11_count_225 : decode cX11_count 225 = .ok (.getfield 10, 3) := by decide +kernel
theorem dX11_count_228 : decode cX11_count 228 = .ok (.getfield 155, 3) := by decide +kernel
theorem dX11_count_231 : decode cX11_count 231 = .ok (.iconst 1, 1) := by decide +kernel
theorem dX11_count_232 : decode cX11_count 232 = .ok (.iaload, 1) := by decide +kernel
theorem dX11_count_233 : decode cX11_count 233 = .ok (.ireturn, 1) := by decide +kernel
theorem dX11_count_234 : decode cX11_count 234 = .ok (.iconst (-1), 1) := by decide +kernel
theorem dX11_count_235 : decode cX11_count 235 = .ok (.ireturn, 1) := by decide +kernel
theorem dX11_row_0 : decode cX11_row 0 = .ok (.iload_n 1, 1) := by decide +kernel
theorem dX11_row_1 : decode cX11_row 1 = .ok (.iconst 0, 1) := by decide +kernel
theorem dX11_row_2 : decode cX11_row 2 = .ok (.aload_n 0, 1) := by decide +kernel
theorem dX11_row_3 : decode cX11_row 3 = .ok (.getfield 44, 3) := by decide +kernel
theorem dX11_row_6 : decode cX11_row 6 = .ok (.getfield 205, 3) := by decide +kernel
theorem dX11_row_9 : decode cX11_row 9 = .ok (.iconst 1, 1) := by decide +kernel
theorem dX11_row_10 : decode cX11_row 10 = .ok (.isub, 1) := by decide +kernel
theorem dX11_row_11 : decode cX11_row 11 = .ok (.invokestatic 82, 3) := by decide +kernel
theorem dX11_row_14 : decode cX11_row 14 = .ok (.ifCond .ne 11, 3) := by decide +kernel
theorem dX11_row_17 : decode cX11_row 17 = .ok (.new 251, 3) := by decide +kernel
theorem dX11_row_20 : decode cX11_row 20 = .ok (.dup, 1) := by decide +kernel
theorem dX11_row_21 : decode cX11_row 21 = .ok (.invokespecial 253, 3) := by decide +kernel
theorem dX11_row_24 : decode cX11_row 24 = .ok (.athrow, 1) := by decide +kernel
theorem dX11_row_25 : decode cX11_row 25 = .ok (.aload_n 0, 1) := by decide +kernel
theorem dX11_row_26 : decode cX11_row 26 = .ok (.getfield 44, 3) := by decide +kernel
theorem dX11_row_29 : decode cX11_row 29 = .ok (.iload_n 1, 1) := by decide +kernel
theorem dX11_row_30 : decode cX11_row 30 = .ok (.invokevirtual 339, 3) := by decide +kernel
theorem dX11_row_33 : decode cX11_row 33 = .ok (.ireturn, 1) := by decide +kernel
