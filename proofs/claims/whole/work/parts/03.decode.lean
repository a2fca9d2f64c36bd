theorem dX6_heapAt_0 : decode cX6_heapAt 0 = .ok (.iload_n 0, 1) := by decide +kernel
theorem dX6_heapAt_1 : decode cX6_heapAt 1 = .ok (.bipush 6, 2) := by decide +kernel
theorem dX6_heapAt_3 : decode cX6_heapAt 3 = .ok (.imul, 1) := by decide +kernel
theorem dX6_heapAt_4 : decode cX6_heapAt 4 = .ok (.iload_n 1, 1) := by decide +kernel
theorem dX6_heapAt_5 : decode cX6_heapAt 5 = .ok (.iadd, 1) := by decide +kernel
theorem dX6_heapAt_6 : decode cX6_heapAt 6 = .ok (.iconst 3, 1) := by decide +kernel
theorem dX6_heapAt_7 : decode cX6_heapAt 7 = .ok (.imul, 1) := by decide +kernel
theorem dX6_heapAt_8 : decode cX6_heapAt 8 = .ok (.iload_n 2, 1) := by decide +kernel
theorem dX6_heapAt_9 : decode cX6_heapAt 9 = .ok (.iadd, 1) := by decide +kernel
theorem dX6_heapAt_10 : decode cX6_heapAt 10 = .ok (.ireturn, 1) := by decide +kernel
theorem dX6_add_0 : decode cX6_add 0 = .ok (.iload_n 1, 1) := by decide +kernel
theorem dX6_add_1 : decode cX6_add 1 = .ok (.ifCond .lt 37, 3) := by decide +kernel
theorem dX6_add_4 : decode cX6_add 4 = .ok (.iload_n 1, 1) := by decide +kernel
theorem dX6_add_5 : decode cX6_add 5 = .ok (.sipush 216, 3) := by decide +kernel
theorem dX6_add_8 : decode cX6_add 8 = .ok (.if_icmp .ge 30, 3) := by decide +kernel
theorem dX6_add_11 : decode cX6_add 11 = .ok (.aload_n 0, 1) := by decide +kernel
theorem dX6_add_12 : decode cX6_add 12 = .ok (.getfield 18, 3) := by decide +kernel
theorem dX6_add_15 : decode cX6_add 15 = .ok (.iload_n 1, 1) := by decide +kernel
theorem dX6_add_16 : decode cX6_add 16 = .ok (.dup2, 1) := by decide +kernel
theorem dX6_add_17 : decode cX6_add 17 = .ok (.iaload, 1) := by decide +kernel
theorem dX6_add_18 : decode cX6_add 18 = .ok (.iload_n 2, 1) := by decide +kernel
theorem dX6_add_19 : decode cX6_add 19 = .ok (.iadd, 1) := by decide +kernel
theorem dX6_add_20 : decode cX6_add 20 = .ok (.iastore, 1) := by decide +kernel
theorem dX6_add_21 : decode cX6_add 21 = .ok (.iload_n 1, 1) := by decide +kernel
theorem dX6_add_22 : decode cX6_add 22 = .ok (.iconst 3, 1) := by decide +kernel
theorem dX6_add_23 : decode cX6_add 23 = .ok (.irem, 1) := by decide +kernel
theorem dX6_add_24 : decode cX6_add 24 = .ok (.iconst 2, 1) := by decide +kernel
theorem dX6_add_25 : decode cX6_add 25 = .ok (.if_icmp .ne 13, 3) := by decide +kernel
theorem dX6_add_28 : decode cX6_add 28 = .ok (.aload_n 0, 1) := by decide +kernel
theorem dX6_add_29 : decode cX6_add 29 = .ok (.dup, 1) := by decide +kernel
theorem dX6_add_30 : decode cX6_add 30 = .ok (.getfield 43, 3) := by decide +kernel
theorem dX6_add_33 : decode cX6_add 33 = .ok (.iload_n 2, 1) := by decide +kernel
theorem dX6_add_34 : decode cX6_add 34 = .ok (.iadd, 1) := by decide +kernel
theorem dX6_add_35 : decode cX6_add 35 = .ok (.putfield 43, 3) := by decide +kernel
theorem dX6_add_38 : decode cX6_add 38 = .ok (.return_, 1) := by decide +kernel
theorem dX6_inCell_0 : decode cX6_inCell 0 = .ok (.iconst 0, 1) := by decide +kernel
theorem dX6_inCell_1 : decode cX6_inCell 1 = .ok (.istore 4, 2) := by decide +kernel
theorem dX6_inCell_3 : decode cX6_inCell 3 = .ok (.iconst 0, 1) := by decide +kernel
theorem dX6_inCell_4 : decode cX6_inCell 4 = .ok (.istore 5, 2) := by decide +kernel
theorem dX6_inCell_6 : decode cX6_inCell 6 = .ok (.iload 5, 2) := by decide +kernel
theorem dX6_inCell_8 : decode cX6_inCell 8 = .ok (.aload_n 0, 1) := by decide +kernel
theorem dX6_inCell_9 : decode cX6_inCell 9 = .ok (.getfield 15, 3) := by decide +kernel
theorem dX6_inCell_12 : decode cX6_inCell 12 = .ok (.if_icmp .ge 64, 3) := by decide +kernel
theorem dX6_inCell_15 : decode cX6_inCell 15 = .ok (.iconst 0, 1) := by decide +kernel
theorem dX6_inCell_16 : decode cX6_inCell 16 = .ok (.istore 6, 2) := by decide +kernel
theorem dX6_inCell_18 : decode cX6_inCell 18 = .ok (.iload 6, 2) := by decide +kernel
theorem dX6_inCell_20 : decode cX6_inCell 20 = .ok (.iconst 3, 1) := by decide +kernel
theorem dX6_inCell_21 : decode cX6_inCell 21 = .ok (.if_icmp .ge 49, 3) := by decide +kernel
theorem dX6_inCell_24 : decode cX6_inCell 24 = .ok (.iload_n 2, 1) := by decide +kernel
theorem dX6_inCell_25 : decode cX6_inCell 25 = .ok (.iconst (-1), 1) := by decide +kernel
theorem dX6_inCell_26 : decode cX6_inCell 26 = .ok (.if_icmp .eq 9, 3) := by decide +kernel
theorem dX6_inCell_29 : decode cX6_inCell 29 = .ok (.iload_n 2, 1) := by decide +kernel
theorem dX6_inCell_30 : decode cX6_inCell 30 = .ok (.iload 5, 2) := by decide +kernel
theorem dX6_inCell_32 : decode cX6_inCell 32 = .ok (.if_icmp .ne 32, 3) := by decide +kernel
theorem dX6_inCell_35 : decode cX6_inCell 35 = .ok (.iload_n 3, 1) := by decide +kernel
theorem dX6_inCell_36 : decode cX6_inCell 36 = .ok (.iconst (-1), 1) := by decide +kernel
theorem dX6_inCell_37 : decode cX6_inCell 37 = .ok (.if_icmp .eq 9, 3) := by decide +kernel
theorem dX6_inCell_40 : decode cX6_inCell 40 = .ok (.iload_n 3, 1) := by decide +kernel
theorem dX6_inCell_41 : decode cX6_inCell 41 = .ok (.iload 6, 2) := by decide +kernel
theorem dX6_inCell_43 : decode cX6_inCell 43 = .ok (.if_icmp .ne 21, 3) := by decide +kernel
theorem dX6_inCell_46 : decode cX6_inCell 46 = .ok (.iload 4, 2) := by decide +kernel
theorem dX6_inCell_48 : decode cX6_inCell 48 = .ok (.aload_n 0, 1) := by decide +kernel
theorem dX6_inCell_49 : decode cX6_inCell 49 = .ok (.getfield 18, 3) := by decide +kernel
theorem dX6_inCell_52 : decode cX6_inCell 52 = .ok (.iload_n 1, 1) := by decide +kernel
theorem dX6_inCell_53 : decode cX6_inCell 53 = .ok (.iload 5, 2) := by decide +kernel
theorem dX6_inCell_55 : decode cX6_inCell 55 = .ok (.iload 6, 2) := by decide +kernel
theorem dX6_inCell_57 : decode cX6_inCell 57 = .ok (.invokestatic 72, 3) := by decide +kernel
theorem dX6_inCell_60 : decode cX6_inCell 60 = .ok (.iaload, 1) := by decide +kernel
theorem dX6_inCell_61 : decode cX6_inCell 61 = .ok (.iadd, 1) := by decide +kernel
theorem dX6_inCell_62 : decode cX6_inCell 62 = .ok (.istore 4, 2) := by decide +kernel
theorem dX6_inCell_64 : decode cX6_inCell 64 = .ok (.iinc 6 1, 3) := by decide +kernel
theorem dX6_inCell_67 : decode cX6_inCell 67 = .ok (.goto (-49), 3) := by decide +kernel
theorem dX6_inCell_70 : decode cX6_inCell 70 = .ok (.iinc 5 1, 3) := by decide +kernel
theorem dX6_inCell_73 : decode cX6_inCell 73 = .ok (.goto (-67), 3) := by decide +kernel
theorem dX6_inCell_76 : decode cX6_inCell 76 = .ok (.iload 4, 2) := by decide +kernel
theorem dX6_inCell_78 : decode cX6_inCell 78 = .ok (.ireturn, 1) := by decide +kernel
theorem dX6_allIn_0 : decode cX6_allIn 0 = .ok (.iconst 0, 1) := by decide +kernel
theorem dX6_allIn_1 : decode cX6_allIn 1 = .ok (.istore_n 2, 1) := by decide +kernel
theorem dX6_allIn_2 : decode cX6_allIn 2 = .ok (.iload_n 1, 1) := by decide +kernel
theorem dX6_allIn_3 : decode cX6_allIn 3 = .ok (.bipush 18, 2) := by decide +kernel
theorem dX6_allIn_5 : decode cX6_allIn 5 = .ok (.imul, 1) := by decide +kernel
theorem dX6_allIn_6 : decode cX6_allIn 6 = .ok (.istore_n 3, 1) := by decide +kernel
theorem dX6_allIn_7 : decode cX6_allIn 7 = .ok (.iload_n 3, 1) := by decide +kernel
theorem dX6_allIn_8 : decode cX6_allIn 8 = .ok (.istore 4, 2) := by decide +kernel
theorem dX6_allIn_10 : decode cX6_allIn 10 = .ok (.iload 4, 2) := by decide +kernel
theorem dX6_allIn_12 : decode cX6_allIn 12 = .ok (.iload_n 3, 1) := by decide +kernel
theorem dX6_allIn_13 : decode cX6_allIn 13 = .ok (.bipush 18, 2) := by decide +kernel
theorem dX6_allIn_15 : decode cX6_allIn 15 = .ok (.iadd, 1) := by decide +kernel
theorem dX6_allIn_16 : decode cX6_allIn 16 = .ok (.if_icmp .ge 19, 3) := by decide +kernel
theorem dX6_allIn_19 : decode cX6_allIn 19 = .ok (.iload_n 2, 1) := by decide +kernel
theorem dX6_allIn_20 : decode cX6_allIn 20 = .ok (.aload_n 0, 1) := by decide +kernel
theorem dX6_allIn_21 : decode cX6_allIn 21 = .ok (.getfield 18, 3) := by decide +kernel
theorem dX6_allIn_24 : decode cX6_allIn 24 = .ok (.iload 4, 2) := by decide +kernel
theorem dX6_allIn_26 : decode cX6_allIn 26 = .ok (.iaload, 1) := by decide +kernel
theorem dX6_allIn_27 : decode cX6_allIn 27 = .ok (.iadd, 1) := by decide +kernel
theorem dX6_allIn_28 : decode cX6_allIn 28 = .ok (.istore_n 2, 1) := by decide +kernel
theorem dX6_allIn_29 : decode cX6_allIn 29 = .ok (.iinc 4 1, 3) := by decide +kernel
theorem dX6_allIn_32 : decode cX6_allIn 32 = .ok (.goto (-22), 3) := by decide +kernel
theorem dX6_allIn_35 : decode cX6_allIn 35 = .ok (.iload_n 2, 1) := by decide +kernel
theorem dX6_allIn_36 : decode cX6_allIn 36 = .ok (.ireturn, 1) := by decide +kernel
theorem dX6_meanOf_0 : decode cX6_meanOf 0 = .ok (.aload_n 0, 1) := by decide +kernel
theorem dX6_meanOf_1 : decode cX6_meanOf 1 = .ok (.iload_n 1, 1) := by decide +kernel
theorem dX6_meanOf_2 : decode cX6_meanOf 2 = .ok (.invokevirtual 76, 3) := by decide +kernel
theorem dX6_meanOf_5 : decode cX6_meanOf 5 = .ok (.i2l, 1) := by decide +kernel
theorem dX6_meanOf_6 : decode cX6_meanOf 6 = .ok (.lstore_n 2, 1) := by decide +kernel
theorem dX6_meanOf_7 : decode cX6_meanOf 7 = .ok (.lload_n 2, 1) := by decide +kernel
theorem dX6_meanOf_8 : decode cX6_meanOf 8 = .ok (.lconst 0, 1) := by decide +kernel
theorem dX6_meanOf_9 : decode cX6_meanOf 9 = .ok (.lcmp, 1) := by decide +kernel
theorem dX6_meanOf_10 : decode cX6_meanOf 10 = .ok (.ifCond .ne 5, 3) := by decide +kernel
theorem dX6_meanOf_13 : decode cX6_meanOf 13 = .ok (.iconst (-1), 1) := by decide +kernel
theorem dX6_meanOf_14 : decode cX6_meanOf 14 = .ok (.ireturn, 1) := by decide +kernel
theorem dX6_meanOf_15 : decode cX6_meanOf 15 = .ok (.lconst 0, 1) := by decide +kernel
theorem dX6_meanOf_16 : decode cX6_meanOf 16 = .ok (.lstore 4, 2) := by decide +kernel
theorem dX6_meanOf_18 : decode cX6_meanOf 18 = .ok (.iconst 0, 1) := by decide +kernel
theorem dX6_meanOf_19 : decode cX6_meanOf 19 = .ok (.istore 6, 2) := by decide +kernel
theorem dX6_meanOf_21 : decode cX6_meanOf 21 = .ok (.iload 6, 2) := by decide +kernel
theorem dX6_meanOf_23 : decode cX6_meanOf 23 = .ok (.aload_n 0, 1) := by decide +kernel
theorem dX6_meanOf_24 : decode cX6_meanOf 24 = .ok (.getfield 15, 3) := by decide +kernel
theorem dX6_meanOf_27 : decode cX6_meanOf 27 = .ok (.if_icmp .ge 27, 3) := by decide +kernel
theorem dX6_meanOf_30 : decode cX6_meanOf 30 = .ok (.lload 4, 2) := by decide +kernel
theorem dX6_meanOf_32 : decode cX6_meanOf 32 = .ok (.iload 6, 2) := by decide +kernel
theorem dX6_meanOf_34 : decode cX6_meanOf 34 = .ok (.i2l, 1) := by decide +kernel
theorem dX6_meanOf_35 : decode cX6_meanOf 35 = .ok (.aload_n 0, 1) := by decide +kernel
theorem dX6_meanOf_36 : decode cX6_meanOf 36 = .ok (.iload_n 1, 1) := by decide +kernel
theorem dX6_meanOf_37 : decode cX6_meanOf 37 = .ok (.iload 6, 2) := by decide +kernel
theorem dX6_meanOf_39 : decode cX6_meanOf 39 = .ok (.iconst (-1), 1) := by decide +kernel
theorem dX6_meanOf_40 : decode cX6_meanOf 40 = .ok (.invokevirtual 80, 3) := by decide +kernel
theorem dX6_meanOf_43 : decode cX6_meanOf 43 = .ok (.i2l, 1) := by decide +kernel
theorem dX6_meanOf_44 : decode cX6_meanOf 44 = .ok (.lmul, 1) := by decide +kernel
theorem dX6_meanOf_45 : decode cX6_meanOf 45 = .ok (.ladd, 1) := by decide +kernel
theorem dX6_meanOf_46 : decode cX6_meanOf 46 = .ok (.lstore 4, 2) := by decide +kernel
theorem dX6_meanOf_48 : decode cX6_meanOf 48 = .ok (.iinc 6 1, 3) := by decide +kernel
theorem dX6_meanOf_51 : decode cX6_meanOf 51 = .ok (.goto (-30), 3) := by decide +kernel
theorem dX6_meanOf_54 : decode cX6_meanOf 54 = .ok (.ldc2_w 83, 3) := by decide +kernel
theorem dX6_meanOf_57 : decode cX6_meanOf 57 = .ok (.lload 4, 2) := by decide +kernel
theorem dX6_meanOf_59 : decode cX6_meanOf 59 = .ok (.lmul, 1) := by decide +kernel
theorem dX6_meanOf_60 : decode cX6_meanOf 60 = .ok (.lload_n 2, 1) := by decide +kernel
theorem dX6_meanOf_61 : decode cX6_meanOf 61 = .ok (.ldiv, 1) := by decide +kernel
theorem dX6_meanOf_62 : decode cX6_meanOf 62 = .ok (.l2i, 1) := by decide +kernel
theorem dX6_meanOf_63 : decode cX6_meanOf 63 = .ok (.ireturn, 1) := by decide +kernel
theorem dX6_soundOf_0 : decode cX6_soundOf 0 = .ok (.aload_n 0, 1) := by decide +kernel
theorem dX6_soundOf_1 : decode cX6_soundOf 1 = .ok (.iload_n 1, 1) := by decide +kernel
theorem dX6_soundOf_2 : decode cX6_soundOf 2 = .ok (.invokevirtual 85, 3) := by decide +kernel
theorem dX6_soundOf_5 : decode cX6_soundOf 5 = .ok (.istore_n 2, 1) := by decide +kernel
theorem dX6_soundOf_6 : decode cX6_soundOf 6 = .ok (.iload_n 2, 1) := by decide +kernel
theorem dX6_soundOf_7 : decode cX6_soundOf 7 = .ok (.iconst (-1), 1) := by decide +kernel
theorem dX6_soundOf_8 : decode cX6_soundOf 8 = .ok (.if_icmp .ne 7, 3) := by decide +kernel
theorem dX6_soundOf_11 : decode cX6_soundOf 11 = .ok (.iconst (-1), 1) := by decide +kernel
theorem dX6_soundOf_12 : decode cX6_soundOf 12 = .ok (.goto 10, 3) := by decide +kernel
theorem dX6_soundOf_15 : decode cX6_soundOf 15 = .ok (.bipush 60, 2) := by decide +kernel
theorem dX6_soundOf_17 : decode cX6_soundOf 17 = .ok (.iload_n 2, 1) := by decide +kernel
theorem dX6_soundOf_18 : decode cX6_soundOf 18 = .ok (.bipush 100, 2) := by decide +kernel
theorem dX6_soundOf_20 : decode cX6_soundOf 20 = .ok (.idiv, 1) := by decide +kernel
theorem dX6_soundOf_21 : decode cX6_soundOf 21 = .ok (.isub, 1) := by decide +kernel
theorem dX6_soundOf_22 : decode cX6_soundOf 22 = .ok (.ireturn, 1) := by decide +kernel
theorem dX6_pairs_0 : decode cX6_pairs 0 = .ok (.iconst 0, 1) := by decide +kernel
theorem dX6_pairs_1 : decode cX6_pairs 1 = .ok (.istore_n 2, 1) := by decide +kernel
theorem dX6_pairs_2 : decode cX6_pairs 2 = .ok (.iconst 1, 1) := by decide +kernel
theorem dX6_pairs_3 : decode cX6_pairs 3 = .ok (.istore_n 3, 1) := by decide +kernel
theorem dX6_pairs_4 : decode cX6_pairs 4 = .ok (.iload_n 3, 1) := by decide +kernel
theorem dX6_pairs_5 : decode cX6_pairs 5 = .ok (.aload_n 0, 1) := by decide +kernel
theorem dX6_pairs_6 : decode cX6_pairs 6 = .ok (.getfield 9, 3) := by decide +kernel
theorem dX6_pairs_9 : decode cX6_pairs 9 = .ok (.if_icmp .ge 65, 3) := by decide +kernel
theorem dX6_pairs_12 : decode cX6_pairs 12 = .ok (.aload_n 0, 1) := by decide +kernel
theorem dX6_pairs_13 : decode cX6_pairs 13 = .ok (.iload_n 3, 1) := by decide +kernel
theorem dX6_pairs_14 : decode cX6_pairs 14 = .ok (.invokevirtual 85, 3) := by decide +kernel
theorem dX6_pairs_17 : decode cX6_pairs 17 = .ok (.istore 4, 2) := by decide +kernel
theorem dX6_pairs_19 : decode cX6_pairs 19 = .ok (.iconst 0, 1) := by decide +kernel
theorem dX6_pairs_20 : decode cX6_pairs 20 = .ok (.istore 5, 2) := by decide +kernel
theorem dX6_pairs_22 : decode cX6_pairs 22 = .ok (.iload 5, 2) := by decide +kernel
theorem dX6_pairs_24 : decode cX6_pairs 24 = .ok (.iload_n 3, 1) := by decide +kernel
theorem dX6_pairs_25 : decode cX6_pairs 25 = .ok (.if_icmp .ge 43, 3) := by decide +kernel
theorem dX6_pairs_28 : decode cX6_pairs 28 = .ok (.iload 4, 2) := by decide +kernel
theorem dX6_pairs_30 : decode cX6_pairs 30 = .ok (.iconst (-1), 1) := by decide +kernel
theorem dX6_pairs_31 : decode cX6_pairs 31 = .ok (.if_icmp .eq 37, 3) := by decide +kernel
theorem dX6_pairs_34 : decode cX6_pairs 34 = .ok (.aload_n 0, 1) := by decide +kernel
theorem dX6_pairs_35 : decode cX6_pairs 35 = .ok (.iload 5, 2) := by decide +kernel
theorem dX6_pairs_37 : decode cX6_pairs 37 = .ok (.invokevirtual 85, 3) := by decide +kernel
theorem dX6_pairs_40 : decode cX6_pairs 40 = .ok (.istore 6, 2) := by decide +kernel
theorem dX6_pairs_42 : decode cX6_pairs 42 = .ok (.iload 6, 2) := by decide +kernel
theorem dX6_pairs_44 : decode cX6_pairs 44 = .ok (.iconst (-1), 1) := by decide +kernel
theorem dX6_pairs_45 : decode cX6_pairs 45 = .ok (.if_icmp .eq 17, 3) := by decide +kernel
theorem dX6_pairs_48 : decode cX6_pairs 48 = .ok (.iload_n 1, 1) := by decide +kernel
theorem dX6_pairs_49 : decode cX6_pairs 49 = .ok (.ifCond .eq 10, 3) := by decide +kernel
theorem dX6_pairs_52 : decode cX6_pairs 52 = .ok (.iload 4, 2) := by decide +kernel
theorem dX6_pairs_54 : decode cX6_pairs 54 = .ok (.iload 6, 2) := by decide +kernel
theorem dX6_pairs_56 : decode cX6_pairs 56 = .ok (.if_icmp .lt 6, 3) := by decide +kernel
theorem dX6_pairs_59 : decode cX6_pairs 59 = .ok (.iinc 2 1, 3) := by decide +kernel
theorem dX6_pairs_62 : decode cX6_pairs 62 = .ok (.iinc 5 1, 3) := by decide +kernel
theorem dX6_pairs_65 : decode cX6_pairs 65 = .ok (.goto (-43), 3) := by decide +kernel
theorem dX6_pairs_68 : decode cX6_pairs 68 = .ok (.iinc 3 1, 3) := by decide +kernel
theorem dX6_pairs_71 : decode cX6_pairs 71 = .ok (.goto (-67), 3) := by decide +kernel
theorem dX6_pairs_74 : decode cX6_pairs 74 = .ok (.iload_n 2, 1) := by decide +kernel
theorem dX6_pairs_75 : decode cX6_pairs 75 = .ok (.ireturn, 1) := by decide +kernel
theorem dX6_isHorn_0 : decode cX6_isHorn 0 = .ok (.aload_n 0, 1) := by decide +kernel
theorem dX6_isHorn_1 : decode cX6_isHorn 1 = .ok (.iload_n 1, 1) := by decide +kernel
theorem dX6_isHorn_2 : decode cX6_isHorn 2 = .ok (.invokevirtual 76, 3) := by decide +kernel
theorem dX6_isHorn_5 : decode cX6_isHorn 5 = .ok (.istore_n 2, 1) := by decide +kernel
theorem dX6_isHorn_6 : decode cX6_isHorn 6 = .ok (.iload_n 1, 1) := by decide +kernel
theorem dX6_isHorn_7 : decode cX6_isHorn 7 = .ok (.ifCond .eq 14, 3) := by decide +kernel
theorem dX6_isHorn_10 : decode cX6_isHorn 10 = .ok (.iload_n 2, 1) := by decide +kernel
theorem dX6_isHorn_11 : decode cX6_isHorn 11 = .ok (.aload_n 0, 1) := by decide +kernel
theorem dX6_isHorn_12 : decode cX6_isHorn 12 = .ok (.iload_n 1, 1) := by decide +kernel
theorem dX6_isHorn_13 : decode cX6_isHorn 13 = .ok (.iconst 1, 1) := by decide +kernel
theorem dX6_isHorn_14 : decode cX6_isHorn 14 = .ok (.isub, 1) := by decide +kernel
theorem dX6_isHorn_15 : decode cX6_isHorn 15 = .ok (.invokevirtual 76, 3) := by decide +kernel
theorem dX6_isHorn_18 : decode cX6_isHorn 18 = .ok (.if_icmp .le 28, 3) := by decide +kernel
theorem dX6_isHorn_21 : decode cX6_isHorn 21 = .ok (.iload_n 1, 1) := by decide +kernel
theorem dX6_isHorn_22 : decode cX6_isHorn 22 = .ok (.aload_n 0, 1) := by decide +kernel
theorem dX6_isHorn_23 : decode cX6_isHorn 23 = .ok (.getfield 9, 3) := by decide +kernel
theorem dX6_isHorn_26 : decode cX6_isHorn 26 = .ok (.iconst 1, 1) := by decide +kernel
theorem dX6_isHorn_27 : decode cX6_isHorn 27 = .ok (.isub, 1) := by decide +kernel
theorem dX6_isHorn_28 : decode cX6_isHorn 28 = .ok (.if_icmp .eq 14, 3) := by decide +kernel
theorem dX6_isHorn_31 : decode cX6_isHorn 31 = .ok (.iload_n 2, 1) := by decide +kernel
theorem dX6_isHorn_32 : decode cX6_isHorn 32 = .ok (.aload_n 0, 1) := by decide +kernel
theorem dX6_isHorn_33 : decode cX6_isHorn 33 = .ok (.iload_n 1, 1) := by decide +kernel
theorem dX6_isHorn_34 : decode cX6_isHorn 34 = .ok (.iconst 1, 1) := by decide +kernel
theorem dX6_isHorn_35 : decode cX6_isHorn 35 = .ok (.iadd, 1) := by decide +kernel
theorem dX6_isHorn_36 : decode cX6_isHorn 36 = .ok (.invokevirtual 76, 3) := by decide +kernel
theorem dX6_isHorn_39 : decode cX6_isHorn 39 = .ok (.if_icmp .le 7, 3) := by decide +kernel
theorem dX6_isHorn_42 : decode cX6_isHorn 42 = .ok (.iconst 1, 1) := by decide +kernel
theorem dX6_isHorn_43 : decode cX6_isHorn 43 = .ok (.goto 4, 3) := by decide +kernel
theorem dX6_isHorn_46 : decode cX6_isHorn 46 = .ok (.iconst 0, 1) := by decide +kernel
theorem dX6_isHorn_47 : decode cX6_isHorn 47 = .ok (.ireturn, 1) := by decide +kernel
theorem dX6_horns_0 : decode cX6_horns 0 = .ok (.iconst 0, 1) := by decide +kernel
theorem dX6_horns_1 : decode cX6_horns 1 = .ok (.istore_n 1, 1) := by decide +kernel
theorem dX6_horns_2 : decode cX6_horns 2 = .ok (.iconst 0, 1) := by decide +kernel
theorem dX6_horns_3 : decode cX6_horns 3 = .ok (.istore_n 2, 1) := by decide +kernel
theorem dX6_horns_4 : decode cX6_horns 4 = .ok (.iload_n 2, 1) := by decide +kernel
theorem dX6_horns_5 : decode cX6_horns 5 = .ok (.aload_n 0, 1) := by decide +kernel
theorem dX6_horns_6 : decode cX6_horns 6 = .ok (.getfield 9, 3) := by decide +kernel
theorem dX6_horns_9 : decode cX6_horns 9 = .ok (.if_icmp .ge 20, 3) := by decide +kernel
theorem dX6_horns_12 : decode cX6_horns 12 = .ok (.aload_n 0, 1) := by decide +kernel
theorem dX6_horns_13 : decode cX6_horns 13 = .ok (.iload_n 2, 1) := by decide +kernel
theorem dX6_horns_14 : decode cX6_horns 14 = .ok (.invokevirtual 88, 3) := by decide +kernel
theorem dX6_horns_17 : decode cX6_horns 17 = .ok (.ifCond .eq 6, 3) := by decide +kernel
theorem dX6_horns_20 : decode cX6_horns 20 = .ok (.iinc 1 1, 3) := by decide +kernel
theorem dX6_horns_23 : decode cX6_horns 23 = .ok (.iinc 2 1, 3) := by decide +kernel
theorem dX6_horns_26 : decode cX6_horns 26 = .ok (.goto (-22), 3) := by decide +kernel
theorem dX6_horns_29 : decode cX6_horns 29 = .ok (.iload_n 1, 1) := by decide +kernel
theorem dX6_horns_30 : decode cX6_horns 30 = .ok (.ireturn, 1) := by decide +kernel
theorem dX6_known_0 : decode cX6_known 0 = .ok (.iconst 0, 1) := by decide +kernel
theorem dX6_known_1 : decode cX6_known 1 = .ok (.istore_n 1, 1) := by decide +kernel
theorem dX6_known_2 : decode cX6_known 2 = .ok (.iconst 0, 1) := by decide +kernel
theorem dX6_known_3 : decode cX6_known 3 = .ok (.istore_n 2, 1) := by decide +kernel
theorem dX6_known_4 : decode cX6_known 4 = .ok (.iload_n 2, 1) := by decide +kernel
theorem dX6_known_5 : decode cX6_known 5 = .ok (.aload_n 0, 1) := by decide +kernel
theorem dX6_known_6 : decode cX6_known 6 = .ok (.getfield 9, 3) := by decide +kernel
theorem dX6_known_9 : decode cX6_known 9 = .ok (.if_icmp .ge 64, 3) := by decide +kernel
theorem dX6_known_12 : decode cX6_known 12 = .ok (.iconst 0, 1) := by decide +kernel
theorem dX6_known_13 : decode cX6_known 13 = .ok (.istore_n 3, 1) := by decide +kernel
theorem dX6_known_14 : decode cX6_known 14 = .ok (.aload_n 0, 1) := by decide +kernel
theorem dX6_known_15 : decode cX6_known 15 = .ok (.iload_n 2, 1) := by decide +kernel
theorem dX6_known_16 : decode cX6_known 16 = .ok (.invokevirtual 92, 3) := by decide +kernel
theorem dX6_known_19 : decode cX6_known 19 = .ok (.istore 4, 2) := by decide +kernel
theorem dX6_known_21 : decode cX6_known 21 = .ok (.iconst 0, 1) := by decide +kernel
theorem dX6_known_22 : decode cX6_known 22 = .ok (.istore 5, 2) := by decide +kernel
theorem dX6_known_24 : decode cX6_known 24 = .ok (.iload 5, 2) := by decide +kernel
theorem dX6_known_26 : decode cX6_known 26 = .ok (.aload_n 0, 1) := by decide +kernel
theorem dX6_known_27 : decode cX6_known 27 = .ok (.getfield 9, 3) := by decide +kernel
theorem dX6_known_30 : decode cX6_known 30 = .ok (.if_icmp .ge 23, 3) := by decide +kernel
theorem dX6_known_33 : decode cX6_known 33 = .ok (.aload_n 0, 1) := by decide +kernel
theorem dX6_known_34 : decode cX6_known 34 = .ok (.iload 5, 2) := by decide +kernel
theorem dX6_known_36 : decode cX6_known 36 = .ok (.invokevirtual 92, 3) := by decide +kernel
theorem dX6_known_39 : decode cX6_known 39 = .ok (.iload 4, 2) := by decide +kernel
theorem dX6_known_41 : decode cX6_known 41 = .ok (.if_icmp .ne 6, 3) := by decide +kernel
theorem dX6_known_44 : decode cX6_known 44 = .ok (.iinc 3 1, 3) := by decide +kernel
theorem dX6_known_47 : decode cX6_known 47 = .ok (.iinc 5 1, 3) := by decide +kernel
theorem dX6_known_50 : decode cX6_known 50 = .ok (.goto (-26), 3) := by decide +kernel
theorem dX6_known_53 : decode cX6_known 53 = .ok (.iload 4, 2) := by decide +kernel
theorem dX6_known_55 : decode cX6_known 55 = .ok (.iconst (-1), 1) := by decide +kernel
theorem dX6_known_56 : decode cX6_known 56 = .ok (.if_icmp .eq 11, 3) := by decide +kernel
theorem dX6_known_59 : decode cX6_known 59 = .ok (.iload_n 3, 1) := by decide +kernel
theorem dX6_known_60 : decode cX6_known 60 = .ok (.iconst 1, 1) := by decide +kernel
theorem dX6_known_61 : decode cX6_known 61 = .ok (.if_icmp .ne 6, 3) := by decide +kernel
theorem dX6_known_64 : decode cX6_known 64 = .ok (.iinc 1 1, 3) := by decide +kernel
theorem dX6_known_67 : decode cX6_known 67 = .ok (.iinc 2 1, 3) := by decide +kernel
theorem dX6_known_70 : decode cX6_known 70 = .ok (.goto (-66), 3) := by decide +kernel
theorem dX6_known_73 : decode cX6_known 73 = .ok (.iload_n 1, 1) := by decide +kernel
theorem dX6_known_74 : decode cX6_known 74 = .ok (.ireturn, 1) := by decide +kernel
theorem dX6_share_0 : decode cX6_share 0 = .ok (.aload_n 0, 1) := by decide +kernel
theorem dX6_share_1 : decode cX6_share 1 = .ok (.iload_n 1, 1) := by decide +kernel
theorem dX6_share_2 : decode cX6_share 2 = .ok (.invokevirtual 76, 3) := by decide +kernel
theorem dX6_share_5 : decode cX6_share 5 = .ok (.i2l, 1) := by decide +kernel
theorem dX6_share_6 : decode cX6_share 6 = .ok (.lstore_n 3, 1) := by decide +kernel
theorem dX6_share_7 : decode cX6_share 7 = .ok (.iload_n 1, 1) := by decide +kernel
theorem dX6_share_8 : decode cX6_share 8 = .ok (.bipush 18, 2) := by decide +kernel
theorem dX6_share_10 : decode cX6_share 10 = .ok (.imul, 1) := by decide +kernel
theorem dX6_share_11 : decode cX6_share 11 = .ok (.iload_n 2, 1) := by decide +kernel
theorem dX6_share_12 : decode cX6_share 12 = .ok (.iadd, 1) := by decide +kernel
theorem dX6_share_13 : decode cX6_share 13 = .ok (.istore 5, 2) := by decide +kernel
theorem dX6_share_15 : decode cX6_share 15 = .ok (.lload_n 3, 1) := by decide +kernel
theorem dX6_share_16 : decode cX6_share 16 = .ok (.lconst 0, 1) := by decide +kernel
theorem dX6_share_17 : decode cX6_share 17 = .ok (.lcmp, 1) := by decide +kernel
theorem dX6_share_18 : decode cX6_share 18 = .ok (.ifCond .eq 16, 3) := by decide +kernel
theorem dX6_share_21 : decode cX6_share 21 = .ok (.iload 5, 2) := by decide +kernel
theorem dX6_share_23 : decode cX6_share 23 = .ok (.ifCond .lt 11, 3) := by decide +kernel
theorem dX6_share_26 : decode cX6_share 26 = .ok (.iload 5, 2) := by decide +kernel
theorem dX6_share_28 : decode cX6_share 28 = .ok (.sipush 216, 3) := by decide +kernel
theorem dX6_share_31 : decode cX6_share 31 = .ok (.if_icmp .lt 5, 3) := by decide +kernel
theorem dX6_share_34 : decode cX6_share 34 = .ok (.iconst 0, 1) := by decide +kernel
theorem dX6_share_35 : decode cX6_share 35 = .ok (.ireturn, 1) := by decide +kernel
theorem dX6_share_36 : decode cX6_share 36 = .ok (.ldc2_w 83, 3) := by decide +kernel
theorem dX6_share_39 : decode cX6_share 39 = .ok (.aload_n 0, 1) := by decide +kernel
theorem dX6_share_40 : decode cX6_share 40 = .ok (.getfield 18, 3) := by decide +kernel
theorem dX6_share_43 : decode cX6_share 43 = .ok (.iload 5, 2) := by decide +kernel
theorem dX6_share_45 : decode cX6_share 45 = .ok (.iaload, 1) := by decide +kernel
theorem dX6_share_46 : decode cX6_share 46 = .ok (.i2l, 1) := by decide +kernel
theorem dX6_share_47 : decode cX6_share 47 = .ok (.lmul, 1) := by decide +kernel
theorem dX6_share_48 : decode cX6_share 48 = .ok (.lload_n 3, 1) := by decide +kernel
theorem dX6_share_49 : decode cX6_share 49 = .ok (.ldiv, 1) := by decide +kernel
theorem dX6_share_50 : decode cX6_share 50 = .ok (.l2i, 1) := by decide +kernel
theorem dX6_share_51 : decode cX6_share 51 = .ok (.ireturn, 1) := by decide +kernel
theorem dX6_wordOf_0 : decode cX6_wordOf 0 = .ok (.lconst 1, 1) := by decide +kernel
theorem dX6_wordOf_1 : decode cX6_wordOf 1 = .ok (.lstore_n 2, 1) := by decide +kernel
theorem dX6_wordOf_2 : decode cX6_wordOf 2 = .ok (.iconst 0, 1) := by decide +kernel
theorem dX6_wordOf_3 : decode cX6_wordOf 3 = .ok (.istore 4, 2) := by decide +kernel
theorem dX6_wordOf_5 : decode cX6_wordOf 5 = .ok (.iload 4, 2) := by decide +kernel
theorem dX6_wordOf_7 : decode cX6_wordOf 7 = .ok (.aload_n 0, 1) := by decide +kernel
theorem dX6_wordOf_8 : decode cX6_wordOf 8 = .ok (.getfield 37, 3) := by decide +kernel
theorem dX6_wordOf_11 : decode cX6_wordOf 11 = .ok (.if_icmp .ge 31, 3) := by decide +kernel
theorem dX6_wordOf_14 : decode cX6_wordOf 14 = .ok (.iload 4, 2) := by decide +kernel
theorem dX6_wordOf_16 : decode cX6_wordOf 16 = .ok (.iconst 4, 1) := by decide +kernel
theorem dX6_wordOf_17 : decode cX6_wordOf 17 = .ok (.if_icmp .ge 25, 3) := by decide +kernel
theorem dX6_wordOf_20 : decode cX6_wordOf 20 = .ok (.lload_n 2, 1) := by decide +kernel
theorem dX6_wordOf_21 : decode cX6_wordOf 21 = .ok (.aload_n 0, 1) := by decide +kernel
theorem dX6_wordOf_22 : decode cX6_wordOf 22 = .ok (.iload_n 1, 1) := by decide +kernel
theorem dX6_wordOf_23 : decode cX6_wordOf 23 = .ok (.aload_n 0, 1) := by decide +kernel
theorem dX6_wordOf_24 : decode cX6_wordOf 24 = .ok (.getfield 34, 3) := by decide +kernel
theorem dX6_wordOf_27 : decode cX6_wordOf 27 = .ok (.iload 4, 2) := by decide +kernel
theorem dX6_wordOf_29 : decode cX6_wordOf 29 = .ok (.iaload, 1) := by decide +kernel
theorem dX6_wordOf_30 : decode cX6_wordOf 30 = .ok (.invokevirtual 95, 3) := by decide +kernel
theorem dX6_wordOf_33 : decode cX6_wordOf 33 = .ok (.i2l, 1) := by decide +kernel
theorem dX6_wordOf_34 : decode cX6_wordOf 34 = .ok (.lmul, 1) := by decide +kernel
theorem dX6_wordOf_35 : decode cX6_wordOf 35 = .ok (.lstore_n 2, 1) := by decide +kernel
theorem dX6_wordOf_36 : decode cX6_wordOf 36 = .ok (.iinc 4 1, 3) := by decide +kernel
theorem dX6_wordOf_39 : decode cX6_wordOf 39 = .ok (.goto (-34), 3) := by decide +kernel
theorem dX6_wordOf_42 : decode cX6_wordOf 42 = .ok (.lload_n 2, 1) := by decide +kernel
theorem dX6_wordOf_43 : decode cX6_wordOf 43 = .ok (.lreturn, 1) := by decide +kernel
theorem dX6_richest_0 : decode cX6_richest 0 = .ok (.iconst 0, 1) := by decide +kernel
theorem dX6_richest_1 : decode cX6_richest 1 = .ok (.istore_n 3, 1) := by decide +kernel
theorem dX6_richest_2 : decode cX6_richest 2 = .ok (.iconst 0, 1) := by decide +kernel
theorem dX6_richest_3 : decode cX6_richest 3 = .ok (.istore 4, 2) := by decide +kernel
theorem dX6_richest_5 : decode cX6_richest 5 = .ok (.iload 4, 2) := by decide +kernel
theorem dX6_richest_7 : decode cX6_richest 7 = .ok (.iload_n 2, 1) := by decide +kernel
theorem dX6_richest_8 : decode cX6_richest 8 = .ok (.if_icmp .ge 93, 3) := by decide +kernel
theorem dX6_richest_11 : decode cX6_richest 11 = .ok (.iconst (-1), 1) := by decide +kernel
theorem dX6_richest_12 : decode cX6_richest 12 = .ok (.istore 5, 2) := by decide +kernel
theorem dX6_richest_14 : decode cX6_richest 14 = .ok (.iconst 0, 1) := by decide +kernel
theorem dX6_richest_15 : decode cX6_richest 15 = .ok (.istore 6, 2) := by decide +kernel
theorem dX6_richest_17 : decode cX6_richest 17 = .ok (.iload 6, 2) := by decide +kernel
theorem dX6_richest_19 : decode cX6_richest 19 = .ok (.aload_n 0, 1) := by decide +kernel
theorem dX6_richest_20 : decode cX6_richest 20 = .ok (.getfield 9, 3) := by decide +kernel
theorem dX6_richest_23 : decode cX6_richest 23 = .ok (.if_icmp .ge 59, 3) := by decide +kernel
theorem dX6_richest_26 : decode cX6_richest 26 = .ok (.iload_n 3, 1) := by decide +kernel
theorem dX6_richest_27 : decode cX6_richest 27 = .ok (.iload 6, 2) := by decide +kernel
theorem dX6_richest_29 : decode cX6_richest 29 = .ok (.ishr, 1) := by decide +kernel
theorem dX6_richest_30 : decode cX6_richest 30 = .ok (.iconst 1, 1) := by decide +kernel
theorem dX6_richest_31 : decode cX6_richest 31 = .ok (.iand, 1) := by decide +kernel
theorem dX6_richest_32 : decode cX6_richest 32 = .ok (.ifCond .ne 7, 3) := by decide +kernel
theorem dX6_richest_35 : decode cX6_richest 35 = .ok (.iconst 1, 1) := by decide +kernel
theorem dX6_richest_36 : decode cX6_richest 36 = .ok (.goto 4, 3) := by decide +kernel
theorem dX6_richest_39 : decode cX6_richest 39 = .ok (.iconst 0, 1) := by decide +kernel
theorem dX6_richest_40 : decode cX6_richest 40 = .ok (.istore 7, 2) := by decide +kernel
theorem dX6_richest_42 : decode cX6_richest 42 = .ok (.iload 7, 2) := by decide +kernel
theorem dX6_richest_44 : decode cX6_richest 44 = .ok (.ifCond .eq 32, 3) := by decide +kernel
theorem dX6_richest_47 : decode cX6_richest 47 = .ok (.iload 5, 2) := by decide +kernel
theorem dX6_richest_49 : decode cX6_richest 49 = .ok (.iconst (-1), 1) := by decide +kernel
theorem dX6_richest_50 : decode cX6_richest 50 = .ok (.if_icmp .eq 22, 3) := by decide +kernel
theorem dX6_richest_53 : decode cX6_richest 53 = .ok (.aload_n 0, 1) := by decide +kernel
theorem dX6_richest_54 : decode cX6_richest 54 = .ok (.iload 6, 2) := by decide +kernel
theorem dX6_richest_56 : decode cX6_richest 56 = .ok (.iload_n 1, 1) := by decide +kernel
theorem dX6_richest_57 : decode cX6_richest 57 = .ok (.iconst (-1), 1) := by decide +kernel
theorem dX6_richest_58 : decode cX6_richest 58 = .ok (.invokevirtual 80, 3) := by decide +kernel
theorem dX6_richest_61 : decode cX6_richest 61 = .ok (.aload_n 0, 1) := by decide +kernel
theorem dX6_richest_62 : decode cX6_richest 62 = .ok (.iload 5, 2) := by decide +kernel
theorem dX6_richest_64 : decode cX6_richest 64 = .ok (.iload_n 1, 1) := by decide +kernel
theorem dX6_richest_65 : decode cX6_richest 65 = .ok (.iconst (-1), 1) := by decide +kernel
theorem dX6_richest_66 : decode cX6_richest 66 = .ok (.invokevirtual 80, 3) := by decide +kernel
theorem dX6_richest_69 : decode cX6_richest 69 = .ok (.if_icmp .le 7, 3) := by decide +kernel
theorem dX6_richest_72 : decode cX6_richest 72 = .ok (.iload 6, 2) := by decide +kernel
theorem dX6_richest_74 : decode cX6_richest 74 = .ok (.istore 5, 2) := by decide +kernel
theorem dX6_richest_76 : decode cX6_richest 76 = .ok (.iinc 6 1, 3) := by decide +kernel
theorem dX6_richest_79 : decode cX6_richest 79 = .ok (.goto (-62), 3) := by decide +kernel
theorem dX6_richest_82 : decode cX6_richest 82 = .ok (.iload 5, 2) := by decide +kernel
theorem dX6_richest_84 : decode cX6_richest 84 = .ok (.iconst (-1), 1) := by decide +kernel
theorem dX6_richest_85 : decode cX6_richest 85 = .ok (.if_icmp .eq 10, 3) := by decide +kernel
theorem dX6_richest_88 : decode cX6_richest 88 = .ok (.iload_n 3, 1) := by decide +kernel
theorem dX6_richest_89 : decode cX6_richest 89 = .ok (.iconst 1, 1) := by decide +kernel
theorem dX6_richest_90 : decode cX6_richest 90 = .ok (.iload 5, 2) := by decide +kernel
theorem dX6_richest_92 : decode cX6_richest 92 = .ok (.ishl, 1) := by decide +kernel
theorem dX6_richest_93 : decode cX6_richest 93 = .ok (.ior, 1) := by decide +kernel
theorem dX6_richest_94 : decode cX6_richest 94 = .ok (.istore_n 3, 1) := by decide +kernel
theorem dX6_richest_95 : decode cX6_richest 95 = .ok (.iinc 4 1, 3) := by decide +kernel
theorem dX6_richest_98 : decode cX6_richest 98 = .ok (.goto (-93), 3) := by decide +kernel
theorem dX6_richest_101 : decode cX6_richest 101 = .ok (.iload_n 3, 1) := by decide +kernel
theorem dX6_richest_102 : decode cX6_richest 102 = .ok (.ireturn, 1) := by decide +kernel
theorem dX6_partIn_0 : decode cX6_partIn 0 = .ok (.lconst 0, 1) := by decide +kernel
theorem dX6_partIn_1 : decode cX6_partIn 1 = .ok (.lstore_n 3, 1) := by decide +kernel
theorem dX6_partIn_2 : decode cX6_partIn 2 = .ok (.lconst 0, 1) := by decide +kernel
theorem dX6_partIn_3 : decode cX6_partIn 3 = .ok (.lstore 5, 2) := by decide +kernel
theorem dX6_partIn_5 : decode cX6_partIn 5 = .ok (.iconst 0, 1) := by decide +kernel
theorem dX6_partIn_6 : decode cX6_partIn 6 = .ok (.istore 7, 2) := by decide +kernel
theorem dX6_partIn_8 : decode cX6_partIn 8 = .ok (.iload 7, 2) := by decide +kernel
theorem dX6_partIn_10 : decode cX6_partIn 10 = .ok (.aload_n 0, 1) := by decide +kernel
theorem dX6_partIn_11 : decode cX6_partIn 11 = .ok (.getfield 9, 3) := by decide +kernel
theorem dX6_partIn_14 : decode cX6_partIn 14 = .ok (.if_icmp .ge 47, 3) := by decide +kernel
theorem dX6_partIn_17 : decode cX6_partIn 17 = .ok (.aload_n 0, 1) := by decide +kernel
theorem dX6_partIn_18 : decode cX6_partIn 18 = .ok (.iload 7, 2) := by decide +kernel
theorem dX6_partIn_20 : decode cX6_partIn 20 = .ok (.iload_n 2, 1) := by decide +kernel
theorem dX6_partIn_21 : decode cX6_partIn 21 = .ok (.iconst (-1), 1) := by decide +kernel
theorem dX6_partIn_22 : decode cX6_partIn 22 = .ok (.invokevirtual 80, 3) := by decide +kernel
theorem dX6_partIn_25 : decode cX6_partIn 25 = .ok (.istore 8, 2) := by decide +kernel
theorem dX6_partIn_27 : decode cX6_partIn 27 = .ok (.lload 5, 2) := by decide +kernel
theorem dX6_partIn_29 : decode cX6_partIn 29 = .ok (.iload 8, 2) := by decide +kernel
theorem dX6_partIn_31 : decode cX6_partIn 31 = .ok (.i2l, 1) := by decide +kernel
theorem dX6_partIn_32 : decode cX6_partIn 32 = .ok (.ladd, 1) := by decide +kernel
theorem dX6_partIn_33 : decode cX6_partIn 33 = .ok (.lstore 5, 2) := by decide +kernel
theorem dX6_partIn_35 : decode cX6_partIn 35 = .ok (.lload_n 3, 1) := by decide +kernel
theorem dX6_partIn_36 : decode cX6_partIn 36 = .ok (.iload_n 1, 1) := by decide +kernel
theorem dX6_partIn_37 : decode cX6_partIn 37 = .ok (.iload 7, 2) := by decide +kernel
theorem dX6_partIn_39 : decode cX6_partIn 39 = .ok (.ishr, 1) := by decide +kernel
theorem dX6_partIn_40 : decode cX6_partIn 40 = .ok (.iconst 1, 1) := by decide +kernel
theorem dX6_partIn_41 : decode cX6_partIn 41 = .ok (.iand, 1) := by decide +kernel
theorem dX6_partIn_42 : decode cX6_partIn 42 = .ok (.iconst 1, 1) := by decide +kernel
theorem dX6_partIn_43 : decode cX6_partIn 43 = .ok (.if_icmp .ne 9, 3) := by decide +kernel
theorem dX6_partIn_46 : decode cX6_partIn 46 = .ok (.iload 8, 2) := by decide +kernel
theorem dX6_partIn_48 : decode cX6_partIn 48 = .ok (.i2l, 1) := by decide +kernel
theorem dX6_partIn_49 : decode cX6_partIn 49 = .ok (.goto 4, 3) := by decide +kernel
theorem dX6_partIn_52 : decode cX6_partIn 52 = .ok (.lconst 0, 1) := by decide +kernel
theorem dX6_partIn_53 : decode cX6_partIn 53 = .ok (.ladd, 1) := by decide +kernel
theorem dX6_partIn_54 : decode cX6_partIn 54 = .ok (.lstore_n 3, 1) := by decide +kernel
theorem dX6_partIn_55 : decode cX6_partIn 55 = .ok (.iinc 7 1, 3) := by decide +kernel
theorem dX6_partIn_58 : decode cX6_partIn 58 = .ok (.goto (-50), 3) := by decide +kernel
theorem dX6_partIn_61 : decode cX6_partIn 61 = .ok (.lload 5, 2) := by decide +kernel
theorem dX6_partIn_63 : decode cX6_partIn 63 = .ok (.lconst 0, 1) := by decide +kernel
theorem dX6_partIn_64 : decode cX6_partIn 64 = .ok (.lcmp, 1) := by decide +kernel
theorem dX6_partIn_65 : decode cX6_partIn 65 = .ok (.ifCond .ne 7, 3) := by decide +kernel
theorem dX6_partIn_68 : decode cX6_partIn 68 = .ok (.iconst 0, 1) := by decide +kernel
theorem dX6_partIn_69 : decode cX6_partIn 69 = .ok (.goto 12, 3) := by decide +kernel
theorem dX6_partIn_72 : decode cX6_partIn 72 = .ok (.ldc2_w 83, 3) := by decide +kernel
theorem dX6_partIn_75 : decode cX6_partIn 75 = .ok (.lload_n 3, 1) := by decide +kernel
theorem dX6_partIn_76 : decode cX6_partIn 76 = .ok (.lmul, 1) := by decide +kernel
theorem dX6_partIn_77 : decode cX6_partIn 77 = .ok (.lload 5, 2) := by decide +kernel
theorem dX6_partIn_79 : decode cX6_partIn 79 = .ok (.ldiv, 1) := by decide +kernel
theorem dX6_partIn_80 : decode cX6_partIn 80 = .ok (.l2i, 1) := by decide +kernel
theorem dX6_partIn_81 : decode cX6_partIn 81 = .ok (.ireturn, 1) := by decide +kernel
theorem dX6_sampled_0 : decode cX6_sampled 0 = .ok (.iconst 0, 1) := by decide +kernel
theorem dX6_sampled_1 : decode cX6_sampled 1 = .ok (.istore_n 1, 1) := by decide +kernel
theorem dX6_sampled_2 : decode cX6_sampled 2 = .ok (.iconst 0, 1) := by decide +kernel
theorem dX6_sampled_3 : decode cX6_sampled 3 = .ok (.istore_n 2, 1) := by decide +kernel
theorem dX6_sampled_4 : decode cX6_sampled 4 = .ok (.iload_n 2, 1) := by decide +kernel
theorem dX6_sampled_5 : decode cX6_sampled 5 = .ok (.aload_n 0, 1) := by decide +kernel
theorem dX6_sampled_6 : decode cX6_sampled 6 = .ok (.getfield 9, 3) := by decide +kernel
theorem dX6_sampled_9 : decode cX6_sampled 9 = .ok (.if_icmp .ge 43, 3) := by decide +kernel
theorem dX6_sampled_12 : decode cX6_sampled 12 = .ok (.iconst 0, 1) := by decide +kernel
theorem dX6_sampled_13 : decode cX6_sampled 13 = .ok (.istore_n 3, 1) := by decide +kernel
theorem dX6_sampled_14 : decode cX6_sampled 14 = .ok (.iload_n 3, 1) := by decide +kernel
theorem dX6_sampled_15 : decode cX6_sampled 15 = .ok (.aload_n 0, 1) := by decide +kernel
theorem dX6_sampled_16 : decode cX6_sampled 16 = .ok (.getfield 15, 3) := by decide +kernel
theorem dX6_sampled_19 : decode cX6_sampled 19 = .ok (.if_icmp .ge 27, 3) := by decide +kernel
theorem dX6_sampled_22 : decode cX6_sampled 22 = .ok (.aload_n 0, 1) := by decide +kernel
theorem dX6_sampled_23 : decode cX6_sampled 23 = .ok (.getfield 31, 3) := by decide +kernel
theorem dX6_sampled_26 : decode cX6_sampled 26 = .ok (.iload_n 2, 1) := by decide +kernel
theorem dX6_sampled_27 : decode cX6_sampled 27 = .ok (.bipush 6, 2) := by decide +kernel
theorem dX6_sampled_29 : decode cX6_sampled 29 = .ok (.imul, 1) := by decide +kernel
theorem dX6_sampled_30 : decode cX6_sampled 30 = .ok (.iload_n 3, 1) := by decide +kernel
theorem dX6_sampled_31 : decode cX6_sampled 31 = .ok (.iadd, 1) := by decide +kernel
theorem dX6_sampled_32 : decode cX6_sampled 32 = .ok (.iaload, 1) := by decide +kernel
theorem dX6_sampled_33 : decode cX6_sampled 33 = .ok (.iconst (-1), 1) := by decide +kernel
theorem dX6_sampled_34 : decode cX6_sampled 34 = .ok (.if_icmp .eq 6, 3) := by decide +kernel
theorem dX6_sampled_37 : decode cX6_sampled 37 = .ok (.iinc 1 1, 3) := by decide +kernel
theorem dX6_sampled_40 : decode cX6_sampled 40 = .ok (.iinc 3 1, 3) := by decide +kernel
theorem dX6_sampled_43 : decode cX6_sampled 43 = .ok (.goto (-29), 3) := by decide +kernel
theorem dX6_sampled_46 : decode cX6_sampled 46 = .ok (.iinc 2 1, 3) := by decide +kernel
theorem dX6_sampled_49 : decode cX6_sampled 49 = .ok (.goto (-45), 3) := by decide +kernel
theorem dX6_sampled_52 : decode cX6_sampled 52 = .ok (.iload_n 1, 1) := by decide +kernel
theorem dX6_sampled_53 : decode cX6_sampled 53 = .ok (.ireturn, 1) := by decide +kernel
theorem dX6_haul_0 : decode cX6_haul 0 = .ok (.iload_n 3, 1) := by decide +kernel
theorem dX6_haul_1 : decode cX6_haul 1 = .ok (.istore 4, 2) := by decide +kernel
theorem dX6_haul_3 : decode cX6_haul 3 = .ok (.aload_n 0, 1) := by decide +kernel
theorem dX6_haul_4 : decode cX6_haul 4 = .ok (.getfield 15, 3) := by decide +kernel
theorem dX6_haul_7 : decode cX6_haul 7 = .ok (.iconst 1, 1) := by decide +kernel
theorem dX6_haul_8 : decode cX6_haul 8 = .ok (.isub, 1) := by decide +kernel
theorem dX6_haul_9 : decode cX6_haul 9 = .ok (.istore 5, 2) := by decide +kernel
theorem dX6_haul_11 : decode cX6_haul 11 = .ok (.iload 5, 2) := by decide +kernel
theorem dX6_haul_13 : decode cX6_haul 13 = .ok (.ifCond .lt 109, 3) := by decide +kernel
theorem dX6_haul_16 : decode cX6_haul 16 = .ok (.iconst 0, 1) := by decide +kernel
theorem dX6_haul_17 : decode cX6_haul 17 = .ok (.istore 6, 2) := by decide +kernel
theorem dX6_haul_19 : decode cX6_haul 19 = .ok (.iload 6, 2) := by decide +kernel
theorem dX6_haul_21 : decode cX6_haul 21 = .ok (.iconst 3, 1) := by decide +kernel
theorem dX6_haul_22 : decode cX6_haul 22 = .ok (.if_icmp .ge 94, 3) := by decide +kernel
theorem dX6_haul_25 : decode cX6_haul 25 = .ok (.iload 4, 2) := by decide +kernel
theorem dX6_haul_27 : decode cX6_haul 27 = .ok (.aload_n 0, 1) := by decide +kernel
theorem dX6_haul_28 : decode cX6_haul 28 = .ok (.getfield 18, 3) := by decide +kernel
theorem dX6_haul_31 : decode cX6_haul 31 = .ok (.iload_n 1, 1) := by decide +kernel
theorem dX6_haul_32 : decode cX6_haul 32 = .ok (.iload 5, 2) := by decide +kernel
theorem dX6_haul_34 : decode cX6_haul 34 = .ok (.iload 6, 2) := by decide +kernel
theorem dX6_haul_36 : decode cX6_haul 36 = .ok (.invokestatic 72, 3) := by decide +kernel
theorem dX6_haul_39 : decode cX6_haul 39 = .ok (.iaload, 1) := by decide +kernel
theorem dX6_haul_40 : decode cX6_haul 40 = .ok (.invokestatic 99, 3) := by decide +kernel
theorem dX6_haul_43 : decode cX6_haul 43 = .ok (.istore 7, 2) := by decide +kernel
theorem dX6_haul_45 : decode cX6_haul 45 = .ok (.iload 4, 2) := by decide +kernel
theorem dX6_haul_47 : decode cX6_haul 47 = .ok (.iload 7, 2) := by decide +kernel
theorem dX6_haul_49 : decode cX6_haul 49 = .ok (.isub, 1) := by decide +kernel
theorem dX6_haul_50 : decode cX6_haul 50 = .ok (.istore 4, 2) := by decide +kernel
theorem dX6_haul_52 : decode cX6_haul 52 = .ok (.aload_n 0, 1) := by decide +kernel
theorem dX6_haul_53 : decode cX6_haul 53 = .ok (.getfield 18, 3) := by decide +kernel
theorem dX6_haul_56 : decode cX6_haul 56 = .ok (.iload_n 1, 1) := by decide +kernel
theorem dX6_haul_57 : decode cX6_haul 57 = .ok (.iload 5, 2) := by decide +kernel
theorem dX6_haul_59 : decode cX6_haul 59 = .ok (.iload 6, 2) := by decide +kernel
theorem dX6_haul_61 : decode cX6_haul 61 = .ok (.invokestatic 72, 3) := by decide +kernel
theorem dX6_haul_64 : decode cX6_haul 64 = .ok (.dup2, 1) := by decide +kernel
theorem dX6_haul_65 : decode cX6_haul 65 = .ok (.iaload, 1) := by decide +kernel
theorem dX6_haul_66 : decode cX6_haul 66 = .ok (.iload 7, 2) := by decide +kernel
theorem dX6_haul_68 : decode cX6_haul 68 = .ok (.isub, 1) := by decide +kernel
theorem dX6_haul_69 : decode cX6_haul 69 = .ok (.iastore, 1) := by decide +kernel
theorem dX6_haul_70 : decode cX6_haul 70 = .ok (.iload_n 2, 1) := by decide +kernel
theorem dX6_haul_71 : decode cX6_haul 71 = .ok (.aload_n 0, 1) := by decide +kernel
theorem dX6_haul_72 : decode cX6_haul 72 = .ok (.getfield 9, 3) := by decide +kernel
theorem dX6_haul_75 : decode cX6_haul 75 = .ok (.if_icmp .ge 24, 3) := by decide +kernel
theorem dX6_haul_78 : decode cX6_haul 78 = .ok (.aload_n 0, 1) := by decide +kernel
theorem dX6_haul_79 : decode cX6_haul 79 = .ok (.getfield 18, 3) := by decide +kernel
theorem dX6_haul_82 : decode cX6_haul 82 = .ok (.iload_n 2, 1) := by decide +kernel
theorem dX6_haul_83 : decode cX6_haul 83 = .ok (.iload 5, 2) := by decide +kernel
theorem dX6_haul_85 : decode cX6_haul 85 = .ok (.iload 6, 2) := by decide +kernel
theorem dX6_haul_87 : decode cX6_haul 87 = .ok (.invokestatic 72, 3) := by decide +kernel
theorem dX6_haul_90 : decode cX6_haul 90 = .ok (.dup2, 1) := by decide +kernel
theorem dX6_haul_91 : decode cX6_haul 91 = .ok (.iaload, 1) := by decide +kernel
theorem dX6_haul_92 : decode cX6_haul 92 = .ok (.iload 7, 2) := by decide +kernel
theorem dX6_haul_94 : decode cX6_haul 94 = .ok (.iadd, 1) := by decide +kernel
theorem dX6_haul_95 : decode cX6_haul 95 = .ok (.iastore, 1) := by decide +kernel
theorem dX6_haul_96 : decode cX6_haul 96 = .ok (.goto 14, 3) := by decide +kernel
theorem dX6_haul_99 : decode cX6_haul 99 = .ok (.aload_n 0, 1) := by decide +kernel
theorem dX6_haul_100 : decode cX6_haul 100 = .ok (.getfield 40, 3) := by decide +kernel
theorem dX6_haul_103 : decode cX6_haul 103 = .ok (.iconst 4, 1) := by decide +kernel
theorem dX6_haul_104 : decode cX6_haul 104 = .ok (.dup2, 1) := by decide +kernel
theorem dX6_haul_105 : decode cX6_haul 105 = .ok (.iaload, 1) := by decide +kernel
theorem dX6_haul_106 : decode cX6_haul 106 = .ok (.iload 7, 2) := by decide +kernel
theorem dX6_haul_108 : decode cX6_haul 108 = .ok (.iadd, 1) := by decide +kernel
theorem dX6_haul_109 : decode cX6_haul 109 = .ok (.iastore, 1) := by decide +kernel
theorem dX6_haul_110 : decode cX6_haul 110 = .ok (.iinc 6 1, 3) := by decide +kernel
theorem dX6_haul_113 : decode cX6_haul 113 = .ok (.goto (-94), 3) := by decide +kernel
theorem dX6_haul_116 : decode cX6_haul 116 = .ok (.iinc 5 (-1), 3) := by decide +kernel
theorem dX6_haul_119 : decode cX6_haul 119 = .ok (.goto (-108), 3) := by decide +kernel
theorem dX6_haul_122 : decode cX6_haul 122 = .ok (.return_, 1) := by decide +kernel
theorem dJ9_min_7cf53_0 : decode cJ9_min_7cf53 0 = .ok (.iload_n 0, 1) := by decide +kernel
theorem dJ9_min_7cf53_1 : decode cJ9_min_7cf53 1 = .ok (.iload_n 1, 1) := by decide +kernel
theorem dJ9_min_7cf53_2 : decode cJ9_min_7cf53 2 = .ok (.if_icmp .gt 7, 3) := by decide +kernel
theorem dJ9_min_7cf53_5 : decode cJ9_min_7cf53 5 = .ok (.iload_n 0, 1) := by decide +kernel
theorem dJ9_min_7cf53_6 : decode cJ9_min_7cf53 6 = .ok (.goto 4, 3) := by decide +kernel
theorem dJ9_min_7cf53_9 : decode cJ9_min_7cf53 9 = .ok (.iload_n 1, 1) := by decide +kernel
theorem dJ9_min_7cf53_10 : decode cJ9_min_7cf53 10 = .ok (.ireturn, 1) := by decide +kernel
