theorem dX0_init_0 : decode cX0_init 0 = .ok (.aload_n 0, 1) := by decide +kernel
theorem dX0_init_1 : decode cX0_init 1 = .ok (.invokespecial 3, 3) := by decide +kernel
theorem dX0_init_4 : decode cX0_init 4 = .ok (.aload_n 0, 1) := by decide +kernel
theorem dX0_init_5 : decode cX0_init 5 = .ok (.bipush 14, 2) := by decide +kernel
theorem dX0_init_7 : decode cX0_init 7 = .ok (.newarray .int, 2) := by decide +kernel
theorem dX0_init_9 : decode cX0_init 9 = .ok (.putfield 9, 3) := by decide +kernel
theorem dX0_init_12 : decode cX0_init 12 = .ok (.return_, 1) := by decide +kernel
theorem dX0_clear_0 : decode cX0_clear 0 = .ok (.iconst 0, 1) := by decide +kernel
theorem dX0_clear_1 : decode cX0_clear 1 = .ok (.istore_n 1, 1) := by decide +kernel
theorem dX0_clear_2 : decode cX0_clear 2 = .ok (.iload_n 1, 1) := by decide +kernel
theorem dX0_clear_3 : decode cX0_clear 3 = .ok (.bipush 14, 2) := by decide +kernel
theorem dX0_clear_5 : decode cX0_clear 5 = .ok (.if_icmp .ge 16, 3) := by decide +kernel
theorem dX0_clear_8 : decode cX0_clear 8 = .ok (.aload_n 0, 1) := by decide +kernel
theorem dX0_clear_9 : decode cX0_clear 9 = .ok (.getfield 9, 3) := by decide +kernel
theorem dX0_clear_12 : decode cX0_clear 12 = .ok (.iload_n 1, 1) := by decide +kernel
theorem dX0_clear_13 : decode cX0_clear 13 = .ok (.iconst 0, 1) := by decide +kernel
theorem dX0_clear_14 : decode cX0_clear 14 = .ok (.iastore, 1) := by decide +kernel
theorem dX0_clear_15 : decode cX0_clear 15 = .ok (.iinc 1 1, 3) := by decide +kernel
theorem dX0_clear_18 : decode cX0_clear 18 = .ok (.goto (-16), 3) := by decide +kernel
theorem dX0_clear_21 : decode cX0_clear 21 = .ok (.return_, 1) := by decide +kernel
theorem dX0_copyFrom_0 : decode cX0_copyFrom 0 = .ok (.aload_n 1, 1) := by decide +kernel
theorem dX0_copyFrom_1 : decode cX0_copyFrom 1 = .ok (.getfield 9, 3) := by decide +kernel
theorem dX0_copyFrom_4 : decode cX0_copyFrom 4 = .ok (.iconst 0, 1) := by decide +kernel
theorem dX0_copyFrom_5 : decode cX0_copyFrom 5 = .ok (.aload_n 0, 1) := by decide +kernel
theorem dX0_copyFrom_6 : decode cX0_copyFrom 6 = .ok (.getfield 9, 3) := by decide +kernel
theorem dX0_copyFrom_9 : decode cX0_copyFrom 9 = .ok (.iconst 0, 1) := by decide +kernel
theorem dX0_copyFrom_10 : decode cX0_copyFrom 10 = .ok (.bipush 14, 2) := by decide +kernel
theorem dX0_copyFrom_12 : decode cX0_copyFrom 12 = .ok (.invokestatic 15, 3) := by decide +kernel
theorem dX0_copyFrom_15 : decode cX0_copyFrom 15 = .ok (.return_, 1) := by decide +kernel
theorem dX0_addRectangle_0 : decode cX0_addRectangle 0 = .ok (.iconst 1, 1) := by decide +kernel
theorem dX0_addRectangle_1 : decode cX0_addRectangle 1 = .ok (.iload_n 3, 1) := by decide +kernel
theorem dX0_addRectangle_2 : decode cX0_addRectangle 2 = .ok (.ishl, 1) := by decide +kernel
theorem dX0_addRectangle_3 : decode cX0_addRectangle 3 = .ok (.iconst 1, 1) := by decide +kernel
theorem dX0_addRectangle_4 : decode cX0_addRectangle 4 = .ok (.isub, 1) := by decide +kernel
theorem dX0_addRectangle_5 : decode cX0_addRectangle 5 = .ok (.iload_n 1, 1) := by decide +kernel
theorem dX0_addRectangle_6 : decode cX0_addRectangle 6 = .ok (.ishl, 1) := by decide +kernel
theorem dX0_addRectangle_7 : decode cX0_addRectangle 7 = .ok (.istore 5, 2) := by decide +kernel
theorem dX0_addRectangle_9 : decode cX0_addRectangle 9 = .ok (.iconst 0, 1) := by decide +kernel
theorem dX0_addRectangle_10 : decode cX0_addRectangle 10 = .ok (.istore 6, 2) := by decide +kernel
theorem dX0_addRectangle_12 : decode cX0_addRectangle 12 = .ok (.iload 6, 2) := by decide +kernel
theorem dX0_addRectangle_14 : decode cX0_addRectangle 14 = .ok (.bipush 14, 2) := by decide +kernel
theorem dX0_addRectangle_16 : decode cX0_addRectangle 16 = .ok (.if_icmp .ge 36, 3) := by decide +kernel
theorem dX0_addRectangle_19 : decode cX0_addRectangle 19 = .ok (.iload 6, 2) := by decide +kernel
theorem dX0_addRectangle_21 : decode cX0_addRectangle 21 = .ok (.iload_n 2, 1) := by decide +kernel
theorem dX0_addRectangle_22 : decode cX0_addRectangle 22 = .ok (.if_icmp .lt 24, 3) := by decide +kernel
theorem dX0_addRectangle_25 : decode cX0_addRectangle 25 = .ok (.iload 6, 2) := by decide +kernel
theorem dX0_addRectangle_27 : decode cX0_addRectangle 27 = .ok (.iload_n 2, 1) := by decide +kernel
theorem dX0_addRectangle_28 : decode cX0_addRectangle 28 = .ok (.iload 4, 2) := by decide +kernel
theorem dX0_addRectangle_30 : decode cX0_addRectangle 30 = .ok (.iadd, 1) := by decide +kernel
theorem dX0_addRectangle_31 : decode cX0_addRectangle 31 = .ok (.if_icmp .ge 15, 3) := by decide +kernel
theorem dX0_addRectangle_34 : decode cX0_addRectangle 34 = .ok (.aload_n 0, 1) := by decide +kernel
theorem dX0_addRectangle_35 : decode cX0_addRectangle 35 = .ok (.getfield 9, 3) := by decide +kernel
theorem dX0_addRectangle_38 : decode cX0_addRectangle 38 = .ok (.iload 6, 2) := by decide +kernel
theorem dX0_addRectangle_40 : decode cX0_addRectangle 40 = .ok (.dup2, 1) := by decide +kernel
theorem dX0_addRectangle_41 : decode cX0_addRectangle 41 = .ok (.iaload, 1) := by decide +kernel
theorem dX0_addRectangle_42 : decode cX0_addRectangle 42 = .ok (.iload 5, 2) := by decide +kernel
theorem dX0_addRectangle_44 : decode cX0_addRectangle 44 = .ok (.ior, 1) := by decide +kernel
theorem dX0_addRectangle_45 : decode cX0_addRectangle 45 = .ok (.iastore, 1) := by decide +kernel
theorem dX0_addRectangle_46 : decode cX0_addRectangle 46 = .ok (.iinc 6 1, 3) := by decide +kernel
theorem dX0_addRectangle_49 : decode cX0_addRectangle 49 = .ok (.goto (-37), 3) := by decide +kernel
theorem dX0_addRectangle_52 : decode cX0_addRectangle 52 = .ok (.return_, 1) := by decide +kernel
theorem dX0_addAll_0 : decode cX0_addAll 0 = .ok (.iconst 0, 1) := by decide +kernel
theorem dX0_addAll_1 : decode cX0_addAll 1 = .ok (.istore_n 2, 1) := by decide +kernel
theorem dX0_addAll_2 : decode cX0_addAll 2 = .ok (.iload_n 2, 1) := by decide +kernel
theorem dX0_addAll_3 : decode cX0_addAll 3 = .ok (.bipush 14, 2) := by decide +kernel
theorem dX0_addAll_5 : decode cX0_addAll 5 = .ok (.if_icmp .ge 24, 3) := by decide +kernel
theorem dX0_addAll_8 : decode cX0_addAll 8 = .ok (.aload_n 0, 1) := by decide +kernel
theorem dX0_addAll_9 : decode cX0_addAll 9 = .ok (.getfield 9, 3) := by decide +kernel
theorem dX0_addAll_12 : decode cX0_addAll 12 = .ok (.iload_n 2, 1) := by decide +kernel
theorem dX0_addAll_13 : decode cX0_addAll 13 = .ok (.dup2, 1) := by decide +kernel
theorem dX0_addAll_14 : decode cX0_addAll 14 = .ok (.iaload, 1) := by decide +kernel
theorem dX0_addAll_15 : decode cX0_addAll 15 = .ok (.aload_n 1, 1) := by decide +kernel
theorem dX0_addAll_16 : decode cX0_addAll 16 = .ok (.getfield 9, 3) := by decide +kernel
theorem dX0_addAll_19 : decode cX0_addAll 19 = .ok (.iload_n 2, 1) := by decide +kernel
theorem dX0_addAll_20 : decode cX0_addAll 20 = .ok (.iaload, 1) := by decide +kernel
theorem dX0_addAll_21 : decode cX0_addAll 21 = .ok (.ior, 1) := by decide +kernel
theorem dX0_addAll_22 : decode cX0_addAll 22 = .ok (.iastore, 1) := by decide +kernel
theorem dX0_addAll_23 : decode cX0_addAll 23 = .ok (.iinc 2 1, 3) := by decide +kernel
theorem dX0_addAll_26 : decode cX0_addAll 26 = .ok (.goto (-24), 3) := by decide +kernel
theorem dX0_addAll_29 : decode cX0_addAll 29 = .ok (.return_, 1) := by decide +kernel
theorem dX0_removeAll_0 : decode cX0_removeAll 0 = .ok (.iconst 0, 1) := by decide +kernel
theorem dX0_removeAll_1 : decode cX0_removeAll 1 = .ok (.istore_n 2, 1) := by decide +kernel
theorem dX0_removeAll_2 : decode cX0_removeAll 2 = .ok (.iload_n 2, 1) := by decide +kernel
theorem dX0_removeAll_3 : decode cX0_removeAll 3 = .ok (.bipush 14, 2) := by decide +kernel
theorem dX0_removeAll_5 : decode cX0_removeAll 5 = .ok (.if_icmp .ge 26, 3) := by decide +kernel
theorem dX0_removeAll_8 : decode cX0_removeAll 8 = .ok (.aload_n 0, 1) := by decide +kernel
theorem dX0_removeAll_9 : decode cX0_removeAll 9 = .ok (.getfield 9, 3) := by decide +kernel
theorem dX0_removeAll_12 : decode cX0_removeAll 12 = .ok (.iload_n 2, 1) := by decide +kernel
theorem dX0_removeAll_13 : decode cX0_removeAll 13 = .ok (.dup2, 1) := by decide +kernel
theorem dX0_removeAll_14 : decode cX0_removeAll 14 = .ok (.iaload, 1) := by decide +kernel
theorem dX0_removeAll_15 : decode cX0_removeAll 15 = .ok (.aload_n 1, 1) := by decide +kernel
theorem dX0_removeAll_16 : decode cX0_removeAll 16 = .ok (.getfield 9, 3) := by decide +kernel
theorem dX0_removeAll_19 : decode cX0_removeAll 19 = .ok (.iload_n 2, 1) := by decide +kernel
theorem dX0_removeAll_20 : decode cX0_removeAll 20 = .ok (.iaload, 1) := by decide +kernel
theorem dX0_removeAll_21 : decode cX0_removeAll 21 = .ok (.iconst (-1), 1) := by decide +kernel
theorem dX0_removeAll_22 : decode cX0_removeAll 22 = .ok (.ixor, 1) := by decide +kernel
theorem dX0_removeAll_23 : decode cX0_removeAll 23 = .ok (.iand, 1) := by decide +kernel
theorem dX0_removeAll_24 : decode cX0_removeAll 24 = .ok (.iastore, 1) := by decide +kernel
theorem dX0_removeAll_25 : decode cX0_removeAll 25 = .ok (.iinc 2 1, 3) := by decide +kernel
theorem dX0_removeAll_28 : decode cX0_removeAll 28 = .ok (.goto (-26), 3) := by decide +kernel
theorem dX0_removeAll_31 : decode cX0_removeAll 31 = .ok (.return_, 1) := by decide +kernel
theorem dX0_keepAll_0 : decode cX0_keepAll 0 = .ok (.iconst 0, 1) := by decide +kernel
theorem dX0_keepAll_1 : decode cX0_keepAll 1 = .ok (.istore_n 2, 1) := by decide +kernel
theorem dX0_keepAll_2 : decode cX0_keepAll 2 = .ok (.iload_n 2, 1) := by decide +kernel
theorem dX0_keepAll_3 : decode cX0_keepAll 3 = .ok (.bipush 14, 2) := by decide +kernel
theorem dX0_keepAll_5 : decode cX0_keepAll 5 = .ok (.if_icmp .ge 24, 3) := by decide +kernel
theorem dX0_keepAll_8 : decode cX0_keepAll 8 = .ok (.aload_n 0, 1) := by decide +kernel
theorem dX0_keepAll_9 : decode cX0_keepAll 9 = .ok (.getfield 9, 3) := by decide +kernel
theorem dX0_keepAll_12 : decode cX0_keepAll 12 = .ok (.iload_n 2, 1) := by decide +kernel
theorem dX0_keepAll_13 : decode cX0_keepAll 13 = .ok (.dup2, 1) := by decide +kernel
theorem dX0_keepAll_14 : decode cX0_keepAll 14 = .ok (.iaload, 1) := by decide +kernel
theorem dX0_keepAll_15 : decode cX0_keepAll 15 = .ok (.aload_n 1, 1) := by decide +kernel
theorem dX0_keepAll_16 : decode cX0_keepAll 16 = .ok (.getfield 9, 3) := by decide +kernel
theorem dX0_keepAll_19 : decode cX0_keepAll 19 = .ok (.iload_n 2, 1) := by decide +kernel
theorem dX0_keepAll_20 : decode cX0_keepAll 20 = .ok (.iaload, 1) := by decide +kernel
theorem dX0_keepAll_21 : decode cX0_keepAll 21 = .ok (.iand, 1) := by decide +kernel
theorem dX0_keepAll_22 : decode cX0_keepAll 22 = .ok (.iastore, 1) := by decide +kernel
theorem dX0_keepAll_23 : decode cX0_keepAll 23 = .ok (.iinc 2 1, 3) := by decide +kernel
theorem dX0_keepAll_26 : decode cX0_keepAll 26 = .ok (.goto (-24), 3) := by decide +kernel
theorem dX0_keepAll_29 : decode cX0_keepAll 29 = .ok (.return_, 1) := by decide +kernel
theorem dX0_takeEdgeOff_0 : decode cX0_takeEdgeOff 0 = .ok (.iconst 0, 1) := by decide +kernel
theorem dX0_takeEdgeOff_1 : decode cX0_takeEdgeOff 1 = .ok (.istore_n 2, 1) := by decide +kernel
theorem dX0_takeEdgeOff_2 : decode cX0_takeEdgeOff 2 = .ok (.iconst 0, 1) := by decide +kernel
theorem dX0_takeEdgeOff_3 : decode cX0_takeEdgeOff 3 = .ok (.istore_n 3, 1) := by decide +kernel
theorem dX0_takeEdgeOff_4 : decode cX0_takeEdgeOff 4 = .ok (.iload_n 3, 1) := by decide +kernel
theorem dX0_takeEdgeOff_5 : decode cX0_takeEdgeOff 5 = .ok (.bipush 14, 2) := by decide +kernel
theorem dX0_takeEdgeOff_7 : decode cX0_takeEdgeOff 7 = .ok (.if_icmp .ge 76, 3) := by decide +kernel
theorem dX0_takeEdgeOff_10 : decode cX0_takeEdgeOff 10 = .ok (.iload_n 1, 1) := by decide +kernel
theorem dX0_takeEdgeOff_11 : decode cX0_takeEdgeOff 11 = .ok (.iconst 2, 1) := by decide +kernel
theorem dX0_takeEdgeOff_12 : decode cX0_takeEdgeOff 12 = .ok (.if_icmp .ne 10, 3) := by decide +kernel
theorem dX0_takeEdgeOff_15 : decode cX0_takeEdgeOff 15 = .ok (.bipush 13, 2) := by decide +kernel
theorem dX0_takeEdgeOff_17 : decode cX0_takeEdgeOff 17 = .ok (.iload_n 3, 1) := by decide +kernel
theorem dX0_takeEdgeOff_18 : decode cX0_takeEdgeOff 18 = .ok (.isub, 1) := by decide +kernel
theorem dX0_takeEdgeOff_19 : decode cX0_takeEdgeOff 19 = .ok (.goto 4, 3) := by decide +kernel
theorem dX0_takeEdgeOff_22 : decode cX0_takeEdgeOff 22 = .ok (.iload_n 3, 1) := by decide +kernel
theorem dX0_takeEdgeOff_23 : decode cX0_takeEdgeOff 23 = .ok (.istore 4, 2) := by decide +kernel
theorem dX0_takeEdgeOff_25 : decode cX0_takeEdgeOff 25 = .ok (.aload_n 0, 1) := by decide +kernel
theorem dX0_takeEdgeOff_26 : decode cX0_takeEdgeOff 26 = .ok (.getfield 9, 3) := by decide +kernel
theorem dX0_takeEdgeOff_29 : decode cX0_takeEdgeOff 29 = .ok (.iload 4, 2) := by decide +kernel
theorem dX0_takeEdgeOff_31 : decode cX0_takeEdgeOff 31 = .ok (.iaload, 1) := by decide +kernel
theorem dX0_takeEdgeOff_32 : decode cX0_takeEdgeOff 32 = .ok (.istore 5, 2) := by decide +kernel
theorem dX0_takeEdgeOff_34 : decode cX0_takeEdgeOff 34 = .ok (.iload_n 2, 1) := by decide +kernel
theorem dX0_takeEdgeOff_35 : decode cX0_takeEdgeOff 35 = .ok (.istore 6, 2) := by decide +kernel
theorem dX0_takeEdgeOff_37 : decode cX0_takeEdgeOff 37 = .ok (.iload_n 1, 1) := by decide +kernel
theorem dX0_takeEdgeOff_38 : decode cX0_takeEdgeOff 38 = .ok (.iconst 1, 1) := by decide +kernel
theorem dX0_takeEdgeOff_39 : decode cX0_takeEdgeOff 39 = .ok (.if_icmp .ne 12, 3) := by decide +kernel
theorem dX0_takeEdgeOff_42 : decode cX0_takeEdgeOff 42 = .ok (.iload 5, 2) := by decide +kernel
theorem dX0_takeEdgeOff_44 : decode cX0_takeEdgeOff 44 = .ok (.iconst 1, 1) := by decide +kernel
theorem dX0_takeEdgeOff_45 : decode cX0_takeEdgeOff 45 = .ok (.ishr, 1) := by decide +kernel
theorem dX0_takeEdgeOff_46 : decode cX0_takeEdgeOff 46 = .ok (.istore 6, 2) := by decide +kernel
theorem dX0_takeEdgeOff_48 : decode cX0_takeEdgeOff 48 = .ok (.goto 14, 3) := by decide +kernel
theorem dX0_takeEdgeOff_51 : decode cX0_takeEdgeOff 51 = .ok (.iload_n 1, 1) := by decide +kernel
theorem dX0_takeEdgeOff_52 : decode cX0_takeEdgeOff 52 = .ok (.iconst 3, 1) := by decide +kernel
theorem dX0_takeEdgeOff_53 : decode cX0_takeEdgeOff 53 = .ok (.if_icmp .ne 9, 3) := by decide +kernel
theorem dX0_takeEdgeOff_56 : decode cX0_takeEdgeOff 56 = .ok (.iload 5, 2) := by decide +kernel
theorem dX0_takeEdgeOff_58 : decode cX0_takeEdgeOff 58 = .ok (.iconst 1, 1) := by decide +kernel
theorem dX0_takeEdgeOff_59 : decode cX0_takeEdgeOff 59 = .ok (.ishl, 1) := by decide +kernel
theorem dX0_takeEdgeOff_60 : decode cX0_takeEdgeOff 60 = .ok (.istore 6, 2) := by decide +kernel
theorem dX0_takeEdgeOff_62 : decode cX0_takeEdgeOff 62 = .ok (.aload_n 0, 1) := by decide +kernel
theorem dX0_takeEdgeOff_63 : decode cX0_takeEdgeOff 63 = .ok (.getfield 9, 3) := by decide +kernel
theorem dX0_takeEdgeOff_66 : decode cX0_takeEdgeOff 66 = .ok (.iload 4, 2) := by decide +kernel
theorem dX0_takeEdgeOff_68 : decode cX0_takeEdgeOff 68 = .ok (.iload 5, 2) := by decide +kernel
theorem dX0_takeEdgeOff_70 : decode cX0_takeEdgeOff 70 = .ok (.iload 6, 2) := by decide +kernel
theorem dX0_takeEdgeOff_72 : decode cX0_takeEdgeOff 72 = .ok (.iand, 1) := by decide +kernel
theorem dX0_takeEdgeOff_73 : decode cX0_takeEdgeOff 73 = .ok (.iastore, 1) := by decide +kernel
theorem dX0_takeEdgeOff_74 : decode cX0_takeEdgeOff 74 = .ok (.iload 5, 2) := by decide +kernel
theorem dX0_takeEdgeOff_76 : decode cX0_takeEdgeOff 76 = .ok (.istore_n 2, 1) := by decide +kernel
theorem dX0_takeEdgeOff_77 : decode cX0_takeEdgeOff 77 = .ok (.iinc 3 1, 3) := by decide +kernel
theorem dX0_takeEdgeOff_80 : decode cX0_takeEdgeOff 80 = .ok (.goto (-76), 3) := by decide +kernel
theorem dX0_takeEdgeOff_83 : decode cX0_takeEdgeOff 83 = .ok (.return_, 1) := by decide +kernel
theorem dX0_hasCell_0 : decode cX0_hasCell 0 = .ok (.aload_n 0, 1) := by decide +kernel
theorem dX0_hasCell_1 : decode cX0_hasCell 1 = .ok (.iload_n 2, 1) := by decide +kernel
theorem dX0_hasCell_2 : decode cX0_hasCell 2 = .ok (.invokevirtual 21, 3) := by decide +kernel
theorem dX0_hasCell_5 : decode cX0_hasCell 5 = .ok (.iconst 1, 1) := by decide +kernel
theorem dX0_hasCell_6 : decode cX0_hasCell 6 = .ok (.iload_n 1, 1) := by decide +kernel
theorem dX0_hasCell_7 : decode cX0_hasCell 7 = .ok (.ishl, 1) := by decide +kernel
theorem dX0_hasCell_8 : decode cX0_hasCell 8 = .ok (.iand, 1) := by decide +kernel
theorem dX0_hasCell_9 : decode cX0_hasCell 9 = .ok (.ifCond .eq 7, 3) := by decide +kernel
theorem dX0_hasCell_12 : decode cX0_hasCell 12 = .ok (.iconst 1, 1) := by decide +kernel
theorem dX0_hasCell_13 : decode cX0_hasCell 13 = .ok (.goto 4, 3) := by decide +kernel
theorem dX0_hasCell_16 : decode cX0_hasCell 16 = .ok (.iconst 0, 1) := by decide +kernel
theorem dX0_hasCell_17 : decode cX0_hasCell 17 = .ok (.ireturn, 1) := by decide +kernel
theorem dX0_hasAll_0 : decode cX0_hasAll 0 = .ok (.iconst 0, 1) := by decide +kernel
theorem dX0_hasAll_1 : decode cX0_hasAll 1 = .ok (.istore_n 2, 1) := by decide +kernel
theorem dX0_hasAll_2 : decode cX0_hasAll 2 = .ok (.iload_n 2, 1) := by decide +kernel
theorem dX0_hasAll_3 : decode cX0_hasAll 3 = .ok (.bipush 14, 2) := by decide +kernel
theorem dX0_hasAll_5 : decode cX0_hasAll 5 = .ok (.if_icmp .ge 29, 3) := by decide +kernel
theorem dX0_hasAll_8 : decode cX0_hasAll 8 = .ok (.aload_n 1, 1) := by decide +kernel
theorem dX0_hasAll_9 : decode cX0_hasAll 9 = .ok (.getfield 9, 3) := by decide +kernel
theorem dX0_hasAll_12 : decode cX0_hasAll 12 = .ok (.iload_n 2, 1) := by decide +kernel
theorem dX0_hasAll_13 : decode cX0_hasAll 13 = .ok (.iaload, 1) := by decide +kernel
theorem dX0_hasAll_14 : decode cX0_hasAll 14 = .ok (.aload_n 0, 1) := by decide +kernel
theorem dX0_hasAll_15 : decode cX0_hasAll 15 = .ok (.getfield 9, 3) := by decide +kernel
theorem dX0_hasAll_18 : decode cX0_hasAll 18 = .ok (.iload_n 2, 1) := by decide +kernel
theorem dX0_hasAll_19 : decode cX0_hasAll 19 = .ok (.iaload, 1) := by decide +kernel
theorem dX0_hasAll_20 : decode cX0_hasAll 20 = .ok (.iconst (-1), 1) := by decide +kernel
theorem dX0_hasAll_21 : decode cX0_hasAll 21 = .ok (.ixor, 1) := by decide +kernel
theorem dX0_hasAll_22 : decode cX0_hasAll 22 = .ok (.iand, 1) := by decide +kernel
theorem dX0_hasAll_23 : decode cX0_hasAll 23 = .ok (.ifCond .eq 5, 3) := by decide +kernel
theorem dX0_hasAll_26 : decode cX0_hasAll 26 = .ok (.iconst 0, 1) := by decide +kernel
theorem dX0_hasAll_27 : decode cX0_hasAll 27 = .ok (.ireturn, 1) := by decide +kernel
theorem dX0_hasAll_28 : decode cX0_hasAll 28 = .ok (.iinc 2 1, 3) := by decide +kernel
theorem dX0_hasAll_31 : decode cX0_hasAll 31 = .ok (.goto (-29), 3) := by decide +kernel
theorem dX0_hasAll_34 : decode cX0_hasAll 34 = .ok (.iconst 1, 1) := by decide +kernel
theorem dX0_hasAll_35 : decode cX0_hasAll 35 = .ok (.ireturn, 1) := by decide +kernel
theorem dX0_size_0 : decode cX0_size 0 = .ok (.aload_n 0, 1) := by decide +kernel
theorem dX0_size_1 : decode cX0_size 1 = .ok (.aload_n 0, 1) := by decide +kernel
theorem dX0_size_2 : decode cX0_size 2 = .ok (.invokevirtual 25, 3) := by decide +kernel
theorem dX0_size_5 : decode cX0_size 5 = .ok (.ireturn, 1) := by decide +kernel
theorem dX0_cellsIn_0 : decode cX0_cellsIn 0 = .ok (.iconst 0, 1) := by decide +kernel
theorem dX0_cellsIn_1 : decode cX0_cellsIn 1 = .ok (.istore_n 2, 1) := by decide +kernel
theorem dX0_cellsIn_2 : decode cX0_cellsIn 2 = .ok (.iconst 0, 1) := by decide +kernel
theorem dX0_cellsIn_3 : decode cX0_cellsIn 3 = .ok (.istore_n 3, 1) := by decide +kernel
theorem dX0_cellsIn_4 : decode cX0_cellsIn 4 = .ok (.iload_n 3, 1) := by decide +kernel
theorem dX0_cellsIn_5 : decode cX0_cellsIn 5 = .ok (.bipush 14, 2) := by decide +kernel
theorem dX0_cellsIn_7 : decode cX0_cellsIn 7 = .ok (.if_icmp .ge 28, 3) := by decide +kernel
theorem dX0_cellsIn_10 : decode cX0_cellsIn 10 = .ok (.iload_n 2, 1) := by decide +kernel
theorem dX0_cellsIn_11 : decode cX0_cellsIn 11 = .ok (.aload_n 0, 1) := by decide +kernel
theorem dX0_cellsIn_12 : decode cX0_cellsIn 12 = .ok (.getfield 9, 3) := by decide +kernel
theorem dX0_cellsIn_15 : decode cX0_cellsIn 15 = .ok (.iload_n 3, 1) := by decide +kernel
theorem dX0_cellsIn_16 : decode cX0_cellsIn 16 = .ok (.iaload, 1) := by decide +kernel
theorem dX0_cellsIn_17 : decode cX0_cellsIn 17 = .ok (.aload_n 1, 1) := by decide +kernel
theorem dX0_cellsIn_18 : decode cX0_cellsIn 18 = .ok (.getfield 9, 3) := by decide +kernel
theorem dX0_cellsIn_21 : decode cX0_cellsIn 21 = .ok (.iload_n 3, 1) := by decide +kernel
theorem dX0_cellsIn_22 : decode cX0_cellsIn 22 = .ok (.iaload, 1) := by decide +kernel
theorem dX0_cellsIn_23 : decode cX0_cellsIn 23 = .ok (.iand, 1) := by decide +kernel
theorem dX0_cellsIn_24 : decode cX0_cellsIn 24 = .ok (.invokestatic 29, 3) := by decide +kernel
theorem dX0_cellsIn_27 : decode cX0_cellsIn 27 = .ok (.iadd, 1) := by decide +kernel
theorem dX0_cellsIn_28 : decode cX0_cellsIn 28 = .ok (.istore_n 2, 1) := by decide +kernel
theorem dX0_cellsIn_29 : decode cX0_cellsIn 29 = .ok (.iinc 3 1, 3) := by decide +kernel
theorem dX0_cellsIn_32 : decode cX0_cellsIn 32 = .ok (.goto (-28), 3) := by decide +kernel
theorem dX0_cellsIn_35 : decode cX0_cellsIn 35 = .ok (.iload_n 2, 1) := by decide +kernel
theorem dX0_cellsIn_36 : decode cX0_cellsIn 36 = .ok (.ireturn, 1) := by decide +kernel
theorem dX0_cellsOutside_0 : decode cX0_cellsOutside 0 = .ok (.aload_n 0, 1) := by decide +kernel
theorem dX0_cellsOutside_1 : decode cX0_cellsOutside 1 = .ok (.invokevirtual 34, 3) := by decide +kernel
theorem dX0_cellsOutside_4 : decode cX0_cellsOutside 4 = .ok (.aload_n 0, 1) := by decide +kernel
theorem dX0_cellsOutside_5 : decode cX0_cellsOutside 5 = .ok (.aload_n 1, 1) := by decide +kernel
theorem dX0_cellsOutside_6 : decode cX0_cellsOutside 6 = .ok (.invokevirtual 25, 3) := by decide +kernel
theorem dX0_cellsOutside_9 : decode cX0_cellsOutside 9 = .ok (.isub, 1) := by decide +kernel
theorem dX0_cellsOutside_10 : decode cX0_cellsOutside 10 = .ok (.ireturn, 1) := by decide +kernel
theorem dX0_untouchedSides_0 : decode cX0_untouchedSides 0 = .ok (.iconst 0, 1) := by decide +kernel
theorem dX0_untouchedSides_1 : decode cX0_untouchedSides 1 = .ok (.istore_n 1, 1) := by decide +kernel
theorem dX0_untouchedSides_2 : decode cX0_untouchedSides 2 = .ok (.iconst 0, 1) := by decide +kernel
theorem dX0_untouchedSides_3 : decode cX0_untouchedSides 3 = .ok (.istore_n 2, 1) := by decide +kernel
theorem dX0_untouchedSides_4 : decode cX0_untouchedSides 4 = .ok (.iload_n 2, 1) := by decide +kernel
theorem dX0_untouchedSides_5 : decode cX0_untouchedSides 5 = .ok (.bipush 14, 2) := by decide +kernel
theorem dX0_untouchedSides_7 : decode cX0_untouchedSides 7 = .ok (.if_icmp .ge 72, 3) := by decide +kernel
theorem dX0_untouchedSides_10 : decode cX0_untouchedSides 10 = .ok (.aload_n 0, 1) := by decide +kernel
theorem dX0_untouchedSides_11 : decode cX0_untouchedSides 11 = .ok (.getfield 9, 3) := by decide +kernel
theorem dX0_untouchedSides_14 : decode cX0_untouchedSides 14 = .ok (.iload_n 2, 1) := by decide +kernel
theorem dX0_untouchedSides_15 : decode cX0_untouchedSides 15 = .ok (.iaload, 1) := by decide +kernel
theorem dX0_untouchedSides_16 : decode cX0_untouchedSides 16 = .ok (.istore_n 3, 1) := by decide +kernel
theorem dX0_untouchedSides_17 : decode cX0_untouchedSides 17 = .ok (.iload_n 1, 1) := by decide +kernel
theorem dX0_untouchedSides_18 : decode cX0_untouchedSides 18 = .ok (.iload_n 3, 1) := by decide +kernel
theorem dX0_untouchedSides_19 : decode cX0_untouchedSides 19 = .ok (.aload_n 0, 1) := by decide +kernel
theorem dX0_untouchedSides_20 : decode cX0_untouchedSides 20 = .ok (.iload_n 2, 1) := by decide +kernel
theorem dX0_untouchedSides_21 : decode cX0_untouchedSides 21 = .ok (.iconst 1, 1) := by decide +kernel
theorem dX0_untouchedSides_22 : decode cX0_untouchedSides 22 = .ok (.isub, 1) := by decide +kernel
theorem dX0_untouchedSides_23 : decode cX0_untouchedSides 23 = .ok (.invokevirtual 21, 3) := by decide +kernel
theorem dX0_untouchedSides_26 : decode cX0_untouchedSides 26 = .ok (.iconst (-1), 1) := by decide +kernel
theorem dX0_untouchedSides_27 : decode cX0_untouchedSides 27 = .ok (.ixor, 1) := by decide +kernel
theorem dX0_untouchedSides_28 : decode cX0_untouchedSides 28 = .ok (.iand, 1) := by decide +kernel
theorem dX0_untouchedSides_29 : decode cX0_untouchedSides 29 = .ok (.invokestatic 29, 3) := by decide +kernel
theorem dX0_untouchedSides_32 : decode cX0_untouchedSides 32 = .ok (.iload_n 3, 1) := by decide +kernel
theorem dX0_untouchedSides_33 : decode cX0_untouchedSides 33 = .ok (.aload_n 0, 1) := by decide +kernel
theorem dX0_untouchedSides_34 : decode cX0_untouchedSides 34 = .ok (.iload_n 2, 1) := by decide +kernel
theorem dX0_untouchedSides_35 : decode cX0_untouchedSides 35 = .ok (.iconst 1, 1) := by decide +kernel
theorem dX0_untouchedSides_36 : decode cX0_untouchedSides 36 = .ok (.iadd, 1) := by decide +kernel
theorem dX0_untouchedSides_37 : decode cX0_untouchedSides 37 = .ok (.invokevirtual 21, 3) := by decide +kernel
theorem dX0_untouchedSides_40 : decode cX0_untouchedSides 40 = .ok (.iconst (-1), 1) := by decide +kernel
theorem dX0_untouchedSides_41 : decode cX0_untouchedSides 41 = .ok (.ixor, 1) := by decide +kernel
theorem dX0_untouchedSides_42 : decode cX0_untouchedSides 42 = .ok (.iand, 1) := by decide +kernel
theorem dX0_untouchedSides_43 : decode cX0_untouchedSides 43 = .ok (.invokestatic 29, 3) := by decide +kernel
theorem dX0_untouchedSides_46 : decode cX0_untouchedSides 46 = .ok (.iadd, 1) := by decide +kernel
theorem dX0_untouchedSides_47 : decode cX0_untouchedSides 47 = .ok (.iadd, 1) := by decide +kernel
theorem dX0_untouchedSides_48 : decode cX0_untouchedSides 48 = .ok (.istore_n 1, 1) := by decide +kernel
theorem dX0_untouchedSides_49 : decode cX0_untouchedSides 49 = .ok (.iload_n 1, 1) := by decide +kernel
theorem dX0_untouchedSides_50 : decode cX0_untouchedSides 50 = .ok (.iload_n 3, 1) := by decide +kernel
theorem dX0_untouchedSides_51 : decode cX0_untouchedSides 51 = .ok (.iload_n 3, 1) := by decide +kernel
theorem dX0_untouchedSides_52 : decode cX0_untouchedSides 52 = .ok (.iconst 1, 1) := by decide +kernel
theorem dX0_untouchedSides_53 : decode cX0_untouchedSides 53 = .ok (.ishl, 1) := by decide +kernel
theorem dX0_untouchedSides_54 : decode cX0_untouchedSides 54 = .ok (.iconst (-1), 1) := by decide +kernel
theorem dX0_untouchedSides_55 : decode cX0_untouchedSides 55 = .ok (.ixor, 1) := by decide +kernel
theorem dX0_untouchedSides_56 : decode cX0_untouchedSides 56 = .ok (.iand, 1) := by decide +kernel
theorem dX0_untouchedSides_57 : decode cX0_untouchedSides 57 = .ok (.invokestatic 29, 3) := by decide +kernel
theorem dX0_untouchedSides_60 : decode cX0_untouchedSides 60 = .ok (.iload_n 3, 1) := by decide +kernel
theorem dX0_untouchedSides_61 : decode cX0_untouchedSides 61 = .ok (.iload_n 3, 1) := by decide +kernel
theorem dX0_untouchedSides_62 : decode cX0_untouchedSides 62 = .ok (.iconst 1, 1) := by decide +kernel
theorem dX0_untouchedSides_63 : decode cX0_untouchedSides 63 = .ok (.ishr, 1) := by decide +kernel
theorem dX0_untouchedSides_64 : decode cX0_untouchedSides 64 = .ok (.iconst (-1), 1) := by decide +kernel
theorem dX0_untouchedSides_65 : decode cX0_untouchedSides 65 = .ok (.ixor, 1) := by decide +kernel
theorem dX0_untouchedSides_66 : decode cX0_untouchedSides 66 = .ok (.iand, 1) := by decide +kernel
theorem dX0_untouchedSides_67 : decode cX0_untouchedSides 67 = .ok (.invokestatic 29, 3) := by decide +kernel
theorem dX0_untouchedSides_70 : decode cX0_untouchedSides 70 = .ok (.iadd, 1) := by decide +kernel
theorem dX0_untouchedSides_71 : decode cX0_untouchedSides 71 = .ok (.iadd, 1) := by decide +kernel
theorem dX0_untouchedSides_72 : decode cX0_untouchedSides 72 = .ok (.istore_n 1, 1) := by decide +kernel
theorem dX0_untouchedSides_73 : decode cX0_untouchedSides 73 = .ok (.iinc 2 1, 3) := by decide +kernel
theorem dX0_untouchedSides_76 : decode cX0_untouchedSides 76 = .ok (.goto (-72), 3) := by decide +kernel
theorem dX0_untouchedSides_79 : decode cX0_untouchedSides 79 = .ok (.iload_n 1, 1) := by decide +kernel
theorem dX0_untouchedSides_80 : decode cX0_untouchedSides 80 = .ok (.ireturn, 1) := by decide +kernel
theorem dX0_largestRectangle_0 : decode cX0_largestRectangle 0 = .ok (.iconst 0, 1) := by decide +kernel
theorem dX0_largestRectangle_1 : decode cX0_largestRectangle 1 = .ok (.istore_n 1, 1) := by decide +kernel
theorem dX0_largestRectangle_2 : decode cX0_largestRectangle 2 = .ok (.iconst 0, 1) := by decide +kernel
theorem dX0_largestRectangle_3 : decode cX0_largestRectangle 3 = .ok (.istore_n 2, 1) := by decide +kernel
theorem dX0_largestRectangle_4 : decode cX0_largestRectangle 4 = .ok (.iload_n 2, 1) := by decide +kernel
theorem dX0_largestRectangle_5 : decode cX0_largestRectangle 5 = .ok (.bipush 14, 2) := by decide +kernel
theorem dX0_largestRectangle_7 : decode cX0_largestRectangle 7 = .ok (.if_icmp .ge 58, 3) := by decide +kernel
theorem dX0_largestRectangle_10 : decode cX0_largestRectangle 10 = .ok (.aload_n 0, 1) := by decide +kernel
theorem dX0_largestRectangle_11 : decode cX0_largestRectangle 11 = .ok (.getfield 9, 3) := by decide +kernel
theorem dX0_largestRectangle_14 : decode cX0_largestRectangle 14 = .ok (.iload_n 2, 1) := by decide +kernel
theorem dX0_largestRectangle_15 : decode cX0_largestRectangle 15 = .ok (.iaload, 1) := by decide +kernel
theorem dX0_largestRectangle_16 : decode cX0_largestRectangle 16 = .ok (.istore_n 3, 1) := by decide +kernel
theorem dX0_largestRectangle_17 : decode cX0_largestRectangle 17 = .ok (.iload_n 2, 1) := by decide +kernel
theorem dX0_largestRectangle_18 : decode cX0_largestRectangle 18 = .ok (.istore 4, 2) := by decide +kernel
theorem dX0_largestRectangle_20 : decode cX0_largestRectangle 20 = .ok (.iload 4, 2) := by decide +kernel
theorem dX0_largestRectangle_22 : decode cX0_largestRectangle 22 = .ok (.bipush 14, 2) := by decide +kernel
theorem dX0_largestRectangle_24 : decode cX0_largestRectangle 24 = .ok (.if_icmp .ge 35, 3) := by decide +kernel
theorem dX0_largestRectangle_27 : decode cX0_largestRectangle 27 = .ok (.iload_n 3, 1) := by decide +kernel
theorem dX0_largestRectangle_28 : decode cX0_largestRectangle 28 = .ok (.aload_n 0, 1) := by decide +kernel
theorem dX0_largestRectangle_29 : decode cX0_largestRectangle 29 = .ok (.getfield 9, 3) := by decide +kernel
theorem dX0_largestRectangle_32 : decode cX0_largestRectangle 32 = .ok (.iload 4, 2) := by decide +kernel
theorem dX0_largestRectangle_34 : decode cX0_largestRectangle 34 = .ok (.iaload, 1) := by decide +kernel
theorem dX0_largestRectangle_35 : decode cX0_largestRectangle 35 = .ok (.iand, 1) := by decide +kernel
theorem dX0_largestRectangle_36 : decode cX0_largestRectangle 36 = .ok (.istore_n 3, 1) := by decide +kernel
theorem dX0_largestRectangle_37 : decode cX0_largestRectangle 37 = .ok (.iload_n 1, 1) := by decide +kernel
theorem dX0_largestRectangle_38 : decode cX0_largestRectangle 38 = .ok (.iload 4, 2) := by decide +kernel
theorem dX0_largestRectangle_40 : decode cX0_largestRectangle 40 = .ok (.iload_n 2, 1) := by decide +kernel
theorem dX0_largestRectangle_41 : decode cX0_largestRectangle 41 = .ok (.isub, 1) := by decide +kernel
theorem dX0_largestRectangle_42 : decode cX0_largestRectangle 42 = .ok (.iconst 1, 1) := by decide +kernel
theorem dX0_largestRectangle_43 : decode cX0_largestRectangle 43 = .ok (.iadd, 1) := by decide +kernel
theorem dX0_largestRectangle_44 : decode cX0_largestRectangle 44 = .ok (.iload_n 3, 1) := by decide +kernel
theorem dX0_largestRectangle_45 : decode cX0_largestRectangle 45 = .ok (.invokestatic 38, 3) := by decide +kernel
theorem dX0_largestRectangle_48 : decode cX0_largestRectangle 48 = .ok (.imul, 1) := by decide +kernel
theorem dX0_largestRectangle_49 : decode cX0_largestRectangle 49 = .ok (.invokestatic 41, 3) := by decide +kernel
theorem dX0_largestRectangle_52 : decode cX0_largestRectangle 52 = .ok (.istore_n 1, 1) := by decide +kernel
theorem dX0_largestRectangle_53 : decode cX0_largestRectangle 53 = .ok (.iinc 4 1, 3) := by decide +kernel
theorem dX0_largestRectangle_56 : decode cX0_largestRectangle 56 = .ok (.goto (-36), 3) := by decide +kernel
theorem dX0_largestRectangle_59 : decode cX0_largestRectangle 59 = .ok (.iinc 2 1, 3) := by decide +kernel
theorem dX0_largestRectangle_62 : decode cX0_largestRectangle 62 = .ok (.goto (-58), 3) := by decide +kernel
theorem dX0_largestRectangle_65 : decode cX0_largestRectangle 65 = .ok (.iload_n 1, 1) := by decide +kernel
theorem dX0_largestRectangle_66 : decode cX0_largestRectangle 66 = .ok (.ireturn, 1) := by decide +kernel
theorem dX0_rowOf_0 : decode cX0_rowOf 0 = .ok (.iload_n 1, 1) := by decide +kernel
theorem dX0_rowOf_1 : decode cX0_rowOf 1 = .ok (.ifCond .lt 18, 3) := by decide +kernel
theorem dX0_rowOf_4 : decode cX0_rowOf 4 = .ok (.iload_n 1, 1) := by decide +kernel
theorem dX0_rowOf_5 : decode cX0_rowOf 5 = .ok (.bipush 14, 2) := by decide +kernel
theorem dX0_rowOf_7 : decode cX0_rowOf 7 = .ok (.if_icmp .ge 12, 3) := by decide +kernel
theorem dX0_rowOf_10 : decode cX0_rowOf 10 = .ok (.aload_n 0, 1) := by decide +kernel
theorem dX0_rowOf_11 : decode cX0_rowOf 11 = .ok (.getfield 9, 3) := by decide +kernel
theorem dX0_rowOf_14 : decode cX0_rowOf 14 = .ok (.iload_n 1, 1) := by decide +kernel
theorem dX0_rowOf_15 : decode cX0_rowOf 15 = .ok (.iaload, 1) := by decide +kernel
theorem dX0_rowOf_16 : decode cX0_rowOf 16 = .ok (.goto 4, 3) := by decide +kernel
theorem dX0_rowOf_19 : decode cX0_rowOf 19 = .ok (.iconst 0, 1) := by decide +kernel
theorem dX0_rowOf_20 : decode cX0_rowOf 20 = .ok (.ireturn, 1) := by decide +kernel
theorem dX0_longestRun_0 : decode cX0_longestRun 0 = .ok (.iload_n 0, 1) := by decide +kernel
theorem dX0_longestRun_1 : decode cX0_longestRun 1 = .ok (.istore_n 1, 1) := by decide +kernel
theorem dX0_longestRun_2 : decode cX0_longestRun 2 = .ok (.iconst 0, 1) := by decide +kernel
theorem dX0_longestRun_3 : decode cX0_longestRun 3 = .ok (.istore_n 2, 1) := by decide +kernel
theorem dX0_longestRun_4 : decode cX0_longestRun 4 = .ok (.iload_n 1, 1) := by decide +kernel
theorem dX0_longestRun_5 : decode cX0_longestRun 5 = .ok (.ifCond .eq 21, 3) := by decide +kernel
theorem dX0_longestRun_8 : decode cX0_longestRun 8 = .ok (.iload_n 2, 1) := by decide +kernel
theorem dX0_longestRun_9 : decode cX0_longestRun 9 = .ok (.bipush 20, 2) := by decide +kernel
theorem dX0_longestRun_11 : decode cX0_longestRun 11 = .ok (.if_icmp .ge 15, 3) := by decide +kernel
theorem dX0_longestRun_14 : decode cX0_longestRun 14 = .ok (.iload_n 1, 1) := by decide +kernel
theorem dX0_longestRun_15 : decode cX0_longestRun 15 = .ok (.iload_n 1, 1) := by decide +kernel
theorem dX0_longestRun_16 : decode cX0_longestRun 16 = .ok (.iconst 1, 1) := by decide +kernel
theorem dX0_longestRun_17 : decode cX0_longestRun 17 = .ok (.ishl, 1) := by decide +kernel
theorem dX0_longestRun_18 : decode cX0_longestRun 18 = .ok (.iand, 1) := by decide +kernel
theorem dX0_longestRun_19 : decode cX0_longestRun 19 = .ok (.istore_n 1, 1) := by decide +kernel
theorem dX0_longestRun_20 : decode cX0_longestRun 20 = .ok (.iinc 2 1, 3) := by decide +kernel
theorem dX0_longestRun_23 : decode cX0_longestRun 23 = .ok (.goto (-19), 3) := by decide +kernel
theorem dX0_longestRun_26 : decode cX0_longestRun 26 = .ok (.iload_n 2, 1) := by decide +kernel
theorem dX0_longestRun_27 : decode cX0_longestRun 27 = .ok (.ireturn, 1) := by decide +kernel
theorem dX1_init_0 : decode cX1_init 0 = .ok (.aload_n 0, 1) := by decide +kernel
theorem dX1_init_1 : decode cX1_init 1 = .ok (.invokespecial 1, 3) := by decide +kernel
theorem dX1_init_4 : decode cX1_init 4 = .ok (.aload_n 0, 1) := by decide +kernel
theorem dX1_init_5 : decode cX1_init 5 = .ok (.new 7, 3) := by decide +kernel
theorem dX1_init_8 : decode cX1_init 8 = .ok (.dup, 1) := by decide +kernel
theorem dX1_init_9 : decode cX1_init 9 = .ok (.invokespecial 9, 3) := by decide +kernel
theorem dX1_init_12 : decode cX1_init 12 = .ok (.putfield 10, 3) := by decide +kernel
theorem dX1_init_15 : decode cX1_init 15 = .ok (.return_, 1) := by decide +kernel
theorem dX1_copyFrom_0 : decode cX1_copyFrom 0 = .ok (.aload_n 0, 1) := by decide +kernel
theorem dX1_copyFrom_1 : decode cX1_copyFrom 1 = .ok (.aload_n 1, 1) := by decide +kernel
theorem dX1_copyFrom_2 : decode cX1_copyFrom 2 = .ok (.getfield 16, 3) := by decide +kernel
theorem dX1_copyFrom_5 : decode cX1_copyFrom 5 = .ok (.putfield 16, 3) := by decide +kernel
theorem dX1_copyFrom_8 : decode cX1_copyFrom 8 = .ok (.aload_n 0, 1) := by decide +kernel
theorem dX1_copyFrom_9 : decode cX1_copyFrom 9 = .ok (.aload_n 1, 1) := by decide +kernel
theorem dX1_copyFrom_10 : decode cX1_copyFrom 10 = .ok (.getfield 20, 3) := by decide +kernel
theorem dX1_copyFrom_13 : decode cX1_copyFrom 13 = .ok (.putfield 20, 3) := by decide +kernel
theorem dX1_copyFrom_16 : decode cX1_copyFrom 16 = .ok (.aload_n 0, 1) := by decide +kernel
theorem dX1_copyFrom_17 : decode cX1_copyFrom 17 = .ok (.getfield 10, 3) := by decide +kernel
theorem dX1_copyFrom_20 : decode cX1_copyFrom 20 = .ok (.aload_n 1, 1) := by decide +kernel
theorem dX1_copyFrom_21 : decode cX1_copyFrom 21 = .ok (.getfield 10, 3) := by decide +kernel
theorem dX1_copyFrom_24 : decode cX1_copyFrom 24 = .ok (.invokevirtual 23, 3) := by decide +kernel
theorem dX1_copyFrom_27 : decode cX1_copyFrom 27 = .ok (.aload_n 0, 1) := by decide +kernel
theorem dX1_copyFrom_28 : decode cX1_copyFrom 28 = .ok (.aload_n 1, 1) := by decide +kernel
theorem dX1_copyFrom_29 : decode cX1_copyFrom 29 = .ok (.getfield 27, 3) := by decide +kernel
theorem dX1_copyFrom_32 : decode cX1_copyFrom 32 = .ok (.putfield 27, 3) := by decide +kernel
theorem dX1_copyFrom_35 : decode cX1_copyFrom 35 = .ok (.return_, 1) := by decide +kernel
theorem dX2_init_0 : decode cX2_init 0 = .ok (.aload_n 0, 1) := by decide +kernel
theorem dX2_init_1 : decode cX2_init 1 = .ok (.invokespecial 3, 3) := by decide +kernel
theorem dX2_init_4 : decode cX2_init 4 = .ok (.aload_n 0, 1) := by decide +kernel
theorem dX2_init_5 : decode cX2_init 5 = .ok (.new 9, 3) := by decide +kernel
theorem dX2_init_8 : decode cX2_init 8 = .ok (.dup, 1) := by decide +kernel
theorem dX2_init_9 : decode cX2_init 9 = .ok (.invokespecial 11, 3) := by decide +kernel
theorem dX2_init_12 : decode cX2_init 12 = .ok (.putfield 12, 3) := by decide +kernel
theorem dX2_init_15 : decode cX2_init 15 = .ok (.aload_n 0, 1) := by decide +kernel
theorem dX2_init_16 : decode cX2_init 16 = .ok (.bipush 6, 2) := by decide +kernel
theorem dX2_init_18 : decode cX2_init 18 = .ok (.newarray .int, 2) := by decide +kernel
theorem dX2_init_20 : decode cX2_init 20 = .ok (.putfield 18, 3) := by decide +kernel
theorem dX2_init_23 : decode cX2_init 23 = .ok (.aload_n 0, 1) := by decide +kernel
theorem dX2_init_24 : decode cX2_init 24 = .ok (.bipush 6, 2) := by decide +kernel
theorem dX2_init_26 : decode cX2_init 26 = .ok (.newarray .int, 2) := by decide +kernel
theorem dX2_init_28 : decode cX2_init 28 = .ok (.putfield 22, 3) := by decide +kernel
theorem dX2_init_31 : decode cX2_init 31 = .ok (.return_, 1) := by decide +kernel
theorem dX2_clear_0 : decode cX2_clear 0 = .ok (.aload_n 0, 1) := by decide +kernel
theorem dX2_clear_1 : decode cX2_clear 1 = .ok (.iconst 0, 1) := by decide +kernel
theorem dX2_clear_2 : decode cX2_clear 2 = .ok (.putfield 25, 3) := by decide +kernel
theorem dX2_clear_5 : decode cX2_clear 5 = .ok (.aload_n 0, 1) := by decide +kernel
theorem dX2_clear_6 : decode cX2_clear 6 = .ok (.iconst 0, 1) := by decide +kernel
theorem dX2_clear_7 : decode cX2_clear 7 = .ok (.putfield 29, 3) := by decide +kernel
theorem dX2_clear_10 : decode cX2_clear 10 = .ok (.aload_n 0, 1) := by decide +kernel
theorem dX2_clear_11 : decode cX2_clear 11 = .ok (.iconst 0, 1) := by decide +kernel
theorem dX2_clear_12 : decode cX2_clear 12 = .ok (.putfield 32, 3) := by decide +kernel
theorem dX2_clear_15 : decode cX2_clear 15 = .ok (.aload_n 0, 1) := by decide +kernel
theorem dX2_clear_16 : decode cX2_clear 16 = .ok (.iconst 0, 1) := by decide +kernel
theorem dX2_clear_17 : decode cX2_clear 17 = .ok (.putfield 35, 3) := by decide +kernel
theorem dX2_clear_20 : decode cX2_clear 20 = .ok (.aload_n 0, 1) := by decide +kernel
theorem dX2_clear_21 : decode cX2_clear 21 = .ok (.getfield 12, 3) := by decide +kernel
theorem dX2_clear_24 : decode cX2_clear 24 = .ok (.invokevirtual 38, 3) := by decide +kernel
theorem dX2_clear_27 : decode cX2_clear 27 = .ok (.aload_n 0, 1) := by decide +kernel
theorem dX2_clear_28 : decode cX2_clear 28 = .ok (.iconst 0, 1) := by decide +kernel
theorem dX2_clear_29 : decode cX2_clear 29 = .ok (.putfield 41, 3) := by decide +kernel
theorem dX2_clear_32 : decode cX2_clear 32 = .ok (.aload_n 0, 1) := by decide +kernel
theorem dX2_clear_33 : decode cX2_clear 33 = .ok (.iconst 0, 1) := by decide +kernel
theorem dX2_clear_34 : decode cX2_clear 34 = .ok (.putfield 44, 3) := by decide +kernel
theorem dX2_clear_37 : decode cX2_clear 37 = .ok (.aload_n 0, 1) := by decide +kernel
theorem dX2_clear_38 : decode cX2_clear 38 = .ok (.iconst (-1), 1) := by decide +kernel
theorem dX2_clear_39 : decode cX2_clear 39 = .ok (.putfield 47, 3) := by decide +kernel
theorem dX2_clear_42 : decode cX2_clear 42 = .ok (.aload_n 0, 1) := by decide +kernel
theorem dX2_clear_43 : decode cX2_clear 43 = .ok (.iconst 0, 1) := by decide +kernel
theorem dX2_clear_44 : decode cX2_clear 44 = .ok (.putfield 50, 3) := by decide +kernel
theorem dX2_clear_47 : decode cX2_clear 47 = .ok (.aload_n 0, 1) := by decide +kernel
theorem dX2_clear_48 : decode cX2_clear 48 = .ok (.iconst 0, 1) := by decide +kernel
theorem dX2_clear_49 : decode cX2_clear 49 = .ok (.putfield 53, 3) := by decide +kernel
theorem dX2_clear_52 : decode cX2_clear 52 = .ok (.aload_n 0, 1) := by decide +kernel
theorem dX2_clear_53 : decode cX2_clear 53 = .ok (.iconst (-1), 1) := by decide +kernel
theorem dX2_clear_54 : decode cX2_clear 54 = .ok (.putfield 56, 3) := by decide +kernel
theorem dX2_clear_57 : decode cX2_clear 57 = .ok (.aload_n 0, 1) := by decide +kernel
theorem dX2_clear_58 : decode cX2_clear 58 = .ok (.iconst 0, 1) := by decide +kernel
theorem dX2_clear_59 : decode cX2_clear 59 = .ok (.putfield 59, 3) := by decide +kernel
theorem dX2_clear_62 : decode cX2_clear 62 = .ok (.aload_n 0, 1) := by decide +kernel
theorem dX2_clear_63 : decode cX2_clear 63 = .ok (.iconst 0, 1) := by decide +kernel
theorem dX2_clear_64 : decode cX2_clear 64 = .ok (.putfield 63, 3) := by decide +kernel
theorem dX2_clear_67 : decode cX2_clear 67 = .ok (.aload_n 0, 1) := by decide +kernel
theorem dX2_clear_68 : decode cX2_clear 68 = .ok (.iconst 0, 1) := by decide +kernel
theorem dX2_clear_69 : decode cX2_clear 69 = .ok (.putfield 66, 3) := by decide +kernel
theorem dX2_clear_72 : decode cX2_clear 72 = .ok (.aload_n 0, 1) := by decide +kernel
theorem dX2_clear_73 : decode cX2_clear 73 = .ok (.iconst 0, 1) := by decide +kernel
theorem dX2_clear_74 : decode cX2_clear 74 = .ok (.putfield 69, 3) := by decide +kernel
theorem dX2_clear_77 : decode cX2_clear 77 = .ok (.aload_n 0, 1) := by decide +kernel
theorem dX2_clear_78 : decode cX2_clear 78 = .ok (.iconst 0, 1) := by decide +kernel
theorem dX2_clear_79 : decode cX2_clear 79 = .ok (.putfield 72, 3) := by decide +kernel
theorem dX2_clear_82 : decode cX2_clear 82 = .ok (.aload_n 0, 1) := by decide +kernel
theorem dX2_clear_83 : decode cX2_clear 83 = .ok (.iconst 0, 1) := by decide +kernel
theorem dX2_clear_84 : decode cX2_clear 84 = .ok (.putfield 75, 3) := by decide +kernel
theorem dX2_clear_87 : decode cX2_clear 87 = .ok (.return_, 1) := by decide +kernel
theorem dX2_copyFrom_0 : decode cX2_copyFrom 0 = .ok (.aload_n 0, 1) := by decide +kernel
theorem dX2_copyFrom_1 : decode cX2_copyFrom 1 = .ok (.aload_n 1, 1) := by decide +kernel
theorem dX2_copyFrom_2 : decode cX2_copyFrom 2 = .ok (.getfield 25, 3) := by decide +kernel
theorem dX2_copyFrom_5 : decode cX2_copyFrom 5 = .ok (.putfield 25, 3) := by decide +kernel
theorem dX2_copyFrom_8 : decode cX2_copyFrom 8 = .ok (.aload_n 0, 1) := by decide +kernel
theorem dX2_copyFrom_9 : decode cX2_copyFrom 9 = .ok (.aload_n 1, 1) := by decide +kernel
theorem dX2_copyFrom_10 : decode cX2_copyFrom 10 = .ok (.getfield 29, 3) := by decide +kernel
theorem dX2_copyFrom_13 : decode cX2_copyFrom 13 = .ok (.putfield 29, 3) := by decide +kernel
theorem dX2_copyFrom_16 : decode cX2_copyFrom 16 = .ok (.aload_n 0, 1) := by decide +kernel
theorem dX2_copyFrom_17 : decode cX2_copyFrom 17 = .ok (.aload_n 1, 1) := by decide +kernel
theorem dX2_copyFrom_18 : decode cX2_copyFrom 18 = .ok (.getfield 32, 3) := by decide +kernel
theorem dX2_copyFrom_21 : decode cX2_copyFrom 21 = .ok (.putfield 32, 3) := by decide +kernel
theorem dX2_copyFrom_24 : decode cX2_copyFrom 24 = .ok (.aload_n 0, 1) := by decide +kernel
theorem dX2_copyFrom_25 : decode cX2_copyFrom 25 = .ok (.aload_n 1, 1) := by decide +kernel
theorem dX2_copyFrom_26 : decode cX2_copyFrom 26 = .ok (.getfield 35, 3) := by decide +kernel
theorem dX2_copyFrom_29 : decode cX2_copyFrom 29 = .ok (.putfield 35, 3) := by decide +kernel
theorem dX2_copyFrom_32 : decode cX2_copyFrom 32 = .ok (.aload_n 0, 1) := by decide +kernel
theorem dX2_copyFrom_33 : decode cX2_copyFrom 33 = .ok (.getfield 12, 3) := by decide +kernel
theorem dX2_copyFrom_36 : decode cX2_copyFrom 36 = .ok (.aload_n 1, 1) := by decide +kernel
theorem dX2_copyFrom_37 : decode cX2_copyFrom 37 = .ok (.getfield 12, 3) := by decide +kernel
theorem dX2_copyFrom_40 : decode cX2_copyFrom 40 = .ok (.invokevirtual 78, 3) := by decide +kernel
theorem dX2_copyFrom_43 : decode cX2_copyFrom 43 = .ok (.aload_n 0, 1) := by decide +kernel
theorem dX2_copyFrom_44 : decode cX2_copyFrom 44 = .ok (.aload_n 1, 1) := by decide +kernel
theorem dX2_copyFrom_45 : decode cX2_copyFrom 45 = .ok (.getfield 41, 3) := by decide +kernel
theorem dX2_copyFrom_48 : decode cX2_copyFrom 48 = .ok (.putfield 41, 3) := by decide +kernel
theorem dX2_copyFrom_51 : decode cX2_copyFrom 51 = .ok (.aload_n 0, 1) := by decide +kernel
theorem dX2_copyFrom_52 : decode cX2_copyFrom 52 = .ok (.aload_n 1, 1) := by decide +kernel
theorem dX2_copyFrom_53 : decode cX2_copyFrom 53 = .ok (.getfield 44, 3) := by decide +kernel
theorem dX2_copyFrom_56 : decode cX2_copyFrom 56 = .ok (.putfield 44, 3) := by decide +kernel
theorem dX2_copyFrom_59 : decode cX2_copyFrom 59 = .ok (.aload_n 0, 1) := by decide +kernel
theorem dX2_copyFrom_60 : decode cX2_copyFrom 60 = .ok (.aload_n 1, 1) := by decide +kernel
theorem dX2_copyFrom_61 : decode cX2_copyFrom 61 = .ok (.getfield 47, 3) := by decide +kernel
theorem dX2_copyFrom_64 : decode cX2_copyFrom 64 = .ok (.putfield 47, 3) := by decide +kernel
theorem dX2_copyFrom_67 : decode cX2_copyFrom 67 = .ok (.aload_n 0, 1) := by decide +kernel
theorem dX2_copyFrom_68 : decode cX2_copyFrom 68 = .ok (.aload_n 1, 1) := by decide +kernel
theorem dX2_copyFrom_69 : decode cX2_copyFrom 69 = .ok (.getfield 50, 3) := by decide +kernel
theorem dX2_copyFrom_72 : decode cX2_copyFrom 72 = .ok (.putfield 50, 3) := by decide +kernel
theorem dX2_copyFrom_75 : decode cX2_copyFrom 75 = .ok (.aload_n 0, 1) := by decide +kernel
theorem dX2_copyFrom_76 : decode cX2_copyFrom 76 = .ok (.aload_n 1, 1) := by decide +kernel
theorem dX2_copyFrom_77 : decode cX2_copyFrom 77 = .ok (.getfield 53, 3) := by decide +kernel
theorem dX2_copyFrom_80 : decode cX2_copyFrom 80 = .ok (.putfield 53, 3) := by decide +kernel
theorem dX2_copyFrom_83 : decode cX2_copyFrom 83 = .ok (.aload_n 0, 1) := by decide +kernel
theorem dX2_copyFrom_84 : decode cX2_copyFrom 84 = .ok (.aload_n 1, 1) := by decide +kernel
theorem dX2_copyFrom_85 : decode cX2_copyFrom 85 = .ok (.getfield 56, 3) := by decide +kernel
theorem dX2_copyFrom_88 : decode cX2_copyFrom 88 = .ok (.putfield 56, 3) := by decide +kernel
theorem dX2_copyFrom_91 : decode cX2_copyFrom 91 = .ok (.aload_n 0, 1) := by decide +kernel
theorem dX2_copyFrom_92 : decode cX2_copyFrom 92 = .ok (.aload_n 1, 1) := by decide +kernel
theorem dX2_copyFrom_93 : decode cX2_copyFrom 93 = .ok (.getfield 59, 3) := by decide +kernel
theorem dX2_copyFrom_96 : decode cX2_copyFrom 96 = .ok (.putfield 59, 3) := by decide +kernel
theorem dX2_copyFrom_99 : decode cX2_copyFrom 99 = .ok (.aload_n 0, 1) := by decide +kernel
theorem dX2_copyFrom_100 : decode cX2_copyFrom 100 = .ok (.aload_n 1, 1) := by decide +kernel
theorem dX2_copyFrom_101 : decode cX2_copyFrom 101 = .ok (.getfield 63, 3) := by decide +kernel
theorem dX2_copyFrom_104 : decode cX2_copyFrom 104 = .ok (.putfield 63, 3) := by decide +kernel
theorem dX2_copyFrom_107 : decode cX2_copyFrom 107 = .ok (.aload_n 0, 1) := by decide +kernel
theorem dX2_copyFrom_108 : decode cX2_copyFrom 108 = .ok (.aload_n 1, 1) := by decide +kernel
theorem dX2_copyFrom_109 : decode cX2_copyFrom 109 = .ok (.getfield 66, 3) := by decide +kernel
theorem dX2_copyFrom_112 : decode cX2_copyFrom 112 = .ok (.putfield 66, 3) := by decide +kernel
theorem dX2_copyFrom_115 : decode cX2_copyFrom 115 = .ok (.aload_n 0, 1) := by decide +kernel
theorem dX2_copyFrom_116 : decode cX2_copyFrom 116 = .ok (.aload_n 1, 1) := by decide +kernel
theorem dX2_copyFrom_117 : decode cX2_copyFrom 117 = .ok (.getfield 69, 3) := by decide +kernel
theorem dX2_copyFrom_120 : decode cX2_copyFrom 120 = .ok (.putfield 69, 3) := by decide +kernel
theorem dX2_copyFrom_123 : decode cX2_copyFrom 123 = .ok (.aload_n 0, 1) := by decide +kernel
theorem dX2_copyFrom_124 : decode cX2_copyFrom 124 = .ok (.aload_n 1, 1) := by decide +kernel
theorem dX2_copyFrom_125 : decode cX2_copyFrom 125 = .ok (.getfield 72, 3) := by decide +kernel
theorem dX2_copyFrom_128 : decode cX2_copyFrom 128 = .ok (.putfield 72, 3) := by decide +kernel
theorem dX2_copyFrom_131 : decode cX2_copyFrom 131 = .ok (.aload_n 0, 1) := by decide +kernel
theorem dX2_copyFrom_132 : decode cX2_copyFrom 132 = .ok (.aload_n 1, 1) := by decide +kernel
theorem dX2_copyFrom_133 : decode cX2_copyFrom 133 = .ok (.getfield 75, 3) := by decide +kernel
theorem dX2_copyFrom_136 : decode cX2_copyFrom 136 = .ok (.putfield 75, 3) := by decide +kernel
theorem dX2_copyFrom_139 : decode cX2_copyFrom 139 = .ok (.aload_n 1, 1) := by decide +kernel
theorem dX2_copyFrom_140 : decode cX2_copyFrom 140 = .ok (.getfield 18, 3) := by decide +kernel
theorem dX2_copyFrom_143 : decode cX2_copyFrom 143 = .ok (.iconst 0, 1) := by decide +kernel
theorem dX2_copyFrom_144 : decode cX2_copyFrom 144 = .ok (.aload_n 0, 1) := by decide +kernel
theorem dX2_copyFrom_145 : decode cX2_copyFrom 145 = .ok (.getfield 18, 3) := by decide +kernel
theorem dX2_copyFrom_148 : decode cX2_copyFrom 148 = .ok (.iconst 0, 1) := by decide +kernel
theorem dX2_copyFrom_149 : decode cX2_copyFrom 149 = .ok (.bipush 6, 2) := by decide +kernel
theorem dX2_copyFrom_151 : decode cX2_copyFrom 151 = .ok (.invokestatic 82, 3) := by decide +kernel
theorem dX2_copyFrom_154 : decode cX2_copyFrom 154 = .ok (.aload_n 1, 1) := by decide +kernel
theorem dX2_copyFrom_155 : decode cX2_copyFrom 155 = .ok (.getfield 22, 3) := by decide +kernel
theorem dX2_copyFrom_158 : decode cX2_copyFrom 158 = .ok (.iconst 0, 1) := by decide +kernel
theorem dX2_copyFrom_159 : decode cX2_copyFrom 159 = .ok (.aload_n 0, 1) := by decide +kernel
theorem dX2_copyFrom_160 : decode cX2_copyFrom 160 = .ok (.getfield 22, 3) := by decide +kernel
theorem dX2_copyFrom_163 : decode cX2_copyFrom 163 = .ok (.iconst 0, 1) := by decide +kernel
theorem dX2_copyFrom_164 : decode cX2_copyFrom 164 = .ok (.bipush 6, 2) := by decide +kernel
theorem dX2_copyFrom_166 : decode cX2_copyFrom 166 = .ok (.invokestatic 82, 3) := by decide +kernel
theorem dX2_copyFrom_169 : decode cX2_copyFrom 169 = .ok (.return_, 1) := by decide +kernel
theorem dX2_stands_0 : decode cX2_stands 0 = .ok (.aload_n 0, 1) := by decide +kernel
theorem dX2_stands_1 : decode cX2_stands 1 = .ok (.getfield 44, 3) := by decide +kernel
theorem dX2_stands_4 : decode cX2_stands 4 = .ok (.iconst 2, 1) := by decide +kernel
theorem dX2_stands_5 : decode cX2_stands 5 = .ok (.if_icmp .eq 20, 3) := by decide +kernel
theorem dX2_stands_8 : decode cX2_stands 8 = .ok (.aload_n 0, 1) := by decide +kernel
theorem dX2_stands_9 : decode cX2_stands 9 = .ok (.getfield 44, 3) := by decide +kernel
theorem dX2_stands_12 : decode cX2_stands 12 = .ok (.iconst 3, 1) := by decide +kernel
theorem dX2_stands_13 : decode cX2_stands 13 = .ok (.if_icmp .eq 12, 3) := by decide +kernel
theorem dX2_stands_16 : decode cX2_stands 16 = .ok (.aload_n 0, 1) := by decide +kernel
theorem dX2_stands_17 : decode cX2_stands 17 = .ok (.getfield 44, 3) := by decide +kernel
theorem dX2_stands_20 : decode cX2_stands 20 = .ok (.bipush 6, 2) := by decide +kernel
theorem dX2_stands_22 : decode cX2_stands 22 = .ok (.if_icmp .ne 7, 3) := by decide +kernel
theorem dX2_stands_25 : decode cX2_stands 25 = .ok (.iconst 1, 1) := by decide +kernel
theorem dX2_stands_26 : decode cX2_stands 26 = .ok (.goto 4, 3) := by decide +kernel
theorem dX2_stands_29 : decode cX2_stands 29 = .ok (.iconst 0, 1) := by decide +kernel
theorem dX2_stands_30 : decode cX2_stands 30 = .ok (.ireturn, 1) := by decide +kernel
theorem dX2_floorArea_0 : decode cX2_floorArea 0 = .ok (.aload_n 0, 1) := by decide +kernel
theorem dX2_floorArea_1 : decode cX2_floorArea 1 = .ok (.getfield 41, 3) := by decide +kernel
theorem dX2_floorArea_4 : decode cX2_floorArea 4 = .ok (.aload_n 0, 1) := by decide +kernel
theorem dX2_floorArea_5 : decode cX2_floorArea 5 = .ok (.getfield 32, 3) := by decide +kernel
theorem dX2_floorArea_8 : decode cX2_floorArea 8 = .ok (.imul, 1) := by decide +kernel
theorem dX2_floorArea_9 : decode cX2_floorArea 9 = .ok (.ireturn, 1) := by decide +kernel
theorem dX2_applyFee_0 : decode cX2_applyFee 0 = .ok (.bipush 20, 2) := by decide +kernel
theorem dX2_applyFee_2 : decode cX2_applyFee 2 = .ok (.aload_n 0, 1) := by decide +kernel
theorem dX2_applyFee_3 : decode cX2_applyFee 3 = .ok (.invokevirtual 88, 3) := by decide +kernel
theorem dX2_applyFee_6 : decode cX2_applyFee 6 = .ok (.iadd, 1) := by decide +kernel
theorem dX2_applyFee_7 : decode cX2_applyFee 7 = .ok (.ireturn, 1) := by decide +kernel
theorem dX2_becomeIssued_0 : decode cX2_becomeIssued 0 = .ok (.aload_n 0, 1) := by decide +kernel
theorem dX2_becomeIssued_1 : decode cX2_becomeIssued 1 = .ok (.iconst 2, 1) := by decide +kernel
theorem dX2_becomeIssued_2 : decode cX2_becomeIssued 2 = .ok (.putfield 44, 3) := by decide +kernel
theorem dX2_becomeIssued_5 : decode cX2_becomeIssued 5 = .ok (.aload_n 0, 1) := by decide +kernel
theorem dX2_becomeIssued_6 : decode cX2_becomeIssued 6 = .ok (.iload_n 1, 1) := by decide +kernel
theorem dX2_becomeIssued_7 : decode cX2_becomeIssued 7 = .ok (.bipush 30, 2) := by decide +kernel
theorem dX2_becomeIssued_9 : decode cX2_becomeIssued 9 = .ok (.iadd, 1) := by decide +kernel
theorem dX2_becomeIssued_10 : decode cX2_becomeIssued 10 = .ok (.putfield 56, 3) := by decide +kernel
theorem dX2_becomeIssued_13 : decode cX2_becomeIssued 13 = .ok (.aload_n 0, 1) := by decide +kernel
theorem dX2_becomeIssued_14 : decode cX2_becomeIssued 14 = .ok (.iload_n 2, 1) := by decide +kernel
theorem dX2_becomeIssued_15 : decode cX2_becomeIssued 15 = .ok (.putfield 63, 3) := by decide +kernel
theorem dX2_becomeIssued_18 : decode cX2_becomeIssued 18 = .ok (.aload_n 0, 1) := by decide +kernel
theorem dX2_becomeIssued_19 : decode cX2_becomeIssued 19 = .ok (.dup, 1) := by decide +kernel
theorem dX2_becomeIssued_20 : decode cX2_becomeIssued 20 = .ok (.getfield 66, 3) := by decide +kernel
theorem dX2_becomeIssued_23 : decode cX2_becomeIssued 23 = .ok (.bipush 10, 2) := by decide +kernel
theorem dX2_becomeIssued_25 : decode cX2_becomeIssued 25 = .ok (.iload_n 2, 1) := by decide +kernel
theorem dX2_becomeIssued_26 : decode cX2_becomeIssued 26 = .ok (.invokestatic 92, 3) := by decide +kernel
theorem dX2_becomeIssued_29 : decode cX2_becomeIssued 29 = .ok (.imul, 1) := by decide +kernel
theorem dX2_becomeIssued_30 : decode cX2_becomeIssued 30 = .ok (.iadd, 1) := by decide +kernel
theorem dX2_becomeIssued_31 : decode cX2_becomeIssued 31 = .ok (.putfield 66, 3) := by decide +kernel
theorem dX2_becomeIssued_34 : decode cX2_becomeIssued 34 = .ok (.return_, 1) := by decide +kernel
theorem dX2_becomeRefused_0 : decode cX2_becomeRefused 0 = .ok (.aload_n 0, 1) := by decide +kernel
theorem dX2_becomeRefused_1 : decode cX2_becomeRefused 1 = .ok (.iconst 1, 1) := by decide +kernel
theorem dX2_becomeRefused_2 : decode cX2_becomeRefused 2 = .ok (.putfield 44, 3) := by decide +kernel
theorem dX2_becomeRefused_5 : decode cX2_becomeRefused 5 = .ok (.aload_n 0, 1) := by decide +kernel
theorem dX2_becomeRefused_6 : decode cX2_becomeRefused 6 = .ok (.iload_n 1, 1) := by decide +kernel
theorem dX2_becomeRefused_7 : decode cX2_becomeRefused 7 = .ok (.putfield 47, 3) := by decide +kernel
theorem dX2_becomeRefused_10 : decode cX2_becomeRefused 10 = .ok (.aload_n 0, 1) := by decide +kernel
theorem dX2_becomeRefused_11 : decode cX2_becomeRefused 11 = .ok (.dup, 1) := by decide +kernel
theorem dX2_becomeRefused_12 : decode cX2_becomeRefused 12 = .ok (.getfield 69, 3) := by decide +kernel
theorem dX2_becomeRefused_15 : decode cX2_becomeRefused 15 = .ok (.aload_n 0, 1) := by decide +kernel
theorem dX2_becomeRefused_16 : decode cX2_becomeRefused 16 = .ok (.invokevirtual 98, 3) := by decide +kernel
theorem dX2_becomeRefused_19 : decode cX2_becomeRefused 19 = .ok (.iconst 2, 1) := by decide +kernel
theorem dX2_becomeRefused_20 : decode cX2_becomeRefused 20 = .ok (.idiv, 1) := by decide +kernel
theorem dX2_becomeRefused_21 : decode cX2_becomeRefused 21 = .ok (.iadd, 1) := by decide +kernel
theorem dX2_becomeRefused_22 : decode cX2_becomeRefused 22 = .ok (.putfield 69, 3) := by decide +kernel
theorem dX2_becomeRefused_25 : decode cX2_becomeRefused 25 = .ok (.return_, 1) := by decide +kernel
theorem dX2_passPhase_0 : decode cX2_passPhase 0 = .ok (.aload_n 0, 1) := by decide +kernel
theorem dX2_passPhase_1 : decode cX2_passPhase 1 = .ok (.dup, 1) := by decide +kernel
theorem dX2_passPhase_2 : decode cX2_passPhase 2 = .ok (.getfield 50, 3) := by decide +kernel
theorem dX2_passPhase_5 : decode cX2_passPhase 5 = .ok (.iconst 1, 1) := by decide +kernel
theorem dX2_passPhase_6 : decode cX2_passPhase 6 = .ok (.iadd, 1) := by decide +kernel
theorem dX2_passPhase_7 : decode cX2_passPhase 7 = .ok (.putfield 50, 3) := by decide +kernel
theorem dX2_passPhase_10 : decode cX2_passPhase 10 = .ok (.aload_n 0, 1) := by decide +kernel
theorem dX2_passPhase_11 : decode cX2_passPhase 11 = .ok (.iconst 0, 1) := by decide +kernel
theorem dX2_passPhase_12 : decode cX2_passPhase 12 = .ok (.putfield 53, 3) := by decide +kernel
theorem dX2_passPhase_15 : decode cX2_passPhase 15 = .ok (.aload_n 0, 1) := by decide +kernel
theorem dX2_passPhase_16 : decode cX2_passPhase 16 = .ok (.iload_n 1, 1) := by decide +kernel
theorem dX2_passPhase_17 : decode cX2_passPhase 17 = .ok (.bipush 30, 2) := by decide +kernel
theorem dX2_passPhase_19 : decode cX2_passPhase 19 = .ok (.iadd, 1) := by decide +kernel
theorem dX2_passPhase_20 : decode cX2_passPhase 20 = .ok (.putfield 56, 3) := by decide +kernel
theorem dX2_passPhase_23 : decode cX2_passPhase 23 = .ok (.aload_n 0, 1) := by decide +kernel
theorem dX2_passPhase_24 : decode cX2_passPhase 24 = .ok (.getfield 50, 3) := by decide +kernel
theorem dX2_passPhase_27 : decode cX2_passPhase 27 = .ok (.iconst 4, 1) := by decide +kernel
theorem dX2_passPhase_28 : decode cX2_passPhase 28 = .ok (.if_icmp .lt 8, 3) := by decide +kernel
theorem dX2_passPhase_31 : decode cX2_passPhase 31 = .ok (.aload_n 0, 1) := by decide +kernel
theorem dX2_passPhase_32 : decode cX2_passPhase 32 = .ok (.iconst 3, 1) := by decide +kernel
theorem dX2_passPhase_33 : decode cX2_passPhase 33 = .ok (.putfield 44, 3) := by decide +kernel
theorem dX2_passPhase_36 : decode cX2_passPhase 36 = .ok (.return_, 1) := by decide +kernel
theorem dX2_failPhase_0 : decode cX2_failPhase 0 = .ok (.aload_n 0, 1) := by decide +kernel
theorem dX2_failPhase_1 : decode cX2_failPhase 1 = .ok (.dup, 1) := by decide +kernel
theorem dX2_failPhase_2 : decode cX2_failPhase 2 = .ok (.getfield 53, 3) := by decide +kernel
theorem dX2_failPhase_5 : decode cX2_failPhase 5 = .ok (.iconst 1, 1) := by decide +kernel
theorem dX2_failPhase_6 : decode cX2_failPhase 6 = .ok (.iadd, 1) := by decide +kernel
theorem dX2_failPhase_7 : decode cX2_failPhase 7 = .ok (.putfield 53, 3) := by decide +kernel
theorem dX2_failPhase_10 : decode cX2_failPhase 10 = .ok (.aload_n 0, 1) := by decide +kernel
theorem dX2_failPhase_11 : decode cX2_failPhase 11 = .ok (.getfield 53, 3) := by decide +kernel
theorem dX2_failPhase_14 : decode cX2_failPhase 14 = .ok (.iconst 3, 1) := by decide +kernel
theorem dX2_failPhase_15 : decode cX2_failPhase 15 = .ok (.if_icmp .lt 9, 3) := by decide +kernel
theorem dX2_failPhase_18 : decode cX2_failPhase 18 = .ok (.aload_n 0, 1) := by decide +kernel
theorem dX2_failPhase_19 : decode cX2_failPhase 19 = .ok (.bipush 6, 2) := by decide +kernel
theorem dX2_failPhase_21 : decode cX2_failPhase 21 = .ok (.putfield 44, 3) := by decide +kernel
theorem dX2_failPhase_24 : decode cX2_failPhase 24 = .ok (.return_, 1) := by decide +kernel
theorem dX2_addCondition_0 : decode cX2_addCondition 0 = .ok (.aload_n 0, 1) := by decide +kernel
theorem dX2_addCondition_1 : decode cX2_addCondition 1 = .ok (.getfield 72, 3) := by decide +kernel
theorem dX2_addCondition_4 : decode cX2_addCondition 4 = .ok (.bipush 6, 2) := by decide +kernel
theorem dX2_addCondition_6 : decode cX2_addCondition 6 = .ok (.if_icmp .ge 48, 3) := by decide +kernel
theorem dX2_addCondition_9 : decode cX2_addCondition 9 = .ok (.aload_n 0, 1) := by decide +kernel
theorem dX2_addCondition_10 : decode cX2_addCondition 10 = .ok (.getfield 18, 3) := by decide +kernel
theorem dX2_addCondition_13 : decode cX2_addCondition 13 = .ok (.aload_n 0, 1) := by decide +kernel
theorem dX2_addCondition_14 : decode cX2_addCondition 14 = .ok (.getfield 72, 3) := by decide +kernel
theorem dX2_addCondition_17 : decode cX2_addCondition 17 = .ok (.iload_n 1, 1) := by decide +kernel
theorem dX2_addCondition_18 : decode cX2_addCondition 18 = .ok (.iastore, 1) := by decide +kernel
theorem dX2_addCondition_19 : decode cX2_addCondition 19 = .ok (.aload_n 0, 1) := by decide +kernel
theorem dX2_addCondition_20 : decode cX2_addCondition 20 = .ok (.getfield 22, 3) := by decide +kernel
theorem dX2_addCondition_23 : decode cX2_addCondition 23 = .ok (.aload_n 0, 1) := by decide +kernel
theorem dX2_addCondition_24 : decode cX2_addCondition 24 = .ok (.getfield 72, 3) := by decide +kernel
theorem dX2_addCondition_27 : decode cX2_addCondition 27 = .ok (.iload_n 2, 1) := by decide +kernel
theorem dX2_addCondition_28 : decode cX2_addCondition 28 = .ok (.iastore, 1) := by decide +kernel
theorem dX2_addCondition_29 : decode cX2_addCondition 29 = .ok (.aload_n 0, 1) := by decide +kernel
theorem dX2_addCondition_30 : decode cX2_addCondition 30 = .ok (.dup, 1) := by decide +kernel
theorem dX2_addCondition_31 : decode cX2_addCondition 31 = .ok (.getfield 75, 3) := by decide +kernel
theorem dX2_addCondition_34 : decode cX2_addCondition 34 = .ok (.iconst 1, 1) := by decide +kernel
theorem dX2_addCondition_35 : decode cX2_addCondition 35 = .ok (.aload_n 0, 1) := by decide +kernel
theorem dX2_addCondition_36 : decode cX2_addCondition 36 = .ok (.getfield 72, 3) := by decide +kernel
theorem dX2_addCondition_39 : decode cX2_addCondition 39 = .ok (.ishl, 1) := by decide +kernel
theorem dX2_addCondition_40 : decode cX2_addCondition 40 = .ok (.ior, 1) := by decide +kernel
theorem dX2_addCondition_41 : decode cX2_addCondition 41 = .ok (.putfield 75, 3) := by decide +kernel
theorem dX2_addCondition_44 : decode cX2_addCondition 44 = .ok (.aload_n 0, 1) := by decide +kernel
theorem dX2_addCondition_45 : decode cX2_addCondition 45 = .ok (.dup, 1) := by decide +kernel
theorem dX2_addCondition_46 : decode cX2_addCondition 46 = .ok (.getfield 72, 3) := by decide +kernel
theorem dX2_addCondition_49 : decode cX2_addCondition 49 = .ok (.iconst 1, 1) := by decide +kernel
theorem dX2_addCondition_50 : decode cX2_addCondition 50 = .ok (.iadd, 1) := by decide +kernel
theorem dX2_addCondition_51 : decode cX2_addCondition 51 = .ok (.putfield 72, 3) := by decide +kernel
theorem dX2_addCondition_54 : decode cX2_addCondition 54 = .ok (.return_, 1) := by decide +kernel
theorem dX2_openConditions_0 : decode cX2_openConditions 0 = .ok (.aload_n 0, 1) := by decide +kernel
theorem dX2_openConditions_1 : decode cX2_openConditions 1 = .ok (.getfield 75, 3) := by decide +kernel
theorem dX2_openConditions_4 : decode cX2_openConditions 4 = .ok (.invokestatic 92, 3) := by decide +kernel
theorem dX2_openConditions_7 : decode cX2_openConditions 7 = .ok (.ireturn, 1) := by decide +kernel
theorem dX2_isOpen_0 : decode cX2_isOpen 0 = .ok (.aload_n 0, 1) := by decide +kernel
theorem dX2_isOpen_1 : decode cX2_isOpen 1 = .ok (.getfield 75, 3) := by decide +kernel
theorem dX2_isOpen_4 : decode cX2_isOpen 4 = .ok (.iconst 1, 1) := by decide +kernel
theorem dX2_isOpen_5 : decode cX2_isOpen 5 = .ok (.iload_n 1, 1) := by decide +kernel
theorem dX2_isOpen_6 : decode cX2_isOpen 6 = .ok (.ishl, 1) := by decide +kernel
theorem dX2_isOpen_7 : decode cX2_isOpen 7 = .ok (.iand, 1) := by decide +kernel
theorem dX2_isOpen_8 : decode cX2_isOpen 8 = .ok (.ifCond .eq 7, 3) := by decide +kernel
theorem dX2_isOpen_11 : decode cX2_isOpen 11 = .ok (.iconst 1, 1) := by decide +kernel
theorem dX2_isOpen_12 : decode cX2_isOpen 12 = .ok (.goto 4, 3) := by decide +kernel
theorem dX2_isOpen_15 : decode cX2_isOpen 15 = .ok (.iconst 0, 1) := by decide +kernel
theorem dX2_isOpen_16 : decode cX2_isOpen 16 = .ok (.ireturn, 1) := by decide +kernel
theorem dX2_hasOpenInPhase_0 : decode cX2_hasOpenInPhase 0 = .ok (.iconst 0, 1) := by decide +kernel
theorem dX2_hasOpenInPhase_1 : decode cX2_hasOpenInPhase 1 = .ok (.istore_n 1, 1) := by decide +kernel
theorem dX2_hasOpenInPhase_2 : decode cX2_hasOpenInPhase 2 = .ok (.iload_n 1, 1) := by decide +kernel
theorem dX2_hasOpenInPhase_3 : decode cX2_hasOpenInPhase 3 = .ok (.bipush 6, 2) := by decide +kernel
theorem dX2_hasOpenInPhase_5 : decode cX2_hasOpenInPhase 5 = .ok (.if_icmp .ge 32, 3) := by decide +kernel
theorem dX2_hasOpenInPhase_8 : decode cX2_hasOpenInPhase 8 = .ok (.aload_n 0, 1) := by decide +kernel
theorem dX2_hasOpenInPhase_9 : decode cX2_hasOpenInPhase 9 = .ok (.iload_n 1, 1) := by decide +kernel
theorem dX2_hasOpenInPhase_10 : decode cX2_hasOpenInPhase 10 = .ok (.invokevirtual 101, 3) := by decide +kernel
theorem dX2_hasOpenInPhase_13 : decode cX2_hasOpenInPhase 13 = .ok (.ifCond .eq 18, 3) := by decide +kernel
theorem dX2_hasOpenInPhase_16 : decode cX2_hasOpenInPhase 16 = .ok (.aload_n 0, 1) := by decide +kernel
theorem dX2_hasOpenInPhase_17 : decode cX2_hasOpenInPhase 17 = .ok (.getfield 18, 3) := by decide +kernel
theorem dX2_hasOpenInPhase_20 : decode cX2_hasOpenInPhase 20 = .ok (.iload_n 1, 1) := by decide +kernel
theorem dX2_hasOpenInPhase_21 : decode cX2_hasOpenInPhase 21 = .ok (.iaload, 1) := by decide +kernel
theorem dX2_hasOpenInPhase_22 : decode cX2_hasOpenInPhase 22 = .ok (.aload_n 0, 1) := by decide +kernel
theorem dX2_hasOpenInPhase_23 : decode cX2_hasOpenInPhase 23 = .ok (.getfield 50, 3) := by decide +kernel
theorem dX2_hasOpenInPhase_26 : decode cX2_hasOpenInPhase 26 = .ok (.if_icmp .ne 5, 3) := by decide +kernel
theorem dX2_hasOpenInPhase_29 : decode cX2_hasOpenInPhase 29 = .ok (.iconst 1, 1) := by decide +kernel
theorem dX2_hasOpenInPhase_30 : decode cX2_hasOpenInPhase 30 = .ok (.ireturn, 1) := by decide +kernel
theorem dX2_hasOpenInPhase_31 : decode cX2_hasOpenInPhase 31 = .ok (.iinc 1 1, 3) := by decide +kernel
theorem dX2_hasOpenInPhase_34 : decode cX2_hasOpenInPhase 34 = .ok (.goto (-32), 3) := by decide +kernel
theorem dX2_hasOpenInPhase_37 : decode cX2_hasOpenInPhase 37 = .ok (.iconst 0, 1) := by decide +kernel
theorem dX2_hasOpenInPhase_38 : decode cX2_hasOpenInPhase 38 = .ok (.ireturn, 1) := by decide +kernel
theorem dX2_openSetWithLetter_0 : decode cX2_openSetWithLetter 0 = .ok (.iconst 0, 1) := by decide +kernel
theorem dX2_openSetWithLetter_1 : decode cX2_openSetWithLetter 1 = .ok (.istore_n 2, 1) := by decide +kernel
theorem dX2_openSetWithLetter_2 : decode cX2_openSetWithLetter 2 = .ok (.iconst 0, 1) := by decide +kernel
theorem dX2_openSetWithLetter_3 : decode cX2_openSetWithLetter 3 = .ok (.istore_n 3, 1) := by decide +kernel
theorem dX2_openSetWithLetter_4 : decode cX2_openSetWithLetter 4 = .ok (.iload_n 3, 1) := by decide +kernel
theorem dX2_openSetWithLetter_5 : decode cX2_openSetWithLetter 5 = .ok (.bipush 6, 2) := by decide +kernel
theorem dX2_openSetWithLetter_7 : decode cX2_openSetWithLetter 7 = .ok (.if_icmp .ge 33, 3) := by decide +kernel
theorem dX2_openSetWithLetter_10 : decode cX2_openSetWithLetter 10 = .ok (.aload_n 0, 1) := by decide +kernel
theorem dX2_openSetWithLetter_11 : decode cX2_openSetWithLetter 11 = .ok (.iload_n 3, 1) := by decide +kernel
theorem dX2_openSetWithLetter_12 : decode cX2_openSetWithLetter 12 = .ok (.invokevirtual 101, 3) := by decide +kernel
theorem dX2_openSetWithLetter_15 : decode cX2_openSetWithLetter 15 = .ok (.ifCond .eq 19, 3) := by decide +kernel
theorem dX2_openSetWithLetter_18 : decode cX2_openSetWithLetter 18 = .ok (.aload_n 0, 1) := by decide +kernel
theorem dX2_openSetWithLetter_19 : decode cX2_openSetWithLetter 19 = .ok (.getfield 22, 3) := by decide +kernel
theorem dX2_openSetWithLetter_22 : decode cX2_openSetWithLetter 22 = .ok (.iload_n 3, 1) := by decide +kernel
theorem dX2_openSetWithLetter_23 : decode cX2_openSetWithLetter 23 = .ok (.iaload, 1) := by decide +kernel
theorem dX2_openSetWithLetter_24 : decode cX2_openSetWithLetter 24 = .ok (.iload_n 1, 1) := by decide +kernel
theorem dX2_openSetWithLetter_25 : decode cX2_openSetWithLetter 25 = .ok (.if_icmp .ne 9, 3) := by decide +kernel
theorem dX2_openSetWithLetter_28 : decode cX2_openSetWithLetter 28 = .ok (.iload_n 2, 1) := by decide +kernel
theorem dX2_openSetWithLetter_29 : decode cX2_openSetWithLetter 29 = .ok (.iconst 1, 1) := by decide +kernel
theorem dX2_openSetWithLetter_30 : decode cX2_openSetWithLetter 30 = .ok (.iload_n 3, 1) := by decide +kernel
theorem dX2_openSetWithLetter_31 : decode cX2_openSetWithLetter 31 = .ok (.ishl, 1) := by decide +kernel
theorem dX2_openSetWithLetter_32 : decode cX2_openSetWithLetter 32 = .ok (.ior, 1) := by decide +kernel
theorem dX2_openSetWithLetter_33 : decode cX2_openSetWithLetter 33 = .ok (.istore_n 2, 1) := by decide +kernel
theorem dX2_openSetWithLetter_34 : decode cX2_openSetWithLetter 34 = .ok (.iinc 3 1, 3) := by decide +kernel
theorem dX2_openSetWithLetter_37 : decode cX2_openSetWithLetter 37 = .ok (.goto (-33), 3) := by decide +kernel
theorem dX2_openSetWithLetter_40 : decode cX2_openSetWithLetter 40 = .ok (.iload_n 2, 1) := by decide +kernel
theorem dX2_openSetWithLetter_41 : decode cX2_openSetWithLetter 41 = .ok (.ireturn, 1) := by decide +kernel
theorem dX2_urgency_0 : decode cX2_urgency 0 = .ok (.aload_n 0, 1) := by decide +kernel
theorem dX2_urgency_1 : decode cX2_urgency 1 = .ok (.getfield 44, 3) := by decide +kernel
theorem dX2_urgency_4 : decode cX2_urgency 4 = .ok (.lookupswitch 47 #[(0, 44), (2, 36), (6, 41)], 36) := by decide +kernel
theorem dX2_urgency_40 : decode cX2_urgency 40 = .ok (.aload_n 0, 1) := by decide +kernel
theorem dX2_urgency_41 : decode cX2_urgency 41 = .ok (.getfield 56, 3) := by decide +kernel
theorem dX2_urgency_44 : decode cX2_urgency 44 = .ok (.ireturn, 1) := by decide +kernel
theorem dX2_urgency_45 : decode cX2_urgency 45 = .ok (.ldc 105, 2) := by decide +kernel
theorem dX2_urgency_47 : decode cX2_urgency 47 = .ok (.ireturn, 1) := by decide +kernel
theorem dX2_urgency_48 : decode cX2_urgency 48 = .ok (.ldc 106, 2) := by decide +kernel
theorem dX2_urgency_50 : decode cX2_urgency 50 = .ok (.ireturn, 1) := by decide +kernel
theorem dX2_urgency_51 : decode cX2_urgency 51 = .ok (.ldc 107, 2) := by decide +kernel
theorem dX2_urgency_53 : decode cX2_urgency 53 = .ok (.ireturn, 1) := by decide +kernel
theorem dX3_init_0 : decode cX3_init 0 = .ok (.aload_n 0, 1) := by decide +kernel
theorem dX3_init_1 : decode cX3_init 1 = .ok (.invokespecial 3, 3) := by decide +kernel
theorem dX3_init_4 : decode cX3_init 4 = .ok (.aload_n 0, 1) := by decide +kernel
theorem dX3_init_5 : decode cX3_init 5 = .ok (.bipush 60, 2) := by decide +kernel
theorem dX3_init_7 : decode cX3_init 7 = .ok (.newarray .char, 2) := by decide +kernel
theorem dX3_init_9 : decode cX3_init 9 = .ok (.putfield 9, 3) := by decide +kernel
theorem dX3_init_12 : decode cX3_init 12 = .ok (.aload_n 0, 1) := by decide +kernel
theorem dX3_init_13 : decode cX3_init 13 = .ok (.iconst 0, 1) := by decide +kernel
theorem dX3_init_14 : decode cX3_init 14 = .ok (.putfield 15, 3) := by decide +kernel
theorem dX3_init_17 : decode cX3_init 17 = .ok (.aload_n 0, 1) := by decide +kernel
theorem dX3_init_18 : decode cX3_init 18 = .ok (.iconst 0, 1) := by decide +kernel
theorem dX3_init_19 : decode cX3_init 19 = .ok (.putfield 19, 3) := by decide +kernel
theorem dX3_init_22 : decode cX3_init 22 = .ok (.aload_n 0, 1) := by decide +kernel
theorem dX3_init_23 : decode cX3_init 23 = .ok (.iconst (-1), 1) := by decide +kernel
theorem dX3_init_24 : decode cX3_init 24 = .ok (.putfield 22, 3) := by decide +kernel
theorem dX3_init_27 : decode cX3_init 27 = .ok (.return_, 1) := by decide +kernel
theorem dX3_addCharacter_0 : decode cX3_addCharacter 0 = .ok (.aload_n 0, 1) := by decide +kernel
theorem dX3_addCharacter_1 : decode cX3_addCharacter 1 = .ok (.getfield 15, 3) := by decide +kernel
theorem dX3_addCharacter_4 : decode cX3_addCharacter 4 = .ok (.ifCond .lt 32, 3) := by decide +kernel
theorem dX3_addCharacter_7 : decode cX3_addCharacter 7 = .ok (.aload_n 0, 1) := by decide +kernel
theorem dX3_addCharacter_8 : decode cX3_addCharacter 8 = .ok (.getfield 15, 3) := by decide +kernel
theorem dX3_addCharacter_11 : decode cX3_addCharacter 11 = .ok (.bipush 60, 2) := by decide +kernel
theorem dX3_addCharacter_13 : decode cX3_addCharacter 13 = .ok (.if_icmp .ge 23, 3) := by decide +kernel
theorem dX3_addCharacter_16 : decode cX3_addCharacter 16 = .ok (.aload_n 0, 1) := by decide +kernel
theorem dX3_addCharacter_17 : decode cX3_addCharacter 17 = .ok (.getfield 9, 3) := by decide +kernel
theorem dX3_addCharacter_20 : decode cX3_addCharacter 20 = .ok (.aload_n 0, 1) := by decide +kernel
theorem dX3_addCharacter_21 : decode cX3_addCharacter 21 = .ok (.getfield 15, 3) := by decide +kernel
theorem dX3_addCharacter_24 : decode cX3_addCharacter 24 = .ok (.iload_n 1, 1) := by decide +kernel
theorem dX3_addCharacter_25 : decode cX3_addCharacter 25 = .ok (.castore, 1) := by decide +kernel
theorem dX3_addCharacter_26 : decode cX3_addCharacter 26 = .ok (.aload_n 0, 1) := by decide +kernel
theorem dX3_addCharacter_27 : decode cX3_addCharacter 27 = .ok (.dup, 1) := by decide +kernel
theorem dX3_addCharacter_28 : decode cX3_addCharacter 28 = .ok (.getfield 15, 3) := by decide +kernel
theorem dX3_addCharacter_31 : decode cX3_addCharacter 31 = .ok (.iconst 1, 1) := by decide +kernel
theorem dX3_addCharacter_32 : decode cX3_addCharacter 32 = .ok (.iadd, 1) := by decide +kernel
theorem dX3_addCharacter_33 : decode cX3_addCharacter 33 = .ok (.putfield 15, 3) := by decide +kernel
theorem dX3_addCharacter_36 : decode cX3_addCharacter 36 = .ok (.return_, 1) := by decide +kernel
theorem dX3_readInto_0 : decode cX3_readInto 0 = .ok (.aload_n 0, 1) := by decide +kernel
theorem dX3_readInto_1 : decode cX3_readInto 1 = .ok (.iconst 0, 1) := by decide +kernel
theorem dX3_readInto_2 : decode cX3_readInto 2 = .ok (.putfield 19, 3) := by decide +kernel
theorem dX3_readInto_5 : decode cX3_readInto 5 = .ok (.aload_n 0, 1) := by decide +kernel
theorem dX3_readInto_6 : decode cX3_readInto 6 = .ok (.iconst (-1), 1) := by decide +kernel
theorem dX3_readInto_7 : decode cX3_readInto 7 = .ok (.putfield 22, 3) := by decide +kernel
theorem dX3_readInto_10 : decode cX3_readInto 10 = .ok (.iconst 0, 1) := by decide +kernel
theorem dX3_readInto_11 : decode cX3_readInto 11 = .ok (.istore_n 2, 1) := by decide +kernel
theorem dX3_readInto_12 : decode cX3_readInto 12 = .ok (.aload_n 0, 1) := by decide +kernel
theorem dX3_readInto_13 : decode cX3_readInto 13 = .ok (.aload_n 1, 1) := by decide +kernel
theorem dX3_readInto_14 : decode cX3_readInto 14 = .ok (.invokevirtual 25, 3) := by decide +kernel
theorem dX3_readInto_17 : decode cX3_readInto 17 = .ok (.istore_n 3, 1) := by decide +kernel
theorem dX3_readInto_18 : decode cX3_readInto 18 = .ok (.iinc 2 1, 3) := by decide +kernel
theorem dX3_readInto_21 : decode cX3_readInto 21 = .ok (.iload_n 3, 1) := by decide +kernel
theorem dX3_readInto_22 : decode cX3_readInto 22 = .ok (.ifCond .eq 20, 3) := by decide +kernel
theorem dX3_readInto_25 : decode cX3_readInto 25 = .ok (.aload_n 0, 1) := by decide +kernel
theorem dX3_readInto_26 : decode cX3_readInto 26 = .ok (.getfield 19, 3) := by decide +kernel
theorem dX3_readInto_29 : decode cX3_readInto 29 = .ok (.aload_n 0, 1) := by decide +kernel
theorem dX3_readInto_30 : decode cX3_readInto 30 = .ok (.getfield 15, 3) := by decide +kernel
theorem dX3_readInto_33 : decode cX3_readInto 33 = .ok (.if_icmp .ge 9, 3) := by decide +kernel
theorem dX3_readInto_36 : decode cX3_readInto 36 = .ok (.iload_n 2, 1) := by decide +kernel
theorem dX3_readInto_37 : decode cX3_readInto 37 = .ok (.bipush 60, 2) := by decide +kernel
theorem dX3_readInto_39 : decode cX3_readInto 39 = .ok (.if_icmp .lt (-27), 3) := by decide +kernel
theorem dX3_readInto_42 : decode cX3_readInto 42 = .ok (.aload_n 0, 1) := by decide +kernel
theorem dX3_readInto_43 : decode cX3_readInto 43 = .ok (.iconst 0, 1) := by decide +kernel
theorem dX3_readInto_44 : decode cX3_readInto 44 = .ok (.putfield 15, 3) := by decide +kernel
theorem dX3_readInto_47 : decode cX3_readInto 47 = .ok (.iload_n 3, 1) := by decide +kernel
theorem dX3_readInto_48 : decode cX3_readInto 48 = .ok (.ifCond .eq 7, 3) := by decide +kernel
theorem dX3_readInto_51 : decode cX3_readInto 51 = .ok (.iload_n 2, 1) := by decide +kernel
theorem dX3_readInto_52 : decode cX3_readInto 52 = .ok (.goto 4, 3) := by decide +kernel
theorem dX3_readInto_55 : decode cX3_readInto 55 = .ok (.iconst (-1), 1) := by decide +kernel
theorem dX3_readInto_56 : decode cX3_readInto 56 = .ok (.ireturn, 1) := by decide +kernel
theorem dX3_readCommand_0 : decode cX3_readCommand 0 = .ok (.aload_n 0, 1) := by decide +kernel
theorem dX3_readCommand_1 : decode cX3_readCommand 1 = .ok (.invokevirtual 29, 3) := by decide +kernel
theorem dX3_readCommand_4 : decode cX3_readCommand 4 = .ok (.lookupswitch 82 #[(67, 70), (76, 52), (80, 58), (86, 64), (90, 76)], 52) := by decide +kernel
theorem dX3_readCommand_56 : decode cX3_readCommand 56 = .ok (.aload_n 0, 1) := by decide +kernel
theorem dX3_readCommand_57 : decode cX3_readCommand 57 = .ok (.aload_n 1, 1) := by decide +kernel
theorem dX3_readCommand_58 : decode cX3_readCommand 58 = .ok (.invokevirtual 33, 3) := by decide +kernel
theorem dX3_readCommand_61 : decode cX3_readCommand 61 = .ok (.ireturn, 1) := by decide +kernel
theorem dX3_readCommand_62 : decode cX3_readCommand 62 = .ok (.aload_n 0, 1) := by decide +kernel
theorem dX3_readCommand_63 : decode cX3_readCommand 63 = .ok (.aload_n 1, 1) := by decide +kernel
theorem dX3_readCommand_64 : decode cX3_readCommand 64 = .ok (.invokevirtual 36, 3) := by decide +kernel
theorem dX3_readCommand_67 : decode cX3_readCommand 67 = .ok (.ireturn, 1) := by decide +kernel
theorem dX3_readCommand_68 : decode cX3_readCommand 68 = .ok (.aload_n 0, 1) := by decide +kernel
theorem dX3_readCommand_69 : decode cX3_readCommand 69 = .ok (.aload_n 1, 1) := by decide +kernel
theorem dX3_readCommand_70 : decode cX3_readCommand 70 = .ok (.invokevirtual 39, 3) := by decide +kernel
theorem dX3_readCommand_73 : decode cX3_readCommand 73 = .ok (.ireturn, 1) := by decide +kernel
theorem dX3_readCommand_74 : decode cX3_readCommand 74 = .ok (.aload_n 0, 1) := by decide +kernel
theorem dX3_readCommand_75 : decode cX3_readCommand 75 = .ok (.aload_n 1, 1) := by decide +kernel
theorem dX3_readCommand_76 : decode cX3_readCommand 76 = .ok (.invokevirtual 42, 3) := by decide +kernel
theorem dX3_readCommand_79 : decode cX3_readCommand 79 = .ok (.ireturn, 1) := by decide +kernel
theorem dX3_readCommand_80 : decode cX3_readCommand 80 = .ok (.aload_n 0, 1) := by decide +kernel
theorem dX3_readCommand_81 : decode cX3_readCommand 81 = .ok (.aload_n 1, 1) := by decide +kernel
theorem dX3_readCommand_82 : decode cX3_readCommand 82 = .ok (.invokevirtual 45, 3) := by decide +kernel
theorem dX3_readCommand_85 : decode cX3_readCommand 85 = .ok (.ireturn, 1) := by decide +kernel
theorem dX3_readCommand_86 : decode cX3_readCommand 86 = .ok (.aload_n 0, 1) := by decide +kernel
theorem dX3_readCommand_87 : decode cX3_readCommand 87 = .ok (.aload_n 0, 1) := by decide +kernel
theorem dX3_readCommand_88 : decode cX3_readCommand 88 = .ok (.getfield 19, 3) := by decide +kernel
theorem dX3_readCommand_91 : decode cX3_readCommand 91 = .ok (.invokevirtual 48, 3) := by decide +kernel
theorem dX3_readCommand_94 : decode cX3_readCommand 94 = .ok (.ireturn, 1) := by decide +kernel
theorem dX3_readLot_0 : decode cX3_readLot 0 = .ok (.aload_n 1, 1) := by decide +kernel
theorem dX3_readLot_1 : decode cX3_readLot 1 = .ok (.getfield 52, 3) := by decide +kernel
theorem dX3_readLot_4 : decode cX3_readLot 4 = .ok (.bipush 8, 2) := by decide +kernel
theorem dX3_readLot_6 : decode cX3_readLot 6 = .ok (.if_icmp .lt 12, 3) := by decide +kernel
theorem dX3_readLot_9 : decode cX3_readLot 9 = .ok (.aload_n 0, 1) := by decide +kernel
theorem dX3_readLot_10 : decode cX3_readLot 10 = .ok (.aload_n 0, 1) := by decide +kernel
theorem dX3_readLot_11 : decode cX3_readLot 11 = .ok (.getfield 19, 3) := by decide +kernel
theorem dX3_readLot_14 : decode cX3_readLot 14 = .ok (.invokevirtual 48, 3) := by decide +kernel
theorem dX3_readLot_17 : decode cX3_readLot 17 = .ok (.ireturn, 1) := by decide +kernel
theorem dX3_readLot_18 : decode cX3_readLot 18 = .ok (.aload_n 0, 1) := by decide +kernel
theorem dX3_readLot_19 : decode cX3_readLot 19 = .ok (.dup, 1) := by decide +kernel
theorem dX3_readLot_20 : decode cX3_readLot 20 = .ok (.getfield 19, 3) := by decide +kernel
theorem dX3_readLot_23 : decode cX3_readLot 23 = .ok (.iconst 1, 1) := by decide +kernel
theorem dX3_readLot_24 : decode cX3_readLot 24 = .ok (.iadd, 1) := by decide +kernel
theorem dX3_readLot_25 : decode cX3_readLot 25 = .ok (.putfield 19, 3) := by decide +kernel
theorem dX3_readLot_28 : decode cX3_readLot 28 = .ok (.aload_n 1, 1) := by decide +kernel
theorem dX3_readLot_29 : decode cX3_readLot 29 = .ok (.getfield 57, 3) := by decide +kernel
theorem dX3_readLot_32 : decode cX3_readLot 32 = .ok (.aload_n 1, 1) := by decide +kernel
theorem dX3_readLot_33 : decode cX3_readLot 33 = .ok (.getfield 52, 3) := by decide +kernel
theorem dX3_readLot_36 : decode cX3_readLot 36 = .ok (.aaload, 1) := by decide +kernel
theorem dX3_readLot_37 : decode cX3_readLot 37 = .ok (.astore_n 2, 1) := by decide +kernel
theorem dX3_readLot_38 : decode cX3_readLot 38 = .ok (.aload_n 2, 1) := by decide +kernel
theorem dX3_readLot_39 : decode cX3_readLot 39 = .ok (.aload_n 0, 1) := by decide +kernel
theorem dX3_readLot_40 : decode cX3_readLot 40 = .ok (.bipush 48, 2) := by decide +kernel
theorem dX3_readLot_42 : decode cX3_readLot 42 = .ok (.iconst 0, 1) := by decide +kernel
theorem dX3_readLot_43 : decode cX3_readLot 43 = .ok (.iconst 3, 1) := by decide +kernel
theorem dX3_readLot_44 : decode cX3_readLot 44 = .ok (.invokevirtual 61, 3) := by decide +kernel
theorem dX3_readLot_47 : decode cX3_readLot 47 = .ok (.putfield 65, 3) := by decide +kernel
theorem dX3_readLot_50 : decode cX3_readLot 50 = .ok (.aload_n 2, 1) := by decide +kernel
theorem dX3_readLot_51 : decode cX3_readLot 51 = .ok (.getfield 65, 3) := by decide +kernel
theorem dX3_readLot_54 : decode cX3_readLot 54 = .ok (.iconst (-1), 1) := by decide +kernel
theorem dX3_readLot_55 : decode cX3_readLot 55 = .ok (.if_icmp .ne 5, 3) := by decide +kernel
theorem dX3_readLot_58 : decode cX3_readLot 58 = .ok (.iconst 0, 1) := by decide +kernel
theorem dX3_readLot_59 : decode cX3_readLot 59 = .ok (.ireturn, 1) := by decide +kernel
theorem dX3_readLot_60 : decode cX3_readLot 60 = .ok (.aload_n 2, 1) := by decide +kernel
theorem dX3_readLot_61 : decode cX3_readLot 61 = .ok (.aload_n 0, 1) := by decide +kernel
theorem dX3_readLot_62 : decode cX3_readLot 62 = .ok (.invokevirtual 70, 3) := by decide +kernel
theorem dX3_readLot_65 : decode cX3_readLot 65 = .ok (.putfield 73, 3) := by decide +kernel
theorem dX3_readLot_68 : decode cX3_readLot 68 = .ok (.aload_n 2, 1) := by decide +kernel
theorem dX3_readLot_69 : decode cX3_readLot 69 = .ok (.getfield 73, 3) := by decide +kernel
theorem dX3_readLot_72 : decode cX3_readLot 72 = .ok (.iconst (-1), 1) := by decide +kernel
theorem dX3_readLot_73 : decode cX3_readLot 73 = .ok (.if_icmp .eq 14, 3) := by decide +kernel
theorem dX3_readLot_76 : decode cX3_readLot 76 = .ok (.aload_n 0, 1) := by decide +kernel
theorem dX3_readLot_77 : decode cX3_readLot 77 = .ok (.aload_n 2, 1) := by decide +kernel
theorem dX3_readLot_78 : decode cX3_readLot 78 = .ok (.getfield 76, 3) := by decide +kernel
theorem dX3_readLot_81 : decode cX3_readLot 81 = .ok (.invokevirtual 80, 3) := by decide +kernel
theorem dX3_readLot_84 : decode cX3_readLot 84 = .ok (.ifCond .ne 5, 3) := by decide +kernel
theorem dX3_readLot_87 : decode cX3_readLot 87 = .ok (.iconst 0, 1) := by decide +kernel
theorem dX3_readLot_88 : decode cX3_readLot 88 = .ok (.ireturn, 1) := by decide +kernel
theorem dX3_readLot_89 : decode cX3_readLot 89 = .ok (.aload_n 0, 1) := by decide +kernel
theorem dX3_readLot_90 : decode cX3_readLot 90 = .ok (.invokevirtual 29, 3) := by decide +kernel
theorem dX3_readLot_93 : decode cX3_readLot 93 = .ok (.bipush 59, 2) := by decide +kernel
theorem dX3_readLot_95 : decode cX3_readLot 95 = .ok (.if_icmp .ne 23, 3) := by decide +kernel
theorem dX3_readLot_98 : decode cX3_readLot 98 = .ok (.aload_n 1, 1) := by decide +kernel
theorem dX3_readLot_99 : decode cX3_readLot 99 = .ok (.aload_n 2, 1) := by decide +kernel
theorem dX3_readLot_100 : decode cX3_readLot 100 = .ok (.getfield 76, 3) := by decide +kernel
theorem dX3_readLot_103 : decode cX3_readLot 103 = .ok (.invokevirtual 84, 3) := by decide +kernel
theorem dX3_readLot_106 : decode cX3_readLot 106 = .ok (.ifCond .eq 12, 3) := by decide +kernel
theorem dX3_readLot_109 : decode cX3_readLot 109 = .ok (.aload_n 0, 1) := by decide +kernel
theorem dX3_readLot_110 : decode cX3_readLot 110 = .ok (.aload_n 0, 1) := by decide +kernel
theorem dX3_readLot_111 : decode cX3_readLot 111 = .ok (.getfield 19, 3) := by decide +kernel
theorem dX3_readLot_114 : decode cX3_readLot 114 = .ok (.invokevirtual 48, 3) := by decide +kernel
theorem dX3_readLot_117 : decode cX3_readLot 117 = .ok (.ireturn, 1) := by decide +kernel
theorem dX3_readLot_118 : decode cX3_readLot 118 = .ok (.aload_n 2, 1) := by decide +kernel
theorem dX3_readLot_119 : decode cX3_readLot 119 = .ok (.aload_n 2, 1) := by decide +kernel
theorem dX3_readLot_120 : decode cX3_readLot 120 = .ok (.getfield 76, 3) := by decide +kernel
theorem dX3_readLot_123 : decode cX3_readLot 123 = .ok (.invokevirtual 87, 3) := by decide +kernel
theorem dX3_readLot_126 : decode cX3_readLot 126 = .ok (.putfield 92, 3) := by decide +kernel
theorem dX3_readLot_129 : decode cX3_readLot 129 = .ok (.aload_n 1, 1) := by decide +kernel
theorem dX3_readLot_130 : decode cX3_readLot 130 = .ok (.dup, 1) := by decide +kernel
theorem dX3_readLot_131 : decode cX3_readLot 131 = .ok (.getfield 52, 3) := by decide +kernel
theorem dX3_readLot_134 : decode cX3_readLot 134 = .ok (.iconst 1, 1) := by decide +kernel
theorem dX3_readLot_135 : decode cX3_readLot 135 = .ok (.iadd, 1) := by decide +kernel
theorem dX3_readLot_136 : decode cX3_readLot 136 = .ok (.putfield 52, 3) := by decide +kernel
theorem dX3_readLot_139 : decode cX3_readLot 139 = .ok (.aload_n 0, 1) := by decide +kernel
theorem dX3_readLot_140 : decode cX3_readLot 140 = .ok (.bipush 59, 2) := by decide +kernel
theorem dX3_readLot_142 : decode cX3_readLot 142 = .ok (.invokevirtual 95, 3) := by decide +kernel
theorem dX3_readLot_145 : decode cX3_readLot 145 = .ok (.ireturn, 1) := by decide +kernel
theorem dX3_readPermit_0 : decode cX3_readPermit 0 = .ok (.aload_n 1, 1) := by decide +kernel
theorem dX3_readPermit_1 : decode cX3_readPermit 1 = .ok (.getfield 99, 3) := by decide +kernel
theorem dX3_readPermit_4 : decode cX3_readPermit 4 = .ok (.bipush 10, 2) := by decide +kernel
theorem dX3_readPermit_6 : decode cX3_readPermit 6 = .ok (.if_icmp .lt 12, 3) := by decide +kernel
theorem dX3_readPermit_9 : decode cX3_readPermit 9 = .ok (.aload_n 0, 1) := by decide +kernel
theorem dX3_readPermit_10 : decode cX3_readPermit 10 = .ok (.aload_n 0, 1) := by decide +kernel
theorem dX3_readPermit_11 : decode cX3_readPermit 11 = .ok (.getfield 19, 3) := by decide +kernel
theorem dX3_readPermit_14 : decode cX3_readPermit 14 = .ok (.invokevirtual 48, 3) := by decide +kernel
theorem dX3_readPermit_17 : decode cX3_readPermit 17 = .ok (.ireturn, 1) := by decide +kernel
theorem dX3_readPermit_18 : decode cX3_readPermit 18 = .ok (.aload_n 0, 1) := by decide +kernel
theorem dX3_readPermit_19 : decode cX3_readPermit 19 = .ok (.dup, 1) := by decide +kernel
theorem dX3_readPermit_20 : decode cX3_readPermit 20 = .ok (.getfield 19, 3) := by decide +kernel
theorem dX3_readPermit_23 : decode cX3_readPermit 23 = .ok (.iconst 1, 1) := by decide +kernel
theorem dX3_readPermit_24 : decode cX3_readPermit 24 = .ok (.iadd, 1) := by decide +kernel
theorem dX3_readPermit_25 : decode cX3_readPermit 25 = .ok (.putfield 19, 3) := by decide +kernel
theorem dX3_readPermit_28 : decode cX3_readPermit 28 = .ok (.aload_n 1, 1) := by decide +kernel
theorem dX3_readPermit_29 : decode cX3_readPermit 29 = .ok (.getfield 102, 3) := by decide +kernel
theorem dX3_readPermit_32 : decode cX3_readPermit 32 = .ok (.aload_n 1, 1) := by decide +kernel
theorem dX3_readPermit_33 : decode cX3_readPermit 33 = .ok (.getfield 99, 3) := by decide +kernel
theorem dX3_readPermit_36 : decode cX3_readPermit 36 = .ok (.aaload, 1) := by decide +kernel
theorem dX3_readPermit_37 : decode cX3_readPermit 37 = .ok (.astore_n 2, 1) := by decide +kernel
theorem dX3_readPermit_38 : decode cX3_readPermit 38 = .ok (.aload_n 2, 1) := by decide +kernel
theorem dX3_readPermit_39 : decode cX3_readPermit 39 = .ok (.invokevirtual 106, 3) := by decide +kernel
theorem dX3_readPermit_42 : decode cX3_readPermit 42 = .ok (.aload_n 2, 1) := by decide +kernel
theorem dX3_readPermit_43 : decode cX3_readPermit 43 = .ok (.aload_n 0, 1) := by decide +kernel
theorem dX3_readPermit_44 : decode cX3_readPermit 44 = .ok (.bipush 48, 2) := by decide +kernel
theorem dX3_readPermit_46 : decode cX3_readPermit 46 = .ok (.iconst 0, 1) := by decide +kernel
theorem dX3_readPermit_47 : decode cX3_readPermit 47 = .ok (.aload_n 1, 1) := by decide +kernel
theorem dX3_readPermit_48 : decode cX3_readPermit 48 = .ok (.getfield 52, 3) := by decide +kernel
theorem dX3_readPermit_51 : decode cX3_readPermit 51 = .ok (.iconst 1, 1) := by decide +kernel
theorem dX3_readPermit_52 : decode cX3_readPermit 52 = .ok (.isub, 1) := by decide +kernel
theorem dX3_readPermit_53 : decode cX3_readPermit 53 = .ok (.invokevirtual 61, 3) := by decide +kernel
theorem dX3_readPermit_56 : decode cX3_readPermit 56 = .ok (.putfield 111, 3) := by decide +kernel
theorem dX3_readPermit_59 : decode cX3_readPermit 59 = .ok (.aload_n 2, 1) := by decide +kernel
theorem dX3_readPermit_60 : decode cX3_readPermit 60 = .ok (.getfield 111, 3) := by decide +kernel
theorem dX3_readPermit_63 : decode cX3_readPermit 63 = .ok (.iconst (-1), 1) := by decide +kernel
theorem dX3_readPermit_64 : decode cX3_readPermit 64 = .ok (.if_icmp .ne 5, 3) := by decide +kernel
theorem dX3_readPermit_67 : decode cX3_readPermit 67 = .ok (.iconst 0, 1) := by decide +kernel
theorem dX3_readPermit_68 : decode cX3_readPermit 68 = .ok (.ireturn, 1) := by decide +kernel
theorem dX3_readPermit_69 : decode cX3_readPermit 69 = .ok (.aload_n 2, 1) := by decide +kernel
theorem dX3_readPermit_70 : decode cX3_readPermit 70 = .ok (.aload_n 0, 1) := by decide +kernel
theorem dX3_readPermit_71 : decode cX3_readPermit 71 = .ok (.bipush 48, 2) := by decide +kernel
theorem dX3_readPermit_73 : decode cX3_readPermit 73 = .ok (.iconst 0, 1) := by decide +kernel
theorem dX3_readPermit_74 : decode cX3_readPermit 74 = .ok (.iconst 5, 1) := by decide +kernel
theorem dX3_readPermit_75 : decode cX3_readPermit 75 = .ok (.invokevirtual 61, 3) := by decide +kernel
theorem dX3_readPermit_78 : decode cX3_readPermit 78 = .ok (.putfield 114, 3) := by decide +kernel
theorem dX3_readPermit_81 : decode cX3_readPermit 81 = .ok (.aload_n 2, 1) := by decide +kernel
theorem dX3_readPermit_82 : decode cX3_readPermit 82 = .ok (.getfield 114, 3) := by decide +kernel
theorem dX3_readPermit_85 : decode cX3_readPermit 85 = .ok (.iconst (-1), 1) := by decide +kernel
theorem dX3_readPermit_86 : decode cX3_readPermit 86 = .ok (.if_icmp .ne 5, 3) := by decide +kernel
theorem dX3_readPermit_89 : decode cX3_readPermit 89 = .ok (.iconst 0, 1) := by decide +kernel
theorem dX3_readPermit_90 : decode cX3_readPermit 90 = .ok (.ireturn, 1) := by decide +kernel
theorem dX3_readPermit_91 : decode cX3_readPermit 91 = .ok (.aload_n 2, 1) := by decide +kernel
theorem dX3_readPermit_92 : decode cX3_readPermit 92 = .ok (.aload_n 0, 1) := by decide +kernel
theorem dX3_readPermit_93 : decode cX3_readPermit 93 = .ok (.bipush 48, 2) := by decide +kernel
theorem dX3_readPermit_95 : decode cX3_readPermit 95 = .ok (.iconst 1, 1) := by decide +kernel
theorem dX3_readPermit_96 : decode cX3_readPermit 96 = .ok (.bipush 9, 2) := by decide +kernel
theorem dX3_readPermit_98 : decode cX3_readPermit 98 = .ok (.invokevirtual 61, 3) := by decide +kernel
theorem dX3_readPermit_101 : decode cX3_readPermit 101 = .ok (.putfield 117, 3) := by decide +kernel
theorem dX3_readPermit_104 : decode cX3_readPermit 104 = .ok (.aload_n 2, 1) := by decide +kernel
theorem dX3_readPermit_105 : decode cX3_readPermit 105 = .ok (.getfield 117, 3) := by decide +kernel
theorem dX3_readPermit_108 : decode cX3_readPermit 108 = .ok (.iconst (-1), 1) := by decide +kernel
theorem dX3_readPermit_109 : decode cX3_readPermit 109 = .ok (.if_icmp .ne 5, 3) := by decide +kernel
theorem dX3_readPermit_112 : decode cX3_readPermit 112 = .ok (.iconst 0, 1) := by decide +kernel
theorem dX3_readPermit_113 : decode cX3_readPermit 113 = .ok (.ireturn, 1) := by decide +kernel
theorem dX3_readPermit_114 : decode cX3_readPermit 114 = .ok (.aload_n 2, 1) := by decide +kernel
theorem dX3_readPermit_115 : decode cX3_readPermit 115 = .ok (.aload_n 0, 1) := by decide +kernel
theorem dX3_readPermit_116 : decode cX3_readPermit 116 = .ok (.bipush 48, 2) := by decide +kernel
theorem dX3_readPermit_118 : decode cX3_readPermit 118 = .ok (.iconst 0, 1) := by decide +kernel
theorem dX3_readPermit_119 : decode cX3_readPermit 119 = .ok (.bipush 9, 2) := by decide +kernel
theorem dX3_readPermit_121 : decode cX3_readPermit 121 = .ok (.invokevirtual 61, 3) := by decide +kernel
theorem dX3_readPermit_124 : decode cX3_readPermit 124 = .ok (.putfield 120, 3) := by decide +kernel
theorem dX3_readPermit_127 : decode cX3_readPermit 127 = .ok (.aload_n 2, 1) := by decide +kernel
theorem dX3_readPermit_128 : decode cX3_readPermit 128 = .ok (.getfield 120, 3) := by decide +kernel
theorem dX3_readPermit_131 : decode cX3_readPermit 131 = .ok (.iconst (-1), 1) := by decide +kernel
theorem dX3_readPermit_132 : decode cX3_readPermit 132 = .ok (.if_icmp .eq 14, 3) := by decide +kernel
theorem dX3_readPermit_135 : decode cX3_readPermit 135 = .ok (.aload_n 0, 1) := by decide +kernel
theorem dX3_readPermit_136 : decode cX3_readPermit 136 = .ok (.aload_n 2, 1) := by decide +kernel
theorem dX3_readPermit_137 : decode cX3_readPermit 137 = .ok (.getfield 123, 3) := by decide +kernel
theorem dX3_readPermit_140 : decode cX3_readPermit 140 = .ok (.invokevirtual 80, 3) := by decide +kernel
theorem dX3_readPermit_143 : decode cX3_readPermit 143 = .ok (.ifCond .ne 5, 3) := by decide +kernel
theorem dX3_readPermit_146 : decode cX3_readPermit 146 = .ok (.iconst 0, 1) := by decide +kernel
theorem dX3_readPermit_147 : decode cX3_readPermit 147 = .ok (.ireturn, 1) := by decide +kernel
theorem dX3_readPermit_148 : decode cX3_readPermit 148 = .ok (.aload_n 2, 1) := by decide +kernel
theorem dX3_readPermit_149 : decode cX3_readPermit 149 = .ok (.aload_n 2, 1) := by decide +kernel
theorem dX3_readPermit_150 : decode cX3_readPermit 150 = .ok (.getfield 123, 3) := by decide +kernel
theorem dX3_readPermit_153 : decode cX3_readPermit 153 = .ok (.invokevirtual 87, 3) := by decide +kernel
theorem dX3_readPermit_156 : decode cX3_readPermit 156 = .ok (.putfield 126, 3) := by decide +kernel
theorem dX3_readPermit_159 : decode cX3_readPermit 159 = .ok (.aload_n 2, 1) := by decide +kernel
theorem dX3_readPermit_160 : decode cX3_readPermit 160 = .ok (.aload_n 2, 1) := by decide +kernel
theorem dX3_readPermit_161 : decode cX3_readPermit 161 = .ok (.invokevirtual 127, 3) := by decide +kernel
theorem dX3_readPermit_164 : decode cX3_readPermit 164 = .ok (.putfield 130, 3) := by decide +kernel
theorem dX3_readPermit_167 : decode cX3_readPermit 167 = .ok (.aload_n 1, 1) := by decide +kernel
theorem dX3_readPermit_168 : decode cX3_readPermit 168 = .ok (.dup, 1) := by decide +kernel
theorem dX3_readPermit_169 : decode cX3_readPermit 169 = .ok (.getfield 99, 3) := by decide +kernel
theorem dX3_readPermit_172 : decode cX3_readPermit 172 = .ok (.iconst 1, 1) := by decide +kernel
theorem dX3_readPermit_173 : decode cX3_readPermit 173 = .ok (.iadd, 1) := by decide +kernel
theorem dX3_readPermit_174 : decode cX3_readPermit 174 = .ok (.putfield 99, 3) := by decide +kernel
theorem dX3_readPermit_177 : decode cX3_readPermit 177 = .ok (.aload_n 0, 1) := by decide +kernel
theorem dX3_readPermit_178 : decode cX3_readPermit 178 = .ok (.bipush 59, 2) := by decide +kernel
theorem dX3_readPermit_180 : decode cX3_readPermit 180 = .ok (.invokevirtual 95, 3) := by decide +kernel
theorem dX3_readPermit_183 : decode cX3_readPermit 183 = .ok (.ireturn, 1) := by decide +kernel
theorem dX3_readVariance_0 : decode cX3_readVariance 0 = .ok (.aload_n 1, 1) := by decide +kernel
theorem dX3_readVariance_1 : decode cX3_readVariance 1 = .ok (.getfield 133, 3) := by decide +kernel
theorem dX3_readVariance_4 : decode cX3_readVariance 4 = .ok (.bipush 12, 2) := by decide +kernel
theorem dX3_readVariance_6 : decode cX3_readVariance 6 = .ok (.if_icmp .lt 12, 3) := by decide +kernel
theorem dX3_readVariance_9 : decode cX3_readVariance 9 = .ok (.aload_n 0, 1) := by decide +kernel
theorem dX3_readVariance_10 : decode cX3_readVariance 10 = .ok (.aload_n 0, 1) := by decide +kernel
theorem dX3_readVariance_11 : decode cX3_readVariance 11 = .ok (.getfield 19, 3) := by decide +kernel
theorem dX3_readVariance_14 : decode cX3_readVariance 14 = .ok (.invokevirtual 48, 3) := by decide +kernel
theorem dX3_readVariance_17 : decode cX3_readVariance 17 = .ok (.ireturn, 1) := by decide +kernel
theorem dX3_readVariance_18 : decode cX3_readVariance 18 = .ok (.aload_n 0, 1) := by decide +kernel
theorem dX3_readVariance_19 : decode cX3_readVariance 19 = .ok (.dup, 1) := by decide +kernel
theorem dX3_readVariance_20 : decode cX3_readVariance 20 = .ok (.getfield 19, 3) := by decide +kernel
theorem dX3_readVariance_23 : decode cX3_readVariance 23 = .ok (.iconst 1, 1) := by decide +kernel
theorem dX3_readVariance_24 : decode cX3_readVariance 24 = .ok (.iadd, 1) := by decide +kernel
theorem dX3_readVariance_25 : decode cX3_readVariance 25 = .ok (.putfield 19, 3) := by decide +kernel
theorem dX3_readVariance_28 : decode cX3_readVariance 28 = .ok (.aload_n 1, 1) := by decide +kernel
theorem dX3_readVariance_29 : decode cX3_readVariance 29 = .ok (.getfield 136, 3) := by decide +kernel
theorem dX3_readVariance_32 : decode cX3_readVariance 32 = .ok (.aload_n 1, 1) := by decide +kernel
theorem dX3_readVariance_33 : decode cX3_readVariance 33 = .ok (.getfield 133, 3) := by decide +kernel
theorem dX3_readVariance_36 : decode cX3_readVariance 36 = .ok (.aaload, 1) := by decide +kernel
theorem dX3_readVariance_37 : decode cX3_readVariance 37 = .ok (.astore_n 2, 1) := by decide +kernel
theorem dX3_readVariance_38 : decode cX3_readVariance 38 = .ok (.aload_n 2, 1) := by decide +kernel
theorem dX3_readVariance_39 : decode cX3_readVariance 39 = .ok (.aload_n 0, 1) := by decide +kernel
theorem dX3_readVariance_40 : decode cX3_readVariance 40 = .ok (.bipush 48, 2) := by decide +kernel
theorem dX3_readVariance_42 : decode cX3_readVariance 42 = .ok (.iconst 0, 1) := by decide +kernel
theorem dX3_readVariance_43 : decode cX3_readVariance 43 = .ok (.aload_n 1, 1) := by decide +kernel
theorem dX3_readVariance_44 : decode cX3_readVariance 44 = .ok (.getfield 52, 3) := by decide +kernel
theorem dX3_readVariance_47 : decode cX3_readVariance 47 = .ok (.iconst 1, 1) := by decide +kernel
theorem dX3_readVariance_48 : decode cX3_readVariance 48 = .ok (.isub, 1) := by decide +kernel
theorem dX3_readVariance_49 : decode cX3_readVariance 49 = .ok (.invokevirtual 61, 3) := by decide +kernel
theorem dX3_readVariance_52 : decode cX3_readVariance 52 = .ok (.putfield 140, 3) := by decide +kernel
theorem dX3_readVariance_55 : decode cX3_readVariance 55 = .ok (.aload_n 2, 1) := by decide +kernel
theorem dX3_readVariance_56 : decode cX3_readVariance 56 = .ok (.getfield 140, 3) := by decide +kernel
theorem dX3_readVariance_59 : decode cX3_readVariance 59 = .ok (.iconst (-1), 1) := by decide +kernel
theorem dX3_readVariance_60 : decode cX3_readVariance 60 = .ok (.if_icmp .ne 5, 3) := by decide +kernel
theorem dX3_readVariance_63 : decode cX3_readVariance 63 = .ok (.iconst 0, 1) := by decide +kernel
theorem dX3_readVariance_64 : decode cX3_readVariance 64 = .ok (.ireturn, 1) := by decide +kernel
theorem dX3_readVariance_65 : decode cX3_readVariance 65 = .ok (.aload_n 2, 1) := by decide +kernel
theorem dX3_readVariance_66 : decode cX3_readVariance 66 = .ok (.aload_n 0, 1) := by decide +kernel
theorem dX3_readVariance_67 : decode cX3_readVariance 67 = .ok (.bipush 48, 2) := by decide +kernel
theorem dX3_readVariance_69 : decode cX3_readVariance 69 = .ok (.iconst 2, 1) := by decide +kernel
theorem dX3_readVariance_70 : decode cX3_readVariance 70 = .ok (.bipush 8, 2) := by decide +kernel
theorem dX3_readVariance_72 : decode cX3_readVariance 72 = .ok (.invokevirtual 61, 3) := by decide +kernel
theorem dX3_readVariance_75 : decode cX3_readVariance 75 = .ok (.putfield 143, 3) := by decide +kernel
theorem dX3_readVariance_78 : decode cX3_readVariance 78 = .ok (.aload_n 2, 1) := by decide +kernel
theorem dX3_readVariance_79 : decode cX3_readVariance 79 = .ok (.getfield 143, 3) := by decide +kernel
theorem dX3_readVariance_82 : decode cX3_readVariance 82 = .ok (.iconst (-1), 1) := by decide +kernel
theorem dX3_readVariance_83 : decode cX3_readVariance 83 = .ok (.if_icmp .ne 5, 3) := by decide +kernel
theorem dX3_readVariance_86 : decode cX3_readVariance 86 = .ok (.iconst 0, 1) := by decide +kernel
theorem dX3_readVariance_87 : decode cX3_readVariance 87 = .ok (.ireturn, 1) := by decide +kernel
theorem dX3_readVariance_88 : decode cX3_readVariance 88 = .ok (.aload_n 2, 1) := by decide +kernel
theorem dX3_readVariance_89 : decode cX3_readVariance 89 = .ok (.aload_n 0, 1) := by decide +kernel
theorem dX3_readVariance_90 : decode cX3_readVariance 90 = .ok (.iconst 1, 1) := by decide +kernel
theorem dX3_readVariance_91 : decode cX3_readVariance 91 = .ok (.bipush 99, 2) := by decide +kernel
theorem dX3_readVariance_93 : decode cX3_readVariance 93 = .ok (.invokevirtual 146, 3) := by decide +kernel
theorem dX3_readVariance_96 : decode cX3_readVariance 96 = .ok (.putfield 150, 3) := by decide +kernel
theorem dX3_readVariance_99 : decode cX3_readVariance 99 = .ok (.aload_n 2, 1) := by decide +kernel
theorem dX3_readVariance_100 : decode cX3_readVariance 100 = .ok (.getfield 150, 3) := by decide +kernel
theorem dX3_readVariance_103 : decode cX3_readVariance 103 = .ok (.iconst (-1), 1) := by decide +kernel
theorem dX3_readVariance_104 : decode cX3_readVariance 104 = .ok (.if_icmp .eq 12, 3) := by decide +kernel
theorem dX3_readVariance_107 : decode cX3_readVariance 107 = .ok (.aload_n 0, 1) := by decide +kernel
theorem dX3_readVariance_108 : decode cX3_readVariance 108 = .ok (.bipush 44, 2) := by decide +kernel
theorem dX3_readVariance_110 : decode cX3_readVariance 110 = .ok (.invokevirtual 95, 3) := by decide +kernel
theorem dX3_readVariance_113 : decode cX3_readVariance 113 = .ok (.ifCond .ne 5, 3) := by decide +kernel
theorem dX3_readVariance_116 : decode cX3_readVariance 116 = .ok (.iconst 0, 1) := by decide +kernel
theorem dX3_readVariance_117 : decode cX3_readVariance 117 = .ok (.ireturn, 1) := by decide +kernel
theorem dX3_readVariance_118 : decode cX3_readVariance 118 = .ok (.aload_n 0, 1) := by decide +kernel
theorem dX3_readVariance_119 : decode cX3_readVariance 119 = .ok (.iconst 0, 1) := by decide +kernel
theorem dX3_readVariance_120 : decode cX3_readVariance 120 = .ok (.bipush 99, 2) := by decide +kernel
theorem dX3_readVariance_122 : decode cX3_readVariance 122 = .ok (.invokevirtual 146, 3) := by decide +kernel
theorem dX3_readVariance_125 : decode cX3_readVariance 125 = .ok (.istore_n 3, 1) := by decide +kernel
theorem dX3_readVariance_126 : decode cX3_readVariance 126 = .ok (.iload_n 3, 1) := by decide +kernel
theorem dX3_readVariance_127 : decode cX3_readVariance 127 = .ok (.iconst (-1), 1) := by decide +kernel
theorem dX3_readVariance_128 : decode cX3_readVariance 128 = .ok (.if_icmp .ne 5, 3) := by decide +kernel
theorem dX3_readVariance_131 : decode cX3_readVariance 131 = .ok (.iconst 0, 1) := by decide +kernel
theorem dX3_readVariance_132 : decode cX3_readVariance 132 = .ok (.ireturn, 1) := by decide +kernel
theorem dX3_readVariance_133 : decode cX3_readVariance 133 = .ok (.aload_n 2, 1) := by decide +kernel
theorem dX3_readVariance_134 : decode cX3_readVariance 134 = .ok (.aload_n 1, 1) := by decide +kernel
theorem dX3_readVariance_135 : decode cX3_readVariance 135 = .ok (.getfield 153, 3) := by decide +kernel
theorem dX3_readVariance_138 : decode cX3_readVariance 138 = .ok (.iload_n 3, 1) := by decide +kernel
theorem dX3_readVariance_139 : decode cX3_readVariance 139 = .ok (.iadd, 1) := by decide +kernel
theorem dX3_readVariance_140 : decode cX3_readVariance 140 = .ok (.putfield 156, 3) := by decide +kernel
theorem dX3_readVariance_143 : decode cX3_readVariance 143 = .ok (.aload_n 1, 1) := by decide +kernel
theorem dX3_readVariance_144 : decode cX3_readVariance 144 = .ok (.dup, 1) := by decide +kernel
theorem dX3_readVariance_145 : decode cX3_readVariance 145 = .ok (.getfield 133, 3) := by decide +kernel
theorem dX3_readVariance_148 : decode cX3_readVariance 148 = .ok (.iconst 1, 1) := by decide +kernel
theorem dX3_readVariance_149 : decode cX3_readVariance 149 = .ok (.iadd, 1) := by decide +kernel
theorem dX3_readVariance_150 : decode cX3_readVariance 150 = .ok (.putfield 133, 3) := by decide +kernel
theorem dX3_readVariance_153 : decode cX3_readVariance 153 = .ok (.aload_n 0, 1) := by decide +kernel
theorem dX3_readVariance_154 : decode cX3_readVariance 154 = .ok (.bipush 59, 2) := by decide +kernel
theorem dX3_readVariance_156 : decode cX3_readVariance 156 = .ok (.invokevirtual 95, 3) := by decide +kernel
theorem dX3_readVariance_159 : decode cX3_readVariance 159 = .ok (.ireturn, 1) := by decide +kernel
theorem dX3_readCondition_0 : decode cX3_readCondition 0 = .ok (.aload_n 0, 1) := by decide +kernel
theorem dX3_readCondition_1 : decode cX3_readCondition 1 = .ok (.dup, 1) := by decide +kernel
theorem dX3_readCondition_2 : decode cX3_readCondition 2 = .ok (.getfield 19, 3) := by decide +kernel
theorem dX3_readCondition_5 : decode cX3_readCondition 5 = .ok (.iconst 1, 1) := by decide +kernel
theorem dX3_readCondition_6 : decode cX3_readCondition 6 = .ok (.iadd, 1) := by decide +kernel
theorem dX3_readCondition_7 : decode cX3_readCondition 7 = .ok (.putfield 19, 3) := by decide +kernel
theorem dX3_readCondition_10 : decode cX3_readCondition 10 = .ok (.aload_n 0, 1) := by decide +kernel
theorem dX3_readCondition_11 : decode cX3_readCondition 11 = .ok (.bipush 48, 2) := by decide +kernel
theorem dX3_readCondition_13 : decode cX3_readCondition 13 = .ok (.iconst 0, 1) := by decide +kernel
theorem dX3_readCondition_14 : decode cX3_readCondition 14 = .ok (.aload_n 1, 1) := by decide +kernel
theorem dX3_readCondition_15 : decode cX3_readCondition 15 = .ok (.getfield 99, 3) := by decide +kernel
theorem dX3_readCondition_18 : decode cX3_readCondition 18 = .ok (.iconst 1, 1) := by decide +kernel
theorem dX3_readCondition_19 : decode cX3_readCondition 19 = .ok (.isub, 1) := by decide +kernel
theorem dX3_readCondition_20 : decode cX3_readCondition 20 = .ok (.invokevirtual 61, 3) := by decide +kernel
theorem dX3_readCondition_23 : decode cX3_readCondition 23 = .ok (.istore_n 2, 1) := by decide +kernel
theorem dX3_readCondition_24 : decode cX3_readCondition 24 = .ok (.iload_n 2, 1) := by decide +kernel
theorem dX3_readCondition_25 : decode cX3_readCondition 25 = .ok (.iconst (-1), 1) := by decide +kernel
theorem dX3_readCondition_26 : decode cX3_readCondition 26 = .ok (.if_icmp .ne 5, 3) := by decide +kernel
theorem dX3_readCondition_29 : decode cX3_readCondition 29 = .ok (.iconst 0, 1) := by decide +kernel
theorem dX3_readCondition_30 : decode cX3_readCondition 30 = .ok (.ireturn, 1) := by decide +kernel
theorem dX3_readCondition_31 : decode cX3_readCondition 31 = .ok (.aload_n 0, 1) := by decide +kernel
theorem dX3_readCondition_32 : decode cX3_readCondition 32 = .ok (.bipush 48, 2) := by decide +kernel
theorem dX3_readCondition_34 : decode cX3_readCondition 34 = .ok (.iconst 0, 1) := by decide +kernel
theorem dX3_readCondition_35 : decode cX3_readCondition 35 = .ok (.iconst 3, 1) := by decide +kernel
theorem dX3_readCondition_36 : decode cX3_readCondition 36 = .ok (.invokevirtual 61, 3) := by decide +kernel
theorem dX3_readCondition_39 : decode cX3_readCondition 39 = .ok (.istore_n 3, 1) := by decide +kernel
theorem dX3_readCondition_40 : decode cX3_readCondition 40 = .ok (.iload_n 3, 1) := by decide +kernel
theorem dX3_readCondition_41 : decode cX3_readCondition 41 = .ok (.iconst (-1), 1) := by decide +kernel
theorem dX3_readCondition_42 : decode cX3_readCondition 42 = .ok (.if_icmp .ne 5, 3) := by decide +kernel
theorem dX3_readCondition_45 : decode cX3_readCondition 45 = .ok (.iconst 0, 1) := by decide +kernel
theorem dX3_readCondition_46 : decode cX3_readCondition 46 = .ok (.ireturn, 1) := by decide +kernel
theorem dX3_readCondition_47 : decode cX3_readCondition 47 = .ok (.aload_n 1, 1) := by decide +kernel
theorem dX3_readCondition_48 : decode cX3_readCondition 48 = .ok (.getfield 102, 3) := by decide +kernel
theorem dX3_readCondition_51 : decode cX3_readCondition 51 = .ok (.iload_n 2, 1) := by decide +kernel
theorem dX3_readCondition_52 : decode cX3_readCondition 52 = .ok (.aaload, 1) := by decide +kernel
theorem dX3_readCondition_53 : decode cX3_readCondition 53 = .ok (.astore 4, 2) := by decide +kernel
theorem dX3_readCondition_55 : decode cX3_readCondition 55 = .ok (.aload_n 0, 1) := by decide +kernel
theorem dX3_readCondition_56 : decode cX3_readCondition 56 = .ok (.invokevirtual 29, 3) := by decide +kernel
theorem dX3_readCondition_59 : decode cX3_readCondition 59 = .ok (.istore 5, 2) := by decide +kernel
theorem dX3_readCondition_61 : decode cX3_readCondition 61 = .ok (.aload 4, 2) := by decide +kernel
theorem dX3_readCondition_63 : decode cX3_readCondition 63 = .ok (.getfield 159, 3) := by decide +kernel
theorem dX3_readCondition_66 : decode cX3_readCondition 66 = .ok (.bipush 6, 2) := by decide +kernel
theorem dX3_readCondition_68 : decode cX3_readCondition 68 = .ok (.if_icmp .ge 17, 3) := by decide +kernel
theorem dX3_readCondition_71 : decode cX3_readCondition 71 = .ok (.iload 5, 2) := by decide +kernel
theorem dX3_readCondition_73 : decode cX3_readCondition 73 = .ok (.bipush 97, 2) := by decide +kernel
theorem dX3_readCondition_75 : decode cX3_readCondition 75 = .ok (.if_icmp .lt 10, 3) := by decide +kernel
theorem dX3_readCondition_78 : decode cX3_readCondition 78 = .ok (.iload 5, 2) := by decide +kernel
theorem dX3_readCondition_80 : decode cX3_readCondition 80 = .ok (.bipush 122, 2) := by decide +kernel
theorem dX3_readCondition_82 : decode cX3_readCondition 82 = .ok (.if_icmp .le 12, 3) := by decide +kernel
theorem dX3_readCondition_85 : decode cX3_readCondition 85 = .ok (.aload_n 0, 1) := by decide +kernel
theorem dX3_readCondition_86 : decode cX3_readCondition 86 = .ok (.aload_n 0, 1) := by decide +kernel
theorem dX3_readCondition_87 : decode cX3_readCondition 87 = .ok (.getfield 19, 3) := by decide +kernel
theorem dX3_readCondition_90 : decode cX3_readCondition 90 = .ok (.invokevirtual 48, 3) := by decide +kernel
theorem dX3_readCondition_93 : decode cX3_readCondition 93 = .ok (.ireturn, 1) := by decide +kernel
theorem dX3_readCondition_94 : decode cX3_readCondition 94 = .ok (.aload_n 0, 1) := by decide +kernel
theorem dX3_readCondition_95 : decode cX3_readCondition 95 = .ok (.dup, 1) := by decide +kernel
theorem dX3_readCondition_96 : decode cX3_readCondition 96 = .ok (.getfield 19, 3) := by decide +kernel
theorem dX3_readCondition_99 : decode cX3_readCondition 99 = .ok (.iconst 1, 1) := by decide +kernel
theorem dX3_readCondition_100 : decode cX3_readCondition 100 = .ok (.iadd, 1) := by decide +kernel
theorem dX3_readCondition_101 : decode cX3_readCondition 101 = .ok (.putfield 19, 3) := by decide +kernel
theorem dX3_readCondition_104 : decode cX3_readCondition 104 = .ok (.aload 4, 2) := by decide +kernel
theorem dX3_readCondition_106 : decode cX3_readCondition 106 = .ok (.iload_n 3, 1) := by decide +kernel
theorem dX3_readCondition_107 : decode cX3_readCondition 107 = .ok (.iload 5, 2) := by decide +kernel
theorem dX3_readCondition_109 : decode cX3_readCondition 109 = .ok (.invokevirtual 162, 3) := by decide +kernel
theorem dX3_readCondition_112 : decode cX3_readCondition 112 = .ok (.aload_n 0, 1) := by decide +kernel
theorem dX3_readCondition_113 : decode cX3_readCondition 113 = .ok (.bipush 59, 2) := by decide +kernel
theorem dX3_readCondition_115 : decode cX3_readCondition 115 = .ok (.invokevirtual 95, 3) := by decide +kernel
theorem dX3_readCondition_118 : decode cX3_readCondition 118 = .ok (.ireturn, 1) := by decide +kernel
theorem dX3_readRule_0 : decode cX3_readRule 0 = .ok (.aload_n 0, 1) := by decide +kernel
theorem dX3_readRule_1 : decode cX3_readRule 1 = .ok (.dup, 1) := by decide +kernel
theorem dX3_readRule_2 : decode cX3_readRule 2 = .ok (.getfield 19, 3) := by decide +kernel
theorem dX3_readRule_5 : decode cX3_readRule 5 = .ok (.iconst 1, 1) := by decide +kernel
theorem dX3_readRule_6 : decode cX3_readRule 6 = .ok (.iadd, 1) := by decide +kernel
theorem dX3_readRule_7 : decode cX3_readRule 7 = .ok (.putfield 19, 3) := by decide +kernel
theorem dX3_readRule_10 : decode cX3_readRule 10 = .ok (.aload_n 0, 1) := by decide +kernel
theorem dX3_readRule_11 : decode cX3_readRule 11 = .ok (.bipush 48, 2) := by decide +kernel
theorem dX3_readRule_13 : decode cX3_readRule 13 = .ok (.iconst 0, 1) := by decide +kernel
theorem dX3_readRule_14 : decode cX3_readRule 14 = .ok (.iconst 3, 1) := by decide +kernel
theorem dX3_readRule_15 : decode cX3_readRule 15 = .ok (.invokevirtual 61, 3) := by decide +kernel
theorem dX3_readRule_18 : decode cX3_readRule 18 = .ok (.istore_n 2, 1) := by decide +kernel
theorem dX3_readRule_19 : decode cX3_readRule 19 = .ok (.iload_n 2, 1) := by decide +kernel
theorem dX3_readRule_20 : decode cX3_readRule 20 = .ok (.iconst (-1), 1) := by decide +kernel
theorem dX3_readRule_21 : decode cX3_readRule 21 = .ok (.if_icmp .ne 5, 3) := by decide +kernel
theorem dX3_readRule_24 : decode cX3_readRule 24 = .ok (.iconst 0, 1) := by decide +kernel
theorem dX3_readRule_25 : decode cX3_readRule 25 = .ok (.ireturn, 1) := by decide +kernel
theorem dX3_readRule_26 : decode cX3_readRule 26 = .ok (.aload_n 0, 1) := by decide +kernel
theorem dX3_readRule_27 : decode cX3_readRule 27 = .ok (.bipush 48, 2) := by decide +kernel
theorem dX3_readRule_29 : decode cX3_readRule 29 = .ok (.iconst 0, 1) := by decide +kernel
theorem dX3_readRule_30 : decode cX3_readRule 30 = .ok (.bipush 6, 2) := by decide +kernel
theorem dX3_readRule_32 : decode cX3_readRule 32 = .ok (.invokevirtual 61, 3) := by decide +kernel
theorem dX3_readRule_35 : decode cX3_readRule 35 = .ok (.istore_n 3, 1) := by decide +kernel
theorem dX3_readRule_36 : decode cX3_readRule 36 = .ok (.iload_n 3, 1) := by decide +kernel
theorem dX3_readRule_37 : decode cX3_readRule 37 = .ok (.iconst (-1), 1) := by decide +kernel
theorem dX3_readRule_38 : decode cX3_readRule 38 = .ok (.if_icmp .ne 5, 3) := by decide +kernel
theorem dX3_readRule_41 : decode cX3_readRule 41 = .ok (.iconst 0, 1) := by decide +kernel
theorem dX3_readRule_42 : decode cX3_readRule 42 = .ok (.ireturn, 1) := by decide +kernel
theorem dX3_readRule_43 : decode cX3_readRule 43 = .ok (.aload_n 0, 1) := by decide +kernel
theorem dX3_readRule_44 : decode cX3_readRule 44 = .ok (.getstatic 166, 3) := by decide +kernel
theorem dX3_readRule_47 : decode cX3_readRule 47 = .ok (.iload_n 3, 1) := by decide +kernel
theorem dX3_readRule_48 : decode cX3_readRule 48 = .ok (.iaload, 1) := by decide +kernel
theorem dX3_readRule_49 : decode cX3_readRule 49 = .ok (.getstatic 170, 3) := by decide +kernel
theorem dX3_readRule_52 : decode cX3_readRule 52 = .ok (.iload_n 3, 1) := by decide +kernel
theorem dX3_readRule_53 : decode cX3_readRule 53 = .ok (.iaload, 1) := by decide +kernel
theorem dX3_readRule_54 : decode cX3_readRule 54 = .ok (.invokevirtual 146, 3) := by decide +kernel
theorem dX3_readRule_57 : decode cX3_readRule 57 = .ok (.istore 4, 2) := by decide +kernel
theorem dX3_readRule_59 : decode cX3_readRule 59 = .ok (.iload 4, 2) := by decide +kernel
theorem dX3_readRule_61 : decode cX3_readRule 61 = .ok (.iconst (-1), 1) := by decide +kernel
theorem dX3_readRule_62 : decode cX3_readRule 62 = .ok (.if_icmp .ne 5, 3) := by decide +kernel
theorem dX3_readRule_65 : decode cX3_readRule 65 = .ok (.iconst 0, 1) := by decide +kernel
theorem dX3_readRule_66 : decode cX3_readRule 66 = .ok (.ireturn, 1) := by decide +kernel
theorem dX3_readRule_67 : decode cX3_readRule 67 = .ok (.aload_n 1, 1) := by decide +kernel
theorem dX3_readRule_68 : decode cX3_readRule 68 = .ok (.iload_n 2, 1) := by decide +kernel
theorem dX3_readRule_69 : decode cX3_readRule 69 = .ok (.iload_n 3, 1) := by decide +kernel
theorem dX3_readRule_70 : decode cX3_readRule 70 = .ok (.iload 4, 2) := by decide +kernel
theorem dX3_readRule_72 : decode cX3_readRule 72 = .ok (.invokevirtual 173, 3) := by decide +kernel
theorem dX3_readRule_75 : decode cX3_readRule 75 = .ok (.aload_n 0, 1) := by decide +kernel
theorem dX3_readRule_76 : decode cX3_readRule 76 = .ok (.bipush 59, 2) := by decide +kernel
theorem dX3_readRule_78 : decode cX3_readRule 78 = .ok (.invokevirtual 95, 3) := by decide +kernel
theorem dX3_readRule_81 : decode cX3_readRule 81 = .ok (.ireturn, 1) := by decide +kernel
theorem dX3_readArea_0 : decode cX3_readArea 0 = .ok (.aload_n 1, 1) := by decide +kernel
theorem dX3_readArea_1 : decode cX3_readArea 1 = .ok (.invokevirtual 177, 3) := by decide +kernel
theorem dX3_readArea_4 : decode cX3_readArea 4 = .ok (.iconst 0, 1) := by decide +kernel
theorem dX3_readArea_5 : decode cX3_readArea 5 = .ok (.istore_n 2, 1) := by decide +kernel
theorem dX3_readArea_6 : decode cX3_readArea 6 = .ok (.iload_n 2, 1) := by decide +kernel
theorem dX3_readArea_7 : decode cX3_readArea 7 = .ok (.iconst 3, 1) := by decide +kernel
theorem dX3_readArea_8 : decode cX3_readArea 8 = .ok (.if_icmp .ge 32, 3) := by decide +kernel
theorem dX3_readArea_11 : decode cX3_readArea 11 = .ok (.iload_n 2, 1) := by decide +kernel
theorem dX3_readArea_12 : decode cX3_readArea 12 = .ok (.ifCond .eq 12, 3) := by decide +kernel
theorem dX3_readArea_15 : decode cX3_readArea 15 = .ok (.aload_n 0, 1) := by decide +kernel
theorem dX3_readArea_16 : decode cX3_readArea 16 = .ok (.invokevirtual 29, 3) := by decide +kernel
theorem dX3_readArea_19 : decode cX3_readArea 19 = .ok (.bipush 59, 2) := by decide +kernel
theorem dX3_readArea_21 : decode cX3_readArea 21 = .ok (.if_icmp .eq 19, 3) := by decide +kernel
theorem dX3_readArea_24 : decode cX3_readArea 24 = .ok (.aload_n 0, 1) := by decide +kernel
theorem dX3_readArea_25 : decode cX3_readArea 25 = .ok (.aload_n 1, 1) := by decide +kernel
theorem dX3_readArea_26 : decode cX3_readArea 26 = .ok (.invokevirtual 178, 3) := by decide +kernel
theorem dX3_readArea_29 : decode cX3_readArea 29 = .ok (.ifCond .ne 5, 3) := by decide +kernel
theorem dX3_readArea_32 : decode cX3_readArea 32 = .ok (.iconst 0, 1) := by decide +kernel
theorem dX3_readArea_33 : decode cX3_readArea 33 = .ok (.ireturn, 1) := by decide +kernel
theorem dX3_readArea_34 : decode cX3_readArea 34 = .ok (.iinc 2 1, 3) := by decide +kernel
theorem dX3_readArea_37 : decode cX3_readArea 37 = .ok (.goto (-31), 3) := by decide +kernel
theorem dX3_readArea_40 : decode cX3_readArea 40 = .ok (.iconst 1, 1) := by decide +kernel
theorem dX3_readArea_41 : decode cX3_readArea 41 = .ok (.ireturn, 1) := by decide +kernel
theorem dX3_readRectangle_0 : decode cX3_readRectangle 0 = .ok (.aload_n 0, 1) := by decide +kernel
theorem dX3_readRectangle_1 : decode cX3_readRectangle 1 = .ok (.getfield 19, 3) := by decide +kernel
theorem dX3_readRectangle_4 : decode cX3_readRectangle 4 = .ok (.istore_n 2, 1) := by decide +kernel
theorem dX3_readRectangle_5 : decode cX3_readRectangle 5 = .ok (.aload_n 0, 1) := by decide +kernel
theorem dX3_readRectangle_6 : decode cX3_readRectangle 6 = .ok (.bipush 97, 2) := by decide +kernel
theorem dX3_readRectangle_8 : decode cX3_readRectangle 8 = .ok (.iconst 0, 1) := by decide +kernel
theorem dX3_readRectangle_9 : decode cX3_readRectangle 9 = .ok (.bipush 19, 2) := by decide +kernel
theorem dX3_readRectangle_11 : decode cX3_readRectangle 11 = .ok (.invokevirtual 61, 3) := by decide +kernel
theorem dX3_readRectangle_14 : decode cX3_readRectangle 14 = .ok (.istore_n 3, 1) := by decide +kernel
theorem dX3_readRectangle_15 : decode cX3_readRectangle 15 = .ok (.iload_n 3, 1) := by decide +kernel
theorem dX3_readRectangle_16 : decode cX3_readRectangle 16 = .ok (.iconst (-1), 1) := by decide +kernel
theorem dX3_readRectangle_17 : decode cX3_readRectangle 17 = .ok (.if_icmp .ne 5, 3) := by decide +kernel
theorem dX3_readRectangle_20 : decode cX3_readRectangle 20 = .ok (.iconst 0, 1) := by decide +kernel
theorem dX3_readRectangle_21 : decode cX3_readRectangle 21 = .ok (.ireturn, 1) := by decide +kernel
theorem dX3_readRectangle_22 : decode cX3_readRectangle 22 = .ok (.aload_n 0, 1) := by decide +kernel
theorem dX3_readRectangle_23 : decode cX3_readRectangle 23 = .ok (.bipush 97, 2) := by decide +kernel
theorem dX3_readRectangle_25 : decode cX3_readRectangle 25 = .ok (.iconst 0, 1) := by decide +kernel
theorem dX3_readRectangle_26 : decode cX3_readRectangle 26 = .ok (.bipush 13, 2) := by decide +kernel
theorem dX3_readRectangle_28 : decode cX3_readRectangle 28 = .ok (.invokevirtual 61, 3) := by decide +kernel
theorem dX3_readRectangle_31 : decode cX3_readRectangle 31 = .ok (.istore 4, 2) := by decide +kernel
theorem dX3_readRectangle_33 : decode cX3_readRectangle 33 = .ok (.iload 4, 2) := by decide +kernel
theorem dX3_readRectangle_35 : decode cX3_readRectangle 35 = .ok (.iconst (-1), 1) := by decide +kernel
theorem dX3_readRectangle_36 : decode cX3_readRectangle 36 = .ok (.if_icmp .ne 5, 3) := by decide +kernel
theorem dX3_readRectangle_39 : decode cX3_readRectangle 39 = .ok (.iconst 0, 1) := by decide +kernel
theorem dX3_readRectangle_40 : decode cX3_readRectangle 40 = .ok (.ireturn, 1) := by decide +kernel
theorem dX3_readRectangle_41 : decode cX3_readRectangle 41 = .ok (.aload_n 0, 1) := by decide +kernel
theorem dX3_readRectangle_42 : decode cX3_readRectangle 42 = .ok (.bipush 48, 2) := by decide +kernel
theorem dX3_readRectangle_44 : decode cX3_readRectangle 44 = .ok (.iconst 1, 1) := by decide +kernel
theorem dX3_readRectangle_45 : decode cX3_readRectangle 45 = .ok (.bipush 9, 2) := by decide +kernel
theorem dX3_readRectangle_47 : decode cX3_readRectangle 47 = .ok (.invokevirtual 61, 3) := by decide +kernel
theorem dX3_readRectangle_50 : decode cX3_readRectangle 50 = .ok (.istore 5, 2) := by decide +kernel
theorem dX3_readRectangle_52 : decode cX3_readRectangle 52 = .ok (.iload 5, 2) := by decide +kernel
theorem dX3_readRectangle_54 : decode cX3_readRectangle 54 = .ok (.iconst (-1), 1) := by decide +kernel
theorem dX3_readRectangle_55 : decode cX3_readRectangle 55 = .ok (.if_icmp .ne 5, 3) := by decide +kernel
theorem dX3_readRectangle_58 : decode cX3_readRectangle 58 = .ok (.iconst 0, 1) := by decide +kernel
theorem dX3_readRectangle_59 : decode cX3_readRectangle 59 = .ok (.ireturn, 1) := by decide +kernel
theorem dX3_readRectangle_60 : decode cX3_readRectangle 60 = .ok (.aload_n 0, 1) := by decide +kernel
theorem dX3_readRectangle_61 : decode cX3_readRectangle 61 = .ok (.bipush 48, 2) := by decide +kernel
theorem dX3_readRectangle_63 : decode cX3_readRectangle 63 = .ok (.iconst 1, 1) := by decide +kernel
theorem dX3_readRectangle_64 : decode cX3_readRectangle 64 = .ok (.bipush 9, 2) := by decide +kernel
theorem dX3_readRectangle_66 : decode cX3_readRectangle 66 = .ok (.invokevirtual 61, 3) := by decide +kernel
theorem dX3_readRectangle_69 : decode cX3_readRectangle 69 = .ok (.istore 6, 2) := by decide +kernel
theorem dX3_readRectangle_71 : decode cX3_readRectangle 71 = .ok (.iload 6, 2) := by decide +kernel
theorem dX3_readRectangle_73 : decode cX3_readRectangle 73 = .ok (.iconst (-1), 1) := by decide +kernel
theorem dX3_readRectangle_74 : decode cX3_readRectangle 74 = .ok (.if_icmp .ne 5, 3) := by decide +kernel
theorem dX3_readRectangle_77 : decode cX3_readRectangle 77 = .ok (.iconst 0, 1) := by decide +kernel
theorem dX3_readRectangle_78 : decode cX3_readRectangle 78 = .ok (.ireturn, 1) := by decide +kernel
theorem dX3_readRectangle_79 : decode cX3_readRectangle 79 = .ok (.iload_n 3, 1) := by decide +kernel
theorem dX3_readRectangle_80 : decode cX3_readRectangle 80 = .ok (.iload 5, 2) := by decide +kernel
theorem dX3_readRectangle_82 : decode cX3_readRectangle 82 = .ok (.iadd, 1) := by decide +kernel
theorem dX3_readRectangle_83 : decode cX3_readRectangle 83 = .ok (.bipush 20, 2) := by decide +kernel
theorem dX3_readRectangle_85 : decode cX3_readRectangle 85 = .ok (.if_icmp .gt 13, 3) := by decide +kernel
theorem dX3_readRectangle_88 : decode cX3_readRectangle 88 = .ok (.iload 4, 2) := by decide +kernel
theorem dX3_readRectangle_90 : decode cX3_readRectangle 90 = .ok (.iload 6, 2) := by decide +kernel
theorem dX3_readRectangle_92 : decode cX3_readRectangle 92 = .ok (.iadd, 1) := by decide +kernel
theorem dX3_readRectangle_93 : decode cX3_readRectangle 93 = .ok (.bipush 14, 2) := by decide +kernel
theorem dX3_readRectangle_95 : decode cX3_readRectangle 95 = .ok (.if_icmp .le 9, 3) := by decide +kernel
theorem dX3_readRectangle_98 : decode cX3_readRectangle 98 = .ok (.aload_n 0, 1) := by decide +kernel
theorem dX3_readRectangle_99 : decode cX3_readRectangle 99 = .ok (.iload_n 2, 1) := by decide +kernel
theorem dX3_readRectangle_100 : decode cX3_readRectangle 100 = .ok (.invokevirtual 48, 3) := by decide +kernel
theorem dX3_readRectangle_103 : decode cX3_readRectangle 103 = .ok (.ireturn, 1) := by decide +kernel
theorem dX3_readRectangle_104 : decode cX3_readRectangle 104 = .ok (.aload_n 1, 1) := by decide +kernel
theorem dX3_readRectangle_105 : decode cX3_readRectangle 105 = .ok (.iload_n 3, 1) := by decide +kernel
theorem dX3_readRectangle_106 : decode cX3_readRectangle 106 = .ok (.iload 4, 2) := by decide +kernel
theorem dX3_readRectangle_108 : decode cX3_readRectangle 108 = .ok (.iload 5, 2) := by decide +kernel
theorem dX3_readRectangle_110 : decode cX3_readRectangle 110 = .ok (.iload 6, 2) := by decide +kernel
theorem dX3_readRectangle_112 : decode cX3_readRectangle 112 = .ok (.invokevirtual 181, 3) := by decide +kernel
theorem dX3_readRectangle_115 : decode cX3_readRectangle 115 = .ok (.iconst 1, 1) := by decide +kernel
theorem dX3_readRectangle_116 : decode cX3_readRectangle 116 = .ok (.ireturn, 1) := by decide +kernel
theorem dX3_readFront_0 : decode cX3_readFront 0 = .ok (.aload_n 0, 1) := by decide +kernel
theorem dX3_readFront_1 : decode cX3_readFront 1 = .ok (.invokevirtual 29, 3) := by decide +kernel
theorem dX3_readFront_4 : decode cX3_readFront 4 = .ok (.istore_n 1, 1) := by decide +kernel
theorem dX3_readFront_5 : decode cX3_readFront 5 = .ok (.aload_n 0, 1) := by decide +kernel
theorem dX3_readFront_6 : decode cX3_readFront 6 = .ok (.dup, 1) := by decide +kernel
theorem dX3_readFront_7 : decode cX3_readFront 7 = .ok (.getfield 19, 3) := by decide +kernel
theorem dX3_readFront_10 : decode cX3_readFront 10 = .ok (.iconst 1, 1) := by decide +kernel
theorem dX3_readFront_11 : decode cX3_readFront 11 = .ok (.iadd, 1) := by decide +kernel
theorem dX3_readFront_12 : decode cX3_readFront 12 = .ok (.putfield 19, 3) := by decide +kernel
theorem dX3_readFront_15 : decode cX3_readFront 15 = .ok (.iload_n 1, 1) := by decide +kernel
theorem dX3_readFront_16 : decode cX3_readFront 16 = .ok (.lookupswitch 52 #[(69, 46), (78, 44), (83, 48), (87, 50)], 44) := by decide +kernel
theorem dX3_readFront_60 : decode cX3_readFront 60 = .ok (.iconst 0, 1) := by decide +kernel
theorem dX3_readFront_61 : decode cX3_readFront 61 = .ok (.ireturn, 1) := by decide +kernel
theorem dX3_readFront_62 : decode cX3_readFront 62 = .ok (.iconst 1, 1) := by decide +kernel
theorem dX3_readFront_63 : decode cX3_readFront 63 = .ok (.ireturn, 1) := by decide +kernel
theorem dX3_readFront_64 : decode cX3_readFront 64 = .ok (.iconst 2, 1) := by decide +kernel
theorem dX3_readFront_65 : decode cX3_readFront 65 = .ok (.ireturn, 1) := by decide +kernel
theorem dX3_readFront_66 : decode cX3_readFront 66 = .ok (.iconst 3, 1) := by decide +kernel
theorem dX3_readFront_67 : decode cX3_readFront 67 = .ok (.ireturn, 1) := by decide +kernel
theorem dX3_readFront_68 : decode cX3_readFront 68 = .ok (.aload_n 0, 1) := by decide +kernel
theorem dX3_readFront_69 : decode cX3_readFront 69 = .ok (.aload_n 0, 1) := by decide +kernel
theorem dX3_readFront_70 : decode cX3_readFront 70 = .ok (.getfield 19, 3) := by decide +kernel
theorem dX3_readFront_73 : decode cX3_readFront 73 = .ok (.iconst 1, 1) := by decide +kernel
theorem dX3_readFront_74 : decode cX3_readFront 74 = .ok (.isub, 1) := by decide +kernel
theorem dX3_readFront_75 : decode cX3_readFront 75 = .ok (.invokevirtual 48, 3) := by decide +kernel
theorem dX3_readFront_78 : decode cX3_readFront 78 = .ok (.pop, 1) := by decide +kernel
theorem dX3_readFront_79 : decode cX3_readFront 79 = .ok (.iconst (-1), 1) := by decide +kernel
theorem dX3_readFront_80 : decode cX3_readFront 80 = .ok (.ireturn, 1) := by decide +kernel
theorem dX3_readNumber_0 : decode cX3_readNumber 0 = .ok (.aload_n 0, 1) := by decide +kernel
theorem dX3_readNumber_1 : decode cX3_readNumber 1 = .ok (.getfield 19, 3) := by decide +kernel
theorem dX3_readNumber_4 : decode cX3_readNumber 4 = .ok (.istore_n 3, 1) := by decide +kernel
theorem dX3_readNumber_5 : decode cX3_readNumber 5 = .ok (.aload_n 0, 1) := by decide +kernel
theorem dX3_readNumber_6 : decode cX3_readNumber 6 = .ok (.bipush 48, 2) := by decide +kernel
theorem dX3_readNumber_8 : decode cX3_readNumber 8 = .ok (.iconst 0, 1) := by decide +kernel
theorem dX3_readNumber_9 : decode cX3_readNumber 9 = .ok (.bipush 9, 2) := by decide +kernel
theorem dX3_readNumber_11 : decode cX3_readNumber 11 = .ok (.invokevirtual 61, 3) := by decide +kernel
theorem dX3_readNumber_14 : decode cX3_readNumber 14 = .ok (.istore 4, 2) := by decide +kernel
theorem dX3_readNumber_16 : decode cX3_readNumber 16 = .ok (.iload 4, 2) := by decide +kernel
theorem dX3_readNumber_18 : decode cX3_readNumber 18 = .ok (.iconst (-1), 1) := by decide +kernel
theorem dX3_readNumber_19 : decode cX3_readNumber 19 = .ok (.if_icmp .ne 5, 3) := by decide +kernel
theorem dX3_readNumber_22 : decode cX3_readNumber 22 = .ok (.iconst (-1), 1) := by decide +kernel
theorem dX3_readNumber_23 : decode cX3_readNumber 23 = .ok (.ireturn, 1) := by decide +kernel
theorem dX3_readNumber_24 : decode cX3_readNumber 24 = .ok (.iload 4, 2) := by decide +kernel
theorem dX3_readNumber_26 : decode cX3_readNumber 26 = .ok (.ifCond .le 38, 3) := by decide +kernel
theorem dX3_readNumber_29 : decode cX3_readNumber 29 = .ok (.aload_n 0, 1) := by decide +kernel
theorem dX3_readNumber_30 : decode cX3_readNumber 30 = .ok (.invokevirtual 29, 3) := by decide +kernel
theorem dX3_readNumber_33 : decode cX3_readNumber 33 = .ok (.bipush 48, 2) := by decide +kernel
theorem dX3_readNumber_35 : decode cX3_readNumber 35 = .ok (.if_icmp .lt 29, 3) := by decide +kernel
theorem dX3_readNumber_38 : decode cX3_readNumber 38 = .ok (.aload_n 0, 1) := by decide +kernel
theorem dX3_readNumber_39 : decode cX3_readNumber 39 = .ok (.invokevirtual 29, 3) := by decide +kernel
theorem dX3_readNumber_42 : decode cX3_readNumber 42 = .ok (.bipush 57, 2) := by decide +kernel
theorem dX3_readNumber_44 : decode cX3_readNumber 44 = .ok (.if_icmp .gt 20, 3) := by decide +kernel
theorem dX3_readNumber_47 : decode cX3_readNumber 47 = .ok (.bipush 10, 2) := by decide +kernel
theorem dX3_readNumber_49 : decode cX3_readNumber 49 = .ok (.iload 4, 2) := by decide +kernel
theorem dX3_readNumber_51 : decode cX3_readNumber 51 = .ok (.imul, 1) := by decide +kernel
theorem dX3_readNumber_52 : decode cX3_readNumber 52 = .ok (.aload_n 0, 1) := by decide +kernel
theorem dX3_readNumber_53 : decode cX3_readNumber 53 = .ok (.bipush 48, 2) := by decide +kernel
theorem dX3_readNumber_55 : decode cX3_readNumber 55 = .ok (.iconst 0, 1) := by decide +kernel
theorem dX3_readNumber_56 : decode cX3_readNumber 56 = .ok (.bipush 9, 2) := by decide +kernel
theorem dX3_readNumber_58 : decode cX3_readNumber 58 = .ok (.invokevirtual 61, 3) := by decide +kernel
theorem dX3_readNumber_61 : decode cX3_readNumber 61 = .ok (.iadd, 1) := by decide +kernel
theorem dX3_readNumber_62 : decode cX3_readNumber 62 = .ok (.istore 4, 2) := by decide +kernel
theorem dX3_readNumber_64 : decode cX3_readNumber 64 = .ok (.iload 4, 2) := by decide +kernel
theorem dX3_readNumber_66 : decode cX3_readNumber 66 = .ok (.iload_n 1, 1) := by decide +kernel
theorem dX3_readNumber_67 : decode cX3_readNumber 67 = .ok (.if_icmp .lt 9, 3) := by decide +kernel
theorem dX3_readNumber_70 : decode cX3_readNumber 70 = .ok (.iload 4, 2) := by decide +kernel
theorem dX3_readNumber_72 : decode cX3_readNumber 72 = .ok (.iload_n 2, 1) := by decide +kernel
theorem dX3_readNumber_73 : decode cX3_readNumber 73 = .ok (.if_icmp .le 11, 3) := by decide +kernel
theorem dX3_readNumber_76 : decode cX3_readNumber 76 = .ok (.aload_n 0, 1) := by decide +kernel
theorem dX3_readNumber_77 : decode cX3_readNumber 77 = .ok (.iload_n 3, 1) := by decide +kernel
theorem dX3_readNumber_78 : decode cX3_readNumber 78 = .ok (.invokevirtual 48, 3) := by decide +kernel
theorem dX3_readNumber_81 : decode cX3_readNumber 81 = .ok (.pop, 1) := by decide +kernel
theorem dX3_readNumber_82 : decode cX3_readNumber 82 = .ok (.iconst (-1), 1) := by decide +kernel
theorem dX3_readNumber_83 : decode cX3_readNumber 83 = .ok (.ireturn, 1) := by decide +kernel
theorem dX3_readNumber_84 : decode cX3_readNumber 84 = .ok (.iload 4, 2) := by decide +kernel
theorem dX3_readNumber_86 : decode cX3_readNumber 86 = .ok (.ireturn, 1) := by decide +kernel
theorem dX3_readSign_0 : decode cX3_readSign 0 = .ok (.aload_n 0, 1) := by decide +kernel
theorem dX3_readSign_1 : decode cX3_readSign 1 = .ok (.invokevirtual 29, 3) := by decide +kernel
theorem dX3_readSign_4 : decode cX3_readSign 4 = .ok (.iload_n 1, 1) := by decide +kernel
theorem dX3_readSign_5 : decode cX3_readSign 5 = .ok (.if_icmp .eq 12, 3) := by decide +kernel
theorem dX3_readSign_8 : decode cX3_readSign 8 = .ok (.aload_n 0, 1) := by decide +kernel
theorem dX3_readSign_9 : decode cX3_readSign 9 = .ok (.aload_n 0, 1) := by decide +kernel
theorem dX3_readSign_10 : decode cX3_readSign 10 = .ok (.getfield 19, 3) := by decide +kernel
theorem dX3_readSign_13 : decode cX3_readSign 13 = .ok (.invokevirtual 48, 3) := by decide +kernel
theorem dX3_readSign_16 : decode cX3_readSign 16 = .ok (.ireturn, 1) := by decide +kernel
theorem dX3_readSign_17 : decode cX3_readSign 17 = .ok (.aload_n 0, 1) := by decide +kernel
theorem dX3_readSign_18 : decode cX3_readSign 18 = .ok (.dup, 1) := by decide +kernel
theorem dX3_readSign_19 : decode cX3_readSign 19 = .ok (.getfield 19, 3) := by decide +kernel
theorem dX3_readSign_22 : decode cX3_readSign 22 = .ok (.iconst 1, 1) := by decide +kernel
theorem dX3_readSign_23 : decode cX3_readSign 23 = .ok (.iadd, 1) := by decide +kernel
theorem dX3_readSign_24 : decode cX3_readSign 24 = .ok (.putfield 19, 3) := by decide +kernel
theorem dX3_readSign_27 : decode cX3_readSign 27 = .ok (.iconst 1, 1) := by decide +kernel
theorem dX3_readSign_28 : decode cX3_readSign 28 = .ok (.ireturn, 1) := by decide +kernel
theorem dX3_readValue_0 : decode cX3_readValue 0 = .ok (.aload_n 0, 1) := by decide +kernel
theorem dX3_readValue_1 : decode cX3_readValue 1 = .ok (.invokevirtual 29, 3) := by decide +kernel
theorem dX3_readValue_4 : decode cX3_readValue 4 = .ok (.iload_n 1, 1) := by decide +kernel
theorem dX3_readValue_5 : decode cX3_readValue 5 = .ok (.isub, 1) := by decide +kernel
theorem dX3_readValue_6 : decode cX3_readValue 6 = .ok (.istore 4, 2) := by decide +kernel
theorem dX3_readValue_8 : decode cX3_readValue 8 = .ok (.iload 4, 2) := by decide +kernel
theorem dX3_readValue_10 : decode cX3_readValue 10 = .ok (.iload_n 2, 1) := by decide +kernel
theorem dX3_readValue_11 : decode cX3_readValue 11 = .ok (.if_icmp .lt 9, 3) := by decide +kernel
theorem dX3_readValue_14 : decode cX3_readValue 14 = .ok (.iload 4, 2) := by decide +kernel
theorem dX3_readValue_16 : decode cX3_readValue 16 = .ok (.iload_n 3, 1) := by decide +kernel
theorem dX3_readValue_17 : decode cX3_readValue 17 = .ok (.if_icmp .le 14, 3) := by decide +kernel
theorem dX3_readValue_20 : decode cX3_readValue 20 = .ok (.aload_n 0, 1) := by decide +kernel
theorem dX3_readValue_21 : decode cX3_readValue 21 = .ok (.aload_n 0, 1) := by decide +kernel
theorem dX3_readValue_22 : decode cX3_readValue 22 = .ok (.getfield 19, 3) := by decide +kernel
theorem dX3_readValue_25 : decode cX3_readValue 25 = .ok (.invokevirtual 48, 3) := by decide +kernel
theorem dX3_readValue_28 : decode cX3_readValue 28 = .ok (.pop, 1) := by decide +kernel
theorem dX3_readValue_29 : decode cX3_readValue 29 = .ok (.iconst (-1), 1) := by decide +kernel
theorem dX3_readValue_30 : decode cX3_readValue 30 = .ok (.ireturn, 1) := by decide +kernel
theorem dX3_readValue_31 : decode cX3_readValue 31 = .ok (.aload_n 0, 1) := by decide +kernel
theorem dX3_readValue_32 : decode cX3_readValue 32 = .ok (.dup, 1) := by decide +kernel
theorem dX3_readValue_33 : decode cX3_readValue 33 = .ok (.getfield 19, 3) := by decide +kernel
theorem dX3_readValue_36 : decode cX3_readValue 36 = .ok (.iconst 1, 1) := by decide +kernel
theorem dX3_readValue_37 : decode cX3_readValue 37 = .ok (.iadd, 1) := by decide +kernel
theorem dX3_readValue_38 : decode cX3_readValue 38 = .ok (.putfield 19, 3) := by decide +kernel
theorem dX3_readValue_41 : decode cX3_readValue 41 = .ok (.iload 4, 2) := by decide +kernel
theorem dX3_readValue_43 : decode cX3_readValue 43 = .ok (.ireturn, 1) := by decide +kernel
theorem dX3_next_0 : decode cX3_next 0 = .ok (.aload_n 0, 1) := by decide +kernel
theorem dX3_next_1 : decode cX3_next 1 = .ok (.getfield 19, 3) := by decide +kernel
theorem dX3_next_4 : decode cX3_next 4 = .ok (.ifCond .lt 35, 3) := by decide +kernel
theorem dX3_next_7 : decode cX3_next 7 = .ok (.aload_n 0, 1) := by decide +kernel
theorem dX3_next_8 : decode cX3_next 8 = .ok (.getfield 19, 3) := by decide +kernel
theorem dX3_next_11 : decode cX3_next 11 = .ok (.aload_n 0, 1) := by decide +kernel
theorem dX3_next_12 : decode cX3_next 12 = .ok (.getfield 15, 3) := by decide +kernel
theorem dX3_next_15 : decode cX3_next 15 = .ok (.if_icmp .ge 24, 3) := by decide +kernel
theorem dX3_next_18 : decode cX3_next 18 = .ok (.aload_n 0, 1) := by decide +kernel
theorem dX3_next_19 : decode cX3_next 19 = .ok (.getfield 19, 3) := by decide +kernel
theorem dX3_next_22 : decode cX3_next 22 = .ok (.bipush 60, 2) := by decide +kernel
theorem dX3_next_24 : decode cX3_next 24 = .ok (.if_icmp .ge 15, 3) := by decide +kernel
theorem dX3_next_27 : decode cX3_next 27 = .ok (.aload_n 0, 1) := by decide +kernel
theorem dX3_next_28 : decode cX3_next 28 = .ok (.getfield 9, 3) := by decide +kernel
theorem dX3_next_31 : decode cX3_next 31 = .ok (.aload_n 0, 1) := by decide +kernel
theorem dX3_next_32 : decode cX3_next 32 = .ok (.getfield 19, 3) := by decide +kernel
theorem dX3_next_35 : decode cX3_next 35 = .ok (.caload, 1) := by decide +kernel
theorem dX3_next_36 : decode cX3_next 36 = .ok (.goto 4, 3) := by decide +kernel
theorem dX3_next_39 : decode cX3_next 39 = .ok (.iconst 0, 1) := by decide +kernel
theorem dX3_next_40 : decode cX3_next 40 = .ok (.ireturn, 1) := by decide +kernel
theorem dX3_failAt_0 : decode cX3_failAt 0 = .ok (.aload_n 0, 1) := by decide +kernel
theorem dX3_failAt_1 : decode cX3_failAt 1 = .ok (.iload_n 1, 1) := by decide +kernel
theorem dX3_failAt_2 : decode cX3_failAt 2 = .ok (.putfield 22, 3) := by decide +kernel
theorem dX3_failAt_5 : decode cX3_failAt 5 = .ok (.iconst 0, 1) := by decide +kernel
theorem dX3_failAt_6 : decode cX3_failAt 6 = .ok (.ireturn, 1) := by decide +kernel
theorem dX4_init_0 : decode cX4_init 0 = .ok (.aload_n 0, 1) := by decide +kernel
theorem dX4_init_1 : decode cX4_init 1 = .ok (.invokespecial 3, 3) := by decide +kernel
theorem dX4_init_4 : decode cX4_init 4 = .ok (.aload_n 0, 1) := by decide +kernel
theorem dX4_init_5 : decode cX4_init 5 = .ok (.new 9, 3) := by decide +kernel
theorem dX4_init_8 : decode cX4_init 8 = .ok (.dup, 1) := by decide +kernel
theorem dX4_init_9 : decode cX4_init 9 = .ok (.invokespecial 11, 3) := by decide +kernel
theorem dX4_init_12 : decode cX4_init 12 = .ok (.putfield 12, 3) := by decide +kernel
theorem dX4_init_15 : decode cX4_init 15 = .ok (.aload_n 0, 1) := by decide +kernel
theorem dX4_init_16 : decode cX4_init 16 = .ok (.new 9, 3) := by decide +kernel
theorem dX4_init_19 : decode cX4_init 19 = .ok (.dup, 1) := by decide +kernel
theorem dX4_init_20 : decode cX4_init 20 = .ok (.invokespecial 11, 3) := by decide +kernel
theorem dX4_init_23 : decode cX4_init 23 = .ok (.putfield 18, 3) := by decide +kernel
theorem dX4_init_26 : decode cX4_init 26 = .ok (.return_, 1) := by decide +kernel
theorem dX4_measureOf_0 : decode cX4_measureOf 0 = .ok (.aload_n 1, 1) := by decide +kernel
theorem dX4_measureOf_1 : decode cX4_measureOf 1 = .ok (.aload_n 2, 1) := by decide +kernel
theorem dX4_measureOf_2 : decode cX4_measureOf 2 = .ok (.getfield 21, 3) := by decide +kernel
theorem dX4_measureOf_5 : decode cX4_measureOf 5 = .ok (.invokevirtual 27, 3) := by decide +kernel
theorem dX4_measureOf_8 : decode cX4_measureOf 8 = .ok (.astore 4, 2) := by decide +kernel
theorem dX4_measureOf_10 : decode cX4_measureOf 10 = .ok (.iload_n 3, 1) := by decide +kernel
theorem dX4_measureOf_11 : decode cX4_measureOf 11 = .ok (.tableswitch 132 0 8 #[49, 62, 69, 88, 99, 108, 113, 122, 127], 49) := by decide +kernel
theorem dX4_measureOf_60 : decode cX4_measureOf 60 = .ok (.aload_n 2, 1) := by decide +kernel
theorem dX4_measureOf_61 : decode cX4_measureOf 61 = .ok (.getfield 33, 3) := by decide +kernel
theorem dX4_measureOf_64 : decode cX4_measureOf 64 = .ok (.aload 4, 2) := by decide +kernel
theorem dX4_measureOf_66 : decode cX4_measureOf 66 = .ok (.getfield 36, 3) := by decide +kernel
theorem dX4_measureOf_69 : decode cX4_measureOf 69 = .ok (.invokevirtual 41, 3) := by decide +kernel
theorem dX4_measureOf_72 : decode cX4_measureOf 72 = .ok (.ireturn, 1) := by decide +kernel
theorem dX4_measureOf_73 : decode cX4_measureOf 73 = .ok (.aload_n 0, 1) := by decide +kernel
theorem dX4_measureOf_74 : decode cX4_measureOf 74 = .ok (.aload_n 1, 1) := by decide +kernel
theorem dX4_measureOf_75 : decode cX4_measureOf 75 = .ok (.aload_n 2, 1) := by decide +kernel
theorem dX4_measureOf_76 : decode cX4_measureOf 76 = .ok (.invokevirtual 45, 3) := by decide +kernel
theorem dX4_measureOf_79 : decode cX4_measureOf 79 = .ok (.ireturn, 1) := by decide +kernel
theorem dX4_measureOf_80 : decode cX4_measureOf 80 = .ok (.aload_n 0, 1) := by decide +kernel
theorem dX4_measureOf_81 : decode cX4_measureOf 81 = .ok (.aload_n 2, 1) := by decide +kernel
theorem dX4_measureOf_82 : decode cX4_measureOf 82 = .ok (.getfield 33, 3) := by decide +kernel
theorem dX4_measureOf_85 : decode cX4_measureOf 85 = .ok (.aload 4, 2) := by decide +kernel
theorem dX4_measureOf_87 : decode cX4_measureOf 87 = .ok (.getfield 36, 3) := by decide +kernel
theorem dX4_measureOf_90 : decode cX4_measureOf 90 = .ok (.aload 4, 2) := by decide +kernel
theorem dX4_measureOf_92 : decode cX4_measureOf 92 = .ok (.getfield 49, 3) := by decide +kernel
theorem dX4_measureOf_95 : decode cX4_measureOf 95 = .ok (.invokevirtual 52, 3) := by decide +kernel
theorem dX4_measureOf_98 : decode cX4_measureOf 98 = .ok (.ireturn, 1) := by decide +kernel
theorem dX4_measureOf_99 : decode cX4_measureOf 99 = .ok (.aload_n 0, 1) := by decide +kernel
theorem dX4_measureOf_100 : decode cX4_measureOf 100 = .ok (.aload_n 2, 1) := by decide +kernel
theorem dX4_measureOf_101 : decode cX4_measureOf 101 = .ok (.getfield 33, 3) := by decide +kernel
theorem dX4_measureOf_104 : decode cX4_measureOf 104 = .ok (.aload 4, 2) := by decide +kernel
theorem dX4_measureOf_106 : decode cX4_measureOf 106 = .ok (.invokevirtual 56, 3) := by decide +kernel
theorem dX4_measureOf_109 : decode cX4_measureOf 109 = .ok (.ireturn, 1) := by decide +kernel
theorem dX4_measureOf_110 : decode cX4_measureOf 110 = .ok (.aload_n 0, 1) := by decide +kernel
theorem dX4_measureOf_111 : decode cX4_measureOf 111 = .ok (.aload_n 1, 1) := by decide +kernel
theorem dX4_measureOf_112 : decode cX4_measureOf 112 = .ok (.aload_n 2, 1) := by decide +kernel
theorem dX4_measureOf_113 : decode cX4_measureOf 113 = .ok (.aload 4, 2) := by decide +kernel
theorem dX4_measureOf_115 : decode cX4_measureOf 115 = .ok (.invokevirtual 60, 3) := by decide +kernel
theorem dX4_measureOf_118 : decode cX4_measureOf 118 = .ok (.ireturn, 1) := by decide +kernel
theorem dX4_measureOf_119 : decode cX4_measureOf 119 = .ok (.aload_n 2, 1) := by decide +kernel
theorem dX4_measureOf_120 : decode cX4_measureOf 120 = .ok (.getfield 64, 3) := by decide +kernel
theorem dX4_measureOf_123 : decode cX4_measureOf 123 = .ok (.ireturn, 1) := by decide +kernel
theorem dX4_measureOf_124 : decode cX4_measureOf 124 = .ok (.aload_n 0, 1) := by decide +kernel
theorem dX4_measureOf_125 : decode cX4_measureOf 125 = .ok (.aload_n 1, 1) := by decide +kernel
theorem dX4_measureOf_126 : decode cX4_measureOf 126 = .ok (.aload_n 2, 1) := by decide +kernel
theorem dX4_measureOf_127 : decode cX4_measureOf 127 = .ok (.aload 4, 2) := by decide +kernel
theorem dX4_measureOf_129 : decode cX4_measureOf 129 = .ok (.invokevirtual 67, 3) := by decide +kernel
theorem dX4_measureOf_132 : decode cX4_measureOf 132 = .ok (.ireturn, 1) := by decide +kernel
theorem dX4_measureOf_133 : decode cX4_measureOf 133 = .ok (.aload_n 2, 1) := by decide +kernel
theorem dX4_measureOf_134 : decode cX4_measureOf 134 = .ok (.getfield 70, 3) := by decide +kernel
theorem dX4_measureOf_137 : decode cX4_measureOf 137 = .ok (.ireturn, 1) := by decide +kernel
theorem dX4_measureOf_138 : decode cX4_measureOf 138 = .ok (.aload_n 2, 1) := by decide +kernel
theorem dX4_measureOf_139 : decode cX4_measureOf 139 = .ok (.getfield 73, 3) := by decide +kernel
theorem dX4_measureOf_142 : decode cX4_measureOf 142 = .ok (.ireturn, 1) := by decide +kernel
theorem dX4_measureOf_143 : decode cX4_measureOf 143 = .ok (.iconst 0, 1) := by decide +kernel
theorem dX4_measureOf_144 : decode cX4_measureOf 144 = .ok (.ireturn, 1) := by decide +kernel
theorem dX4_limitOf_0 : decode cX4_limitOf 0 = .ok (.iload_n 3, 1) := by decide +kernel
theorem dX4_limitOf_1 : decode cX4_limitOf 1 = .ok (.tableswitch 124 2 8 #[43, 53, 63, 73, 83, 93, 103], 43) := by decide +kernel
theorem dX4_limitOf_44 : decode cX4_limitOf 44 = .ok (.aload_n 1, 1) := by decide +kernel
theorem dX4_limitOf_45 : decode cX4_limitOf 45 = .ok (.aload_n 2, 1) := by decide +kernel
theorem dX4_limitOf_46 : decode cX4_limitOf 46 = .ok (.getfield 21, 3) := by decide +kernel
theorem dX4_limitOf_49 : decode cX4_limitOf 49 = .ok (.iconst 0, 1) := by decide +kernel
theorem dX4_limitOf_50 : decode cX4_limitOf 50 = .ok (.invokevirtual 76, 3) := by decide +kernel
theorem dX4_limitOf_53 : decode cX4_limitOf 53 = .ok (.ireturn, 1) := by decide +kernel
theorem dX4_limitOf_54 : decode cX4_limitOf 54 = .ok (.aload_n 1, 1) := by decide +kernel
theorem dX4_limitOf_55 : decode cX4_limitOf 55 = .ok (.aload_n 2, 1) := by decide +kernel
theorem dX4_limitOf_56 : decode cX4_limitOf 56 = .ok (.getfield 21, 3) := by decide +kernel
theorem dX4_limitOf_59 : decode cX4_limitOf 59 = .ok (.iconst 1, 1) := by decide +kernel
theorem dX4_limitOf_60 : decode cX4_limitOf 60 = .ok (.invokevirtual 76, 3) := by decide +kernel
theorem dX4_limitOf_63 : decode cX4_limitOf 63 = .ok (.ireturn, 1) := by decide +kernel
theorem dX4_limitOf_64 : decode cX4_limitOf 64 = .ok (.aload_n 1, 1) := by decide +kernel
theorem dX4_limitOf_65 : decode cX4_limitOf 65 = .ok (.aload_n 2, 1) := by decide +kernel
theorem dX4_limitOf_66 : decode cX4_limitOf 66 = .ok (.getfield 21, 3) := by decide +kernel
theorem dX4_limitOf_69 : decode cX4_limitOf 69 = .ok (.iconst 2, 1) := by decide +kernel
theorem dX4_limitOf_70 : decode cX4_limitOf 70 = .ok (.invokevirtual 76, 3) := by decide +kernel
theorem dX4_limitOf_73 : decode cX4_limitOf 73 = .ok (.ireturn, 1) := by decide +kernel
theorem dX4_limitOf_74 : decode cX4_limitOf 74 = .ok (.aload_n 1, 1) := by decide +kernel
theorem dX4_limitOf_75 : decode cX4_limitOf 75 = .ok (.aload_n 2, 1) := by decide +kernel
theorem dX4_limitOf_76 : decode cX4_limitOf 76 = .ok (.getfield 21, 3) := by decide +kernel
theorem dX4_limitOf_79 : decode cX4_limitOf 79 = .ok (.iconst 3, 1) := by decide +kernel
theorem dX4_limitOf_80 : decode cX4_limitOf 80 = .ok (.invokevirtual 76, 3) := by decide +kernel
theorem dX4_limitOf_83 : decode cX4_limitOf 83 = .ok (.ireturn, 1) := by decide +kernel
theorem dX4_limitOf_84 : decode cX4_limitOf 84 = .ok (.aload_n 1, 1) := by decide +kernel
theorem dX4_limitOf_85 : decode cX4_limitOf 85 = .ok (.aload_n 2, 1) := by decide +kernel
theorem dX4_limitOf_86 : decode cX4_limitOf 86 = .ok (.getfield 21, 3) := by decide +kernel
theorem dX4_limitOf_89 : decode cX4_limitOf 89 = .ok (.iconst 4, 1) := by decide +kernel
theorem dX4_limitOf_90 : decode cX4_limitOf 90 = .ok (.invokevirtual 76, 3) := by decide +kernel
theorem dX4_limitOf_93 : decode cX4_limitOf 93 = .ok (.ireturn, 1) := by decide +kernel
theorem dX4_limitOf_94 : decode cX4_limitOf 94 = .ok (.aload_n 1, 1) := by decide +kernel
theorem dX4_limitOf_95 : decode cX4_limitOf 95 = .ok (.aload_n 2, 1) := by decide +kernel
theorem dX4_limitOf_96 : decode cX4_limitOf 96 = .ok (.getfield 21, 3) := by decide +kernel
theorem dX4_limitOf_99 : decode cX4_limitOf 99 = .ok (.iconst 5, 1) := by decide +kernel
theorem dX4_limitOf_100 : decode cX4_limitOf 100 = .ok (.invokevirtual 76, 3) := by decide +kernel
theorem dX4_limitOf_103 : decode cX4_limitOf 103 = .ok (.ireturn, 1) := by decide +kernel
theorem dX4_limitOf_104 : decode cX4_limitOf 104 = .ok (.aload_n 1, 1) := by decide +kernel
theorem dX4_limitOf_105 : decode cX4_limitOf 105 = .ok (.aload_n 2, 1) := by decide +kernel
theorem dX4_limitOf_106 : decode cX4_limitOf 106 = .ok (.getfield 21, 3) := by decide +kernel
theorem dX4_limitOf_109 : decode cX4_limitOf 109 = .ok (.bipush 6, 2) := by decide +kernel
theorem dX4_limitOf_111 : decode cX4_limitOf 111 = .ok (.invokevirtual 76, 3) := by decide +kernel
theorem dX4_limitOf_114 : decode cX4_limitOf 114 = .ok (.aload_n 2, 1) := by decide +kernel
theorem dX4_limitOf_115 : decode cX4_limitOf 115 = .ok (.invokevirtual 80, 3) := by decide +kernel
theorem dX4_limitOf_118 : decode cX4_limitOf 118 = .ok (.imul, 1) := by decide +kernel
theorem dX4_limitOf_119 : decode cX4_limitOf 119 = .ok (.bipush 10, 2) := by decide +kernel
theorem dX4_limitOf_121 : decode cX4_limitOf 121 = .ok (.invokestatic 84, 3) := by decide +kernel
theorem dX4_limitOf_124 : decode cX4_limitOf 124 = .ok (.ireturn, 1) := by decide +kernel
theorem dX4_limitOf_125 : decode cX4_limitOf 125 = .ok (.iconst 0, 1) := by decide +kernel
theorem dX4_limitOf_126 : decode cX4_limitOf 126 = .ok (.ireturn, 1) := by decide +kernel
theorem dX4_findingSet_0 : decode cX4_findingSet 0 = .ok (.iconst 0, 1) := by decide +kernel
theorem dX4_findingSet_1 : decode cX4_findingSet 1 = .ok (.istore_n 3, 1) := by decide +kernel
theorem dX4_findingSet_2 : decode cX4_findingSet 2 = .ok (.iconst 0, 1) := by decide +kernel
theorem dX4_findingSet_3 : decode cX4_findingSet 3 = .ok (.istore 4, 2) := by decide +kernel
theorem dX4_findingSet_5 : decode cX4_findingSet 5 = .ok (.iload 4, 2) := by decide +kernel
theorem dX4_findingSet_7 : decode cX4_findingSet 7 = .ok (.bipush 9, 2) := by decide +kernel
theorem dX4_findingSet_9 : decode cX4_findingSet 9 = .ok (.if_icmp .ge 40, 3) := by decide +kernel
theorem dX4_findingSet_12 : decode cX4_findingSet 12 = .ok (.iload 4, 2) := by decide +kernel
theorem dX4_findingSet_14 : decode cX4_findingSet 14 = .ok (.aload_n 0, 1) := by decide +kernel
theorem dX4_findingSet_15 : decode cX4_findingSet 15 = .ok (.aload_n 1, 1) := by decide +kernel
theorem dX4_findingSet_16 : decode cX4_findingSet 16 = .ok (.aload_n 2, 1) := by decide +kernel
theorem dX4_findingSet_17 : decode cX4_findingSet 17 = .ok (.iload 4, 2) := by decide +kernel
theorem dX4_findingSet_19 : decode cX4_findingSet 19 = .ok (.invokevirtual 87, 3) := by decide +kernel
theorem dX4_findingSet_22 : decode cX4_findingSet 22 = .ok (.aload_n 0, 1) := by decide +kernel
theorem dX4_findingSet_23 : decode cX4_findingSet 23 = .ok (.aload_n 1, 1) := by decide +kernel
theorem dX4_findingSet_24 : decode cX4_findingSet 24 = .ok (.aload_n 2, 1) := by decide +kernel
theorem dX4_findingSet_25 : decode cX4_findingSet 25 = .ok (.iload 4, 2) := by decide +kernel
theorem dX4_findingSet_27 : decode cX4_findingSet 27 = .ok (.invokevirtual 91, 3) := by decide +kernel
theorem dX4_findingSet_30 : decode cX4_findingSet 30 = .ok (.invokestatic 94, 3) := by decide +kernel
theorem dX4_findingSet_33 : decode cX4_findingSet 33 = .ok (.ifCond .eq 10, 3) := by decide +kernel
theorem dX4_findingSet_36 : decode cX4_findingSet 36 = .ok (.iload_n 3, 1) := by decide +kernel
theorem dX4_findingSet_37 : decode cX4_findingSet 37 = .ok (.iconst 1, 1) := by decide +kernel
theorem dX4_findingSet_38 : decode cX4_findingSet 38 = .ok (.iload 4, 2) := by decide +kernel
theorem dX4_findingSet_40 : decode cX4_findingSet 40 = .ok (.ishl, 1) := by decide +kernel
theorem dX4_findingSet_41 : decode cX4_findingSet 41 = .ok (.ior, 1) := by decide +kernel
theorem dX4_findingSet_42 : decode cX4_findingSet 42 = .ok (.istore_n 3, 1) := by decide +kernel
theorem dX4_findingSet_43 : decode cX4_findingSet 43 = .ok (.iinc 4 1, 3) := by decide +kernel
theorem dX4_findingSet_46 : decode cX4_findingSet 46 = .ok (.goto (-41), 3) := by decide +kernel
theorem dX4_findingSet_49 : decode cX4_findingSet 49 = .ok (.iload_n 3, 1) := by decide +kernel
theorem dX4_findingSet_50 : decode cX4_findingSet 50 = .ok (.ireturn, 1) := by decide +kernel
theorem dX4_relievedSet_0 : decode cX4_relievedSet 0 = .ok (.iconst 0, 1) := by decide +kernel
theorem dX4_relievedSet_1 : decode cX4_relievedSet 1 = .ok (.istore_n 3, 1) := by decide +kernel
theorem dX4_relievedSet_2 : decode cX4_relievedSet 2 = .ok (.iconst 0, 1) := by decide +kernel
theorem dX4_relievedSet_3 : decode cX4_relievedSet 3 = .ok (.istore 4, 2) := by decide +kernel
theorem dX4_relievedSet_5 : decode cX4_relievedSet 5 = .ok (.iload 4, 2) := by decide +kernel
theorem dX4_relievedSet_7 : decode cX4_relievedSet 7 = .ok (.bipush 9, 2) := by decide +kernel
theorem dX4_relievedSet_9 : decode cX4_relievedSet 9 = .ok (.if_icmp .ge 28, 3) := by decide +kernel
theorem dX4_relievedSet_12 : decode cX4_relievedSet 12 = .ok (.aload_n 0, 1) := by decide +kernel
theorem dX4_relievedSet_13 : decode cX4_relievedSet 13 = .ok (.aload_n 1, 1) := by decide +kernel
theorem dX4_relievedSet_14 : decode cX4_relievedSet 14 = .ok (.aload_n 2, 1) := by decide +kernel
theorem dX4_relievedSet_15 : decode cX4_relievedSet 15 = .ok (.iload 4, 2) := by decide +kernel
theorem dX4_relievedSet_17 : decode cX4_relievedSet 17 = .ok (.invokevirtual 98, 3) := by decide +kernel
theorem dX4_relievedSet_20 : decode cX4_relievedSet 20 = .ok (.iconst (-1), 1) := by decide +kernel
theorem dX4_relievedSet_21 : decode cX4_relievedSet 21 = .ok (.if_icmp .eq 10, 3) := by decide +kernel
theorem dX4_relievedSet_24 : decode cX4_relievedSet 24 = .ok (.iload_n 3, 1) := by decide +kernel
theorem dX4_relievedSet_25 : decode cX4_relievedSet 25 = .ok (.iconst 1, 1) := by decide +kernel
theorem dX4_relievedSet_26 : decode cX4_relievedSet 26 = .ok (.iload 4, 2) := by decide +kernel
theorem dX4_relievedSet_28 : decode cX4_relievedSet 28 = .ok (.ishl, 1) := by decide +kernel
theorem dX4_relievedSet_29 : decode cX4_relievedSet 29 = .ok (.ior, 1) := by decide +kernel
theorem dX4_relievedSet_30 : decode cX4_relievedSet 30 = .ok (.istore_n 3, 1) := by decide +kernel
theorem dX4_relievedSet_31 : decode cX4_relievedSet 31 = .ok (.iinc 4 1, 3) := by decide +kernel
theorem dX4_relievedSet_34 : decode cX4_relievedSet 34 = .ok (.goto (-29), 3) := by decide +kernel
theorem dX4_relievedSet_37 : decode cX4_relievedSet 37 = .ok (.iload_n 3, 1) := by decide +kernel
theorem dX4_relievedSet_38 : decode cX4_relievedSet 38 = .ok (.ireturn, 1) := by decide +kernel
theorem dX4_unrelievedSet_0 : decode cX4_unrelievedSet 0 = .ok (.aload_n 0, 1) := by decide +kernel
theorem dX4_unrelievedSet_1 : decode cX4_unrelievedSet 1 = .ok (.aload_n 1, 1) := by decide +kernel
theorem dX4_unrelievedSet_2 : decode cX4_unrelievedSet 2 = .ok (.aload_n 2, 1) := by decide +kernel
theorem dX4_unrelievedSet_3 : decode cX4_unrelievedSet 3 = .ok (.invokevirtual 101, 3) := by decide +kernel
theorem dX4_unrelievedSet_6 : decode cX4_unrelievedSet 6 = .ok (.istore_n 3, 1) := by decide +kernel
theorem dX4_unrelievedSet_7 : decode cX4_unrelievedSet 7 = .ok (.iconst 0, 1) := by decide +kernel
theorem dX4_unrelievedSet_8 : decode cX4_unrelievedSet 8 = .ok (.istore 4, 2) := by decide +kernel
theorem dX4_unrelievedSet_10 : decode cX4_unrelievedSet 10 = .ok (.iload 4, 2) := by decide +kernel
theorem dX4_unrelievedSet_12 : decode cX4_unrelievedSet 12 = .ok (.bipush 9, 2) := by decide +kernel
theorem dX4_unrelievedSet_14 : decode cX4_unrelievedSet 14 = .ok (.if_icmp .ge 30, 3) := by decide +kernel
theorem dX4_unrelievedSet_17 : decode cX4_unrelievedSet 17 = .ok (.aload_n 0, 1) := by decide +kernel
theorem dX4_unrelievedSet_18 : decode cX4_unrelievedSet 18 = .ok (.aload_n 1, 1) := by decide +kernel
theorem dX4_unrelievedSet_19 : decode cX4_unrelievedSet 19 = .ok (.aload_n 2, 1) := by decide +kernel
theorem dX4_unrelievedSet_20 : decode cX4_unrelievedSet 20 = .ok (.iload 4, 2) := by decide +kernel
theorem dX4_unrelievedSet_22 : decode cX4_unrelievedSet 22 = .ok (.invokevirtual 98, 3) := by decide +kernel
theorem dX4_unrelievedSet_25 : decode cX4_unrelievedSet 25 = .ok (.iconst (-1), 1) := by decide +kernel
theorem dX4_unrelievedSet_26 : decode cX4_unrelievedSet 26 = .ok (.if_icmp .eq 12, 3) := by decide +kernel
theorem dX4_unrelievedSet_29 : decode cX4_unrelievedSet 29 = .ok (.iload_n 3, 1) := by decide +kernel
theorem dX4_unrelievedSet_30 : decode cX4_unrelievedSet 30 = .ok (.iconst 1, 1) := by decide +kernel
theorem dX4_unrelievedSet_31 : decode cX4_unrelievedSet 31 = .ok (.iload 4, 2) := by decide +kernel
theorem dX4_unrelievedSet_33 : decode cX4_unrelievedSet 33 = .ok (.ishl, 1) := by decide +kernel
theorem dX4_unrelievedSet_34 : decode cX4_unrelievedSet 34 = .ok (.iconst (-1), 1) := by decide +kernel
theorem dX4_unrelievedSet_35 : decode cX4_unrelievedSet 35 = .ok (.ixor, 1) := by decide +kernel
theorem dX4_unrelievedSet_36 : decode cX4_unrelievedSet 36 = .ok (.iand, 1) := by decide +kernel
theorem dX4_unrelievedSet_37 : decode cX4_unrelievedSet 37 = .ok (.istore_n 3, 1) := by decide +kernel
theorem dX4_unrelievedSet_38 : decode cX4_unrelievedSet 38 = .ok (.iinc 4 1, 3) := by decide +kernel
theorem dX4_unrelievedSet_41 : decode cX4_unrelievedSet 41 = .ok (.goto (-31), 3) := by decide +kernel
theorem dX4_unrelievedSet_44 : decode cX4_unrelievedSet 44 = .ok (.iload_n 3, 1) := by decide +kernel
theorem dX4_unrelievedSet_45 : decode cX4_unrelievedSet 45 = .ok (.ireturn, 1) := by decide +kernel
theorem dX4_usedVariances_0 : decode cX4_usedVariances 0 = .ok (.iconst 0, 1) := by decide +kernel
theorem dX4_usedVariances_1 : decode cX4_usedVariances 1 = .ok (.istore_n 3, 1) := by decide +kernel
theorem dX4_usedVariances_2 : decode cX4_usedVariances 2 = .ok (.iconst 0, 1) := by decide +kernel
theorem dX4_usedVariances_3 : decode cX4_usedVariances 3 = .ok (.istore 4, 2) := by decide +kernel
theorem dX4_usedVariances_5 : decode cX4_usedVariances 5 = .ok (.iload 4, 2) := by decide +kernel
theorem dX4_usedVariances_7 : decode cX4_usedVariances 7 = .ok (.bipush 9, 2) := by decide +kernel
theorem dX4_usedVariances_9 : decode cX4_usedVariances 9 = .ok (.if_icmp .ge 32, 3) := by decide +kernel
theorem dX4_usedVariances_12 : decode cX4_usedVariances 12 = .ok (.aload_n 0, 1) := by decide +kernel
theorem dX4_usedVariances_13 : decode cX4_usedVariances 13 = .ok (.aload_n 1, 1) := by decide +kernel
theorem dX4_usedVariances_14 : decode cX4_usedVariances 14 = .ok (.aload_n 2, 1) := by decide +kernel
theorem dX4_usedVariances_15 : decode cX4_usedVariances 15 = .ok (.iload 4, 2) := by decide +kernel
theorem dX4_usedVariances_17 : decode cX4_usedVariances 17 = .ok (.invokevirtual 98, 3) := by decide +kernel
theorem dX4_usedVariances_20 : decode cX4_usedVariances 20 = .ok (.istore 5, 2) := by decide +kernel
theorem dX4_usedVariances_22 : decode cX4_usedVariances 22 = .ok (.iload 5, 2) := by decide +kernel
theorem dX4_usedVariances_24 : decode cX4_usedVariances 24 = .ok (.iconst (-1), 1) := by decide +kernel
theorem dX4_usedVariances_25 : decode cX4_usedVariances 25 = .ok (.if_icmp .eq 10, 3) := by decide +kernel
theorem dX4_usedVariances_28 : decode cX4_usedVariances 28 = .ok (.iload_n 3, 1) := by decide +kernel
theorem dX4_usedVariances_29 : decode cX4_usedVariances 29 = .ok (.iconst 1, 1) := by decide +kernel
theorem dX4_usedVariances_30 : decode cX4_usedVariances 30 = .ok (.iload 5, 2) := by decide +kernel
theorem dX4_usedVariances_32 : decode cX4_usedVariances 32 = .ok (.ishl, 1) := by decide +kernel
theorem dX4_usedVariances_33 : decode cX4_usedVariances 33 = .ok (.ior, 1) := by decide +kernel
theorem dX4_usedVariances_34 : decode cX4_usedVariances 34 = .ok (.istore_n 3, 1) := by decide +kernel
theorem dX4_usedVariances_35 : decode cX4_usedVariances 35 = .ok (.iinc 4 1, 3) := by decide +kernel
theorem dX4_usedVariances_38 : decode cX4_usedVariances 38 = .ok (.goto (-33), 3) := by decide +kernel
theorem dX4_usedVariances_41 : decode cX4_usedVariances 41 = .ok (.iload_n 3, 1) := by decide +kernel
theorem dX4_usedVariances_42 : decode cX4_usedVariances 42 = .ok (.ireturn, 1) := by decide +kernel
theorem dX4_usedVariance_0 : decode cX4_usedVariance 0 = .ok (.aload_n 0, 1) := by decide +kernel
theorem dX4_usedVariance_1 : decode cX4_usedVariance 1 = .ok (.aload_n 1, 1) := by decide +kernel
theorem dX4_usedVariance_2 : decode cX4_usedVariance 2 = .ok (.aload_n 2, 1) := by decide +kernel
theorem dX4_usedVariance_3 : decode cX4_usedVariance 3 = .ok (.iload_n 3, 1) := by decide +kernel
theorem dX4_usedVariance_4 : decode cX4_usedVariance 4 = .ok (.invokevirtual 87, 3) := by decide +kernel
theorem dX4_usedVariance_7 : decode cX4_usedVariance 7 = .ok (.istore 4, 2) := by decide +kernel
theorem dX4_usedVariance_9 : decode cX4_usedVariance 9 = .ok (.aload_n 0, 1) := by decide +kernel
theorem dX4_usedVariance_10 : decode cX4_usedVariance 10 = .ok (.aload_n 1, 1) := by decide +kernel
theorem dX4_usedVariance_11 : decode cX4_usedVariance 11 = .ok (.aload_n 2, 1) := by decide +kernel
theorem dX4_usedVariance_12 : decode cX4_usedVariance 12 = .ok (.iload_n 3, 1) := by decide +kernel
theorem dX4_usedVariance_13 : decode cX4_usedVariance 13 = .ok (.invokevirtual 91, 3) := by decide +kernel
theorem dX4_usedVariance_16 : decode cX4_usedVariance 16 = .ok (.istore 5, 2) := by decide +kernel
theorem dX4_usedVariance_18 : decode cX4_usedVariance 18 = .ok (.iconst (-1), 1) := by decide +kernel
theorem dX4_usedVariance_19 : decode cX4_usedVariance 19 = .ok (.istore 6, 2) := by decide +kernel
theorem dX4_usedVariance_21 : decode cX4_usedVariance 21 = .ok (.bipush 100, 2) := by decide +kernel
theorem dX4_usedVariance_23 : decode cX4_usedVariance 23 = .ok (.istore 7, 2) := by decide +kernel
theorem dX4_usedVariance_25 : decode cX4_usedVariance 25 = .ok (.iload_n 3, 1) := by decide +kernel
theorem dX4_usedVariance_26 : decode cX4_usedVariance 26 = .ok (.iload 4, 2) := by decide +kernel
theorem dX4_usedVariance_28 : decode cX4_usedVariance 28 = .ok (.iload 5, 2) := by decide +kernel
theorem dX4_usedVariance_30 : decode cX4_usedVariance 30 = .ok (.invokestatic 94, 3) := by decide +kernel
theorem dX4_usedVariance_33 : decode cX4_usedVariance 33 = .ok (.ifCond .ne 5, 3) := by decide +kernel
theorem dX4_usedVariance_36 : decode cX4_usedVariance 36 = .ok (.iconst (-1), 1) := by decide +kernel
theorem dX4_usedVariance_37 : decode cX4_usedVariance 37 = .ok (.ireturn, 1) := by decide +kernel
theorem dX4_usedVariance_38 : decode cX4_usedVariance 38 = .ok (.iconst 0, 1) := by decide +kernel
theorem dX4_usedVariance_39 : decode cX4_usedVariance 39 = .ok (.istore 8, 2) := by decide +kernel
theorem dX4_usedVariance_41 : decode cX4_usedVariance 41 = .ok (.iload 8, 2) := by decide +kernel
theorem dX4_usedVariance_43 : decode cX4_usedVariance 43 = .ok (.aload_n 1, 1) := by decide +kernel
theorem dX4_usedVariance_44 : decode cX4_usedVariance 44 = .ok (.getfield 104, 3) := by decide +kernel
theorem dX4_usedVariance_47 : decode cX4_usedVariance 47 = .ok (.if_icmp .ge 100, 3) := by decide +kernel
theorem dX4_usedVariance_50 : decode cX4_usedVariance 50 = .ok (.aload_n 1, 1) := by decide +kernel
theorem dX4_usedVariance_51 : decode cX4_usedVariance 51 = .ok (.getfield 107, 3) := by decide +kernel
theorem dX4_usedVariance_54 : decode cX4_usedVariance 54 = .ok (.iload 8, 2) := by decide +kernel
theorem dX4_usedVariance_56 : decode cX4_usedVariance 56 = .ok (.aaload, 1) := by decide +kernel
theorem dX4_usedVariance_57 : decode cX4_usedVariance 57 = .ok (.astore 9, 2) := by decide +kernel
theorem dX4_usedVariance_59 : decode cX4_usedVariance 59 = .ok (.aload 9, 2) := by decide +kernel
theorem dX4_usedVariance_61 : decode cX4_usedVariance 61 = .ok (.getfield 111, 3) := by decide +kernel
theorem dX4_usedVariance_64 : decode cX4_usedVariance 64 = .ok (.aload_n 2, 1) := by decide +kernel
theorem dX4_usedVariance_65 : decode cX4_usedVariance 65 = .ok (.getfield 21, 3) := by decide +kernel
theorem dX4_usedVariance_68 : decode cX4_usedVariance 68 = .ok (.if_icmp .ne 28, 3) := by decide +kernel
theorem dX4_usedVariance_71 : decode cX4_usedVariance 71 = .ok (.aload 9, 2) := by decide +kernel
theorem dX4_usedVariance_73 : decode cX4_usedVariance 73 = .ok (.getfield 114, 3) := by decide +kernel
theorem dX4_usedVariance_76 : decode cX4_usedVariance 76 = .ok (.iload_n 3, 1) := by decide +kernel
theorem dX4_usedVariance_77 : decode cX4_usedVariance 77 = .ok (.if_icmp .ne 19, 3) := by decide +kernel
theorem dX4_usedVariance_80 : decode cX4_usedVariance 80 = .ok (.aload 9, 2) := by decide +kernel
theorem dX4_usedVariance_82 : decode cX4_usedVariance 82 = .ok (.aload_n 1, 1) := by decide +kernel
theorem dX4_usedVariance_83 : decode cX4_usedVariance 83 = .ok (.getfield 117, 3) := by decide +kernel
theorem dX4_usedVariance_86 : decode cX4_usedVariance 86 = .ok (.invokevirtual 120, 3) := by decide +kernel
theorem dX4_usedVariance_89 : decode cX4_usedVariance 89 = .ok (.ifCond .eq 7, 3) := by decide +kernel
theorem dX4_usedVariance_92 : decode cX4_usedVariance 92 = .ok (.iconst 1, 1) := by decide +kernel
theorem dX4_usedVariance_93 : decode cX4_usedVariance 93 = .ok (.goto 4, 3) := by decide +kernel
theorem dX4_usedVariance_96 : decode cX4_usedVariance 96 = .ok (.iconst 0, 1) := by decide +kernel
theorem dX4_usedVariance_97 : decode cX4_usedVariance 97 = .ok (.istore 10, 2) := by decide +kernel
theorem dX4_usedVariance_99 : decode cX4_usedVariance 99 = .ok (.iload 10, 2) := by decide +kernel
theorem dX4_usedVariance_101 : decode cX4_usedVariance 101 = .ok (.ifCond .eq 40, 3) := by decide +kernel
theorem dX4_usedVariance_104 : decode cX4_usedVariance 104 = .ok (.aload 9, 2) := by decide +kernel
theorem dX4_usedVariance_106 : decode cX4_usedVariance 106 = .ok (.getfield 124, 3) := by decide +kernel
theorem dX4_usedVariance_109 : decode cX4_usedVariance 109 = .ok (.iload 7, 2) := by decide +kernel
theorem dX4_usedVariance_111 : decode cX4_usedVariance 111 = .ok (.if_icmp .ge 30, 3) := by decide +kernel
theorem dX4_usedVariance_114 : decode cX4_usedVariance 114 = .ok (.iload_n 3, 1) := by decide +kernel
theorem dX4_usedVariance_115 : decode cX4_usedVariance 115 = .ok (.aload 9, 2) := by decide +kernel
theorem dX4_usedVariance_117 : decode cX4_usedVariance 117 = .ok (.getfield 124, 3) := by decide +kernel
theorem dX4_usedVariance_120 : decode cX4_usedVariance 120 = .ok (.iload 4, 2) := by decide +kernel
theorem dX4_usedVariance_122 : decode cX4_usedVariance 122 = .ok (.iload 5, 2) := by decide +kernel
theorem dX4_usedVariance_124 : decode cX4_usedVariance 124 = .ok (.invokestatic 127, 3) := by decide +kernel
theorem dX4_usedVariance_127 : decode cX4_usedVariance 127 = .ok (.ifCond .eq 14, 3) := by decide +kernel
theorem dX4_usedVariance_130 : decode cX4_usedVariance 130 = .ok (.iload 8, 2) := by decide +kernel
theorem dX4_usedVariance_132 : decode cX4_usedVariance 132 = .ok (.istore 6, 2) := by decide +kernel
theorem dX4_usedVariance_134 : decode cX4_usedVariance 134 = .ok (.aload 9, 2) := by decide +kernel
theorem dX4_usedVariance_136 : decode cX4_usedVariance 136 = .ok (.getfield 124, 3) := by decide +kernel
theorem dX4_usedVariance_139 : decode cX4_usedVariance 139 = .ok (.istore 7, 2) := by decide +kernel
theorem dX4_usedVariance_141 : decode cX4_usedVariance 141 = .ok (.iinc 8 1, 3) := by decide +kernel
theorem dX4_usedVariance_144 : decode cX4_usedVariance 144 = .ok (.goto (-103), 3) := by decide +kernel
theorem dX4_usedVariance_147 : decode cX4_usedVariance 147 = .ok (.iload 6, 2) := by decide +kernel
theorem dX4_usedVariance_149 : decode cX4_usedVariance 149 = .ok (.ireturn, 1) := by decide +kernel
theorem dX4_neededAmount_0 : decode cX4_neededAmount 0 = .ok (.aload_n 0, 1) := by decide +kernel
theorem dX4_neededAmount_1 : decode cX4_neededAmount 1 = .ok (.aload_n 1, 1) := by decide +kernel
theorem dX4_neededAmount_2 : decode cX4_neededAmount 2 = .ok (.aload_n 2, 1) := by decide +kernel
theorem dX4_neededAmount_3 : decode cX4_neededAmount 3 = .ok (.iload_n 3, 1) := by decide +kernel
theorem dX4_neededAmount_4 : decode cX4_neededAmount 4 = .ok (.invokevirtual 87, 3) := by decide +kernel
theorem dX4_neededAmount_7 : decode cX4_neededAmount 7 = .ok (.istore 4, 2) := by decide +kernel
theorem dX4_neededAmount_9 : decode cX4_neededAmount 9 = .ok (.aload_n 0, 1) := by decide +kernel
theorem dX4_neededAmount_10 : decode cX4_neededAmount 10 = .ok (.aload_n 1, 1) := by decide +kernel
theorem dX4_neededAmount_11 : decode cX4_neededAmount 11 = .ok (.aload_n 2, 1) := by decide +kernel
theorem dX4_neededAmount_12 : decode cX4_neededAmount 12 = .ok (.iload_n 3, 1) := by decide +kernel
theorem dX4_neededAmount_13 : decode cX4_neededAmount 13 = .ok (.invokevirtual 91, 3) := by decide +kernel
theorem dX4_neededAmount_16 : decode cX4_neededAmount 16 = .ok (.istore 5, 2) := by decide +kernel
theorem dX4_neededAmount_18 : decode cX4_neededAmount 18 = .ok (.iload_n 3, 1) := by decide +kernel
theorem dX4_neededAmount_19 : decode cX4_neededAmount 19 = .ok (.iload 4, 2) := by decide +kernel
theorem dX4_neededAmount_21 : decode cX4_neededAmount 21 = .ok (.iload 5, 2) := by decide +kernel
theorem dX4_neededAmount_23 : decode cX4_neededAmount 23 = .ok (.invokestatic 94, 3) := by decide +kernel
theorem dX4_neededAmount_26 : decode cX4_neededAmount 26 = .ok (.ifCond .ne 5, 3) := by decide +kernel
theorem dX4_neededAmount_29 : decode cX4_neededAmount 29 = .ok (.iconst 0, 1) := by decide +kernel
theorem dX4_neededAmount_30 : decode cX4_neededAmount 30 = .ok (.ireturn, 1) := by decide +kernel
theorem dX4_neededAmount_31 : decode cX4_neededAmount 31 = .ok (.iload_n 3, 1) := by decide +kernel
theorem dX4_neededAmount_32 : decode cX4_neededAmount 32 = .ok (.bipush 7, 2) := by decide +kernel
theorem dX4_neededAmount_34 : decode cX4_neededAmount 34 = .ok (.if_icmp .ne 7, 3) := by decide +kernel
theorem dX4_neededAmount_37 : decode cX4_neededAmount 37 = .ok (.iconst 1, 1) := by decide +kernel
theorem dX4_neededAmount_38 : decode cX4_neededAmount 38 = .ok (.goto 11, 3) := by decide +kernel
theorem dX4_neededAmount_41 : decode cX4_neededAmount 41 = .ok (.iload 4, 2) := by decide +kernel
theorem dX4_neededAmount_43 : decode cX4_neededAmount 43 = .ok (.iload 5, 2) := by decide +kernel
theorem dX4_neededAmount_45 : decode cX4_neededAmount 45 = .ok (.isub, 1) := by decide +kernel
theorem dX4_neededAmount_46 : decode cX4_neededAmount 46 = .ok (.invokestatic 131, 3) := by decide +kernel
theorem dX4_neededAmount_49 : decode cX4_neededAmount 49 = .ok (.istore 6, 2) := by decide +kernel
theorem dX4_neededAmount_51 : decode cX4_neededAmount 51 = .ok (.iload 6, 2) := by decide +kernel
theorem dX4_neededAmount_53 : decode cX4_neededAmount 53 = .ok (.bipush 99, 2) := by decide +kernel
theorem dX4_neededAmount_55 : decode cX4_neededAmount 55 = .ok (.if_icmp .gt 8, 3) := by decide +kernel
theorem dX4_neededAmount_58 : decode cX4_neededAmount 58 = .ok (.iload 6, 2) := by decide +kernel
theorem dX4_neededAmount_60 : decode cX4_neededAmount 60 = .ok (.goto 4, 3) := by decide +kernel
theorem dX4_neededAmount_63 : decode cX4_neededAmount 63 = .ok (.iconst (-1), 1) := by decide +kernel
theorem dX4_neededAmount_64 : decode cX4_neededAmount 64 = .ok (.ireturn, 1) := by decide +kernel
theorem dX4_builtCells_0 : decode cX4_builtCells 0 = .ok (.aload_n 1, 1) := by decide +kernel
theorem dX4_builtCells_1 : decode cX4_builtCells 1 = .ok (.iload_n 2, 1) := by decide +kernel
theorem dX4_builtCells_2 : decode cX4_builtCells 2 = .ok (.aconst_null, 1) := by decide +kernel
theorem dX4_builtCells_3 : decode cX4_builtCells 3 = .ok (.aload_n 0, 1) := by decide +kernel
theorem dX4_builtCells_4 : decode cX4_builtCells 4 = .ok (.getfield 12, 3) := by decide +kernel
theorem dX4_builtCells_7 : decode cX4_builtCells 7 = .ok (.invokevirtual 137, 3) := by decide +kernel
theorem dX4_builtCells_10 : decode cX4_builtCells 10 = .ok (.aload_n 0, 1) := by decide +kernel
theorem dX4_builtCells_11 : decode cX4_builtCells 11 = .ok (.getfield 12, 3) := by decide +kernel
theorem dX4_builtCells_14 : decode cX4_builtCells 14 = .ok (.aload_n 1, 1) := by decide +kernel
theorem dX4_builtCells_15 : decode cX4_builtCells 15 = .ok (.iload_n 2, 1) := by decide +kernel
theorem dX4_builtCells_16 : decode cX4_builtCells 16 = .ok (.invokevirtual 27, 3) := by decide +kernel
theorem dX4_builtCells_19 : decode cX4_builtCells 19 = .ok (.getfield 36, 3) := by decide +kernel
theorem dX4_builtCells_22 : decode cX4_builtCells 22 = .ok (.invokevirtual 141, 3) := by decide +kernel
theorem dX4_builtCells_25 : decode cX4_builtCells 25 = .ok (.ireturn, 1) := by decide +kernel
theorem dX4_distance_0 : decode cX4_distance 0 = .ok (.aload_n 1, 1) := by decide +kernel
theorem dX4_distance_1 : decode cX4_distance 1 = .ok (.iload_n 2, 1) := by decide +kernel
theorem dX4_distance_2 : decode cX4_distance 2 = .ok (.iload_n 3, 1) := by decide +kernel
theorem dX4_distance_3 : decode cX4_distance 3 = .ok (.invokevirtual 144, 3) := by decide +kernel
theorem dX4_distance_6 : decode cX4_distance 6 = .ok (.istore 5, 2) := by decide +kernel
theorem dX4_distance_8 : decode cX4_distance 8 = .ok (.iload 5, 2) := by decide +kernel
theorem dX4_distance_10 : decode cX4_distance 10 = .ok (.iconst (-1), 1) := by decide +kernel
theorem dX4_distance_11 : decode cX4_distance 11 = .ok (.if_icmp .ne 5, 3) := by decide +kernel
theorem dX4_distance_14 : decode cX4_distance 14 = .ok (.iconst 0, 1) := by decide +kernel
theorem dX4_distance_15 : decode cX4_distance 15 = .ok (.ireturn, 1) := by decide +kernel
theorem dX4_distance_16 : decode cX4_distance 16 = .ok (.aload_n 0, 1) := by decide +kernel
theorem dX4_distance_17 : decode cX4_distance 17 = .ok (.getfield 12, 3) := by decide +kernel
theorem dX4_distance_20 : decode cX4_distance 20 = .ok (.invokevirtual 147, 3) := by decide +kernel
theorem dX4_distance_23 : decode cX4_distance 23 = .ok (.aload_n 0, 1) := by decide +kernel
theorem dX4_distance_24 : decode cX4_distance 24 = .ok (.getfield 12, 3) := by decide +kernel
theorem dX4_distance_27 : decode cX4_distance 27 = .ok (.iload_n 2, 1) := by decide +kernel
theorem dX4_distance_28 : decode cX4_distance 28 = .ok (.iload_n 3, 1) := by decide +kernel
theorem dX4_distance_29 : decode cX4_distance 29 = .ok (.iconst 1, 1) := by decide +kernel
theorem dX4_distance_30 : decode cX4_distance 30 = .ok (.iconst 1, 1) := by decide +kernel
theorem dX4_distance_31 : decode cX4_distance 31 = .ok (.invokevirtual 150, 3) := by decide +kernel
theorem dX4_distance_34 : decode cX4_distance 34 = .ok (.aload_n 0, 1) := by decide +kernel
theorem dX4_distance_35 : decode cX4_distance 35 = .ok (.aload_n 0, 1) := by decide +kernel
theorem dX4_distance_36 : decode cX4_distance 36 = .ok (.getfield 12, 3) := by decide +kernel
theorem dX4_distance_39 : decode cX4_distance 39 = .ok (.aload_n 1, 1) := by decide +kernel
theorem dX4_distance_40 : decode cX4_distance 40 = .ok (.iload 5, 2) := by decide +kernel
theorem dX4_distance_42 : decode cX4_distance 42 = .ok (.invokevirtual 27, 3) := by decide +kernel
theorem dX4_distance_45 : decode cX4_distance 45 = .ok (.getfield 36, 3) := by decide +kernel
theorem dX4_distance_48 : decode cX4_distance 48 = .ok (.iload 4, 2) := by decide +kernel
theorem dX4_distance_50 : decode cX4_distance 50 = .ok (.invokevirtual 52, 3) := by decide +kernel
theorem dX4_distance_53 : decode cX4_distance 53 = .ok (.ireturn, 1) := by decide +kernel
theorem dX4_largestBuilding_0 : decode cX4_largestBuilding 0 = .ok (.aload_n 1, 1) := by decide +kernel
theorem dX4_largestBuilding_1 : decode cX4_largestBuilding 1 = .ok (.iload_n 2, 1) := by decide +kernel
theorem dX4_largestBuilding_2 : decode cX4_largestBuilding 2 = .ok (.invokevirtual 27, 3) := by decide +kernel
theorem dX4_largestBuilding_5 : decode cX4_largestBuilding 5 = .ok (.astore_n 3, 1) := by decide +kernel
theorem dX4_largestBuilding_6 : decode cX4_largestBuilding 6 = .ok (.aload_n 1, 1) := by decide +kernel
theorem dX4_largestBuilding_7 : decode cX4_largestBuilding 7 = .ok (.iload_n 2, 1) := by decide +kernel
theorem dX4_largestBuilding_8 : decode cX4_largestBuilding 8 = .ok (.aconst_null, 1) := by decide +kernel
theorem dX4_largestBuilding_9 : decode cX4_largestBuilding 9 = .ok (.aload_n 0, 1) := by decide +kernel
theorem dX4_largestBuilding_10 : decode cX4_largestBuilding 10 = .ok (.getfield 18, 3) := by decide +kernel
theorem dX4_largestBuilding_13 : decode cX4_largestBuilding 13 = .ok (.invokevirtual 137, 3) := by decide +kernel
theorem dX4_largestBuilding_16 : decode cX4_largestBuilding 16 = .ok (.aload_n 0, 1) := by decide +kernel
theorem dX4_largestBuilding_17 : decode cX4_largestBuilding 17 = .ok (.getfield 12, 3) := by decide +kernel
theorem dX4_largestBuilding_20 : decode cX4_largestBuilding 20 = .ok (.aload_n 3, 1) := by decide +kernel
theorem dX4_largestBuilding_21 : decode cX4_largestBuilding 21 = .ok (.getfield 36, 3) := by decide +kernel
theorem dX4_largestBuilding_24 : decode cX4_largestBuilding 24 = .ok (.invokevirtual 154, 3) := by decide +kernel
theorem dX4_largestBuilding_27 : decode cX4_largestBuilding 27 = .ok (.aload_n 0, 1) := by decide +kernel
theorem dX4_largestBuilding_28 : decode cX4_largestBuilding 28 = .ok (.getfield 12, 3) := by decide +kernel
theorem dX4_largestBuilding_31 : decode cX4_largestBuilding 31 = .ok (.aload_n 0, 1) := by decide +kernel
theorem dX4_largestBuilding_32 : decode cX4_largestBuilding 32 = .ok (.getfield 18, 3) := by decide +kernel
theorem dX4_largestBuilding_35 : decode cX4_largestBuilding 35 = .ok (.invokevirtual 158, 3) := by decide +kernel
theorem dX4_largestBuilding_38 : decode cX4_largestBuilding 38 = .ok (.iconst 0, 1) := by decide +kernel
theorem dX4_largestBuilding_39 : decode cX4_largestBuilding 39 = .ok (.istore 4, 2) := by decide +kernel
theorem dX4_largestBuilding_41 : decode cX4_largestBuilding 41 = .ok (.iload 4, 2) := by decide +kernel
theorem dX4_largestBuilding_43 : decode cX4_largestBuilding 43 = .ok (.iconst 4, 1) := by decide +kernel
theorem dX4_largestBuilding_44 : decode cX4_largestBuilding 44 = .ok (.if_icmp .ge 77, 3) := by decide +kernel
theorem dX4_largestBuilding_47 : decode cX4_largestBuilding 47 = .ok (.aload_n 1, 1) := by decide +kernel
theorem dX4_largestBuilding_48 : decode cX4_largestBuilding 48 = .ok (.iload_n 2, 1) := by decide +kernel
theorem dX4_largestBuilding_49 : decode cX4_largestBuilding 49 = .ok (.iload 4, 2) := by decide +kernel
theorem dX4_largestBuilding_51 : decode cX4_largestBuilding 51 = .ok (.aload_n 3, 1) := by decide +kernel
theorem dX4_largestBuilding_52 : decode cX4_largestBuilding 52 = .ok (.getfield 49, 3) := by decide +kernel
theorem dX4_largestBuilding_55 : decode cX4_largestBuilding 55 = .ok (.if_icmp .ne 7, 3) := by decide +kernel
theorem dX4_largestBuilding_58 : decode cX4_largestBuilding 58 = .ok (.iconst 0, 1) := by decide +kernel
theorem dX4_largestBuilding_59 : decode cX4_largestBuilding 59 = .ok (.goto 4, 3) := by decide +kernel
theorem dX4_largestBuilding_62 : decode cX4_largestBuilding 62 = .ok (.iconst 1, 1) := by decide +kernel
theorem dX4_largestBuilding_63 : decode cX4_largestBuilding 63 = .ok (.invokevirtual 76, 3) := by decide +kernel
theorem dX4_largestBuilding_66 : decode cX4_largestBuilding 66 = .ok (.istore 5, 2) := by decide +kernel
theorem dX4_largestBuilding_68 : decode cX4_largestBuilding 68 = .ok (.aload_n 0, 1) := by decide +kernel
theorem dX4_largestBuilding_69 : decode cX4_largestBuilding 69 = .ok (.getfield 18, 3) := by decide +kernel
theorem dX4_largestBuilding_72 : decode cX4_largestBuilding 72 = .ok (.aload_n 3, 1) := by decide +kernel
theorem dX4_largestBuilding_73 : decode cX4_largestBuilding 73 = .ok (.getfield 36, 3) := by decide +kernel
theorem dX4_largestBuilding_76 : decode cX4_largestBuilding 76 = .ok (.invokevirtual 154, 3) := by decide +kernel
theorem dX4_largestBuilding_79 : decode cX4_largestBuilding 79 = .ok (.iconst 0, 1) := by decide +kernel
theorem dX4_largestBuilding_80 : decode cX4_largestBuilding 80 = .ok (.istore 6, 2) := by decide +kernel
theorem dX4_largestBuilding_82 : decode cX4_largestBuilding 82 = .ok (.iload 6, 2) := by decide +kernel
theorem dX4_largestBuilding_84 : decode cX4_largestBuilding 84 = .ok (.iload 5, 2) := by decide +kernel
theorem dX4_largestBuilding_86 : decode cX4_largestBuilding 86 = .ok (.if_icmp .ge 18, 3) := by decide +kernel
theorem dX4_largestBuilding_89 : decode cX4_largestBuilding 89 = .ok (.aload_n 0, 1) := by decide +kernel
theorem dX4_largestBuilding_90 : decode cX4_largestBuilding 90 = .ok (.getfield 18, 3) := by decide +kernel
theorem dX4_largestBuilding_93 : decode cX4_largestBuilding 93 = .ok (.iload 4, 2) := by decide +kernel
theorem dX4_largestBuilding_95 : decode cX4_largestBuilding 95 = .ok (.invokevirtual 161, 3) := by decide +kernel
theorem dX4_largestBuilding_98 : decode cX4_largestBuilding 98 = .ok (.iinc 6 1, 3) := by decide +kernel
theorem dX4_largestBuilding_101 : decode cX4_largestBuilding 101 = .ok (.goto (-19), 3) := by decide +kernel
theorem dX4_largestBuilding_104 : decode cX4_largestBuilding 104 = .ok (.aload_n 0, 1) := by decide +kernel
theorem dX4_largestBuilding_105 : decode cX4_largestBuilding 105 = .ok (.getfield 12, 3) := by decide +kernel
theorem dX4_largestBuilding_108 : decode cX4_largestBuilding 108 = .ok (.aload_n 0, 1) := by decide +kernel
theorem dX4_largestBuilding_109 : decode cX4_largestBuilding 109 = .ok (.getfield 18, 3) := by decide +kernel
theorem dX4_largestBuilding_112 : decode cX4_largestBuilding 112 = .ok (.invokevirtual 165, 3) := by decide +kernel
theorem dX4_largestBuilding_115 : decode cX4_largestBuilding 115 = .ok (.iinc 4 1, 3) := by decide +kernel
theorem dX4_largestBuilding_118 : decode cX4_largestBuilding 118 = .ok (.goto (-77), 3) := by decide +kernel
theorem dX4_largestBuilding_121 : decode cX4_largestBuilding 121 = .ok (.aload_n 0, 1) := by decide +kernel
theorem dX4_largestBuilding_122 : decode cX4_largestBuilding 122 = .ok (.getfield 12, 3) := by decide +kernel
theorem dX4_largestBuilding_125 : decode cX4_largestBuilding 125 = .ok (.invokevirtual 168, 3) := by decide +kernel
theorem dX4_largestBuilding_128 : decode cX4_largestBuilding 128 = .ok (.ireturn, 1) := by decide +kernel
theorem dX4_overlap_0 : decode cX4_overlap 0 = .ok (.aload_n 1, 1) := by decide +kernel
theorem dX4_overlap_1 : decode cX4_overlap 1 = .ok (.aload_n 2, 1) := by decide +kernel
theorem dX4_overlap_2 : decode cX4_overlap 2 = .ok (.getfield 21, 3) := by decide +kernel
theorem dX4_overlap_5 : decode cX4_overlap 5 = .ok (.aload_n 2, 1) := by decide +kernel
theorem dX4_overlap_6 : decode cX4_overlap 6 = .ok (.aload_n 0, 1) := by decide +kernel
theorem dX4_overlap_7 : decode cX4_overlap 7 = .ok (.getfield 12, 3) := by decide +kernel
theorem dX4_overlap_10 : decode cX4_overlap 10 = .ok (.invokevirtual 137, 3) := by decide +kernel
theorem dX4_overlap_13 : decode cX4_overlap 13 = .ok (.aload_n 2, 1) := by decide +kernel
theorem dX4_overlap_14 : decode cX4_overlap 14 = .ok (.getfield 33, 3) := by decide +kernel
theorem dX4_overlap_17 : decode cX4_overlap 17 = .ok (.aload_n 0, 1) := by decide +kernel
theorem dX4_overlap_18 : decode cX4_overlap 18 = .ok (.getfield 12, 3) := by decide +kernel
theorem dX4_overlap_21 : decode cX4_overlap 21 = .ok (.invokevirtual 141, 3) := by decide +kernel
theorem dX4_overlap_24 : decode cX4_overlap 24 = .ok (.ireturn, 1) := by decide +kernel
theorem dX4_coverage_0 : decode cX4_coverage 0 = .ok (.aload_n 1, 1) := by decide +kernel
theorem dX4_coverage_1 : decode cX4_coverage 1 = .ok (.aload_n 2, 1) := by decide +kernel
theorem dX4_coverage_2 : decode cX4_coverage 2 = .ok (.getfield 21, 3) := by decide +kernel
theorem dX4_coverage_5 : decode cX4_coverage 5 = .ok (.aload_n 2, 1) := by decide +kernel
theorem dX4_coverage_6 : decode cX4_coverage 6 = .ok (.aload_n 0, 1) := by decide +kernel
theorem dX4_coverage_7 : decode cX4_coverage 7 = .ok (.getfield 12, 3) := by decide +kernel
theorem dX4_coverage_10 : decode cX4_coverage 10 = .ok (.invokevirtual 137, 3) := by decide +kernel
theorem dX4_coverage_13 : decode cX4_coverage 13 = .ok (.aload_n 0, 1) := by decide +kernel
theorem dX4_coverage_14 : decode cX4_coverage 14 = .ok (.getfield 12, 3) := by decide +kernel
theorem dX4_coverage_17 : decode cX4_coverage 17 = .ok (.aload_n 2, 1) := by decide +kernel
theorem dX4_coverage_18 : decode cX4_coverage 18 = .ok (.getfield 33, 3) := by decide +kernel
theorem dX4_coverage_21 : decode cX4_coverage 21 = .ok (.invokevirtual 171, 3) := by decide +kernel
theorem dX4_coverage_24 : decode cX4_coverage 24 = .ok (.bipush 100, 2) := by decide +kernel
theorem dX4_coverage_26 : decode cX4_coverage 26 = .ok (.aload_n 0, 1) := by decide +kernel
theorem dX4_coverage_27 : decode cX4_coverage 27 = .ok (.getfield 12, 3) := by decide +kernel
theorem dX4_coverage_30 : decode cX4_coverage 30 = .ok (.aload_n 3, 1) := by decide +kernel
theorem dX4_coverage_31 : decode cX4_coverage 31 = .ok (.getfield 36, 3) := by decide +kernel
theorem dX4_coverage_34 : decode cX4_coverage 34 = .ok (.invokevirtual 141, 3) := by decide +kernel
theorem dX4_coverage_37 : decode cX4_coverage 37 = .ok (.imul, 1) := by decide +kernel
theorem dX4_coverage_38 : decode cX4_coverage 38 = .ok (.aload_n 3, 1) := by decide +kernel
theorem dX4_coverage_39 : decode cX4_coverage 39 = .ok (.getfield 174, 3) := by decide +kernel
theorem dX4_coverage_42 : decode cX4_coverage 42 = .ok (.invokestatic 84, 3) := by decide +kernel
theorem dX4_coverage_45 : decode cX4_coverage 45 = .ok (.ireturn, 1) := by decide +kernel
theorem dX4_floorAreaShare_0 : decode cX4_floorAreaShare 0 = .ok (.aload_n 2, 1) := by decide +kernel
theorem dX4_floorAreaShare_1 : decode cX4_floorAreaShare 1 = .ok (.invokevirtual 80, 3) := by decide +kernel
theorem dX4_floorAreaShare_4 : decode cX4_floorAreaShare 4 = .ok (.aload_n 1, 1) := by decide +kernel
theorem dX4_floorAreaShare_5 : decode cX4_floorAreaShare 5 = .ok (.aload_n 2, 1) := by decide +kernel
theorem dX4_floorAreaShare_6 : decode cX4_floorAreaShare 6 = .ok (.getfield 21, 3) := by decide +kernel
theorem dX4_floorAreaShare_9 : decode cX4_floorAreaShare 9 = .ok (.aload_n 2, 1) := by decide +kernel
theorem dX4_floorAreaShare_10 : decode cX4_floorAreaShare 10 = .ok (.invokevirtual 177, 3) := by decide +kernel
theorem dX4_floorAreaShare_13 : decode cX4_floorAreaShare 13 = .ok (.iadd, 1) := by decide +kernel
theorem dX4_floorAreaShare_14 : decode cX4_floorAreaShare 14 = .ok (.istore 4, 2) := by decide +kernel
theorem dX4_floorAreaShare_16 : decode cX4_floorAreaShare 16 = .ok (.bipush 10, 2) := by decide +kernel
theorem dX4_floorAreaShare_18 : decode cX4_floorAreaShare 18 = .ok (.iload 4, 2) := by decide +kernel
theorem dX4_floorAreaShare_20 : decode cX4_floorAreaShare 20 = .ok (.imul, 1) := by decide +kernel
theorem dX4_floorAreaShare_21 : decode cX4_floorAreaShare 21 = .ok (.aload_n 3, 1) := by decide +kernel
theorem dX4_floorAreaShare_22 : decode cX4_floorAreaShare 22 = .ok (.getfield 174, 3) := by decide +kernel
theorem dX4_floorAreaShare_25 : decode cX4_floorAreaShare 25 = .ok (.invokestatic 84, 3) := by decide +kernel
theorem dX4_floorAreaShare_28 : decode cX4_floorAreaShare 28 = .ok (.ireturn, 1) := by decide +kernel
theorem dX4_leastSideDistance_0 : decode cX4_leastSideDistance 0 = .ok (.bipush 20, 2) := by decide +kernel
theorem dX4_leastSideDistance_2 : decode cX4_leastSideDistance 2 = .ok (.istore_n 3, 1) := by decide +kernel
theorem dX4_leastSideDistance_3 : decode cX4_leastSideDistance 3 = .ok (.iconst 0, 1) := by decide +kernel
theorem dX4_leastSideDistance_4 : decode cX4_leastSideDistance 4 = .ok (.istore 4, 2) := by decide +kernel
theorem dX4_leastSideDistance_6 : decode cX4_leastSideDistance 6 = .ok (.iload 4, 2) := by decide +kernel
theorem dX4_leastSideDistance_8 : decode cX4_leastSideDistance 8 = .ok (.iconst 4, 1) := by decide +kernel
theorem dX4_leastSideDistance_9 : decode cX4_leastSideDistance 9 = .ok (.if_icmp .ge 34, 3) := by decide +kernel
theorem dX4_leastSideDistance_12 : decode cX4_leastSideDistance 12 = .ok (.iload 4, 2) := by decide +kernel
theorem dX4_leastSideDistance_14 : decode cX4_leastSideDistance 14 = .ok (.aload_n 2, 1) := by decide +kernel
theorem dX4_leastSideDistance_15 : decode cX4_leastSideDistance 15 = .ok (.getfield 49, 3) := by decide +kernel
theorem dX4_leastSideDistance_18 : decode cX4_leastSideDistance 18 = .ok (.if_icmp .eq 19, 3) := by decide +kernel
theorem dX4_leastSideDistance_21 : decode cX4_leastSideDistance 21 = .ok (.iload_n 3, 1) := by decide +kernel
theorem dX4_leastSideDistance_22 : decode cX4_leastSideDistance 22 = .ok (.aload_n 0, 1) := by decide +kernel
theorem dX4_leastSideDistance_23 : decode cX4_leastSideDistance 23 = .ok (.aload_n 1, 1) := by decide +kernel
theorem dX4_leastSideDistance_24 : decode cX4_leastSideDistance 24 = .ok (.aload_n 2, 1) := by decide +kernel
theorem dX4_leastSideDistance_25 : decode cX4_leastSideDistance 25 = .ok (.getfield 36, 3) := by decide +kernel
theorem dX4_leastSideDistance_28 : decode cX4_leastSideDistance 28 = .ok (.iload 4, 2) := by decide +kernel
theorem dX4_leastSideDistance_30 : decode cX4_leastSideDistance 30 = .ok (.invokevirtual 52, 3) := by decide +kernel
theorem dX4_leastSideDistance_33 : decode cX4_leastSideDistance 33 = .ok (.invokestatic 181, 3) := by decide +kernel
theorem dX4_leastSideDistance_36 : decode cX4_leastSideDistance 36 = .ok (.istore_n 3, 1) := by decide +kernel
theorem dX4_leastSideDistance_37 : decode cX4_leastSideDistance 37 = .ok (.iinc 4 1, 3) := by decide +kernel
theorem dX4_leastSideDistance_40 : decode cX4_leastSideDistance 40 = .ok (.goto (-34), 3) := by decide +kernel
theorem dX4_leastSideDistance_43 : decode cX4_leastSideDistance 43 = .ok (.iload_n 3, 1) := by decide +kernel
theorem dX4_leastSideDistance_44 : decode cX4_leastSideDistance 44 = .ok (.ireturn, 1) := by decide +kernel
theorem dX4_leastDistance_0 : decode cX4_leastDistance 0 = .ok (.aload_n 2, 1) := by decide +kernel
theorem dX4_leastDistance_1 : decode cX4_leastDistance 1 = .ok (.aload_n 1, 1) := by decide +kernel
theorem dX4_leastDistance_2 : decode cX4_leastDistance 2 = .ok (.invokevirtual 184, 3) := by decide +kernel
theorem dX4_leastDistance_5 : decode cX4_leastDistance 5 = .ok (.ifCond .ne 5, 3) := by decide +kernel
theorem dX4_leastDistance_8 : decode cX4_leastDistance 8 = .ok (.iconst 0, 1) := by decide +kernel
theorem dX4_leastDistance_9 : decode cX4_leastDistance 9 = .ok (.ireturn, 1) := by decide +kernel
theorem dX4_leastDistance_10 : decode cX4_leastDistance 10 = .ok (.aload_n 0, 1) := by decide +kernel
theorem dX4_leastDistance_11 : decode cX4_leastDistance 11 = .ok (.getfield 18, 3) := by decide +kernel
theorem dX4_leastDistance_14 : decode cX4_leastDistance 14 = .ok (.aload_n 2, 1) := by decide +kernel
theorem dX4_leastDistance_15 : decode cX4_leastDistance 15 = .ok (.invokevirtual 154, 3) := by decide +kernel
theorem dX4_leastDistance_18 : decode cX4_leastDistance 18 = .ok (.iconst 0, 1) := by decide +kernel
theorem dX4_leastDistance_19 : decode cX4_leastDistance 19 = .ok (.istore 4, 2) := by decide +kernel
theorem dX4_leastDistance_21 : decode cX4_leastDistance 21 = .ok (.iload 4, 2) := by decide +kernel
theorem dX4_leastDistance_23 : decode cX4_leastDistance 23 = .ok (.bipush 20, 2) := by decide +kernel
theorem dX4_leastDistance_25 : decode cX4_leastDistance 25 = .ok (.if_icmp .ge 31, 3) := by decide +kernel
theorem dX4_leastDistance_28 : decode cX4_leastDistance 28 = .ok (.aload_n 0, 1) := by decide +kernel
theorem dX4_leastDistance_29 : decode cX4_leastDistance 29 = .ok (.getfield 18, 3) := by decide +kernel
theorem dX4_leastDistance_32 : decode cX4_leastDistance 32 = .ok (.iload_n 3, 1) := by decide +kernel
theorem dX4_leastDistance_33 : decode cX4_leastDistance 33 = .ok (.invokevirtual 161, 3) := by decide +kernel
theorem dX4_leastDistance_36 : decode cX4_leastDistance 36 = .ok (.aload_n 0, 1) := by decide +kernel
theorem dX4_leastDistance_37 : decode cX4_leastDistance 37 = .ok (.getfield 18, 3) := by decide +kernel
theorem dX4_leastDistance_40 : decode cX4_leastDistance 40 = .ok (.aload_n 1, 1) := by decide +kernel
theorem dX4_leastDistance_41 : decode cX4_leastDistance 41 = .ok (.invokevirtual 184, 3) := by decide +kernel
theorem dX4_leastDistance_44 : decode cX4_leastDistance 44 = .ok (.ifCond .ne 6, 3) := by decide +kernel
theorem dX4_leastDistance_47 : decode cX4_leastDistance 47 = .ok (.iload 4, 2) := by decide +kernel
theorem dX4_leastDistance_49 : decode cX4_leastDistance 49 = .ok (.ireturn, 1) := by decide +kernel
theorem dX4_leastDistance_50 : decode cX4_leastDistance 50 = .ok (.iinc 4 1, 3) := by decide +kernel
theorem dX4_leastDistance_53 : decode cX4_leastDistance 53 = .ok (.goto (-32), 3) := by decide +kernel
theorem dX4_leastDistance_56 : decode cX4_leastDistance 56 = .ok (.bipush 20, 2) := by decide +kernel
theorem dX4_leastDistance_58 : decode cX4_leastDistance 58 = .ok (.ireturn, 1) := by decide +kernel
theorem dX4_isFinding_0 : decode cX4_isFinding 0 = .ok (.iload_n 0, 1) := by decide +kernel
theorem dX4_isFinding_1 : decode cX4_isFinding 1 = .ok (.tableswitch 68 2 8 #[43, 43, 68, 68, 68, 54, 43], 43) := by decide +kernel
theorem dX4_isFinding_44 : decode cX4_isFinding 44 = .ok (.iload_n 1, 1) := by decide +kernel
theorem dX4_isFinding_45 : decode cX4_isFinding 45 = .ok (.iload_n 2, 1) := by decide +kernel
theorem dX4_isFinding_46 : decode cX4_isFinding 46 = .ok (.if_icmp .ge 7, 3) := by decide +kernel
theorem dX4_isFinding_49 : decode cX4_isFinding 49 = .ok (.iconst 1, 1) := by decide +kernel
theorem dX4_isFinding_50 : decode cX4_isFinding 50 = .ok (.goto 4, 3) := by decide +kernel
theorem dX4_isFinding_53 : decode cX4_isFinding 53 = .ok (.iconst 0, 1) := by decide +kernel
theorem dX4_isFinding_54 : decode cX4_isFinding 54 = .ok (.ireturn, 1) := by decide +kernel
theorem dX4_isFinding_55 : decode cX4_isFinding 55 = .ok (.iload_n 2, 1) := by decide +kernel
theorem dX4_isFinding_56 : decode cX4_isFinding 56 = .ok (.iconst 1, 1) := by decide +kernel
theorem dX4_isFinding_57 : decode cX4_isFinding 57 = .ok (.iload_n 1, 1) := by decide +kernel
theorem dX4_isFinding_58 : decode cX4_isFinding 58 = .ok (.ishl, 1) := by decide +kernel
theorem dX4_isFinding_59 : decode cX4_isFinding 59 = .ok (.iand, 1) := by decide +kernel
theorem dX4_isFinding_60 : decode cX4_isFinding 60 = .ok (.ifCond .ne 7, 3) := by decide +kernel
theorem dX4_isFinding_63 : decode cX4_isFinding 63 = .ok (.iconst 1, 1) := by decide +kernel
theorem dX4_isFinding_64 : decode cX4_isFinding 64 = .ok (.goto 4, 3) := by decide +kernel
theorem dX4_isFinding_67 : decode cX4_isFinding 67 = .ok (.iconst 0, 1) := by decide +kernel
theorem dX4_isFinding_68 : decode cX4_isFinding 68 = .ok (.ireturn, 1) := by decide +kernel
theorem dX4_isFinding_69 : decode cX4_isFinding 69 = .ok (.iload_n 1, 1) := by decide +kernel
theorem dX4_isFinding_70 : decode cX4_isFinding 70 = .ok (.iload_n 2, 1) := by decide +kernel
theorem dX4_isFinding_71 : decode cX4_isFinding 71 = .ok (.if_icmp .le 7, 3) := by decide +kernel
theorem dX4_isFinding_74 : decode cX4_isFinding 74 = .ok (.iconst 1, 1) := by decide +kernel
theorem dX4_isFinding_75 : decode cX4_isFinding 75 = .ok (.goto 4, 3) := by decide +kernel
theorem dX4_isFinding_78 : decode cX4_isFinding 78 = .ok (.iconst 0, 1) := by decide +kernel
theorem dX4_isFinding_79 : decode cX4_isFinding 79 = .ok (.ireturn, 1) := by decide +kernel
theorem dX4_helps_0 : decode cX4_helps 0 = .ok (.iload_n 0, 1) := by decide +kernel
theorem dX4_helps_1 : decode cX4_helps 1 = .ok (.tableswitch 66 2 8 #[43, 43, 66, 66, 66, 64, 43], 43) := by decide +kernel
theorem dX4_helps_44 : decode cX4_helps 44 = .ok (.iload_n 0, 1) := by decide +kernel
theorem dX4_helps_45 : decode cX4_helps 45 = .ok (.iload_n 2, 1) := by decide +kernel
theorem dX4_helps_46 : decode cX4_helps 46 = .ok (.iconst 0, 1) := by decide +kernel
theorem dX4_helps_47 : decode cX4_helps 47 = .ok (.iload_n 3, 1) := by decide +kernel
theorem dX4_helps_48 : decode cX4_helps 48 = .ok (.iload_n 1, 1) := by decide +kernel
theorem dX4_helps_49 : decode cX4_helps 49 = .ok (.isub, 1) := by decide +kernel
theorem dX4_helps_50 : decode cX4_helps 50 = .ok (.invokestatic 188, 3) := by decide +kernel
theorem dX4_helps_53 : decode cX4_helps 53 = .ok (.invokestatic 94, 3) := by decide +kernel
theorem dX4_helps_56 : decode cX4_helps 56 = .ok (.ifCond .ne 7, 3) := by decide +kernel
theorem dX4_helps_59 : decode cX4_helps 59 = .ok (.iconst 1, 1) := by decide +kernel
theorem dX4_helps_60 : decode cX4_helps 60 = .ok (.goto 4, 3) := by decide +kernel
theorem dX4_helps_63 : decode cX4_helps 63 = .ok (.iconst 0, 1) := by decide +kernel
theorem dX4_helps_64 : decode cX4_helps 64 = .ok (.ireturn, 1) := by decide +kernel
theorem dX4_helps_65 : decode cX4_helps 65 = .ok (.iconst 1, 1) := by decide +kernel
theorem dX4_helps_66 : decode cX4_helps 66 = .ok (.ireturn, 1) := by decide +kernel
theorem dX4_helps_67 : decode cX4_helps 67 = .ok (.iload_n 0, 1) := by decide +kernel
theorem dX4_helps_68 : decode cX4_helps 68 = .ok (.iload_n 2, 1) := by decide +kernel
theorem dX4_helps_69 : decode cX4_helps 69 = .ok (.iload_n 3, 1) := by decide +kernel
theorem dX4_helps_70 : decode cX4_helps 70 = .ok (.iload_n 1, 1) := by decide +kernel
theorem dX4_helps_71 : decode cX4_helps 71 = .ok (.iadd, 1) := by decide +kernel
theorem dX4_helps_72 : decode cX4_helps 72 = .ok (.invokestatic 94, 3) := by decide +kernel
theorem dX4_helps_75 : decode cX4_helps 75 = .ok (.ifCond .ne 7, 3) := by decide +kernel
theorem dX4_helps_78 : decode cX4_helps 78 = .ok (.iconst 1, 1) := by decide +kernel
theorem dX4_helps_79 : decode cX4_helps 79 = .ok (.goto 4, 3) := by decide +kernel
theorem dX4_helps_82 : decode cX4_helps 82 = .ok (.iconst 0, 1) := by decide +kernel
theorem dX4_helps_83 : decode cX4_helps 83 = .ok (.ireturn, 1) := by decide +kernel
theorem dX4_dividedUp_0 : decode cX4_dividedUp 0 = .ok (.iload_n 1, 1) := by decide +kernel
theorem dX4_dividedUp_1 : decode cX4_dividedUp 1 = .ok (.ifCond .gt 7, 3) := by decide +kernel
theorem dX4_dividedUp_4 : decode cX4_dividedUp 4 = .ok (.iconst 0, 1) := by decide +kernel
theorem dX4_dividedUp_5 : decode cX4_dividedUp 5 = .ok (.goto 10, 3) := by decide +kernel
theorem dX4_dividedUp_8 : decode cX4_dividedUp 8 = .ok (.iload_n 0, 1) := by decide +kernel
theorem dX4_dividedUp_9 : decode cX4_dividedUp 9 = .ok (.iload_n 1, 1) := by decide +kernel
theorem dX4_dividedUp_10 : decode cX4_dividedUp 10 = .ok (.iadd, 1) := by decide +kernel
theorem dX4_dividedUp_11 : decode cX4_dividedUp 11 = .ok (.iconst 1, 1) := by decide +kernel
theorem dX4_dividedUp_12 : decode cX4_dividedUp 12 = .ok (.isub, 1) := by decide +kernel
theorem dX4_dividedUp_13 : decode cX4_dividedUp 13 = .ok (.iload_n 1, 1) := by decide +kernel
theorem dX4_dividedUp_14 : decode cX4_dividedUp 14 = .ok (.idiv, 1) := by decide +kernel
theorem dX4_dividedUp_15 : decode cX4_dividedUp 15 = .ok (.ireturn, 1) := by decide +kernel
theorem dX5_init_0 : decode cX5_init 0 = .ok (.aload_n 0, 1) := by decide +kernel
theorem dX5_init_1 : decode cX5_init 1 = .ok (.invokespecial 3, 3) := by decide +kernel
theorem dX5_init_4 : decode cX5_init 4 = .ok (.aload_n 0, 1) := by decide +kernel
theorem dX5_init_5 : decode cX5_init 5 = .ok (.iconst 0, 1) := by decide +kernel
theorem dX5_init_6 : decode cX5_init 6 = .ok (.putfield 9, 3) := by decide +kernel
theorem dX5_init_9 : decode cX5_init 9 = .ok (.aload_n 0, 1) := by decide +kernel
theorem dX5_init_10 : decode cX5_init 10 = .ok (.bipush 28, 2) := by decide +kernel
theorem dX5_init_12 : decode cX5_init 12 = .ok (.newarray .int, 2) := by decide +kernel
theorem dX5_init_14 : decode cX5_init 14 = .ok (.putfield 15, 3) := by decide +kernel
theorem dX5_init_17 : decode cX5_init 17 = .ok (.aload_n 0, 1) := by decide +kernel
theorem dX5_init_18 : decode cX5_init 18 = .ok (.bipush 8, 2) := by decide +kernel
theorem dX5_init_20 : decode cX5_init 20 = .ok (.anewarray 19, 3) := by decide +kernel
theorem dX5_init_23 : decode cX5_init 23 = .ok (.putfield 21, 3) := by decide +kernel
theorem dX5_init_26 : decode cX5_init 26 = .ok (.aload_n 0, 1) := by decide +kernel
theorem dX5_init_27 : decode cX5_init 27 = .ok (.iconst 0, 1) := by decide +kernel
theorem dX5_init_28 : decode cX5_init 28 = .ok (.putfield 25, 3) := by decide +kernel
theorem dX5_init_31 : decode cX5_init 31 = .ok (.aload_n 0, 1) := by decide +kernel
theorem dX5_init_32 : decode cX5_init 32 = .ok (.bipush 10, 2) := by decide +kernel
theorem dX5_init_34 : decode cX5_init 34 = .ok (.anewarray 28, 3) := by decide +kernel
theorem dX5_init_37 : decode cX5_init 37 = .ok (.putfield 30, 3) := by decide +kernel
theorem dX5_init_40 : decode cX5_init 40 = .ok (.aload_n 0, 1) := by decide +kernel
theorem dX5_init_41 : decode cX5_init 41 = .ok (.iconst 0, 1) := by decide +kernel
theorem dX5_init_42 : decode cX5_init 42 = .ok (.putfield 34, 3) := by decide +kernel
theorem dX5_init_45 : decode cX5_init 45 = .ok (.aload_n 0, 1) := by decide +kernel
theorem dX5_init_46 : decode cX5_init 46 = .ok (.bipush 12, 2) := by decide +kernel
theorem dX5_init_48 : decode cX5_init 48 = .ok (.anewarray 37, 3) := by decide +kernel
theorem dX5_init_51 : decode cX5_init 51 = .ok (.putfield 39, 3) := by decide +kernel
theorem dX5_init_54 : decode cX5_init 54 = .ok (.aload_n 0, 1) := by decide +kernel
theorem dX5_init_55 : decode cX5_init 55 = .ok (.iconst 0, 1) := by decide +kernel
theorem dX5_init_56 : decode cX5_init 56 = .ok (.putfield 43, 3) := by decide +kernel
theorem dX5_init_59 : decode cX5_init 59 = .ok (.iconst 0, 1) := by decide +kernel
theorem dX5_init_60 : decode cX5_init 60 = .ok (.istore_n 1, 1) := by decide +kernel
theorem dX5_init_61 : decode cX5_init 61 = .ok (.iload_n 1, 1) := by decide +kernel
theorem dX5_init_62 : decode cX5_init 62 = .ok (.bipush 28, 2) := by decide +kernel
theorem dX5_init_64 : decode cX5_init 64 = .ok (.if_icmp .ge 23, 3) := by decide +kernel
theorem dX5_init_67 : decode cX5_init 67 = .ok (.aload_n 0, 1) := by decide +kernel
theorem dX5_init_68 : decode cX5_init 68 = .ok (.getfield 15, 3) := by decide +kernel
theorem dX5_init_71 : decode cX5_init 71 = .ok (.iload_n 1, 1) := by decide +kernel
theorem dX5_init_72 : decode cX5_init 72 = .ok (.getstatic 46, 3) := by decide +kernel
theorem dX5_init_75 : decode cX5_init 75 = .ok (.iload_n 1, 1) := by decide +kernel
theorem dX5_init_76 : decode cX5_init 76 = .ok (.bipush 7, 2) := by decide +kernel
theorem dX5_init_78 : decode cX5_init 78 = .ok (.irem, 1) := by decide +kernel
theorem dX5_init_79 : decode cX5_init 79 = .ok (.iaload, 1) := by decide +kernel
theorem dX5_init_80 : decode cX5_init 80 = .ok (.iastore, 1) := by decide +kernel
theorem dX5_init_81 : decode cX5_init 81 = .ok (.iinc 1 1, 3) := by decide +kernel
theorem dX5_init_84 : decode cX5_init 84 = .ok (.goto (-23), 3) := by decide +kernel
theorem dX5_init_87 : decode cX5_init 87 = .ok (.iconst 0, 1) := by decide +kernel
theorem dX5_init_88 : decode cX5_init 88 = .ok (.istore_n 1, 1) := by decide +kernel
theorem dX5_init_89 : decode cX5_init 89 = .ok (.iload_n 1, 1) := by decide +kernel
theorem dX5_init_90 : decode cX5_init 90 = .ok (.bipush 8, 2) := by decide +kernel
theorem dX5_init_92 : decode cX5_init 92 = .ok (.if_icmp .ge 22, 3) := by decide +kernel
theorem dX5_init_95 : decode cX5_init 95 = .ok (.aload_n 0, 1) := by decide +kernel
theorem dX5_init_96 : decode cX5_init 96 = .ok (.getfield 21, 3) := by decide +kernel
theorem dX5_init_99 : decode cX5_init 99 = .ok (.iload_n 1, 1) := by decide +kernel
theorem dX5_init_100 : decode cX5_init 100 = .ok (.new 19, 3) := by decide +kernel
theorem dX5_init_103 : decode cX5_init 103 = .ok (.dup, 1) := by decide +kernel
theorem dX5_init_104 : decode cX5_init 104 = .ok (.invokespecial 49, 3) := by decide +kernel
theorem dX5_init_107 : decode cX5_init 107 = .ok (.aastore, 1) := by decide +kernel
theorem dX5_init_108 : decode cX5_init 108 = .ok (.iinc 1 1, 3) := by decide +kernel
theorem dX5_init_111 : decode cX5_init 111 = .ok (.goto (-22), 3) := by decide +kernel
theorem dX5_init_114 : decode cX5_init 114 = .ok (.iconst 0, 1) := by decide +kernel
theorem dX5_init_115 : decode cX5_init 115 = .ok (.istore_n 1, 1) := by decide +kernel
theorem dX5_init_116 : decode cX5_init 116 = .ok (.iload_n 1, 1) := by decide +kernel
theorem dX5_init_117 : decode cX5_init 117 = .ok (.bipush 10, 2) := by decide +kernel
theorem dX5_init_119 : decode cX5_init 119 = .ok (.if_icmp .ge 22, 3) := by decide +kernel
theorem dX5_init_122 : decode cX5_init 122 = .ok (.aload_n 0, 1) := by decide +kernel
theorem dX5_init_123 : decode cX5_init 123 = .ok (.getfield 30, 3) := by decide +kernel
theorem dX5_init_126 : decode cX5_init 126 = .ok (.iload_n 1, 1) := by decide +kernel
theorem dX5_init_127 : decode cX5_init 127 = .ok (.new 28, 3) := by decide +kernel
theorem dX5_init_130 : decode cX5_init 130 = .ok (.dup, 1) := by decide +kernel
theorem dX5_init_131 : decode cX5_init 131 = .ok (.invokespecial 50, 3) := by decide +kernel
theorem dX5_init_134 : decode cX5_init 134 = .ok (.aastore, 1) := by decide +kernel
theorem dX5_init_135 : decode cX5_init 135 = .ok (.iinc 1 1, 3) := by decide +kernel
theorem dX5_init_138 : decode cX5_init 138 = .ok (.goto (-22), 3) := by decide +kernel
theorem dX5_init_141 : decode cX5_init 141 = .ok (.iconst 0, 1) := by decide +kernel
theorem dX5_init_142 : decode cX5_init 142 = .ok (.istore_n 1, 1) := by decide +kernel
theorem dX5_init_143 : decode cX5_init 143 = .ok (.iload_n 1, 1) := by decide +kernel
theorem dX5_init_144 : decode cX5_init 144 = .ok (.bipush 12, 2) := by decide +kernel
theorem dX5_init_146 : decode cX5_init 146 = .ok (.if_icmp .ge 22, 3) := by decide +kernel
theorem dX5_init_149 : decode cX5_init 149 = .ok (.aload_n 0, 1) := by decide +kernel
theorem dX5_init_150 : decode cX5_init 150 = .ok (.getfield 39, 3) := by decide +kernel
theorem dX5_init_153 : decode cX5_init 153 = .ok (.iload_n 1, 1) := by decide +kernel
theorem dX5_init_154 : decode cX5_init 154 = .ok (.new 37, 3) := by decide +kernel
theorem dX5_init_157 : decode cX5_init 157 = .ok (.dup, 1) := by decide +kernel
theorem dX5_init_158 : decode cX5_init 158 = .ok (.invokespecial 51, 3) := by decide +kernel
theorem dX5_init_161 : decode cX5_init 161 = .ok (.aastore, 1) := by decide +kernel
theorem dX5_init_162 : decode cX5_init 162 = .ok (.iinc 1 1, 3) := by decide +kernel
theorem dX5_init_165 : decode cX5_init 165 = .ok (.goto (-22), 3) := by decide +kernel
theorem dX5_init_168 : decode cX5_init 168 = .ok (.return_, 1) := by decide +kernel
theorem dX5_copyFrom_0 : decode cX5_copyFrom 0 = .ok (.aload_n 0, 1) := by decide +kernel
theorem dX5_copyFrom_1 : decode cX5_copyFrom 1 = .ok (.aload_n 1, 1) := by decide +kernel
theorem dX5_copyFrom_2 : decode cX5_copyFrom 2 = .ok (.getfield 9, 3) := by decide +kernel
theorem dX5_copyFrom_5 : decode cX5_copyFrom 5 = .ok (.putfield 9, 3) := by decide +kernel
theorem dX5_copyFrom_8 : decode cX5_copyFrom 8 = .ok (.aload_n 1, 1) := by decide +kernel
theorem dX5_copyFrom_9 : decode cX5_copyFrom 9 = .ok (.getfield 15, 3) := by decide +kernel
theorem dX5_copyFrom_12 : decode cX5_copyFrom 12 = .ok (.iconst 0, 1) := by decide +kernel
theorem dX5_copyFrom_13 : decode cX5_copyFrom 13 = .ok (.aload_n 0, 1) := by decide +kernel
theorem dX5_copyFrom_14 : decode cX5_copyFrom 14 = .ok (.getfield 15, 3) := by decide +kernel
theorem dX5_copyFrom_17 : decode cX5_copyFrom 17 = .ok (.iconst 0, 1) := by decide +kernel
theorem dX5_copyFrom_18 : decode cX5_copyFrom 18 = .ok (.bipush 28, 2) := by decide +kernel
theorem dX5_copyFrom_20 : decode cX5_copyFrom 20 = .ok (.invokestatic 52, 3) := by decide +kernel
theorem dX5_copyFrom_23 : decode cX5_copyFrom 23 = .ok (.aload_n 0, 1) := by decide +kernel
theorem dX5_copyFrom_24 : decode cX5_copyFrom 24 = .ok (.aload_n 1, 1) := by decide +kernel
theorem dX5_copyFrom_25 : decode cX5_copyFrom 25 = .ok (.getfield 25, 3) := by decide +kernel
theorem dX5_copyFrom_28 : decode cX5_copyFrom 28 = .ok (.putfield 25, 3) := by decide +kernel
theorem dX5_copyFrom_31 : decode cX5_copyFrom 31 = .ok (.iconst 0, 1) := by decide +kernel
theorem dX5_copyFrom_32 : decode cX5_copyFrom 32 = .ok (.istore_n 2, 1) := by decide +kernel
theorem dX5_copyFrom_33 : decode cX5_copyFrom 33 = .ok (.iload_n 2, 1) := by decide +kernel
theorem dX5_copyFrom_34 : decode cX5_copyFrom 34 = .ok (.aload_n 0, 1) := by decide +kernel
theorem dX5_copyFrom_35 : decode cX5_copyFrom 35 = .ok (.getfield 25, 3) := by decide +kernel
theorem dX5_copyFrom_38 : decode cX5_copyFrom 38 = .ok (.if_icmp .ge 24, 3) := by decide +kernel
theorem dX5_copyFrom_41 : decode cX5_copyFrom 41 = .ok (.aload_n 0, 1) := by decide +kernel
theorem dX5_copyFrom_42 : decode cX5_copyFrom 42 = .ok (.getfield 21, 3) := by decide +kernel
theorem dX5_copyFrom_45 : decode cX5_copyFrom 45 = .ok (.iload_n 2, 1) := by decide +kernel
theorem dX5_copyFrom_46 : decode cX5_copyFrom 46 = .ok (.aaload, 1) := by decide +kernel
theorem dX5_copyFrom_47 : decode cX5_copyFrom 47 = .ok (.aload_n 1, 1) := by decide +kernel
theorem dX5_copyFrom_48 : decode cX5_copyFrom 48 = .ok (.getfield 21, 3) := by decide +kernel
theorem dX5_copyFrom_51 : decode cX5_copyFrom 51 = .ok (.iload_n 2, 1) := by decide +kernel
theorem dX5_copyFrom_52 : decode cX5_copyFrom 52 = .ok (.aaload, 1) := by decide +kernel
theorem dX5_copyFrom_53 : decode cX5_copyFrom 53 = .ok (.invokevirtual 58, 3) := by decide +kernel
theorem dX5_copyFrom_56 : decode cX5_copyFrom 56 = .ok (.iinc 2 1, 3) := by decide +kernel
theorem dX5_copyFrom_59 : decode cX5_copyFrom 59 = .ok (.goto (-26), 3) := by decide +kernel
theorem dX5_copyFrom_62 : decode cX5_copyFrom 62 = .ok (.aload_n 0, 1) := by decide +kernel
theorem dX5_copyFrom_63 : decode cX5_copyFrom 63 = .ok (.aload_n 1, 1) := by decide +kernel
theorem dX5_copyFrom_64 : decode cX5_copyFrom 64 = .ok (.getfield 34, 3) := by decide +kernel
theorem dX5_copyFrom_67 : decode cX5_copyFrom 67 = .ok (.putfield 34, 3) := by decide +kernel
theorem dX5_copyFrom_70 : decode cX5_copyFrom 70 = .ok (.iconst 0, 1) := by decide +kernel
theorem dX5_copyFrom_71 : decode cX5_copyFrom 71 = .ok (.istore_n 2, 1) := by decide +kernel
theorem dX5_copyFrom_72 : decode cX5_copyFrom 72 = .ok (.iload_n 2, 1) := by decide +kernel
theorem dX5_copyFrom_73 : decode cX5_copyFrom 73 = .ok (.aload_n 0, 1) := by decide +kernel
theorem dX5_copyFrom_74 : decode cX5_copyFrom 74 = .ok (.getfield 34, 3) := by decide +kernel
theorem dX5_copyFrom_77 : decode cX5_copyFrom 77 = .ok (.if_icmp .ge 24, 3) := by decide +kernel
theorem dX5_copyFrom_80 : decode cX5_copyFrom 80 = .ok (.aload_n 0, 1) := by decide +kernel
theorem dX5_copyFrom_81 : decode cX5_copyFrom 81 = .ok (.getfield 30, 3) := by decide +kernel
theorem dX5_copyFrom_84 : decode cX5_copyFrom 84 = .ok (.iload_n 2, 1) := by decide +kernel
theorem dX5_copyFrom_85 : decode cX5_copyFrom 85 = .ok (.aaload, 1) := by decide +kernel
theorem dX5_copyFrom_86 : decode cX5_copyFrom 86 = .ok (.aload_n 1, 1) := by decide +kernel
theorem dX5_copyFrom_87 : decode cX5_copyFrom 87 = .ok (.getfield 30, 3) := by decide +kernel
theorem dX5_copyFrom_90 : decode cX5_copyFrom 90 = .ok (.iload_n 2, 1) := by decide +kernel
theorem dX5_copyFrom_91 : decode cX5_copyFrom 91 = .ok (.aaload, 1) := by decide +kernel
theorem dX5_copyFrom_92 : decode cX5_copyFrom 92 = .ok (.invokevirtual 62, 3) := by decide +kernel
theorem dX5_copyFrom_95 : decode cX5_copyFrom 95 = .ok (.iinc 2 1, 3) := by decide +kernel
theorem dX5_copyFrom_98 : decode cX5_copyFrom 98 = .ok (.goto (-26), 3) := by decide +kernel
theorem dX5_copyFrom_101 : decode cX5_copyFrom 101 = .ok (.aload_n 0, 1) := by decide +kernel
theorem dX5_copyFrom_102 : decode cX5_copyFrom 102 = .ok (.aload_n 1, 1) := by decide +kernel
theorem dX5_copyFrom_103 : decode cX5_copyFrom 103 = .ok (.getfield 43, 3) := by decide +kernel
theorem dX5_copyFrom_106 : decode cX5_copyFrom 106 = .ok (.putfield 43, 3) := by decide +kernel
theorem dX5_copyFrom_109 : decode cX5_copyFrom 109 = .ok (.iconst 0, 1) := by decide +kernel
theorem dX5_copyFrom_110 : decode cX5_copyFrom 110 = .ok (.istore_n 2, 1) := by decide +kernel
theorem dX5_copyFrom_111 : decode cX5_copyFrom 111 = .ok (.iload_n 2, 1) := by decide +kernel
theorem dX5_copyFrom_112 : decode cX5_copyFrom 112 = .ok (.aload_n 0, 1) := by decide +kernel
theorem dX5_copyFrom_113 : decode cX5_copyFrom 113 = .ok (.getfield 43, 3) := by decide +kernel
theorem dX5_copyFrom_116 : decode cX5_copyFrom 116 = .ok (.if_icmp .ge 24, 3) := by decide +kernel
theorem dX5_copyFrom_119 : decode cX5_copyFrom 119 = .ok (.aload_n 0, 1) := by decide +kernel
theorem dX5_copyFrom_120 : decode cX5_copyFrom 120 = .ok (.getfield 39, 3) := by decide +kernel
theorem dX5_copyFrom_123 : decode cX5_copyFrom 123 = .ok (.iload_n 2, 1) := by decide +kernel
theorem dX5_copyFrom_124 : decode cX5_copyFrom 124 = .ok (.aaload, 1) := by decide +kernel
theorem dX5_copyFrom_125 : decode cX5_copyFrom 125 = .ok (.aload_n 1, 1) := by decide +kernel
theorem dX5_copyFrom_126 : decode cX5_copyFrom 126 = .ok (.getfield 39, 3) := by decide +kernel
theorem dX5_copyFrom_129 : decode cX5_copyFrom 129 = .ok (.iload_n 2, 1) := by decide +kernel
theorem dX5_copyFrom_130 : decode cX5_copyFrom 130 = .ok (.aaload, 1) := by decide +kernel
theorem dX5_copyFrom_131 : decode cX5_copyFrom 131 = .ok (.invokevirtual 65, 3) := by decide +kernel
theorem dX5_copyFrom_134 : decode cX5_copyFrom 134 = .ok (.iinc 2 1, 3) := by decide +kernel
theorem dX5_copyFrom_137 : decode cX5_copyFrom 137 = .ok (.goto (-26), 3) := by decide +kernel
theorem dX5_copyFrom_140 : decode cX5_copyFrom 140 = .ok (.return_, 1) := by decide +kernel
theorem dX5_ruleOf_0 : decode cX5_ruleOf 0 = .ok (.iload_n 1, 1) := by decide +kernel
theorem dX5_ruleOf_1 : decode cX5_ruleOf 1 = .ok (.bipush 7, 2) := by decide +kernel
theorem dX5_ruleOf_3 : decode cX5_ruleOf 3 = .ok (.imul, 1) := by decide +kernel
theorem dX5_ruleOf_4 : decode cX5_ruleOf 4 = .ok (.iload_n 2, 1) := by decide +kernel
theorem dX5_ruleOf_5 : decode cX5_ruleOf 5 = .ok (.iadd, 1) := by decide +kernel
theorem dX5_ruleOf_6 : decode cX5_ruleOf 6 = .ok (.istore_n 3, 1) := by decide +kernel
theorem dX5_ruleOf_7 : decode cX5_ruleOf 7 = .ok (.iload_n 3, 1) := by decide +kernel
theorem dX5_ruleOf_8 : decode cX5_ruleOf 8 = .ok (.ifCond .lt 18, 3) := by decide +kernel
theorem dX5_ruleOf_11 : decode cX5_ruleOf 11 = .ok (.iload_n 3, 1) := by decide +kernel
theorem dX5_ruleOf_12 : decode cX5_ruleOf 12 = .ok (.bipush 28, 2) := by decide +kernel
theorem dX5_ruleOf_14 : decode cX5_ruleOf 14 = .ok (.if_icmp .ge 12, 3) := by decide +kernel
theorem dX5_ruleOf_17 : decode cX5_ruleOf 17 = .ok (.aload_n 0, 1) := by decide +kernel
theorem dX5_ruleOf_18 : decode cX5_ruleOf 18 = .ok (.getfield 15, 3) := by decide +kernel
theorem dX5_ruleOf_21 : decode cX5_ruleOf 21 = .ok (.iload_n 3, 1) := by decide +kernel
theorem dX5_ruleOf_22 : decode cX5_ruleOf 22 = .ok (.iaload, 1) := by decide +kernel
theorem dX5_ruleOf_23 : decode cX5_ruleOf 23 = .ok (.goto 4, 3) := by decide +kernel
theorem dX5_ruleOf_26 : decode cX5_ruleOf 26 = .ok (.iconst 0, 1) := by decide +kernel
theorem dX5_ruleOf_27 : decode cX5_ruleOf 27 = .ok (.ireturn, 1) := by decide +kernel
theorem dX5_setRule_0 : decode cX5_setRule 0 = .ok (.iload_n 1, 1) := by decide +kernel
theorem dX5_setRule_1 : decode cX5_setRule 1 = .ok (.bipush 7, 2) := by decide +kernel
theorem dX5_setRule_3 : decode cX5_setRule 3 = .ok (.imul, 1) := by decide +kernel
theorem dX5_setRule_4 : decode cX5_setRule 4 = .ok (.iload_n 2, 1) := by decide +kernel
theorem dX5_setRule_5 : decode cX5_setRule 5 = .ok (.iadd, 1) := by decide +kernel
theorem dX5_setRule_6 : decode cX5_setRule 6 = .ok (.istore 4, 2) := by decide +kernel
theorem dX5_setRule_8 : decode cX5_setRule 8 = .ok (.iload 4, 2) := by decide +kernel
theorem dX5_setRule_10 : decode cX5_setRule 10 = .ok (.ifCond .lt 18, 3) := by decide +kernel
theorem dX5_setRule_13 : decode cX5_setRule 13 = .ok (.iload 4, 2) := by decide +kernel
theorem dX5_setRule_15 : decode cX5_setRule 15 = .ok (.bipush 28, 2) := by decide +kernel
theorem dX5_setRule_17 : decode cX5_setRule 17 = .ok (.if_icmp .ge 11, 3) := by decide +kernel
theorem dX5_setRule_20 : decode cX5_setRule 20 = .ok (.aload_n 0, 1) := by decide +kernel
theorem dX5_setRule_21 : decode cX5_setRule 21 = .ok (.getfield 15, 3) := by decide +kernel
theorem dX5_setRule_24 : decode cX5_setRule 24 = .ok (.iload 4, 2) := by decide +kernel
theorem dX5_setRule_26 : decode cX5_setRule 26 = .ok (.iload_n 3, 1) := by decide +kernel
theorem dX5_setRule_27 : decode cX5_setRule 27 = .ok (.iastore, 1) := by decide +kernel
theorem dX5_setRule_28 : decode cX5_setRule 28 = .ok (.return_, 1) := by decide +kernel
theorem dX5_lotAt_0 : decode cX5_lotAt 0 = .ok (.iload_n 1, 1) := by decide +kernel
theorem dX5_lotAt_1 : decode cX5_lotAt 1 = .ok (.ifCond .lt 20, 3) := by decide +kernel
theorem dX5_lotAt_4 : decode cX5_lotAt 4 = .ok (.iload_n 1, 1) := by decide +kernel
theorem dX5_lotAt_5 : decode cX5_lotAt 5 = .ok (.aload_n 0, 1) := by decide +kernel
theorem dX5_lotAt_6 : decode cX5_lotAt 6 = .ok (.getfield 25, 3) := by decide +kernel
theorem dX5_lotAt_9 : decode cX5_lotAt 9 = .ok (.if_icmp .ge 12, 3) := by decide +kernel
theorem dX5_lotAt_12 : decode cX5_lotAt 12 = .ok (.aload_n 0, 1) := by decide +kernel
theorem dX5_lotAt_13 : decode cX5_lotAt 13 = .ok (.getfield 21, 3) := by decide +kernel
theorem dX5_lotAt_16 : decode cX5_lotAt 16 = .ok (.iload_n 1, 1) := by decide +kernel
theorem dX5_lotAt_17 : decode cX5_lotAt 17 = .ok (.aaload, 1) := by decide +kernel
theorem dX5_lotAt_18 : decode cX5_lotAt 18 = .ok (.goto 9, 3) := by decide +kernel
theorem dX5_lotAt_21 : decode cX5_lotAt 21 = .ok (.aload_n 0, 1) := by decide +kernel
theorem dX5_lotAt_22 : decode cX5_lotAt 22 = .ok (.getfield 21, 3) := by decide +kernel
theorem dX5_lotAt_25 : decode cX5_lotAt 25 = .ok (.iconst 0, 1) := by decide +kernel
theorem dX5_lotAt_26 : decode cX5_lotAt 26 = .ok (.aaload, 1) := by decide +kernel
theorem dX5_lotAt_27 : decode cX5_lotAt 27 = .ok (.areturn, 1) := by decide +kernel
theorem dX5_ruleFor_0 : decode cX5_ruleFor 0 = .ok (.aload_n 0, 1) := by decide +kernel
theorem dX5_ruleFor_1 : decode cX5_ruleFor 1 = .ok (.aload_n 0, 1) := by decide +kernel
theorem dX5_ruleFor_2 : decode cX5_ruleFor 2 = .ok (.iload_n 1, 1) := by decide +kernel
theorem dX5_ruleFor_3 : decode cX5_ruleFor 3 = .ok (.invokevirtual 68, 3) := by decide +kernel
theorem dX5_ruleFor_6 : decode cX5_ruleFor 6 = .ok (.getfield 72, 3) := by decide +kernel
theorem dX5_ruleFor_9 : decode cX5_ruleFor 9 = .ok (.iload_n 2, 1) := by decide +kernel
theorem dX5_ruleFor_10 : decode cX5_ruleFor 10 = .ok (.invokevirtual 75, 3) := by decide +kernel
theorem dX5_ruleFor_13 : decode cX5_ruleFor 13 = .ok (.ireturn, 1) := by decide +kernel
theorem dX5_lotWith_0 : decode cX5_lotWith 0 = .ok (.iconst 0, 1) := by decide +kernel
theorem dX5_lotWith_1 : decode cX5_lotWith 1 = .ok (.istore_n 3, 1) := by decide +kernel
theorem dX5_lotWith_2 : decode cX5_lotWith 2 = .ok (.iload_n 3, 1) := by decide +kernel
theorem dX5_lotWith_3 : decode cX5_lotWith 3 = .ok (.aload_n 0, 1) := by decide +kernel
theorem dX5_lotWith_4 : decode cX5_lotWith 4 = .ok (.getfield 25, 3) := by decide +kernel
theorem dX5_lotWith_7 : decode cX5_lotWith 7 = .ok (.if_icmp .ge 28, 3) := by decide +kernel
theorem dX5_lotWith_10 : decode cX5_lotWith 10 = .ok (.aload_n 0, 1) := by decide +kernel
theorem dX5_lotWith_11 : decode cX5_lotWith 11 = .ok (.getfield 21, 3) := by decide +kernel
theorem dX5_lotWith_14 : decode cX5_lotWith 14 = .ok (.iload_n 3, 1) := by decide +kernel
theorem dX5_lotWith_15 : decode cX5_lotWith 15 = .ok (.aaload, 1) := by decide +kernel
theorem dX5_lotWith_16 : decode cX5_lotWith 16 = .ok (.getfield 79, 3) := by decide +kernel
theorem dX5_lotWith_19 : decode cX5_lotWith 19 = .ok (.iload_n 1, 1) := by decide +kernel
theorem dX5_lotWith_20 : decode cX5_lotWith 20 = .ok (.iload_n 2, 1) := by decide +kernel
theorem dX5_lotWith_21 : decode cX5_lotWith 21 = .ok (.invokevirtual 83, 3) := by decide +kernel
theorem dX5_lotWith_24 : decode cX5_lotWith 24 = .ok (.ifCond .eq 5, 3) := by decide +kernel
theorem dX5_lotWith_27 : decode cX5_lotWith 27 = .ok (.iload_n 3, 1) := by decide +kernel
theorem dX5_lotWith_28 : decode cX5_lotWith 28 = .ok (.ireturn, 1) := by decide +kernel
theorem dX5_lotWith_29 : decode cX5_lotWith 29 = .ok (.iinc 3 1, 3) := by decide +kernel
theorem dX5_lotWith_32 : decode cX5_lotWith 32 = .ok (.goto (-30), 3) := by decide +kernel
theorem dX5_lotWith_35 : decode cX5_lotWith 35 = .ok (.iconst (-1), 1) := by decide +kernel
theorem dX5_lotWith_36 : decode cX5_lotWith 36 = .ok (.ireturn, 1) := by decide +kernel
theorem dX5_standingPermitWith_0 : decode cX5_standingPermitWith 0 = .ok (.iconst 0, 1) := by decide +kernel
theorem dX5_standingPermitWith_1 : decode cX5_standingPermitWith 1 = .ok (.istore_n 3, 1) := by decide +kernel
theorem dX5_standingPermitWith_2 : decode cX5_standingPermitWith 2 = .ok (.iload_n 3, 1) := by decide +kernel
theorem dX5_standingPermitWith_3 : decode cX5_standingPermitWith 3 = .ok (.aload_n 0, 1) := by decide +kernel
theorem dX5_standingPermitWith_4 : decode cX5_standingPermitWith 4 = .ok (.getfield 34, 3) := by decide +kernel
theorem dX5_standingPermitWith_7 : decode cX5_standingPermitWith 7 = .ok (.if_icmp .ge 40, 3) := by decide +kernel
theorem dX5_standingPermitWith_10 : decode cX5_standingPermitWith 10 = .ok (.aload_n 0, 1) := by decide +kernel
theorem dX5_standingPermitWith_11 : decode cX5_standingPermitWith 11 = .ok (.getfield 30, 3) := by decide +kernel
theorem dX5_standingPermitWith_14 : decode cX5_standingPermitWith 14 = .ok (.iload_n 3, 1) := by decide +kernel
theorem dX5_standingPermitWith_15 : decode cX5_standingPermitWith 15 = .ok (.aaload, 1) := by decide +kernel
theorem dX5_standingPermitWith_16 : decode cX5_standingPermitWith 16 = .ok (.invokevirtual 89, 3) := by decide +kernel
theorem dX5_standingPermitWith_19 : decode cX5_standingPermitWith 19 = .ok (.ifCond .eq 22, 3) := by decide +kernel
theorem dX5_standingPermitWith_22 : decode cX5_standingPermitWith 22 = .ok (.aload_n 0, 1) := by decide +kernel
theorem dX5_standingPermitWith_23 : decode cX5_standingPermitWith 23 = .ok (.getfield 30, 3) := by decide +kernel
theorem dX5_standingPermitWith_26 : decode cX5_standingPermitWith 26 = .ok (.iload_n 3, 1) := by decide +kernel
theorem dX5_standingPermitWith_27 : decode cX5_standingPermitWith 27 = .ok (.aaload, 1) := by decide +kernel
theorem dX5_standingPermitWith_28 : decode cX5_standingPermitWith 28 = .ok (.getfield 93, 3) := by decide +kernel
theorem dX5_standingPermitWith_31 : decode cX5_standingPermitWith 31 = .ok (.iload_n 1, 1) := by decide +kernel
theorem dX5_standingPermitWith_32 : decode cX5_standingPermitWith 32 = .ok (.iload_n 2, 1) := by decide +kernel
theorem dX5_standingPermitWith_33 : decode cX5_standingPermitWith 33 = .ok (.invokevirtual 83, 3) := by decide +kernel
theorem dX5_standingPermitWith_36 : decode cX5_standingPermitWith 36 = .ok (.ifCond .eq 5, 3) := by decide +kernel
theorem dX5_standingPermitWith_39 : decode cX5_standingPermitWith 39 = .ok (.iload_n 3, 1) := by decide +kernel
theorem dX5_standingPermitWith_40 : decode cX5_standingPermitWith 40 = .ok (.ireturn, 1) := by decide +kernel
theorem dX5_standingPermitWith_41 : decode cX5_standingPermitWith 41 = .ok (.iinc 3 1, 3) := by decide +kernel
theorem dX5_standingPermitWith_44 : decode cX5_standingPermitWith 44 = .ok (.goto (-42), 3) := by decide +kernel
theorem dX5_standingPermitWith_47 : decode cX5_standingPermitWith 47 = .ok (.iconst (-1), 1) := by decide +kernel
theorem dX5_standingPermitWith_48 : decode cX5_standingPermitWith 48 = .ok (.ireturn, 1) := by decide +kernel
theorem dX5_hasLotCellIn_0 : decode cX5_hasLotCellIn 0 = .ok (.iconst 0, 1) := by decide +kernel
theorem dX5_hasLotCellIn_1 : decode cX5_hasLotCellIn 1 = .ok (.istore_n 2, 1) := by decide +kernel
theorem dX5_hasLotCellIn_2 : decode cX5_hasLotCellIn 2 = .ok (.iload_n 2, 1) := by decide +kernel
theorem dX5_hasLotCellIn_3 : decode cX5_hasLotCellIn 3 = .ok (.aload_n 0, 1) := by decide +kernel
theorem dX5_hasLotCellIn_4 : decode cX5_hasLotCellIn 4 = .ok (.getfield 25, 3) := by decide +kernel
theorem dX5_hasLotCellIn_7 : decode cX5_hasLotCellIn 7 = .ok (.if_icmp .ge 27, 3) := by decide +kernel
theorem dX5_hasLotCellIn_10 : decode cX5_hasLotCellIn 10 = .ok (.aload_n 0, 1) := by decide +kernel
theorem dX5_hasLotCellIn_11 : decode cX5_hasLotCellIn 11 = .ok (.getfield 21, 3) := by decide +kernel
theorem dX5_hasLotCellIn_14 : decode cX5_hasLotCellIn 14 = .ok (.iload_n 2, 1) := by decide +kernel
theorem dX5_hasLotCellIn_15 : decode cX5_hasLotCellIn 15 = .ok (.aaload, 1) := by decide +kernel
theorem dX5_hasLotCellIn_16 : decode cX5_hasLotCellIn 16 = .ok (.getfield 79, 3) := by decide +kernel
theorem dX5_hasLotCellIn_19 : decode cX5_hasLotCellIn 19 = .ok (.aload_n 1, 1) := by decide +kernel
theorem dX5_hasLotCellIn_20 : decode cX5_hasLotCellIn 20 = .ok (.invokevirtual 96, 3) := by decide +kernel
theorem dX5_hasLotCellIn_23 : decode cX5_hasLotCellIn 23 = .ok (.ifCond .le 5, 3) := by decide +kernel
theorem dX5_hasLotCellIn_26 : decode cX5_hasLotCellIn 26 = .ok (.iconst 1, 1) := by decide +kernel
theorem dX5_hasLotCellIn_27 : decode cX5_hasLotCellIn 27 = .ok (.ireturn, 1) := by decide +kernel
theorem dX5_hasLotCellIn_28 : decode cX5_hasLotCellIn 28 = .ok (.iinc 2 1, 3) := by decide +kernel
theorem dX5_hasLotCellIn_31 : decode cX5_hasLotCellIn 31 = .ok (.goto (-29), 3) := by decide +kernel
theorem dX5_hasLotCellIn_34 : decode cX5_hasLotCellIn 34 = .ok (.iconst 0, 1) := by decide +kernel
theorem dX5_hasLotCellIn_35 : decode cX5_hasLotCellIn 35 = .ok (.ireturn, 1) := by decide +kernel
theorem dX5_cellsInLots_0 : decode cX5_cellsInLots 0 = .ok (.iconst 0, 1) := by decide +kernel
theorem dX5_cellsInLots_1 : decode cX5_cellsInLots 1 = .ok (.istore_n 1, 1) := by decide +kernel
theorem dX5_cellsInLots_2 : decode cX5_cellsInLots 2 = .ok (.iconst 0, 1) := by decide +kernel
theorem dX5_cellsInLots_3 : decode cX5_cellsInLots 3 = .ok (.istore_n 2, 1) := by decide +kernel
theorem dX5_cellsInLots_4 : decode cX5_cellsInLots 4 = .ok (.iload_n 2, 1) := by decide +kernel
theorem dX5_cellsInLots_5 : decode cX5_cellsInLots 5 = .ok (.aload_n 0, 1) := by decide +kernel
theorem dX5_cellsInLots_6 : decode cX5_cellsInLots 6 = .ok (.getfield 25, 3) := by decide +kernel
theorem dX5_cellsInLots_9 : decode cX5_cellsInLots 9 = .ok (.if_icmp .ge 21, 3) := by decide +kernel
theorem dX5_cellsInLots_12 : decode cX5_cellsInLots 12 = .ok (.iload_n 1, 1) := by decide +kernel
theorem dX5_cellsInLots_13 : decode cX5_cellsInLots 13 = .ok (.aload_n 0, 1) := by decide +kernel
theorem dX5_cellsInLots_14 : decode cX5_cellsInLots 14 = .ok (.getfield 21, 3) := by decide +kernel
theorem dX5_cellsInLots_17 : decode cX5_cellsInLots 17 = .ok (.iload_n 2, 1) := by decide +kernel
theorem dX5_cellsInLots_18 : decode cX5_cellsInLots 18 = .ok (.aaload, 1) := by decide +kernel
theorem dX5_cellsInLots_19 : decode cX5_cellsInLots 19 = .ok (.getfield 100, 3) := by decide +kernel
theorem dX5_cellsInLots_22 : decode cX5_cellsInLots 22 = .ok (.iadd, 1) := by decide +kernel
theorem dX5_cellsInLots_23 : decode cX5_cellsInLots 23 = .ok (.istore_n 1, 1) := by decide +kernel
theorem dX5_cellsInLots_24 : decode cX5_cellsInLots 24 = .ok (.iinc 2 1, 3) := by decide +kernel
theorem dX5_cellsInLots_27 : decode cX5_cellsInLots 27 = .ok (.goto (-23), 3) := by decide +kernel
theorem dX5_cellsInLots_30 : decode cX5_cellsInLots 30 = .ok (.iload_n 1, 1) := by decide +kernel
theorem dX5_cellsInLots_31 : decode cX5_cellsInLots 31 = .ok (.ireturn, 1) := by decide +kernel
theorem dX5_countsFor_0 : decode cX5_countsFor 0 = .ok (.aload_n 0, 1) := by decide +kernel
theorem dX5_countsFor_1 : decode cX5_countsFor 1 = .ok (.aload_n 2, 1) := by decide +kernel
theorem dX5_countsFor_2 : decode cX5_countsFor 2 = .ok (.if_acmp .eq 22, 3) := by decide +kernel
theorem dX5_countsFor_5 : decode cX5_countsFor 5 = .ok (.aload_n 0, 1) := by decide +kernel
theorem dX5_countsFor_6 : decode cX5_countsFor 6 = .ok (.getfield 103, 3) := by decide +kernel
theorem dX5_countsFor_9 : decode cX5_countsFor 9 = .ok (.iload_n 1, 1) := by decide +kernel
theorem dX5_countsFor_10 : decode cX5_countsFor 10 = .ok (.if_icmp .ne 14, 3) := by decide +kernel
theorem dX5_countsFor_13 : decode cX5_countsFor 13 = .ok (.aload_n 0, 1) := by decide +kernel
theorem dX5_countsFor_14 : decode cX5_countsFor 14 = .ok (.invokevirtual 89, 3) := by decide +kernel
theorem dX5_countsFor_17 : decode cX5_countsFor 17 = .ok (.ifCond .eq 7, 3) := by decide +kernel
theorem dX5_countsFor_20 : decode cX5_countsFor 20 = .ok (.iconst 1, 1) := by decide +kernel
theorem dX5_countsFor_21 : decode cX5_countsFor 21 = .ok (.goto 4, 3) := by decide +kernel
theorem dX5_countsFor_24 : decode cX5_countsFor 24 = .ok (.iconst 0, 1) := by decide +kernel
theorem dX5_countsFor_25 : decode cX5_countsFor 25 = .ok (.ireturn, 1) := by decide +kernel
theorem dX5_standingFloorArea_0 : decode cX5_standingFloorArea 0 = .ok (.iconst 0, 1) := by decide +kernel
theorem dX5_standingFloorArea_1 : decode cX5_standingFloorArea 1 = .ok (.istore_n 3, 1) := by decide +kernel
theorem dX5_standingFloorArea_2 : decode cX5_standingFloorArea 2 = .ok (.iconst 0, 1) := by decide +kernel
theorem dX5_standingFloorArea_3 : decode cX5_standingFloorArea 3 = .ok (.istore 4, 2) := by decide +kernel
theorem dX5_standingFloorArea_5 : decode cX5_standingFloorArea 5 = .ok (.iload 4, 2) := by decide +kernel
theorem dX5_standingFloorArea_7 : decode cX5_standingFloorArea 7 = .ok (.aload_n 0, 1) := by decide +kernel
theorem dX5_standingFloorArea_8 : decode cX5_standingFloorArea 8 = .ok (.getfield 34, 3) := by decide +kernel
theorem dX5_standingFloorArea_11 : decode cX5_standingFloorArea 11 = .ok (.if_icmp .ge 37, 3) := by decide +kernel
theorem dX5_standingFloorArea_14 : decode cX5_standingFloorArea 14 = .ok (.aload_n 0, 1) := by decide +kernel
theorem dX5_standingFloorArea_15 : decode cX5_standingFloorArea 15 = .ok (.getfield 30, 3) := by decide +kernel
theorem dX5_standingFloorArea_18 : decode cX5_standingFloorArea 18 = .ok (.iload 4, 2) := by decide +kernel
theorem dX5_standingFloorArea_20 : decode cX5_standingFloorArea 20 = .ok (.aaload, 1) := by decide +kernel
theorem dX5_standingFloorArea_21 : decode cX5_standingFloorArea 21 = .ok (.iload_n 1, 1) := by decide +kernel
theorem dX5_standingFloorArea_22 : decode cX5_standingFloorArea 22 = .ok (.aload_n 2, 1) := by decide +kernel
theorem dX5_standingFloorArea_23 : decode cX5_standingFloorArea 23 = .ok (.invokestatic 106, 3) := by decide +kernel
theorem dX5_standingFloorArea_26 : decode cX5_standingFloorArea 26 = .ok (.ifCond .eq 16, 3) := by decide +kernel
theorem dX5_standingFloorArea_29 : decode cX5_standingFloorArea 29 = .ok (.iload_n 3, 1) := by decide +kernel
theorem dX5_standingFloorArea_30 : decode cX5_standingFloorArea 30 = .ok (.aload_n 0, 1) := by decide +kernel
theorem dX5_standingFloorArea_31 : decode cX5_standingFloorArea 31 = .ok (.getfield 30, 3) := by decide +kernel
theorem dX5_standingFloorArea_34 : decode cX5_standingFloorArea 34 = .ok (.iload 4, 2) := by decide +kernel
theorem dX5_standingFloorArea_36 : decode cX5_standingFloorArea 36 = .ok (.aaload, 1) := by decide +kernel
theorem dX5_standingFloorArea_37 : decode cX5_standingFloorArea 37 = .ok (.invokevirtual 110, 3) := by decide +kernel
theorem dX5_standingFloorArea_40 : decode cX5_standingFloorArea 40 = .ok (.iadd, 1) := by decide +kernel
theorem dX5_standingFloorArea_41 : decode cX5_standingFloorArea 41 = .ok (.istore_n 3, 1) := by decide +kernel
theorem dX5_standingFloorArea_42 : decode cX5_standingFloorArea 42 = .ok (.iinc 4 1, 3) := by decide +kernel
theorem dX5_standingFloorArea_45 : decode cX5_standingFloorArea 45 = .ok (.goto (-40), 3) := by decide +kernel
theorem dX5_standingFloorArea_48 : decode cX5_standingFloorArea 48 = .ok (.iload_n 3, 1) := by decide +kernel
theorem dX5_standingFloorArea_49 : decode cX5_standingFloorArea 49 = .ok (.ireturn, 1) := by decide +kernel
theorem dX5_gatherBuildings_0 : decode cX5_gatherBuildings 0 = .ok (.aload_n 3, 1) := by decide +kernel
theorem dX5_gatherBuildings_1 : decode cX5_gatherBuildings 1 = .ok (.invokevirtual 114, 3) := by decide +kernel
theorem dX5_gatherBuildings_4 : decode cX5_gatherBuildings 4 = .ok (.iconst 0, 1) := by decide +kernel
theorem dX5_gatherBuildings_5 : decode cX5_gatherBuildings 5 = .ok (.istore 4, 2) := by decide +kernel
theorem dX5_gatherBuildings_7 : decode cX5_gatherBuildings 7 = .ok (.iload 4, 2) := by decide +kernel
theorem dX5_gatherBuildings_9 : decode cX5_gatherBuildings 9 = .ok (.aload_n 0, 1) := by decide +kernel
theorem dX5_gatherBuildings_10 : decode cX5_gatherBuildings 10 = .ok (.getfield 34, 3) := by decide +kernel
theorem dX5_gatherBuildings_13 : decode cX5_gatherBuildings 13 = .ok (.if_icmp .ge 38, 3) := by decide +kernel
theorem dX5_gatherBuildings_16 : decode cX5_gatherBuildings 16 = .ok (.aload_n 0, 1) := by decide +kernel
theorem dX5_gatherBuildings_17 : decode cX5_gatherBuildings 17 = .ok (.getfield 30, 3) := by decide +kernel
theorem dX5_gatherBuildings_20 : decode cX5_gatherBuildings 20 = .ok (.iload 4, 2) := by decide +kernel
theorem dX5_gatherBuildings_22 : decode cX5_gatherBuildings 22 = .ok (.aaload, 1) := by decide +kernel
theorem dX5_gatherBuildings_23 : decode cX5_gatherBuildings 23 = .ok (.iload_n 1, 1) := by decide +kernel
theorem dX5_gatherBuildings_24 : decode cX5_gatherBuildings 24 = .ok (.aload_n 2, 1) := by decide +kernel
theorem dX5_gatherBuildings_25 : decode cX5_gatherBuildings 25 = .ok (.invokestatic 106, 3) := by decide +kernel
theorem dX5_gatherBuildings_28 : decode cX5_gatherBuildings 28 = .ok (.ifCond .eq 17, 3) := by decide +kernel
theorem dX5_gatherBuildings_31 : decode cX5_gatherBuildings 31 = .ok (.aload_n 3, 1) := by decide +kernel
theorem dX5_gatherBuildings_32 : decode cX5_gatherBuildings 32 = .ok (.aload_n 0, 1) := by decide +kernel
theorem dX5_gatherBuildings_33 : decode cX5_gatherBuildings 33 = .ok (.getfield 30, 3) := by decide +kernel
theorem dX5_gatherBuildings_36 : decode cX5_gatherBuildings 36 = .ok (.iload 4, 2) := by decide +kernel
theorem dX5_gatherBuildings_38 : decode cX5_gatherBuildings 38 = .ok (.aaload, 1) := by decide +kernel
theorem dX5_gatherBuildings_39 : decode cX5_gatherBuildings 39 = .ok (.getfield 93, 3) := by decide +kernel
theorem dX5_gatherBuildings_42 : decode cX5_gatherBuildings 42 = .ok (.invokevirtual 117, 3) := by decide +kernel
theorem dX5_gatherBuildings_45 : decode cX5_gatherBuildings 45 = .ok (.iinc 4 1, 3) := by decide +kernel
theorem dX5_gatherBuildings_48 : decode cX5_gatherBuildings 48 = .ok (.goto (-41), 3) := by decide +kernel
theorem dX5_gatherBuildings_51 : decode cX5_gatherBuildings 51 = .ok (.return_, 1) := by decide +kernel
theorem dX5_permitsWith_0 : decode cX5_permitsWith 0 = .ok (.iconst 0, 1) := by decide +kernel
theorem dX5_permitsWith_1 : decode cX5_permitsWith 1 = .ok (.istore_n 2, 1) := by decide +kernel
theorem dX5_permitsWith_2 : decode cX5_permitsWith 2 = .ok (.iconst 0, 1) := by decide +kernel
theorem dX5_permitsWith_3 : decode cX5_permitsWith 3 = .ok (.istore_n 3, 1) := by decide +kernel
theorem dX5_permitsWith_4 : decode cX5_permitsWith 4 = .ok (.iload_n 3, 1) := by decide +kernel
theorem dX5_permitsWith_5 : decode cX5_permitsWith 5 = .ok (.aload_n 0, 1) := by decide +kernel
theorem dX5_permitsWith_6 : decode cX5_permitsWith 6 = .ok (.getfield 34, 3) := by decide +kernel
theorem dX5_permitsWith_9 : decode cX5_permitsWith 9 = .ok (.if_icmp .ge 25, 3) := by decide +kernel
theorem dX5_permitsWith_12 : decode cX5_permitsWith 12 = .ok (.aload_n 0, 1) := by decide +kernel
theorem dX5_permitsWith_13 : decode cX5_permitsWith 13 = .ok (.getfield 30, 3) := by decide +kernel
theorem dX5_permitsWith_16 : decode cX5_permitsWith 16 = .ok (.iload_n 3, 1) := by decide +kernel
theorem dX5_permitsWith_17 : decode cX5_permitsWith 17 = .ok (.aaload, 1) := by decide +kernel
theorem dX5_permitsWith_18 : decode cX5_permitsWith 18 = .ok (.getfield 121, 3) := by decide +kernel
theorem dX5_permitsWith_21 : decode cX5_permitsWith 21 = .ok (.iload_n 1, 1) := by decide +kernel
theorem dX5_permitsWith_22 : decode cX5_permitsWith 22 = .ok (.if_icmp .ne 6, 3) := by decide +kernel
theorem dX5_permitsWith_25 : decode cX5_permitsWith 25 = .ok (.iinc 2 1, 3) := by decide +kernel
theorem dX5_permitsWith_28 : decode cX5_permitsWith 28 = .ok (.iinc 3 1, 3) := by decide +kernel
theorem dX5_permitsWith_31 : decode cX5_permitsWith 31 = .ok (.goto (-27), 3) := by decide +kernel
theorem dX5_permitsWith_34 : decode cX5_permitsWith 34 = .ok (.iload_n 2, 1) := by decide +kernel
theorem dX5_permitsWith_35 : decode cX5_permitsWith 35 = .ok (.ireturn, 1) := by decide +kernel
theorem dX5_permitsNaming_0 : decode cX5_permitsNaming 0 = .ok (.iconst 0, 1) := by decide +kernel
theorem dX5_permitsNaming_1 : decode cX5_permitsNaming 1 = .ok (.istore_n 2, 1) := by decide +kernel
theorem dX5_permitsNaming_2 : decode cX5_permitsNaming 2 = .ok (.iconst 0, 1) := by decide +kernel
theorem dX5_permitsNaming_3 : decode cX5_permitsNaming 3 = .ok (.istore_n 3, 1) := by decide +kernel
theorem dX5_permitsNaming_4 : decode cX5_permitsNaming 4 = .ok (.iload_n 3, 1) := by decide +kernel
theorem dX5_permitsNaming_5 : decode cX5_permitsNaming 5 = .ok (.aload_n 0, 1) := by decide +kernel
theorem dX5_permitsNaming_6 : decode cX5_permitsNaming 6 = .ok (.getfield 34, 3) := by decide +kernel
theorem dX5_permitsNaming_9 : decode cX5_permitsNaming 9 = .ok (.if_icmp .ge 28, 3) := by decide +kernel
theorem dX5_permitsNaming_12 : decode cX5_permitsNaming 12 = .ok (.aload_n 0, 1) := by decide +kernel
theorem dX5_permitsNaming_13 : decode cX5_permitsNaming 13 = .ok (.getfield 30, 3) := by decide +kernel
theorem dX5_permitsNaming_16 : decode cX5_permitsNaming 16 = .ok (.iload_n 3, 1) := by decide +kernel
theorem dX5_permitsNaming_17 : decode cX5_permitsNaming 17 = .ok (.aaload, 1) := by decide +kernel
theorem dX5_permitsNaming_18 : decode cX5_permitsNaming 18 = .ok (.getfield 124, 3) := by decide +kernel
theorem dX5_permitsNaming_21 : decode cX5_permitsNaming 21 = .ok (.iconst 1, 1) := by decide +kernel
theorem dX5_permitsNaming_22 : decode cX5_permitsNaming 22 = .ok (.iload_n 1, 1) := by decide +kernel
theorem dX5_permitsNaming_23 : decode cX5_permitsNaming 23 = .ok (.ishl, 1) := by decide +kernel
theorem dX5_permitsNaming_24 : decode cX5_permitsNaming 24 = .ok (.iand, 1) := by decide +kernel
theorem dX5_permitsNaming_25 : decode cX5_permitsNaming 25 = .ok (.ifCond .eq 6, 3) := by decide +kernel
theorem dX5_permitsNaming_28 : decode cX5_permitsNaming 28 = .ok (.iinc 2 1, 3) := by decide +kernel
theorem dX5_permitsNaming_31 : decode cX5_permitsNaming 31 = .ok (.iinc 3 1, 3) := by decide +kernel
theorem dX5_permitsNaming_34 : decode cX5_permitsNaming 34 = .ok (.goto (-30), 3) := by decide +kernel
theorem dX5_permitsNaming_37 : decode cX5_permitsNaming 37 = .ok (.iload_n 2, 1) := by decide +kernel
theorem dX5_permitsNaming_38 : decode cX5_permitsNaming 38 = .ok (.ireturn, 1) := by decide +kernel
theorem dX5_permitInUrgency_0 : decode cX5_permitInUrgency 0 = .ok (.iconst 0, 1) := by decide +kernel
theorem dX5_permitInUrgency_1 : decode cX5_permitInUrgency 1 = .ok (.istore_n 2, 1) := by decide +kernel
theorem dX5_permitInUrgency_2 : decode cX5_permitInUrgency 2 = .ok (.iload_n 2, 1) := by decide +kernel
theorem dX5_permitInUrgency_3 : decode cX5_permitInUrgency 3 = .ok (.aload_n 0, 1) := by decide +kernel
theorem dX5_permitInUrgency_4 : decode cX5_permitInUrgency 4 = .ok (.getfield 34, 3) := by decide +kernel
theorem dX5_permitInUrgency_7 : decode cX5_permitInUrgency 7 = .ok (.if_icmp .ge 34, 3) := by decide +kernel
theorem dX5_permitInUrgency_10 : decode cX5_permitInUrgency 10 = .ok (.aload_n 0, 1) := by decide +kernel
theorem dX5_permitInUrgency_11 : decode cX5_permitInUrgency 11 = .ok (.getfield 30, 3) := by decide +kernel
theorem dX5_permitInUrgency_14 : decode cX5_permitInUrgency 14 = .ok (.iload_n 2, 1) := by decide +kernel
theorem dX5_permitInUrgency_15 : decode cX5_permitInUrgency 15 = .ok (.aaload, 1) := by decide +kernel
theorem dX5_permitInUrgency_16 : decode cX5_permitInUrgency 16 = .ok (.invokevirtual 127, 3) := by decide +kernel
theorem dX5_permitInUrgency_19 : decode cX5_permitInUrgency 19 = .ok (.ldc 130, 2) := by decide +kernel
theorem dX5_permitInUrgency_21 : decode cX5_permitInUrgency 21 = .ok (.if_icmp .eq 14, 3) := by decide +kernel
theorem dX5_permitInUrgency_24 : decode cX5_permitInUrgency 24 = .ok (.aload_n 0, 1) := by decide +kernel
theorem dX5_permitInUrgency_25 : decode cX5_permitInUrgency 25 = .ok (.iload_n 2, 1) := by decide +kernel
theorem dX5_permitInUrgency_26 : decode cX5_permitInUrgency 26 = .ok (.invokevirtual 131, 3) := by decide +kernel
theorem dX5_permitInUrgency_29 : decode cX5_permitInUrgency 29 = .ok (.iload_n 1, 1) := by decide +kernel
theorem dX5_permitInUrgency_30 : decode cX5_permitInUrgency 30 = .ok (.if_icmp .ne 5, 3) := by decide +kernel
theorem dX5_permitInUrgency_33 : decode cX5_permitInUrgency 33 = .ok (.iload_n 2, 1) := by decide +kernel
theorem dX5_permitInUrgency_34 : decode cX5_permitInUrgency 34 = .ok (.ireturn, 1) := by decide +kernel
theorem dX5_permitInUrgency_35 : decode cX5_permitInUrgency 35 = .ok (.iinc 2 1, 3) := by decide +kernel
theorem dX5_permitInUrgency_38 : decode cX5_permitInUrgency 38 = .ok (.goto (-36), 3) := by decide +kernel
theorem dX5_permitInUrgency_41 : decode cX5_permitInUrgency 41 = .ok (.iconst (-1), 1) := by decide +kernel
theorem dX5_permitInUrgency_42 : decode cX5_permitInUrgency 42 = .ok (.ireturn, 1) := by decide +kernel
theorem dX5_permitsBefore_0 : decode cX5_permitsBefore 0 = .ok (.iload_n 1, 1) := by decide +kernel
theorem dX5_permitsBefore_1 : decode cX5_permitsBefore 1 = .ok (.ifCond .lt 21, 3) := by decide +kernel
theorem dX5_permitsBefore_4 : decode cX5_permitsBefore 4 = .ok (.iload_n 1, 1) := by decide +kernel
theorem dX5_permitsBefore_5 : decode cX5_permitsBefore 5 = .ok (.bipush 10, 2) := by decide +kernel
theorem dX5_permitsBefore_7 : decode cX5_permitsBefore 7 = .ok (.if_icmp .ge 15, 3) := by decide +kernel
theorem dX5_permitsBefore_10 : decode cX5_permitsBefore 10 = .ok (.aload_n 0, 1) := by decide +kernel
theorem dX5_permitsBefore_11 : decode cX5_permitsBefore 11 = .ok (.getfield 30, 3) := by decide +kernel
theorem dX5_permitsBefore_14 : decode cX5_permitsBefore 14 = .ok (.iload_n 1, 1) := by decide +kernel
theorem dX5_permitsBefore_15 : decode cX5_permitsBefore 15 = .ok (.aaload, 1) := by decide +kernel
theorem dX5_permitsBefore_16 : decode cX5_permitsBefore 16 = .ok (.invokevirtual 127, 3) := by decide +kernel
theorem dX5_permitsBefore_19 : decode cX5_permitsBefore 19 = .ok (.goto 5, 3) := by decide +kernel
theorem dX5_permitsBefore_22 : decode cX5_permitsBefore 22 = .ok (.ldc 130, 2) := by decide +kernel
theorem dX5_permitsBefore_24 : decode cX5_permitsBefore 24 = .ok (.istore_n 2, 1) := by decide +kernel
theorem dX5_permitsBefore_25 : decode cX5_permitsBefore 25 = .ok (.iconst 0, 1) := by decide +kernel
theorem dX5_permitsBefore_26 : decode cX5_permitsBefore 26 = .ok (.istore_n 3, 1) := by decide +kernel
theorem dX5_permitsBefore_27 : decode cX5_permitsBefore 27 = .ok (.iconst 0, 1) := by decide +kernel
theorem dX5_permitsBefore_28 : decode cX5_permitsBefore 28 = .ok (.istore 4, 2) := by decide +kernel
theorem dX5_permitsBefore_30 : decode cX5_permitsBefore 30 = .ok (.iload 4, 2) := by decide +kernel
theorem dX5_permitsBefore_32 : decode cX5_permitsBefore 32 = .ok (.aload_n 0, 1) := by decide +kernel
theorem dX5_permitsBefore_33 : decode cX5_permitsBefore 33 = .ok (.getfield 34, 3) := by decide +kernel
theorem dX5_permitsBefore_36 : decode cX5_permitsBefore 36 = .ok (.if_icmp .ge 42, 3) := by decide +kernel
theorem dX5_permitsBefore_39 : decode cX5_permitsBefore 39 = .ok (.aload_n 0, 1) := by decide +kernel
theorem dX5_permitsBefore_40 : decode cX5_permitsBefore 40 = .ok (.getfield 30, 3) := by decide +kernel
theorem dX5_permitsBefore_43 : decode cX5_permitsBefore 43 = .ok (.iload 4, 2) := by decide +kernel
theorem dX5_permitsBefore_45 : decode cX5_permitsBefore 45 = .ok (.aaload, 1) := by decide +kernel
theorem dX5_permitsBefore_46 : decode cX5_permitsBefore 46 = .ok (.invokevirtual 127, 3) := by decide +kernel
theorem dX5_permitsBefore_49 : decode cX5_permitsBefore 49 = .ok (.istore 5, 2) := by decide +kernel
theorem dX5_permitsBefore_51 : decode cX5_permitsBefore 51 = .ok (.iload 5, 2) := by decide +kernel
theorem dX5_permitsBefore_53 : decode cX5_permitsBefore 53 = .ok (.iload_n 2, 1) := by decide +kernel
theorem dX5_permitsBefore_54 : decode cX5_permitsBefore 54 = .ok (.if_icmp .lt 15, 3) := by decide +kernel
theorem dX5_permitsBefore_57 : decode cX5_permitsBefore 57 = .ok (.iload 5, 2) := by decide +kernel
theorem dX5_permitsBefore_59 : decode cX5_permitsBefore 59 = .ok (.iload_n 2, 1) := by decide +kernel
theorem dX5_permitsBefore_60 : decode cX5_permitsBefore 60 = .ok (.if_icmp .ne 12, 3) := by decide +kernel
theorem dX5_permitsBefore_63 : decode cX5_permitsBefore 63 = .ok (.iload 4, 2) := by decide +kernel
theorem dX5_permitsBefore_65 : decode cX5_permitsBefore 65 = .ok (.iload_n 1, 1) := by decide +kernel
theorem dX5_permitsBefore_66 : decode cX5_permitsBefore 66 = .ok (.if_icmp .ge 6, 3) := by decide +kernel
theorem dX5_permitsBefore_69 : decode cX5_permitsBefore 69 = .ok (.iinc 3 1, 3) := by decide +kernel
theorem dX5_permitsBefore_72 : decode cX5_permitsBefore 72 = .ok (.iinc 4 1, 3) := by decide +kernel
theorem dX5_permitsBefore_75 : decode cX5_permitsBefore 75 = .ok (.goto (-45), 3) := by decide +kernel
theorem dX5_permitsBefore_78 : decode cX5_permitsBefore 78 = .ok (.iload_n 3, 1) := by decide +kernel
theorem dX5_permitsBefore_79 : decode cX5_permitsBefore 79 = .ok (.ireturn, 1) := by decide +kernel
theorem dX6_init_0 : decode cX6_init 0 = .ok (.aload_n 0, 1) := by decide +kernel
theorem dX6_init_1 : decode cX6_init 1 = .ok (.invokespecial 1, 3) := by decide +kernel
theorem dX6_init_4 : decode cX6_init 4 = .ok (.return_, 1) := by decide +kernel
theorem dX6_copyFrom_0 : decode cX6_copyFrom 0 = .ok (.aload_n 0, 1) := by decide +kernel
theorem dX6_copyFrom_1 : decode cX6_copyFrom 1 = .ok (.aload_n 1, 1) := by decide +kernel
theorem dX6_copyFrom_2 : decode cX6_copyFrom 2 = .ok (.getfield 7, 3) := by decide +kernel
theorem dX6_copyFrom_5 : decode cX6_copyFrom 5 = .ok (.putfield 7, 3) := by decide +kernel
theorem dX6_copyFrom_8 : decode cX6_copyFrom 8 = .ok (.aload_n 0, 1) := by decide +kernel
theorem dX6_copyFrom_9 : decode cX6_copyFrom 9 = .ok (.aload_n 1, 1) := by decide +kernel
theorem dX6_copyFrom_10 : decode cX6_copyFrom 10 = .ok (.getfield 13, 3) := by decide +kernel
theorem dX6_copyFrom_13 : decode cX6_copyFrom 13 = .ok (.putfield 13, 3) := by decide +kernel
theorem dX6_copyFrom_16 : decode cX6_copyFrom 16 = .ok (.aload_n 0, 1) := by decide +kernel
theorem dX6_copyFrom_17 : decode cX6_copyFrom 17 = .ok (.aload_n 1, 1) := by decide +kernel
theorem dX6_copyFrom_18 : decode cX6_copyFrom 18 = .ok (.getfield 16, 3) := by decide +kernel
theorem dX6_copyFrom_21 : decode cX6_copyFrom 21 = .ok (.putfield 16, 3) := by decide +kernel
theorem dX6_copyFrom_24 : decode cX6_copyFrom 24 = .ok (.aload_n 0, 1) := by decide +kernel
theorem dX6_copyFrom_25 : decode cX6_copyFrom 25 = .ok (.aload_n 1, 1) := by decide +kernel
theorem dX6_copyFrom_26 : decode cX6_copyFrom 26 = .ok (.getfield 19, 3) := by decide +kernel
theorem dX6_copyFrom_29 : decode cX6_copyFrom 29 = .ok (.putfield 19, 3) := by decide +kernel
theorem dX6_copyFrom_32 : decode cX6_copyFrom 32 = .ok (.return_, 1) := by decide +kernel
theorem dX6_isInForce_0 : decode cX6_isInForce 0 = .ok (.iload_n 1, 1) := by decide +kernel
theorem dX6_isInForce_1 : decode cX6_isInForce 1 = .ok (.aload_n 0, 1) := by decide +kernel
theorem dX6_isInForce_2 : decode cX6_isInForce 2 = .ok (.getfield 19, 3) := by decide +kernel
theorem dX6_isInForce_5 : decode cX6_isInForce 5 = .ok (.if_icmp .gt 7, 3) := by decide +kernel
theorem dX6_isInForce_8 : decode cX6_isInForce 8 = .ok (.iconst 1, 1) := by decide +kernel
theorem dX6_isInForce_9 : decode cX6_isInForce 9 = .ok (.goto 4, 3) := by decide +kernel
theorem dX6_isInForce_12 : decode cX6_isInForce 12 = .ok (.iconst 0, 1) := by decide +kernel
theorem dX6_isInForce_13 : decode cX6_isInForce 13 = .ok (.ireturn, 1) := by decide +kernel
theorem dX7_init_0 : decode cX7_init 0 = .ok (.aload_n 0, 1) := by decide +kernel
theorem dX7_init_1 : decode cX7_init 1 = .ok (.invokespecial 1, 3) := by decide +kernel
theorem dX7_init_4 : decode cX7_init 4 = .ok (.aload_n 0, 1) := by decide +kernel
theorem dX7_init_5 : decode cX7_init 5 = .ok (.new 7, 3) := by decide +kernel
theorem dX7_init_8 : decode cX7_init 8 = .ok (.dup, 1) := by decide +kernel
theorem dX7_init_9 : decode cX7_init 9 = .ok (.invokespecial 9, 3) := by decide +kernel
theorem dX7_init_12 : decode cX7_init 12 = .ok (.putfield 10, 3) := by decide +kernel
theorem dX7_init_15 : decode cX7_init 15 = .ok (.aload_n 0, 1) := by decide +kernel
theorem dX7_init_16 : decode cX7_init 16 = .ok (.new 16, 3) := by decide +kernel
theorem dX7_init_19 : decode cX7_init 19 = .ok (.dup, 1) := by decide +kernel
theorem dX7_init_20 : decode cX7_init 20 = .ok (.invokespecial 18, 3) := by decide +kernel
theorem dX7_init_23 : decode cX7_init 23 = .ok (.putfield 19, 3) := by decide +kernel
theorem dX7_init_26 : decode cX7_init 26 = .ok (.aload_n 0, 1) := by decide +kernel
theorem dX7_init_27 : decode cX7_init 27 = .ok (.new 23, 3) := by decide +kernel
theorem dX7_init_30 : decode cX7_init 30 = .ok (.dup, 1) := by decide +kernel
theorem dX7_init_31 : decode cX7_init 31 = .ok (.invokespecial 25, 3) := by decide +kernel
theorem dX7_init_34 : decode cX7_init 34 = .ok (.putfield 26, 3) := by decide +kernel
theorem dX7_init_37 : decode cX7_init 37 = .ok (.aload_n 0, 1) := by decide +kernel
theorem dX7_init_38 : decode cX7_init 38 = .ok (.new 23, 3) := by decide +kernel
theorem dX7_init_41 : decode cX7_init 41 = .ok (.dup, 1) := by decide +kernel
theorem dX7_init_42 : decode cX7_init 42 = .ok (.invokespecial 25, 3) := by decide +kernel
theorem dX7_init_45 : decode cX7_init 45 = .ok (.putfield 30, 3) := by decide +kernel
theorem dX7_init_48 : decode cX7_init 48 = .ok (.aload_n 0, 1) := by decide +kernel
theorem dX7_init_49 : decode cX7_init 49 = .ok (.new 23, 3) := by decide +kernel
theorem dX7_init_52 : decode cX7_init 52 = .ok (.dup, 1) := by decide +kernel
theorem dX7_init_53 : decode cX7_init 53 = .ok (.invokespecial 25, 3) := by decide +kernel
theorem dX7_init_56 : decode cX7_init 56 = .ok (.putfield 33, 3) := by decide +kernel
theorem dX7_init_59 : decode cX7_init 59 = .ok (.aload_n 0, 1) := by decide +kernel
theorem dX7_init_60 : decode cX7_init 60 = .ok (.iconst 0, 1) := by decide +kernel
theorem dX7_init_61 : decode cX7_init 61 = .ok (.putfield 36, 3) := by decide +kernel
theorem dX7_init_64 : decode cX7_init 64 = .ok (.aload_n 0, 1) := by decide +kernel
theorem dX7_init_65 : decode cX7_init 65 = .ok (.bipush 6, 2) := by decide +kernel
theorem dX7_init_67 : decode cX7_init 67 = .ok (.anewarray 23, 3) := by decide +kernel
theorem dX7_init_70 : decode cX7_init 70 = .ok (.putfield 40, 3) := by decide +kernel
theorem dX7_init_73 : decode cX7_init 73 = .ok (.aload_n 0, 1) := by decide +kernel
theorem dX7_init_74 : decode cX7_init 74 = .ok (.iconst 0, 1) := by decide +kernel
theorem dX7_init_75 : decode cX7_init 75 = .ok (.putfield 44, 3) := by decide +kernel
theorem dX7_init_78 : decode cX7_init 78 = .ok (.iconst 0, 1) := by decide +kernel
theorem dX7_init_79 : decode cX7_init 79 = .ok (.istore_n 1, 1) := by decide +kernel
theorem dX7_init_80 : decode cX7_init 80 = .ok (.iload_n 1, 1) := by decide +kernel
theorem dX7_init_81 : decode cX7_init 81 = .ok (.bipush 6, 2) := by decide +kernel
theorem dX7_init_83 : decode cX7_init 83 = .ok (.if_icmp .ge 22, 3) := by decide +kernel
theorem dX7_init_86 : decode cX7_init 86 = .ok (.aload_n 0, 1) := by decide +kernel
theorem dX7_init_87 : decode cX7_init 87 = .ok (.getfield 40, 3) := by decide +kernel
theorem dX7_init_90 : decode cX7_init 90 = .ok (.iload_n 1, 1) := by decide +kernel
theorem dX7_init_91 : decode cX7_init 91 = .ok (.new 23, 3) := by decide +kernel
theorem dX7_init_94 : decode cX7_init 94 = .ok (.dup, 1) := by decide +kernel
theorem dX7_init_95 : decode cX7_init 95 = .ok (.invokespecial 25, 3) := by decide +kernel
theorem dX7_init_98 : decode cX7_init 98 = .ok (.aastore, 1) := by decide +kernel
theorem dX7_init_99 : decode cX7_init 99 = .ok (.iinc 1 1, 3) := by decide +kernel
theorem dX7_init_102 : decode cX7_init 102 = .ok (.goto (-22), 3) := by decide +kernel
theorem dX7_init_105 : decode cX7_init 105 = .ok (.return_, 1) := by decide +kernel
theorem dX7_append_0 : decode cX7_append 0 = .ok (.iconst 0, 1) := by decide +kernel
theorem dX7_append_1 : decode cX7_append 1 = .ok (.istore_n 2, 1) := by decide +kernel
theorem dX7_append_2 : decode cX7_append 2 = .ok (.bipush 24, 2) := by decide +kernel
theorem dX7_append_4 : decode cX7_append 4 = .ok (.istore_n 3, 1) := by decide +kernel
theorem dX7_append_5 : decode cX7_append 5 = .ok (.iload_n 3, 1) := by decide +kernel
theorem dX7_append_6 : decode cX7_append 6 = .ok (.ifCond .lt 55, 3) := by decide +kernel
theorem dX7_append_9 : decode cX7_append 9 = .ok (.iload_n 1, 1) := by decide +kernel
theorem dX7_append_10 : decode cX7_append 10 = .ok (.iload_n 3, 1) := by decide +kernel
theorem dX7_append_11 : decode cX7_append 11 = .ok (.iushr, 1) := by decide +kernel
theorem dX7_append_12 : decode cX7_append 12 = .ok (.sipush 255, 3) := by decide +kernel
theorem dX7_append_15 : decode cX7_append 15 = .ok (.iand, 1) := by decide +kernel
theorem dX7_append_16 : decode cX7_append 16 = .ok (.istore 4, 2) := by decide +kernel
theorem dX7_append_18 : decode cX7_append 18 = .ok (.iload 4, 2) := by decide +kernel
theorem dX7_append_20 : decode cX7_append 20 = .ok (.ifCond .eq 27, 3) := by decide +kernel
theorem dX7_append_23 : decode cX7_append 23 = .ok (.iload 4, 2) := by decide +kernel
theorem dX7_append_25 : decode cX7_append 25 = .ok (.bipush 33, 2) := by decide +kernel
theorem dX7_append_27 : decode cX7_append 27 = .ok (.if_icmp .lt 10, 3) := by decide +kernel
theorem dX7_append_30 : decode cX7_append 30 = .ok (.iload 4, 2) := by decide +kernel
theorem dX7_append_32 : decode cX7_append 32 = .ok (.bipush 126, 2) := by decide +kernel
theorem dX7_append_34 : decode cX7_append 34 = .ok (.if_icmp .le 13, 3) := by decide +kernel
theorem dX7_append_37 : decode cX7_append 37 = .ok (.new 48, 3) := by decide +kernel
theorem dX7_append_40 : decode cX7_append 40 = .ok (.dup, 1) := by decide +kernel
theorem dX7_append_41 : decode cX7_append 41 = .ok (.ldc 50, 2) := by decide +kernel
theorem dX7_append_43 : decode cX7_append 43 = .ok (.invokespecial 52, 3) := by decide +kernel
theorem dX7_append_46 : decode cX7_append 46 = .ok (.athrow, 1) := by decide +kernel
theorem dX7_append_47 : decode cX7_append 47 = .ok (.iload 4, 2) := by decide +kernel
theorem dX7_append_49 : decode cX7_append 49 = .ok (.ifCond .eq 6, 3) := by decide +kernel
theorem dX7_append_52 : decode cX7_append 52 = .ok (.iinc 2 1, 3) := by decide +kernel
theorem dX7_append_55 : decode cX7_append 55 = .ok (.iinc 3 (-8), 3) := by decide +kernel
theorem dX7_append_58 : decode cX7_append 58 = .ok (.goto (-53), 3) := by decide +kernel
theorem dX7_append_61 : decode cX7_append 61 = .ok (.aload_n 0, 1) := by decide +kernel
theorem dX7_append_62 : decode cX7_append 62 = .ok (.getfield 10, 3) := by decide +kernel
theorem dX7_append_65 : decode cX7_append 65 = .ok (.getfield 55, 3) := by decide +kernel
theorem dX7_append_68 : decode cX7_append 68 = .ok (.iload_n 2, 1) := by decide +kernel
theorem dX7_append_69 : decode cX7_append 69 = .ok (.iadd, 1) := by decide +kernel
theorem dX7_append_70 : decode cX7_append 70 = .ok (.bipush 60, 2) := by decide +kernel
theorem dX7_append_72 : decode cX7_append 72 = .ok (.if_icmp .le 13, 3) := by decide +kernel
theorem dX7_append_75 : decode cX7_append 75 = .ok (.new 58, 3) := by decide +kernel
theorem dX7_append_78 : decode cX7_append 78 = .ok (.dup, 1) := by decide +kernel
theorem dX7_append_79 : decode cX7_append 79 = .ok (.ldc 60, 2) := by decide +kernel
theorem dX7_append_81 : decode cX7_append 81 = .ok (.invokespecial 62, 3) := by decide +kernel
theorem dX7_append_84 : decode cX7_append 84 = .ok (.athrow, 1) := by decide +kernel
theorem dX7_append_85 : decode cX7_append 85 = .ok (.bipush 24, 2) := by decide +kernel
theorem dX7_append_87 : decode cX7_append 87 = .ok (.istore_n 3, 1) := by decide +kernel
theorem dX7_append_88 : decode cX7_append 88 = .ok (.iload_n 3, 1) := by decide +kernel
theorem dX7_append_89 : decode cX7_append 89 = .ok (.ifCond .lt 33, 3) := by decide +kernel
theorem dX7_append_92 : decode cX7_append 92 = .ok (.iload_n 1, 1) := by decide +kernel
theorem dX7_append_93 : decode cX7_append 93 = .ok (.iload_n 3, 1) := by decide +kernel
theorem dX7_append_94 : decode cX7_append 94 = .ok (.iushr, 1) := by decide +kernel
theorem dX7_append_95 : decode cX7_append 95 = .ok (.sipush 255, 3) := by decide +kernel
theorem dX7_append_98 : decode cX7_append 98 = .ok (.iand, 1) := by decide +kernel
theorem dX7_append_99 : decode cX7_append 99 = .ok (.istore 4, 2) := by decide +kernel
theorem dX7_append_101 : decode cX7_append 101 = .ok (.iload 4, 2) := by decide +kernel
theorem dX7_append_103 : decode cX7_append 103 = .ok (.ifCond .eq 13, 3) := by decide +kernel
theorem dX7_append_106 : decode cX7_append 106 = .ok (.aload_n 0, 1) := by decide +kernel
theorem dX7_append_107 : decode cX7_append 107 = .ok (.getfield 10, 3) := by decide +kernel
theorem dX7_append_110 : decode cX7_append 110 = .ok (.iload 4, 2) := by decide +kernel
theorem dX7_append_112 : decode cX7_append 112 = .ok (.i2c, 1) := by decide +kernel
theorem dX7_append_113 : decode cX7_append 113 = .ok (.invokevirtual 63, 3) := by decide +kernel
theorem dX7_append_116 : decode cX7_append 116 = .ok (.iinc 3 (-8), 3) := by decide +kernel
theorem dX7_append_119 : decode cX7_append 119 = .ok (.goto (-31), 3) := by decide +kernel
theorem dX7_append_122 : decode cX7_append 122 = .ok (.aload_n 0, 1) := by decide +kernel
theorem dX7_append_123 : decode cX7_append 123 = .ok (.getfield 10, 3) := by decide +kernel
theorem dX7_append_126 : decode cX7_append 126 = .ok (.getfield 55, 3) := by decide +kernel
theorem dX7_append_129 : decode cX7_append 129 = .ok (.ireturn, 1) := by decide +kernel
theorem dX7_execute_0 : decode cX7_execute 0 = .ok (.aload_n 0, 1) := by decide +kernel
theorem dX7_execute_1 : decode cX7_execute 1 = .ok (.getfield 30, 3) := by decide +kernel
theorem dX7_execute_4 : decode cX7_execute 4 = .ok (.aload_n 0, 1) := by decide +kernel
theorem dX7_execute_5 : decode cX7_execute 5 = .ok (.getfield 26, 3) := by decide +kernel
theorem dX7_execute_8 : decode cX7_execute 8 = .ok (.invokevirtual 67, 3) := by decide +kernel
theorem dX7_execute_11 : decode cX7_execute 11 = .ok (.aload_n 0, 1) := by decide +kernel
theorem dX7_execute_12 : decode cX7_execute 12 = .ok (.getfield 10, 3) := by decide +kernel
theorem dX7_execute_15 : decode cX7_execute 15 = .ok (.aload_n 0, 1) := by decide +kernel
theorem dX7_execute_16 : decode cX7_execute 16 = .ok (.getfield 30, 3) := by decide +kernel
theorem dX7_execute_19 : decode cX7_execute 19 = .ok (.invokevirtual 71, 3) := by decide +kernel
theorem dX7_execute_22 : decode cX7_execute 22 = .ok (.istore_n 1, 1) := by decide +kernel
theorem dX7_execute_23 : decode cX7_execute 23 = .ok (.iload_n 1, 1) := by decide +kernel
theorem dX7_execute_24 : decode cX7_execute 24 = .ok (.iconst (-1), 1) := by decide +kernel
theorem dX7_execute_25 : decode cX7_execute 25 = .ok (.if_icmp .ne 13, 3) := by decide +kernel
theorem dX7_execute_28 : decode cX7_execute 28 = .ok (.new 48, 3) := by decide +kernel
theorem dX7_execute_31 : decode cX7_execute 31 = .ok (.dup, 1) := by decide +kernel
theorem dX7_execute_32 : decode cX7_execute 32 = .ok (.ldc 75, 2) := by decide +kernel
theorem dX7_execute_34 : decode cX7_execute 34 = .ok (.invokespecial 52, 3) := by decide +kernel
theorem dX7_execute_37 : decode cX7_execute 37 = .ok (.athrow, 1) := by decide +kernel
theorem dX7_execute_38 : decode cX7_execute 38 = .ok (.aload_n 0, 1) := by decide +kernel
theorem dX7_execute_39 : decode cX7_execute 39 = .ok (.invokevirtual 77, 3) := by decide +kernel
theorem dX7_execute_42 : decode cX7_execute 42 = .ok (.aload_n 0, 1) := by decide +kernel
theorem dX7_execute_43 : decode cX7_execute 43 = .ok (.getfield 26, 3) := by decide +kernel
theorem dX7_execute_46 : decode cX7_execute 46 = .ok (.aload_n 0, 1) := by decide +kernel
theorem dX7_execute_47 : decode cX7_execute 47 = .ok (.getfield 30, 3) := by decide +kernel
theorem dX7_execute_50 : decode cX7_execute 50 = .ok (.invokevirtual 67, 3) := by decide +kernel
theorem dX7_execute_53 : decode cX7_execute 53 = .ok (.iload_n 1, 1) := by decide +kernel
theorem dX7_execute_54 : decode cX7_execute 54 = .ok (.ireturn, 1) := by decide +kernel
theorem dX7_errorPosition_0 : decode cX7_errorPosition 0 = .ok (.aload_n 0, 1) := by decide +kernel
theorem dX7_errorPosition_1 : decode cX7_errorPosition 1 = .ok (.getfield 10, 3) := by decide +kernel
theorem dX7_errorPosition_4 : decode cX7_errorPosition 4 = .ok (.getfield 80, 3) := by decide +kernel
theorem dX7_errorPosition_7 : decode cX7_errorPosition 7 = .ok (.ireturn, 1) := by decide +kernel
theorem dX7_rule_0 : decode cX7_rule 0 = .ok (.iload_n 1, 1) := by decide +kernel
theorem dX7_rule_1 : decode cX7_rule 1 = .ok (.ifCond .lt 8, 3) := by decide +kernel
theorem dX7_rule_4 : decode cX7_rule 4 = .ok (.iload_n 1, 1) := by decide +kernel
theorem dX7_rule_5 : decode cX7_rule 5 = .ok (.iconst 4, 1) := by decide +kernel
theorem dX7_rule_6 : decode cX7_rule 6 = .ok (.if_icmp .lt 13, 3) := by decide +kernel
theorem dX7_rule_9 : decode cX7_rule 9 = .ok (.new 83, 3) := by decide +kernel
theorem dX7_rule_12 : decode cX7_rule 12 = .ok (.dup, 1) := by decide +kernel
theorem dX7_rule_13 : decode cX7_rule 13 = .ok (.ldc 85, 2) := by decide +kernel
theorem dX7_rule_15 : decode cX7_rule 15 = .ok (.invokespecial 87, 3) := by decide +kernel
theorem dX7_rule_18 : decode cX7_rule 18 = .ok (.athrow, 1) := by decide +kernel
theorem dX7_rule_19 : decode cX7_rule 19 = .ok (.iload_n 2, 1) := by decide +kernel
theorem dX7_rule_20 : decode cX7_rule 20 = .ok (.ifCond .lt 9, 3) := by decide +kernel
theorem dX7_rule_23 : decode cX7_rule 23 = .ok (.iload_n 2, 1) := by decide +kernel
theorem dX7_rule_24 : decode cX7_rule 24 = .ok (.bipush 7, 2) := by decide +kernel
theorem dX7_rule_26 : decode cX7_rule 26 = .ok (.if_icmp .lt 13, 3) := by decide +kernel
theorem dX7_rule_29 : decode cX7_rule 29 = .ok (.new 48, 3) := by decide +kernel
theorem dX7_rule_32 : decode cX7_rule 32 = .ok (.dup, 1) := by decide +kernel
theorem dX7_rule_33 : decode cX7_rule 33 = .ok (.ldc 88, 2) := by decide +kernel
theorem dX7_rule_35 : decode cX7_rule 35 = .ok (.invokespecial 52, 3) := by decide +kernel
theorem dX7_rule_38 : decode cX7_rule 38 = .ok (.athrow, 1) := by decide +kernel
theorem dX7_rule_39 : decode cX7_rule 39 = .ok (.aload_n 0, 1) := by decide +kernel
theorem dX7_rule_40 : decode cX7_rule 40 = .ok (.getfield 26, 3) := by decide +kernel
theorem dX7_rule_43 : decode cX7_rule 43 = .ok (.iload_n 1, 1) := by decide +kernel
theorem dX7_rule_44 : decode cX7_rule 44 = .ok (.iload_n 2, 1) := by decide +kernel
theorem dX7_rule_45 : decode cX7_rule 45 = .ok (.invokevirtual 90, 3) := by decide +kernel
theorem dX7_rule_48 : decode cX7_rule 48 = .ok (.ireturn, 1) := by decide +kernel
theorem dX7_lot_0 : decode cX7_lot 0 = .ok (.aload_n 0, 1) := by decide +kernel
theorem dX7_lot_1 : decode cX7_lot 1 = .ok (.iload_n 1, 1) := by decide +kernel
theorem dX7_lot_2 : decode cX7_lot 2 = .ok (.invokevirtual 94, 3) := by decide +kernel
theorem dX7_lot_5 : decode cX7_lot 5 = .ok (.astore_n 3, 1) := by decide +kernel
theorem dX7_lot_6 : decode cX7_lot 6 = .ok (.iload_n 2, 1) := by decide +kernel
theorem dX7_lot_7 : decode cX7_lot 7 = .ok (.tableswitch 83 0 5 #[37, 42, 47, 52, 65, 75], 37) := by decide +kernel
theorem dX7_lot_44 : decode cX7_lot 44 = .ok (.aload_n 3, 1) := by decide +kernel
theorem dX7_lot_45 : decode cX7_lot 45 = .ok (.getfield 98, 3) := by decide +kernel
theorem dX7_lot_48 : decode cX7_lot 48 = .ok (.ireturn, 1) := by decide +kernel
theorem dX7_lot_49 : decode cX7_lot 49 = .ok (.aload_n 3, 1) := by decide +kernel
theorem dX7_lot_50 : decode cX7_lot 50 = .ok (.getfield 103, 3) := by decide +kernel
theorem dX7_lot_53 : decode cX7_lot 53 = .ok (.ireturn, 1) := by decide +kernel
theorem dX7_lot_54 : decode cX7_lot 54 = .ok (.aload_n 3, 1) := by decide +kernel
theorem dX7_lot_55 : decode cX7_lot 55 = .ok (.getfield 106, 3) := by decide +kernel
theorem dX7_lot_58 : decode cX7_lot 58 = .ok (.ireturn, 1) := by decide +kernel
theorem dX7_lot_59 : decode cX7_lot 59 = .ok (.aload_n 0, 1) := by decide +kernel
theorem dX7_lot_60 : decode cX7_lot 60 = .ok (.getfield 19, 3) := by decide +kernel
theorem dX7_lot_63 : decode cX7_lot 63 = .ok (.aload_n 0, 1) := by decide +kernel
theorem dX7_lot_64 : decode cX7_lot 64 = .ok (.getfield 26, 3) := by decide +kernel
theorem dX7_lot_67 : decode cX7_lot 67 = .ok (.iload_n 1, 1) := by decide +kernel
theorem dX7_lot_68 : decode cX7_lot 68 = .ok (.invokevirtual 109, 3) := by decide +kernel
theorem dX7_lot_71 : decode cX7_lot 71 = .ok (.ireturn, 1) := by decide +kernel
theorem dX7_lot_72 : decode cX7_lot 72 = .ok (.aload_n 0, 1) := by decide +kernel
theorem dX7_lot_73 : decode cX7_lot 73 = .ok (.getfield 26, 3) := by decide +kernel
theorem dX7_lot_76 : decode cX7_lot 76 = .ok (.iload_n 1, 1) := by decide +kernel
theorem dX7_lot_77 : decode cX7_lot 77 = .ok (.aconst_null, 1) := by decide +kernel
theorem dX7_lot_78 : decode cX7_lot 78 = .ok (.invokevirtual 113, 3) := by decide +kernel
theorem dX7_lot_81 : decode cX7_lot 81 = .ok (.ireturn, 1) := by decide +kernel
theorem dX7_lot_82 : decode cX7_lot 82 = .ok (.aload_n 3, 1) := by decide +kernel
theorem dX7_lot_83 : decode cX7_lot 83 = .ok (.getfield 117, 3) := by decide +kernel
theorem dX7_lot_86 : decode cX7_lot 86 = .ok (.invokevirtual 121, 3) := by decide +kernel
theorem dX7_lot_89 : decode cX7_lot 89 = .ok (.ireturn, 1) := by decide +kernel
theorem dX7_lot_90 : decode cX7_lot 90 = .ok (.new 48, 3) := by decide +kernel
theorem dX7_lot_93 : decode cX7_lot 93 = .ok (.dup, 1) := by decide +kernel
theorem dX7_lot_94 : decode cX7_lot 94 = .ok (.ldc 127, 2) := by decide +kernel
theorem dX7_lot_96 : decode cX7_lot 96 = .ok (.invokespecial 52, 3) := by decide +kernel
theorem dX7_lot_99 : decode cX7_lot 99 = .ok (.athrow, 1) := by decide +kernel
theorem dX7_rezone_0 : decode cX7_rezone 0 = .ok (.aload_n 0, 1) := by decide +kernel
theorem dX7_rezone_1 : decode cX7_rezone 1 = .ok (.iload_n 1, 1) := by decide +kernel
theorem dX7_rezone_2 : decode cX7_rezone 2 = .ok (.invokevirtual 94, 3) := by decide +kernel
theorem dX7_rezone_5 : decode cX7_rezone 5 = .ok (.astore_n 3, 1) := by decide +kernel
theorem dX7_rezone_6 : decode cX7_rezone 6 = .ok (.iload_n 2, 1) := by decide +kernel
theorem dX7_rezone_7 : decode cX7_rezone 7 = .ok (.ifCond .lt 8, 3) := by decide +kernel
theorem dX7_rezone_10 : decode cX7_rezone 10 = .ok (.iload_n 2, 1) := by decide +kernel
theorem dX7_rezone_11 : decode cX7_rezone 11 = .ok (.iconst 4, 1) := by decide +kernel
theorem dX7_rezone_12 : decode cX7_rezone 12 = .ok (.if_icmp .lt 13, 3) := by decide +kernel
theorem dX7_rezone_15 : decode cX7_rezone 15 = .ok (.new 48, 3) := by decide +kernel
theorem dX7_rezone_18 : decode cX7_rezone 18 = .ok (.dup, 1) := by decide +kernel
theorem dX7_rezone_19 : decode cX7_rezone 19 = .ok (.ldc 85, 2) := by decide +kernel
theorem dX7_rezone_21 : decode cX7_rezone 21 = .ok (.invokespecial 52, 3) := by decide +kernel
theorem dX7_rezone_24 : decode cX7_rezone 24 = .ok (.athrow, 1) := by decide +kernel
theorem dX7_rezone_25 : decode cX7_rezone 25 = .ok (.aload_n 0, 1) := by decide +kernel
theorem dX7_rezone_26 : decode cX7_rezone 26 = .ok (.invokevirtual 77, 3) := by decide +kernel
theorem dX7_rezone_29 : decode cX7_rezone 29 = .ok (.aload_n 3, 1) := by decide +kernel
theorem dX7_rezone_30 : decode cX7_rezone 30 = .ok (.getfield 98, 3) := by decide +kernel
theorem dX7_rezone_33 : decode cX7_rezone 33 = .ok (.istore 4, 2) := by decide +kernel
theorem dX7_rezone_35 : decode cX7_rezone 35 = .ok (.aload_n 3, 1) := by decide +kernel
theorem dX7_rezone_36 : decode cX7_rezone 36 = .ok (.iload_n 2, 1) := by decide +kernel
theorem dX7_rezone_37 : decode cX7_rezone 37 = .ok (.putfield 98, 3) := by decide +kernel
theorem dX7_rezone_40 : decode cX7_rezone 40 = .ok (.iload 4, 2) := by decide +kernel
theorem dX7_rezone_42 : decode cX7_rezone 42 = .ok (.ireturn, 1) := by decide +kernel
theorem dX7_cell_0 : decode cX7_cell 0 = .ok (.iload_n 1, 1) := by decide +kernel
theorem dX7_cell_1 : decode cX7_cell 1 = .ok (.ifCond .lt 19, 3) := by decide +kernel
theorem dX7_cell_4 : decode cX7_cell 4 = .ok (.iload_n 1, 1) := by decide +kernel
theorem dX7_cell_5 : decode cX7_cell 5 = .ok (.bipush 20, 2) := by decide +kernel
theorem dX7_cell_7 : decode cX7_cell 7 = .ok (.if_icmp .ge 13, 3) := by decide +kernel
theorem dX7_cell_10 : decode cX7_cell 10 = .ok (.iload_n 2, 1) := by decide +kernel
theorem dX7_cell_11 : decode cX7_cell 11 = .ok (.ifCond .lt 9, 3) := by decide +kernel
theorem dX7_cell_14 : decode cX7_cell 14 = .ok (.iload_n 2, 1) := by decide +kernel
theorem dX7_cell_15 : decode cX7_cell 15 = .ok (.bipush 14, 2) := by decide +kernel
theorem dX7_cell_17 : decode cX7_cell 17 = .ok (.if_icmp .lt 13, 3) := by decide +kernel
theorem dX7_cell_20 : decode cX7_cell 20 = .ok (.new 83, 3) := by decide +kernel
theorem dX7_cell_23 : decode cX7_cell 23 = .ok (.dup, 1) := by decide +kernel
theorem dX7_cell_24 : decode cX7_cell 24 = .ok (.ldc 129, 2) := by decide +kernel
theorem dX7_cell_26 : decode cX7_cell 26 = .ok (.invokespecial 87, 3) := by decide +kernel
theorem dX7_cell_29 : decode cX7_cell 29 = .ok (.athrow, 1) := by decide +kernel
theorem dX7_cell_30 : decode cX7_cell 30 = .ok (.iload_n 3, 1) := by decide +kernel
theorem dX7_cell_31 : decode cX7_cell 31 = .ok (.ifCond .lt 8, 3) := by decide +kernel
theorem dX7_cell_34 : decode cX7_cell 34 = .ok (.iload_n 3, 1) := by decide +kernel
theorem dX7_cell_35 : decode cX7_cell 35 = .ok (.iconst 5, 1) := by decide +kernel
theorem dX7_cell_36 : decode cX7_cell 36 = .ok (.if_icmp .le 13, 3) := by decide +kernel
theorem dX7_cell_39 : decode cX7_cell 39 = .ok (.new 48, 3) := by decide +kernel
theorem dX7_cell_42 : decode cX7_cell 42 = .ok (.dup, 1) := by decide +kernel
theorem dX7_cell_43 : decode cX7_cell 43 = .ok (.ldc 131, 2) := by decide +kernel
theorem dX7_cell_45 : decode cX7_cell 45 = .ok (.invokespecial 52, 3) := by decide +kernel
theorem dX7_cell_48 : decode cX7_cell 48 = .ok (.athrow, 1) := by decide +kernel
theorem dX7_cell_49 : decode cX7_cell 49 = .ok (.iload_n 3, 1) := by decide +kernel
theorem dX7_cell_50 : decode cX7_cell 50 = .ok (.ifCond .ne 13, 3) := by decide +kernel
theorem dX7_cell_53 : decode cX7_cell 53 = .ok (.aload_n 0, 1) := by decide +kernel
theorem dX7_cell_54 : decode cX7_cell 54 = .ok (.getfield 26, 3) := by decide +kernel
theorem dX7_cell_57 : decode cX7_cell 57 = .ok (.iload_n 1, 1) := by decide +kernel
theorem dX7_cell_58 : decode cX7_cell 58 = .ok (.iload_n 2, 1) := by decide +kernel
theorem dX7_cell_59 : decode cX7_cell 59 = .ok (.invokevirtual 133, 3) := by decide +kernel
theorem dX7_cell_62 : decode cX7_cell 62 = .ok (.ireturn, 1) := by decide +kernel
theorem dX7_cell_63 : decode cX7_cell 63 = .ok (.iload_n 3, 1) := by decide +kernel
theorem dX7_cell_64 : decode cX7_cell 64 = .ok (.iconst 1, 1) := by decide +kernel
theorem dX7_cell_65 : decode cX7_cell 65 = .ok (.if_icmp .ne 13, 3) := by decide +kernel
theorem dX7_cell_68 : decode cX7_cell 68 = .ok (.aload_n 0, 1) := by decide +kernel
theorem dX7_cell_69 : decode cX7_cell 69 = .ok (.getfield 26, 3) := by decide +kernel
theorem dX7_cell_72 : decode cX7_cell 72 = .ok (.iload_n 1, 1) := by decide +kernel
theorem dX7_cell_73 : decode cX7_cell 73 = .ok (.iload_n 2, 1) := by decide +kernel
theorem dX7_cell_74 : decode cX7_cell 74 = .ok (.invokevirtual 136, 3) := by decide +kernel
theorem dX7_cell_77 : decode cX7_cell 77 = .ok (.ireturn, 1) := by decide +kernel
theorem dX7_cell_78 : decode cX7_cell 78 = .ok (.aload_n 0, 1) := by decide +kernel
theorem dX7_cell_79 : decode cX7_cell 79 = .ok (.getfield 19, 3) := by decide +kernel
theorem dX7_cell_82 : decode cX7_cell 82 = .ok (.aload_n 0, 1) := by decide +kernel
theorem dX7_cell_83 : decode cX7_cell 83 = .ok (.getfield 26, 3) := by decide +kernel
theorem dX7_cell_86 : decode cX7_cell 86 = .ok (.iload_n 1, 1) := by decide +kernel
theorem dX7_cell_87 : decode cX7_cell 87 = .ok (.iload_n 2, 1) := by decide +kernel
theorem dX7_cell_88 : decode cX7_cell 88 = .ok (.iload_n 3, 1) := by decide +kernel
theorem dX7_cell_89 : decode cX7_cell 89 = .ok (.iconst 2, 1) := by decide +kernel
theorem dX7_cell_90 : decode cX7_cell 90 = .ok (.isub, 1) := by decide +kernel
theorem dX7_cell_91 : decode cX7_cell 91 = .ok (.invokevirtual 139, 3) := by decide +kernel
theorem dX7_cell_94 : decode cX7_cell 94 = .ok (.ireturn, 1) := by decide +kernel
theorem dX7_largest_0 : decode cX7_largest 0 = .ok (.aload_n 0, 1) := by decide +kernel
theorem dX7_largest_1 : decode cX7_largest 1 = .ok (.iload_n 1, 1) := by decide +kernel
theorem dX7_largest_2 : decode cX7_largest 2 = .ok (.invokevirtual 94, 3) := by decide +kernel
theorem dX7_largest_5 : decode cX7_largest 5 = .ok (.pop, 1) := by decide +kernel
theorem dX7_largest_6 : decode cX7_largest 6 = .ok (.aload_n 0, 1) := by decide +kernel
theorem dX7_largest_7 : decode cX7_largest 7 = .ok (.getfield 19, 3) := by decide +kernel
theorem dX7_largest_10 : decode cX7_largest 10 = .ok (.aload_n 0, 1) := by decide +kernel
theorem dX7_largest_11 : decode cX7_largest 11 = .ok (.getfield 26, 3) := by decide +kernel
theorem dX7_largest_14 : decode cX7_largest 14 = .ok (.iload_n 1, 1) := by decide +kernel
theorem dX7_largest_15 : decode cX7_largest 15 = .ok (.invokevirtual 143, 3) := by decide +kernel
theorem dX7_largest_18 : decode cX7_largest 18 = .ok (.ireturn, 1) := by decide +kernel
theorem dX7_permit_0 : decode cX7_permit 0 = .ok (.aload_n 0, 1) := by decide +kernel
theorem dX7_permit_1 : decode cX7_permit 1 = .ok (.iload_n 1, 1) := by decide +kernel
theorem dX7_permit_2 : decode cX7_permit 2 = .ok (.invokevirtual 146, 3) := by decide +kernel
theorem dX7_permit_5 : decode cX7_permit 5 = .ok (.astore_n 3, 1) := by decide +kernel
theorem dX7_permit_6 : decode cX7_permit 6 = .ok (.iload_n 2, 1) := by decide +kernel
theorem dX7_permit_7 : decode cX7_permit 7 = .ok (.tableswitch 142 0 12 #[65, 70, 75, 80, 85, 90, 95, 100, 105, 110, 127, 132, 137], 65) := by decide +kernel
theorem dX7_permit_72 : decode cX7_permit 72 = .ok (.aload_n 3, 1) := by decide +kernel
theorem dX7_permit_73 : decode cX7_permit 73 = .ok (.getfield 150, 3) := by decide +kernel
theorem dX7_permit_76 : decode cX7_permit 76 = .ok (.ireturn, 1) := by decide +kernel
theorem dX7_permit_77 : decode cX7_permit 77 = .ok (.aload_n 3, 1) := by decide +kernel
theorem dX7_permit_78 : decode cX7_permit 78 = .ok (.getfield 155, 3) := by decide +kernel
theorem dX7_permit_81 : decode cX7_permit 81 = .ok (.ireturn, 1) := by decide +kernel
theorem dX7_permit_82 : decode cX7_permit 82 = .ok (.aload_n 3, 1) := by decide +kernel
theorem dX7_permit_83 : decode cX7_permit 83 = .ok (.getfield 158, 3) := by decide +kernel
theorem dX7_permit_86 : decode cX7_permit 86 = .ok (.ireturn, 1) := by decide +kernel
theorem dX7_permit_87 : decode cX7_permit 87 = .ok (.aload_n 3, 1) := by decide +kernel
theorem dX7_permit_88 : decode cX7_permit 88 = .ok (.getfield 161, 3) := by decide +kernel
theorem dX7_permit_91 : decode cX7_permit 91 = .ok (.ireturn, 1) := by decide +kernel
theorem dX7_permit_92 : decode cX7_permit 92 = .ok (.aload_n 3, 1) := by decide +kernel
theorem dX7_permit_93 : decode cX7_permit 93 = .ok (.getfield 164, 3) := by decide +kernel
theorem dX7_permit_96 : decode cX7_permit 96 = .ok (.ireturn, 1) := by decide +kernel
theorem dX7_permit_97 : decode cX7_permit 97 = .ok (.aload_n 3, 1) := by decide +kernel
theorem dX7_permit_98 : decode cX7_permit 98 = .ok (.getfield 167, 3) := by decide +kernel
theorem dX7_permit_101 : decode cX7_permit 101 = .ok (.ireturn, 1) := by decide +kernel
theorem dX7_permit_102 : decode cX7_permit 102 = .ok (.aload_n 3, 1) := by decide +kernel
theorem dX7_permit_103 : decode cX7_permit 103 = .ok (.invokevirtual 168, 3) := by decide +kernel
theorem dX7_permit_106 : decode cX7_permit 106 = .ok (.ireturn, 1) := by decide +kernel
theorem dX7_permit_107 : decode cX7_permit 107 = .ok (.aload_n 3, 1) := by decide +kernel
theorem dX7_permit_108 : decode cX7_permit 108 = .ok (.getfield 171, 3) := by decide +kernel
theorem dX7_permit_111 : decode cX7_permit 111 = .ok (.ireturn, 1) := by decide +kernel
theorem dX7_permit_112 : decode cX7_permit 112 = .ok (.aload_n 3, 1) := by decide +kernel
theorem dX7_permit_113 : decode cX7_permit 113 = .ok (.getfield 174, 3) := by decide +kernel
theorem dX7_permit_116 : decode cX7_permit 116 = .ok (.ireturn, 1) := by decide +kernel
theorem dX7_permit_117 : decode cX7_permit 117 = .ok (.aload_n 3, 1) := by decide +kernel
theorem dX7_permit_118 : decode cX7_permit 118 = .ok (.getfield 150, 3) := by decide +kernel
theorem dX7_permit_121 : decode cX7_permit 121 = .ok (.iconst 2, 1) := by decide +kernel
theorem dX7_permit_122 : decode cX7_permit 122 = .ok (.if_icmp .ne 10, 3) := by decide +kernel
theorem dX7_permit_125 : decode cX7_permit 125 = .ok (.aload_n 3, 1) := by decide +kernel
theorem dX7_permit_126 : decode cX7_permit 126 = .ok (.getfield 177, 3) := by decide +kernel
theorem dX7_permit_129 : decode cX7_permit 129 = .ok (.goto 4, 3) := by decide +kernel
theorem dX7_permit_132 : decode cX7_permit 132 = .ok (.iconst (-1), 1) := by decide +kernel
theorem dX7_permit_133 : decode cX7_permit 133 = .ok (.ireturn, 1) := by decide +kernel
theorem dX7_permit_134 : decode cX7_permit 134 = .ok (.aload_n 3, 1) := by decide +kernel
theorem dX7_permit_135 : decode cX7_permit 135 = .ok (.getfield 180, 3) := by decide +kernel
theorem dX7_permit_138 : decode cX7_permit 138 = .ok (.ireturn, 1) := by decide +kernel
theorem dX7_permit_139 : decode cX7_permit 139 = .ok (.aload_n 3, 1) := by decide +kernel
theorem dX7_permit_140 : decode cX7_permit 140 = .ok (.invokevirtual 183, 3) := by decide +kernel
theorem dX7_permit_143 : decode cX7_permit 143 = .ok (.ireturn, 1) := by decide +kernel
theorem dX7_permit_144 : decode cX7_permit 144 = .ok (.aload_n 3, 1) := by decide +kernel
theorem dX7_permit_145 : decode cX7_permit 145 = .ok (.getfield 186, 3) := by decide +kernel
theorem dX7_permit_148 : decode cX7_permit 148 = .ok (.ireturn, 1) := by decide +kernel
theorem dX7_permit_149 : decode cX7_permit 149 = .ok (.new 48, 3) := by decide +kernel
theorem dX7_permit_152 : decode cX7_permit 152 = .ok (.dup, 1) := by decide +kernel
theorem dX7_permit_153 : decode cX7_permit 153 = .ok (.ldc 189, 2) := by decide +kernel
theorem dX7_permit_155 : decode cX7_permit 155 = .ok (.invokespecial 52, 3) := by decide +kernel
theorem dX7_permit_158 : decode cX7_permit 158 = .ok (.athrow, 1) := by decide +kernel
theorem dX7_findings_0 : decode cX7_findings 0 = .ok (.aload_n 0, 1) := by decide +kernel
theorem dX7_findings_1 : decode cX7_findings 1 = .ok (.iload_n 1, 1) := by decide +kernel
theorem dX7_findings_2 : decode cX7_findings 2 = .ok (.invokevirtual 146, 3) := by decide +kernel
theorem dX7_findings_5 : decode cX7_findings 5 = .ok (.astore_n 3, 1) := by decide +kernel
theorem dX7_findings_6 : decode cX7_findings 6 = .ok (.iload_n 2, 1) := by decide +kernel
theorem dX7_findings_7 : decode cX7_findings 7 = .ok (.ifCond .eq 18, 3) := by decide +kernel
theorem dX7_findings_10 : decode cX7_findings 10 = .ok (.aload_n 0, 1) := by decide +kernel
theorem dX7_findings_11 : decode cX7_findings 11 = .ok (.getfield 19, 3) := by decide +kernel
theorem dX7_findings_14 : decode cX7_findings 14 = .ok (.aload_n 0, 1) := by decide +kernel
theorem dX7_findings_15 : decode cX7_findings 15 = .ok (.getfield 26, 3) := by decide +kernel
theorem dX7_findings_18 : decode cX7_findings 18 = .ok (.aload_n 3, 1) := by decide +kernel
theorem dX7_findings_19 : decode cX7_findings 19 = .ok (.invokevirtual 191, 3) := by decide +kernel
theorem dX7_findings_22 : decode cX7_findings 22 = .ok (.goto 15, 3) := by decide +kernel
theorem dX7_findings_25 : decode cX7_findings 25 = .ok (.aload_n 0, 1) := by decide +kernel
theorem dX7_findings_26 : decode cX7_findings 26 = .ok (.getfield 19, 3) := by decide +kernel
theorem dX7_findings_29 : decode cX7_findings 29 = .ok (.aload_n 0, 1) := by decide +kernel
theorem dX7_findings_30 : decode cX7_findings 30 = .ok (.getfield 26, 3) := by decide +kernel
theorem dX7_findings_33 : decode cX7_findings 33 = .ok (.aload_n 3, 1) := by decide +kernel
theorem dX7_findings_34 : decode cX7_findings 34 = .ok (.invokevirtual 195, 3) := by decide +kernel
theorem dX7_findings_37 : decode cX7_findings 37 = .ok (.ireturn, 1) := by decide +kernel
theorem dX7_finding_0 : decode cX7_finding 0 = .ok (.aload_n 0, 1) := by decide +kernel
theorem dX7_finding_1 : decode cX7_finding 1 = .ok (.iload_n 1, 1) := by decide +kernel
theorem dX7_finding_2 : decode cX7_finding 2 = .ok (.invokevirtual 146, 3) := by decide +kernel
theorem dX7_finding_5 : decode cX7_finding 5 = .ok (.astore 4, 2) := by decide +kernel
theorem dX7_finding_7 : decode cX7_finding 7 = .ok (.iload_n 2, 1) := by decide +kernel
theorem dX7_finding_8 : decode cX7_finding 8 = .ok (.ifCond .lt 9, 3) := by decide +kernel
theorem dX7_finding_11 : decode cX7_finding 11 = .ok (.iload_n 2, 1) := by decide +kernel
theorem dX7_finding_12 : decode cX7_finding 12 = .ok (.bipush 9, 2) := by decide +kernel
theorem dX7_finding_14 : decode cX7_finding 14 = .ok (.if_icmp .lt 13, 3) := by decide +kernel
theorem dX7_finding_17 : decode cX7_finding 17 = .ok (.new 48, 3) := by decide +kernel
theorem dX7_finding_20 : decode cX7_finding 20 = .ok (.dup, 1) := by decide +kernel
theorem dX7_finding_21 : decode cX7_finding 21 = .ok (.ldc 198, 2) := by decide +kernel
theorem dX7_finding_23 : decode cX7_finding 23 = .ok (.invokespecial 52, 3) := by decide +kernel
theorem dX7_finding_26 : decode cX7_finding 26 = .ok (.athrow, 1) := by decide +kernel
theorem dX7_finding_27 : decode cX7_finding 27 = .ok (.iload_n 3, 1) := by decide +kernel
theorem dX7_finding_28 : decode cX7_finding 28 = .ok (.tableswitch 73 0 2 #[28, 43, 58], 28) := by decide +kernel
theorem dX7_finding_56 : decode cX7_finding 56 = .ok (.aload_n 0, 1) := by decide +kernel
theorem dX7_finding_57 : decode cX7_finding 57 = .ok (.getfield 19, 3) := by decide +kernel
theorem dX7_finding_60 : decode cX7_finding 60 = .ok (.aload_n 0, 1) := by decide +kernel
theorem dX7_finding_61 : decode cX7_finding 61 = .ok (.getfield 26, 3) := by decide +kernel
theorem dX7_finding_64 : decode cX7_finding 64 = .ok (.aload 4, 2) := by decide +kernel
theorem dX7_finding_66 : decode cX7_finding 66 = .ok (.iload_n 2, 1) := by decide +kernel
theorem dX7_finding_67 : decode cX7_finding 67 = .ok (.invokevirtual 200, 3) := by decide +kernel
theorem dX7_finding_70 : decode cX7_finding 70 = .ok (.ireturn, 1) := by decide +kernel
theorem dX7_finding_71 : decode cX7_finding 71 = .ok (.aload_n 0, 1) := by decide +kernel
theorem dX7_finding_72 : decode cX7_finding 72 = .ok (.getfield 19, 3) := by decide +kernel
theorem dX7_finding_75 : decode cX7_finding 75 = .ok (.aload_n 0, 1) := by decide +kernel
theorem dX7_finding_76 : decode cX7_finding 76 = .ok (.getfield 26, 3) := by decide +kernel
theorem dX7_finding_79 : decode cX7_finding 79 = .ok (.aload 4, 2) := by decide +kernel
theorem dX7_finding_81 : decode cX7_finding 81 = .ok (.iload_n 2, 1) := by decide +kernel
theorem dX7_finding_82 : decode cX7_finding 82 = .ok (.invokevirtual 204, 3) := by decide +kernel
theorem dX7_finding_85 : decode cX7_finding 85 = .ok (.ireturn, 1) := by decide +kernel
theorem dX7_finding_86 : decode cX7_finding 86 = .ok (.aload_n 0, 1) := by decide +kernel
theorem dX7_finding_87 : decode cX7_finding 87 = .ok (.getfield 19, 3) := by decide +kernel
theorem dX7_finding_90 : decode cX7_finding 90 = .ok (.aload_n 0, 1) := by decide +kernel
theorem dX7_finding_91 : decode cX7_finding 91 = .ok (.getfield 26, 3) := by decide +kernel
theorem dX7_finding_94 : decode cX7_finding 94 = .ok (.aload 4, 2) := by decide +kernel
theorem dX7_finding_96 : decode cX7_finding 96 = .ok (.iload_n 2, 1) := by decide +kernel
theorem dX7_finding_97 : decode cX7_finding 97 = .ok (.invokevirtual 207, 3) := by decide +kernel
theorem dX7_finding_100 : decode cX7_finding 100 = .ok (.ireturn, 1) := by decide +kernel
theorem dX7_finding_101 : decode cX7_finding 101 = .ok (.new 48, 3) := by decide +kernel
theorem dX7_finding_104 : decode cX7_finding 104 = .ok (.dup, 1) := by decide +kernel
theorem dX7_finding_105 : decode cX7_finding 105 = .ok (.ldc 210, 2) := by decide +kernel
theorem dX7_finding_107 : decode cX7_finding 107 = .ok (.invokespecial 52, 3) := by decide +kernel
theorem dX7_finding_110 : decode cX7_finding 110 = .ok (.athrow, 1) := by decide +kernel
theorem dX7_worst_0 : decode cX7_worst 0 = .ok (.iconst (-1), 1) := by decide +kernel
theorem dX7_worst_1 : decode cX7_worst 1 = .ok (.istore_n 1, 1) := by decide +kernel
theorem dX7_worst_2 : decode cX7_worst 2 = .ok (.iconst 0, 1) := by decide +kernel
theorem dX7_worst_3 : decode cX7_worst 3 = .ok (.istore_n 2, 1) := by decide +kernel
theorem dX7_worst_4 : decode cX7_worst 4 = .ok (.iconst 0, 1) := by decide +kernel
theorem dX7_worst_5 : decode cX7_worst 5 = .ok (.istore_n 3, 1) := by decide +kernel
theorem dX7_worst_6 : decode cX7_worst 6 = .ok (.iload_n 3, 1) := by decide +kernel
theorem dX7_worst_7 : decode cX7_worst 7 = .ok (.aload_n 0, 1) := by decide +kernel
theorem dX7_worst_8 : decode cX7_worst 8 = .ok (.getfield 26, 3) := by decide +kernel
theorem dX7_worst_11 : decode cX7_worst 11 = .ok (.getfield 212, 3) := by decide +kernel
theorem dX7_worst_14 : decode cX7_worst 14 = .ok (.if_icmp .ge 61, 3) := by decide +kernel
theorem dX7_worst_17 : decode cX7_worst 17 = .ok (.aload_n 0, 1) := by decide +kernel
theorem dX7_worst_18 : decode cX7_worst 18 = .ok (.getfield 26, 3) := by decide +kernel
theorem dX7_worst_21 : decode cX7_worst 21 = .ok (.getfield 215, 3) := by decide +kernel
theorem dX7_worst_24 : decode cX7_worst 24 = .ok (.iload_n 3, 1) := by decide +kernel
theorem dX7_worst_25 : decode cX7_worst 25 = .ok (.aaload, 1) := by decide +kernel
theorem dX7_worst_26 : decode cX7_worst 26 = .ok (.astore 4, 2) := by decide +kernel
theorem dX7_worst_28 : decode cX7_worst 28 = .ok (.aload 4, 2) := by decide +kernel
theorem dX7_worst_30 : decode cX7_worst 30 = .ok (.invokevirtual 219, 3) := by decide +kernel
theorem dX7_worst_33 : decode cX7_worst 33 = .ok (.ifCond .eq 22, 3) := by decide +kernel
theorem dX7_worst_36 : decode cX7_worst 36 = .ok (.aload_n 0, 1) := by decide +kernel
theorem dX7_worst_37 : decode cX7_worst 37 = .ok (.getfield 19, 3) := by decide +kernel
theorem dX7_worst_40 : decode cX7_worst 40 = .ok (.aload_n 0, 1) := by decide +kernel
theorem dX7_worst_41 : decode cX7_worst 41 = .ok (.getfield 26, 3) := by decide +kernel
theorem dX7_worst_44 : decode cX7_worst 44 = .ok (.aload 4, 2) := by decide +kernel
theorem dX7_worst_46 : decode cX7_worst 46 = .ok (.invokevirtual 223, 3) := by decide +kernel
theorem dX7_worst_49 : decode cX7_worst 49 = .ok (.invokestatic 226, 3) := by decide +kernel
theorem dX7_worst_52 : decode cX7_worst 52 = .ok (.goto 4, 3) := by decide +kernel
theorem dX7_worst_55 : decode cX7_worst 55 = .ok (.iconst 0, 1) := by decide +kernel
theorem dX7_worst_56 : decode cX7_worst 56 = .ok (.istore 5, 2) := by decide +kernel
theorem dX7_worst_58 : decode cX7_worst 58 = .ok (.iload 5, 2) := by decide +kernel
theorem dX7_worst_60 : decode cX7_worst 60 = .ok (.iload_n 2, 1) := by decide +kernel
theorem dX7_worst_61 : decode cX7_worst 61 = .ok (.if_icmp .le 8, 3) := by decide +kernel
theorem dX7_worst_64 : decode cX7_worst 64 = .ok (.iload_n 3, 1) := by decide +kernel
theorem dX7_worst_65 : decode cX7_worst 65 = .ok (.istore_n 1, 1) := by decide +kernel
theorem dX7_worst_66 : decode cX7_worst 66 = .ok (.iload 5, 2) := by decide +kernel
theorem dX7_worst_68 : decode cX7_worst 68 = .ok (.istore_n 2, 1) := by decide +kernel
theorem dX7_worst_69 : decode cX7_worst 69 = .ok (.iinc 3 1, 3) := by decide +kernel
theorem dX7_worst_72 : decode cX7_worst 72 = .ok (.goto (-66), 3) := by decide +kernel
theorem dX7_worst_75 : decode cX7_worst 75 = .ok (.iload_n 1, 1) := by decide +kernel
theorem dX7_worst_76 : decode cX7_worst 76 = .ok (.iconst (-1), 1) := by decide +kernel
theorem dX7_worst_77 : decode cX7_worst 77 = .ok (.if_icmp .ne 13, 3) := by decide +kernel
theorem dX7_worst_80 : decode cX7_worst 80 = .ok (.new 232, 3) := by decide +kernel
theorem dX7_worst_83 : decode cX7_worst 83 = .ok (.dup, 1) := by decide +kernel
theorem dX7_worst_84 : decode cX7_worst 84 = .ok (.ldc 234, 2) := by decide +kernel
theorem dX7_worst_86 : decode cX7_worst 86 = .ok (.invokespecial 236, 3) := by decide +kernel
theorem dX7_worst_89 : decode cX7_worst 89 = .ok (.athrow, 1) := by decide +kernel
theorem dX7_worst_90 : decode cX7_worst 90 = .ok (.iload_n 1, 1) := by decide +kernel
theorem dX7_worst_91 : decode cX7_worst 91 = .ok (.ireturn, 1) := by decide +kernel
theorem dX7_decide_0 : decode cX7_decide 0 = .ok (.aload_n 0, 1) := by decide +kernel
theorem dX7_decide_1 : decode cX7_decide 1 = .ok (.iload_n 1, 1) := by decide +kernel
theorem dX7_decide_2 : decode cX7_decide 2 = .ok (.invokevirtual 146, 3) := by decide +kernel
theorem dX7_decide_5 : decode cX7_decide 5 = .ok (.astore_n 2, 1) := by decide +kernel
theorem dX7_decide_6 : decode cX7_decide 6 = .ok (.aload_n 2, 1) := by decide +kernel
theorem dX7_decide_7 : decode cX7_decide 7 = .ok (.getfield 150, 3) := by decide +kernel
theorem dX7_decide_10 : decode cX7_decide 10 = .ok (.ifCond .eq 13, 3) := by decide +kernel
theorem dX7_decide_13 : decode cX7_decide 13 = .ok (.new 58, 3) := by decide +kernel
theorem dX7_decide_16 : decode cX7_decide 16 = .ok (.dup, 1) := by decide +kernel
theorem dX7_decide_17 : decode cX7_decide 17 = .ok (.ldc 237, 2) := by decide +kernel
theorem dX7_decide_19 : decode cX7_decide 19 = .ok (.invokespecial 62, 3) := by decide +kernel
theorem dX7_decide_22 : decode cX7_decide 22 = .ok (.athrow, 1) := by decide +kernel
theorem dX7_decide_23 : decode cX7_decide 23 = .ok (.aload_n 0, 1) := by decide +kernel
theorem dX7_decide_24 : decode cX7_decide 24 = .ok (.invokevirtual 77, 3) := by decide +kernel
theorem dX7_decide_27 : decode cX7_decide 27 = .ok (.aload_n 0, 1) := by decide +kernel
theorem dX7_decide_28 : decode cX7_decide 28 = .ok (.getfield 19, 3) := by decide +kernel
theorem dX7_decide_31 : decode cX7_decide 31 = .ok (.aload_n 0, 1) := by decide +kernel
theorem dX7_decide_32 : decode cX7_decide 32 = .ok (.getfield 26, 3) := by decide +kernel
theorem dX7_decide_35 : decode cX7_decide 35 = .ok (.aload_n 2, 1) := by decide +kernel
theorem dX7_decide_36 : decode cX7_decide 36 = .ok (.invokevirtual 223, 3) := by decide +kernel
theorem dX7_decide_39 : decode cX7_decide 39 = .ok (.istore_n 3, 1) := by decide +kernel
theorem dX7_decide_40 : decode cX7_decide 40 = .ok (.iload_n 3, 1) := by decide +kernel
theorem dX7_decide_41 : decode cX7_decide 41 = .ok (.ifCond .ne 29, 3) := by decide +kernel
theorem dX7_decide_44 : decode cX7_decide 44 = .ok (.aload_n 2, 1) := by decide +kernel
theorem dX7_decide_45 : decode cX7_decide 45 = .ok (.aload_n 0, 1) := by decide +kernel
theorem dX7_decide_46 : decode cX7_decide 46 = .ok (.getfield 26, 3) := by decide +kernel
theorem dX7_decide_49 : decode cX7_decide 49 = .ok (.getfield 239, 3) := by decide +kernel
theorem dX7_decide_52 : decode cX7_decide 52 = .ok (.aload_n 0, 1) := by decide +kernel
theorem dX7_decide_53 : decode cX7_decide 53 = .ok (.getfield 19, 3) := by decide +kernel
theorem dX7_decide_56 : decode cX7_decide 56 = .ok (.aload_n 0, 1) := by decide +kernel
theorem dX7_decide_57 : decode cX7_decide 57 = .ok (.getfield 26, 3) := by decide +kernel
theorem dX7_decide_60 : decode cX7_decide 60 = .ok (.aload_n 2, 1) := by decide +kernel
theorem dX7_decide_61 : decode cX7_decide 61 = .ok (.invokevirtual 242, 3) := by decide +kernel
theorem dX7_decide_64 : decode cX7_decide 64 = .ok (.invokevirtual 245, 3) := by decide +kernel
theorem dX7_decide_67 : decode cX7_decide 67 = .ok (.goto 11, 3) := by decide +kernel
theorem dX7_decide_70 : decode cX7_decide 70 = .ok (.aload_n 2, 1) := by decide +kernel
theorem dX7_decide_71 : decode cX7_decide 71 = .ok (.iload_n 3, 1) := by decide +kernel
theorem dX7_decide_72 : decode cX7_decide 72 = .ok (.invokestatic 249, 3) := by decide +kernel
theorem dX7_decide_75 : decode cX7_decide 75 = .ok (.invokevirtual 252, 3) := by decide +kernel
theorem dX7_decide_78 : decode cX7_decide 78 = .ok (.aload_n 2, 1) := by decide +kernel
theorem dX7_decide_79 : decode cX7_decide 79 = .ok (.getfield 150, 3) := by decide +kernel
theorem dX7_decide_82 : decode cX7_decide 82 = .ok (.ireturn, 1) := by decide +kernel
theorem dX7_reason_0 : decode cX7_reason 0 = .ok (.aload_n 0, 1) := by decide +kernel
theorem dX7_reason_1 : decode cX7_reason 1 = .ok (.iload_n 1, 1) := by decide +kernel
theorem dX7_reason_2 : decode cX7_reason 2 = .ok (.invokevirtual 146, 3) := by decide +kernel
theorem dX7_reason_5 : decode cX7_reason 5 = .ok (.astore_n 2, 1) := by decide +kernel
theorem dX7_reason_6 : decode cX7_reason 6 = .ok (.aload_n 2, 1) := by decide +kernel
theorem dX7_reason_7 : decode cX7_reason 7 = .ok (.getfield 150, 3) := by decide +kernel
theorem dX7_reason_10 : decode cX7_reason 10 = .ok (.iconst 1, 1) := by decide +kernel
theorem dX7_reason_11 : decode cX7_reason 11 = .ok (.if_icmp .eq 14, 3) := by decide +kernel
theorem dX7_reason_14 : decode cX7_reason 14 = .ok (.new 232, 3) := by decide +kernel
theorem dX7_reason_17 : decode cX7_reason 17 = .ok (.dup, 1) := by decide +kernel
theorem dX7_reason_18 : decode cX7_reason 18 = .ok (.ldc_w 256, 3) := by decide +kernel
theorem dX7_reason_21 : decode cX7_reason 21 = .ok (.invokespecial 236, 3) := by decide +kernel
theorem dX7_reason_24 : decode cX7_reason 24 = .ok (.athrow, 1) := by decide +kernel
theorem dX7_reason_25 : decode cX7_reason 25 = .ok (.aload_n 2, 1) := by decide +kernel
theorem dX7_reason_26 : decode cX7_reason 26 = .ok (.getfield 258, 3) := by decide +kernel
theorem dX7_reason_29 : decode cX7_reason 29 = .ok (.ireturn, 1) := by decide +kernel
theorem dX7_revoke_0 : decode cX7_revoke 0 = .ok (.aload_n 0, 1) := by decide +kernel
theorem dX7_revoke_1 : decode cX7_revoke 1 = .ok (.iload_n 1, 1) := by decide +kernel
theorem dX7_revoke_2 : decode cX7_revoke 2 = .ok (.invokevirtual 146, 3) := by decide +kernel
theorem dX7_revoke_5 : decode cX7_revoke 5 = .ok (.astore_n 2, 1) := by decide +kernel
theorem dX7_revoke_6 : decode cX7_revoke 6 = .ok (.aload_n 2, 1) := by decide +kernel
theorem dX7_revoke_7 : decode cX7_revoke 7 = .ok (.getfield 150, 3) := by decide +kernel
theorem dX7_revoke_10 : decode cX7_revoke 10 = .ok (.iconst 2, 1) := by decide +kernel
theorem dX7_revoke_11 : decode cX7_revoke 11 = .ok (.if_icmp .eq 23, 3) := by decide +kernel
theorem dX7_revoke_14 : decode cX7_revoke 14 = .ok (.aload_n 2, 1) := by decide +kernel
theorem dX7_revoke_15 : decode cX7_revoke 15 = .ok (.getfield 150, 3) := by decide +kernel
theorem dX7_revoke_18 : decode cX7_revoke 18 = .ok (.bipush 6, 2) := by decide +kernel
theorem dX7_revoke_20 : decode cX7_revoke 20 = .ok (.if_icmp .eq 14, 3) := by decide +kernel
theorem dX7_revoke_23 : decode cX7_revoke 23 = .ok (.new 58, 3) := by decide +kernel
theorem dX7_revoke_26 : decode cX7_revoke 26 = .ok (.dup, 1) := by decide +kernel
theorem dX7_revoke_27 : decode cX7_revoke 27 = .ok (.ldc_w 261, 3) := by decide +kernel
theorem dX7_revoke_30 : decode cX7_revoke 30 = .ok (.invokespecial 62, 3) := by decide +kernel
theorem dX7_revoke_33 : decode cX7_revoke 33 = .ok (.athrow, 1) := by decide +kernel
theorem dX7_revoke_34 : decode cX7_revoke 34 = .ok (.aload_n 0, 1) := by decide +kernel
theorem dX7_revoke_35 : decode cX7_revoke 35 = .ok (.invokevirtual 77, 3) := by decide +kernel
theorem dX7_revoke_38 : decode cX7_revoke 38 = .ok (.iconst 2, 1) := by decide +kernel
theorem dX7_revoke_39 : decode cX7_revoke 39 = .ok (.iconst 4, 1) := by decide +kernel
theorem dX7_revoke_40 : decode cX7_revoke 40 = .ok (.aload_n 2, 1) := by decide +kernel
theorem dX7_revoke_41 : decode cX7_revoke 41 = .ok (.getfield 171, 3) := by decide +kernel
theorem dX7_revoke_44 : decode cX7_revoke 44 = .ok (.isub, 1) := by decide +kernel
theorem dX7_revoke_45 : decode cX7_revoke 45 = .ok (.imul, 1) := by decide +kernel
theorem dX7_revoke_46 : decode cX7_revoke 46 = .ok (.istore_n 3, 1) := by decide +kernel
theorem dX7_revoke_47 : decode cX7_revoke 47 = .ok (.aload_n 2, 1) := by decide +kernel
theorem dX7_revoke_48 : decode cX7_revoke 48 = .ok (.iconst 5, 1) := by decide +kernel
theorem dX7_revoke_49 : decode cX7_revoke 49 = .ok (.putfield 150, 3) := by decide +kernel
theorem dX7_revoke_52 : decode cX7_revoke 52 = .ok (.aload_n 2, 1) := by decide +kernel
theorem dX7_revoke_53 : decode cX7_revoke 53 = .ok (.dup, 1) := by decide +kernel
theorem dX7_revoke_54 : decode cX7_revoke 54 = .ok (.getfield 263, 3) := by decide +kernel
theorem dX7_revoke_57 : decode cX7_revoke 57 = .ok (.iload_n 3, 1) := by decide +kernel
theorem dX7_revoke_58 : decode cX7_revoke 58 = .ok (.iadd, 1) := by decide +kernel
theorem dX7_revoke_59 : decode cX7_revoke 59 = .ok (.putfield 263, 3) := by decide +kernel
theorem dX7_revoke_62 : decode cX7_revoke 62 = .ok (.iload_n 3, 1) := by decide +kernel
theorem dX7_revoke_63 : decode cX7_revoke 63 = .ok (.ireturn, 1) := by decide +kernel
theorem dX7_urgent_0 : decode cX7_urgent 0 = .ok (.aload_n 0, 1) := by decide +kernel
theorem dX7_urgent_1 : decode cX7_urgent 1 = .ok (.getfield 26, 3) := by decide +kernel
theorem dX7_urgent_4 : decode cX7_urgent 4 = .ok (.iload_n 1, 1) := by decide +kernel
theorem dX7_urgent_5 : decode cX7_urgent 5 = .ok (.invokevirtual 266, 3) := by decide +kernel
theorem dX7_urgent_8 : decode cX7_urgent 8 = .ok (.istore_n 2, 1) := by decide +kernel
theorem dX7_urgent_9 : decode cX7_urgent 9 = .ok (.iload_n 2, 1) := by decide +kernel
theorem dX7_urgent_10 : decode cX7_urgent 10 = .ok (.iconst (-1), 1) := by decide +kernel
theorem dX7_urgent_11 : decode cX7_urgent 11 = .ok (.if_icmp .ne 14, 3) := by decide +kernel
theorem dX7_urgent_14 : decode cX7_urgent 14 = .ok (.new 232, 3) := by decide +kernel
theorem dX7_urgent_17 : decode cX7_urgent 17 = .ok (.dup, 1) := by decide +kernel
theorem dX7_urgent_18 : decode cX7_urgent 18 = .ok (.ldc_w 269, 3) := by decide +kernel
theorem dX7_urgent_21 : decode cX7_urgent 21 = .ok (.invokespecial 236, 3) := by decide +kernel
theorem dX7_urgent_24 : decode cX7_urgent 24 = .ok (.athrow, 1) := by decide +kernel
theorem dX7_urgent_25 : decode cX7_urgent 25 = .ok (.iload_n 2, 1) := by decide +kernel
theorem dX7_urgent_26 : decode cX7_urgent 26 = .ok (.ireturn, 1) := by decide +kernel
theorem dX7_variance_0 : decode cX7_variance 0 = .ok (.iload_n 1, 1) := by decide +kernel
theorem dX7_variance_1 : decode cX7_variance 1 = .ok (.ifCond .lt 14, 3) := by decide +kernel
theorem dX7_variance_4 : decode cX7_variance 4 = .ok (.iload_n 1, 1) := by decide +kernel
theorem dX7_variance_5 : decode cX7_variance 5 = .ok (.aload_n 0, 1) := by decide +kernel
theorem dX7_variance_6 : decode cX7_variance 6 = .ok (.getfield 26, 3) := by decide +kernel
theorem dX7_variance_9 : decode cX7_variance 9 = .ok (.getfield 271, 3) := by decide +kernel
theorem dX7_variance_12 : decode cX7_variance 12 = .ok (.if_icmp .lt 14, 3) := by decide +kernel
theorem dX7_variance_15 : decode cX7_variance 15 = .ok (.new 83, 3) := by decide +kernel
theorem dX7_variance_18 : decode cX7_variance 18 = .ok (.dup, 1) := by decide +kernel
theorem dX7_variance_19 : decode cX7_variance 19 = .ok (.ldc_w 274, 3) := by decide +kernel
theorem dX7_variance_22 : decode cX7_variance 22 = .ok (.invokespecial 87, 3) := by decide +kernel
theorem dX7_variance_25 : decode cX7_variance 25 = .ok (.athrow, 1) := by decide +kernel
theorem dX7_variance_26 : decode cX7_variance 26 = .ok (.aload_n 0, 1) := by decide +kernel
theorem dX7_variance_27 : decode cX7_variance 27 = .ok (.getfield 26, 3) := by decide +kernel
theorem dX7_variance_30 : decode cX7_variance 30 = .ok (.getfield 276, 3) := by decide +kernel
theorem dX7_variance_33 : decode cX7_variance 33 = .ok (.iload_n 1, 1) := by decide +kernel
theorem dX7_variance_34 : decode cX7_variance 34 = .ok (.aaload, 1) := by decide +kernel
theorem dX7_variance_35 : decode cX7_variance 35 = .ok (.astore_n 3, 1) := by decide +kernel
theorem dX7_variance_36 : decode cX7_variance 36 = .ok (.iload_n 2, 1) := by decide +kernel
theorem dX7_variance_37 : decode cX7_variance 37 = .ok (.tableswitch 88 0 5 #[39, 44, 49, 54, 59, 68], 39) := by decide +kernel
theorem dX7_variance_76 : decode cX7_variance 76 = .ok (.aload_n 3, 1) := by decide +kernel
theorem dX7_variance_77 : decode cX7_variance 77 = .ok (.getfield 280, 3) := by decide +kernel
theorem dX7_variance_80 : decode cX7_variance 80 = .ok (.ireturn, 1) := by decide +kernel
theorem dX7_variance_81 : decode cX7_variance 81 = .ok (.aload_n 3, 1) := by decide +kernel
theorem dX7_variance_82 : decode cX7_variance 82 = .ok (.getfield 283, 3) := by decide +kernel
theorem dX7_variance_85 : decode cX7_variance 85 = .ok (.ireturn, 1) := by decide +kernel
theorem dX7_variance_86 : decode cX7_variance 86 = .ok (.aload_n 3, 1) := by decide +kernel
theorem dX7_variance_87 : decode cX7_variance 87 = .ok (.getfield 286, 3) := by decide +kernel
theorem dX7_variance_90 : decode cX7_variance 90 = .ok (.ireturn, 1) := by decide +kernel
theorem dX7_variance_91 : decode cX7_variance 91 = .ok (.aload_n 3, 1) := by decide +kernel
theorem dX7_variance_92 : decode cX7_variance 92 = .ok (.getfield 289, 3) := by decide +kernel
theorem dX7_variance_95 : decode cX7_variance 95 = .ok (.ireturn, 1) := by decide +kernel
theorem dX7_variance_96 : decode cX7_variance 96 = .ok (.aload_n 0, 1) := by decide +kernel
theorem dX7_variance_97 : decode cX7_variance 97 = .ok (.getfield 26, 3) := by decide +kernel
theorem dX7_variance_100 : decode cX7_variance 100 = .ok (.iload_n 1, 1) := by decide +kernel
theorem dX7_variance_101 : decode cX7_variance 101 = .ok (.invokevirtual 292, 3) := by decide +kernel
theorem dX7_variance_104 : decode cX7_variance 104 = .ok (.ireturn, 1) := by decide +kernel
theorem dX7_variance_105 : decode cX7_variance 105 = .ok (.aload_n 3, 1) := by decide +kernel
theorem dX7_variance_106 : decode cX7_variance 106 = .ok (.aload_n 0, 1) := by decide +kernel
theorem dX7_variance_107 : decode cX7_variance 107 = .ok (.getfield 26, 3) := by decide +kernel
theorem dX7_variance_110 : decode cX7_variance 110 = .ok (.getfield 239, 3) := by decide +kernel
theorem dX7_variance_113 : decode cX7_variance 113 = .ok (.invokevirtual 295, 3) := by decide +kernel
theorem dX7_variance_116 : decode cX7_variance 116 = .ok (.ifCond .eq 7, 3) := by decide +kernel
theorem dX7_variance_119 : decode cX7_variance 119 = .ok (.iconst 1, 1) := by decide +kernel
theorem dX7_variance_120 : decode cX7_variance 120 = .ok (.goto 4, 3) := by decide +kernel
theorem dX7_variance_123 : decode cX7_variance 123 = .ok (.iconst 0, 1) := by decide +kernel
theorem dX7_variance_124 : decode cX7_variance 124 = .ok (.ireturn, 1) := by decide +kernel
theorem dX7_variance_125 : decode cX7_variance 125 = .ok (.new 48, 3) := by decide +kernel
theorem dX7_variance_128 : decode cX7_variance 128 = .ok (.dup, 1) := by decide +kernel
theorem dX7_variance_129 : decode cX7_variance 129 = .ok (.ldc_w 299, 3) := by decide +kernel
theorem dX7_variance_132 : decode cX7_variance 132 = .ok (.invokespecial 52, 3) := by decide +kernel
theorem dX7_variance_135 : decode cX7_variance 135 = .ok (.athrow, 1) := by decide +kernel
theorem dX7_needed_0 : decode cX7_needed 0 = .ok (.aload_n 0, 1) := by decide +kernel
theorem dX7_needed_1 : decode cX7_needed 1 = .ok (.iload_n 1, 1) := by decide +kernel
theorem dX7_needed_2 : decode cX7_needed 2 = .ok (.invokevirtual 146, 3) := by decide +kernel
theorem dX7_needed_5 : decode cX7_needed 5 = .ok (.astore_n 3, 1) := by decide +kernel
theorem dX7_needed_6 : decode cX7_needed 6 = .ok (.iload_n 2, 1) := by decide +kernel
theorem dX7_needed_7 : decode cX7_needed 7 = .ok (.iconst 2, 1) := by decide +kernel
theorem dX7_needed_8 : decode cX7_needed 8 = .ok (.if_icmp .lt 9, 3) := by decide +kernel
theorem dX7_needed_11 : decode cX7_needed 11 = .ok (.iload_n 2, 1) := by decide +kernel
theorem dX7_needed_12 : decode cX7_needed 12 = .ok (.bipush 8, 2) := by decide +kernel
theorem dX7_needed_14 : decode cX7_needed 14 = .ok (.if_icmp .le 14, 3) := by decide +kernel
theorem dX7_needed_17 : decode cX7_needed 17 = .ok (.new 48, 3) := by decide +kernel
theorem dX7_needed_20 : decode cX7_needed 20 = .ok (.dup, 1) := by decide +kernel
theorem dX7_needed_21 : decode cX7_needed 21 = .ok (.ldc_w 301, 3) := by decide +kernel
theorem dX7_needed_24 : decode cX7_needed 24 = .ok (.invokespecial 52, 3) := by decide +kernel
theorem dX7_needed_27 : decode cX7_needed 27 = .ok (.athrow, 1) := by decide +kernel
theorem dX7_needed_28 : decode cX7_needed 28 = .ok (.aload_n 0, 1) := by decide +kernel
theorem dX7_needed_29 : decode cX7_needed 29 = .ok (.getfield 19, 3) := by decide +kernel
theorem dX7_needed_32 : decode cX7_needed 32 = .ok (.aload_n 0, 1) := by decide +kernel
theorem dX7_needed_33 : decode cX7_needed 33 = .ok (.getfield 26, 3) := by decide +kernel
theorem dX7_needed_36 : decode cX7_needed 36 = .ok (.aload_n 3, 1) := by decide +kernel
theorem dX7_needed_37 : decode cX7_needed 37 = .ok (.iload_n 2, 1) := by decide +kernel
theorem dX7_needed_38 : decode cX7_needed 38 = .ok (.invokevirtual 303, 3) := by decide +kernel
theorem dX7_needed_41 : decode cX7_needed 41 = .ok (.ireturn, 1) := by decide +kernel
theorem dX7_condition_0 : decode cX7_condition 0 = .ok (.aload_n 0, 1) := by decide +kernel
theorem dX7_condition_1 : decode cX7_condition 1 = .ok (.iload_n 1, 1) := by decide +kernel
theorem dX7_condition_2 : decode cX7_condition 2 = .ok (.invokevirtual 146, 3) := by decide +kernel
theorem dX7_condition_5 : decode cX7_condition 5 = .ok (.astore 4, 2) := by decide +kernel
theorem dX7_condition_7 : decode cX7_condition 7 = .ok (.iload_n 2, 1) := by decide +kernel
theorem dX7_condition_8 : decode cX7_condition 8 = .ok (.ifCond .lt 12, 3) := by decide +kernel
theorem dX7_condition_11 : decode cX7_condition 11 = .ok (.iload_n 2, 1) := by decide +kernel
theorem dX7_condition_12 : decode cX7_condition 12 = .ok (.aload 4, 2) := by decide +kernel
theorem dX7_condition_14 : decode cX7_condition 14 = .ok (.getfield 186, 3) := by decide +kernel
theorem dX7_condition_17 : decode cX7_condition 17 = .ok (.if_icmp .lt 14, 3) := by decide +kernel
theorem dX7_condition_20 : decode cX7_condition 20 = .ok (.new 83, 3) := by decide +kernel
theorem dX7_condition_23 : decode cX7_condition 23 = .ok (.dup, 1) := by decide +kernel
theorem dX7_condition_24 : decode cX7_condition 24 = .ok (.ldc_w 306, 3) := by decide +kernel
theorem dX7_condition_27 : decode cX7_condition 27 = .ok (.invokespecial 87, 3) := by decide +kernel
theorem dX7_condition_30 : decode cX7_condition 30 = .ok (.athrow, 1) := by decide +kernel
theorem dX7_condition_31 : decode cX7_condition 31 = .ok (.iload_n 3, 1) := by decide +kernel
theorem dX7_condition_32 : decode cX7_condition 32 = .ok (.tableswitch 59 0 2 #[28, 36, 44], 28) := by decide +kernel
theorem dX7_condition_60 : decode cX7_condition 60 = .ok (.aload 4, 2) := by decide +kernel
theorem dX7_condition_62 : decode cX7_condition 62 = .ok (.getfield 308, 3) := by decide +kernel
theorem dX7_condition_65 : decode cX7_condition 65 = .ok (.iload_n 2, 1) := by decide +kernel
theorem dX7_condition_66 : decode cX7_condition 66 = .ok (.iaload, 1) := by decide +kernel
theorem dX7_condition_67 : decode cX7_condition 67 = .ok (.ireturn, 1) := by decide +kernel
theorem dX7_condition_68 : decode cX7_condition 68 = .ok (.aload 4, 2) := by decide +kernel
theorem dX7_condition_70 : decode cX7_condition 70 = .ok (.getfield 312, 3) := by decide +kernel
theorem dX7_condition_73 : decode cX7_condition 73 = .ok (.iload_n 2, 1) := by decide +kernel
theorem dX7_condition_74 : decode cX7_condition 74 = .ok (.iaload, 1) := by decide +kernel
theorem dX7_condition_75 : decode cX7_condition 75 = .ok (.ireturn, 1) := by decide +kernel
theorem dX7_condition_76 : decode cX7_condition 76 = .ok (.aload 4, 2) := by decide +kernel
theorem dX7_condition_78 : decode cX7_condition 78 = .ok (.iload_n 2, 1) := by decide +kernel
theorem dX7_condition_79 : decode cX7_condition 79 = .ok (.invokevirtual 315, 3) := by decide +kernel
theorem dX7_condition_82 : decode cX7_condition 82 = .ok (.ifCond .eq 7, 3) := by decide +kernel
theorem dX7_condition_85 : decode cX7_condition 85 = .ok (.iconst 1, 1) := by decide +kernel
theorem dX7_condition_86 : decode cX7_condition 86 = .ok (.goto 4, 3) := by decide +kernel
theorem dX7_condition_89 : decode cX7_condition 89 = .ok (.iconst 0, 1) := by decide +kernel
theorem dX7_condition_90 : decode cX7_condition 90 = .ok (.ireturn, 1) := by decide +kernel
theorem dX7_condition_91 : decode cX7_condition 91 = .ok (.new 48, 3) := by decide +kernel
theorem dX7_condition_94 : decode cX7_condition 94 = .ok (.dup, 1) := by decide +kernel
theorem dX7_condition_95 : decode cX7_condition 95 = .ok (.ldc_w 318, 3) := by decide +kernel
theorem dX7_condition_98 : decode cX7_condition 98 = .ok (.invokespecial 52, 3) := by decide +kernel
theorem dX7_condition_101 : decode cX7_condition 101 = .ok (.athrow, 1) := by decide +kernel
theorem dX7_fulfil_0 : decode cX7_fulfil 0 = .ok (.aload_n 0, 1) := by decide +kernel
theorem dX7_fulfil_1 : decode cX7_fulfil 1 = .ok (.iload_n 1, 1) := by decide +kernel
theorem dX7_fulfil_2 : decode cX7_fulfil 2 = .ok (.invokevirtual 146, 3) := by decide +kernel
theorem dX7_fulfil_5 : decode cX7_fulfil 5 = .ok (.astore_n 3, 1) := by decide +kernel
theorem dX7_fulfil_6 : decode cX7_fulfil 6 = .ok (.aload_n 3, 1) := by decide +kernel
theorem dX7_fulfil_7 : decode cX7_fulfil 7 = .ok (.iload_n 2, 1) := by decide +kernel
theorem dX7_fulfil_8 : decode cX7_fulfil 8 = .ok (.invokevirtual 320, 3) := by decide +kernel
theorem dX7_fulfil_11 : decode cX7_fulfil 11 = .ok (.istore 4, 2) := by decide +kernel
theorem dX7_fulfil_13 : decode cX7_fulfil 13 = .ok (.iload 4, 2) := by decide +kernel
theorem dX7_fulfil_15 : decode cX7_fulfil 15 = .ok (.ifCond .ne 14, 3) := by decide +kernel
theorem dX7_fulfil_18 : decode cX7_fulfil 18 = .ok (.new 232, 3) := by decide +kernel
theorem dX7_fulfil_21 : decode cX7_fulfil 21 = .ok (.dup, 1) := by decide +kernel
theorem dX7_fulfil_22 : decode cX7_fulfil 22 = .ok (.ldc_w 323, 3) := by decide +kernel
theorem dX7_fulfil_25 : decode cX7_fulfil 25 = .ok (.invokespecial 236, 3) := by decide +kernel
theorem dX7_fulfil_28 : decode cX7_fulfil 28 = .ok (.athrow, 1) := by decide +kernel
theorem dX7_fulfil_29 : decode cX7_fulfil 29 = .ok (.aload_n 0, 1) := by decide +kernel
theorem dX7_fulfil_30 : decode cX7_fulfil 30 = .ok (.invokevirtual 77, 3) := by decide +kernel
theorem dX7_fulfil_33 : decode cX7_fulfil 33 = .ok (.aload_n 3, 1) := by decide +kernel
theorem dX7_fulfil_34 : decode cX7_fulfil 34 = .ok (.dup, 1) := by decide +kernel
theorem dX7_fulfil_35 : decode cX7_fulfil 35 = .ok (.getfield 325, 3) := by decide +kernel
theorem dX7_fulfil_38 : decode cX7_fulfil 38 = .ok (.iload 4, 2) := by decide +kernel
theorem dX7_fulfil_40 : decode cX7_fulfil 40 = .ok (.iconst (-1), 1) := by decide +kernel
theorem dX7_fulfil_41 : decode cX7_fulfil 41 = .ok (.ixor, 1) := by decide +kernel
theorem dX7_fulfil_42 : decode cX7_fulfil 42 = .ok (.iand, 1) := by decide +kernel
theorem dX7_fulfil_43 : decode cX7_fulfil 43 = .ok (.putfield 325, 3) := by decide +kernel
theorem dX7_fulfil_46 : decode cX7_fulfil 46 = .ok (.aload_n 3, 1) := by decide +kernel
theorem dX7_fulfil_47 : decode cX7_fulfil 47 = .ok (.invokevirtual 183, 3) := by decide +kernel
theorem dX7_fulfil_50 : decode cX7_fulfil 50 = .ok (.ireturn, 1) := by decide +kernel
theorem dX7_inspect_0 : decode cX7_inspect 0 = .ok (.aload_n 0, 1) := by decide +kernel
theorem dX7_inspect_1 : decode cX7_inspect 1 = .ok (.iload_n 1, 1) := by decide +kernel
theorem dX7_inspect_2 : decode cX7_inspect 2 = .ok (.invokevirtual 146, 3) := by decide +kernel
theorem dX7_inspect_5 : decode cX7_inspect 5 = .ok (.astore_n 2, 1) := by decide +kernel
theorem dX7_inspect_6 : decode cX7_inspect 6 = .ok (.aload_n 2, 1) := by decide +kernel
theorem dX7_inspect_7 : decode cX7_inspect 7 = .ok (.getfield 150, 3) := by decide +kernel
theorem dX7_inspect_10 : decode cX7_inspect 10 = .ok (.iconst 2, 1) := by decide +kernel
theorem dX7_inspect_11 : decode cX7_inspect 11 = .ok (.if_icmp .eq 14, 3) := by decide +kernel
theorem dX7_inspect_14 : decode cX7_inspect 14 = .ok (.new 58, 3) := by decide +kernel
theorem dX7_inspect_17 : decode cX7_inspect 17 = .ok (.dup, 1) := by decide +kernel
theorem dX7_inspect_18 : decode cX7_inspect 18 = .ok (.ldc_w 328, 3) := by decide +kernel
theorem dX7_inspect_21 : decode cX7_inspect 21 = .ok (.invokespecial 62, 3) := by decide +kernel
theorem dX7_inspect_24 : decode cX7_inspect 24 = .ok (.athrow, 1) := by decide +kernel
theorem dX7_inspect_25 : decode cX7_inspect 25 = .ok (.aload_n 0, 1) := by decide +kernel
theorem dX7_inspect_26 : decode cX7_inspect 26 = .ok (.invokevirtual 77, 3) := by decide +kernel
theorem dX7_inspect_29 : decode cX7_inspect 29 = .ok (.aload_n 2, 1) := by decide +kernel
theorem dX7_inspect_30 : decode cX7_inspect 30 = .ok (.getfield 174, 3) := by decide +kernel
theorem dX7_inspect_33 : decode cX7_inspect 33 = .ok (.ifCond .le 13, 3) := by decide +kernel
theorem dX7_inspect_36 : decode cX7_inspect 36 = .ok (.aload_n 2, 1) := by decide +kernel
theorem dX7_inspect_37 : decode cX7_inspect 37 = .ok (.dup, 1) := by decide +kernel
theorem dX7_inspect_38 : decode cX7_inspect 38 = .ok (.getfield 330, 3) := by decide +kernel
theorem dX7_inspect_41 : decode cX7_inspect 41 = .ok (.iconst 5, 1) := by decide +kernel
theorem dX7_inspect_42 : decode cX7_inspect 42 = .ok (.iadd, 1) := by decide +kernel
theorem dX7_inspect_43 : decode cX7_inspect 43 = .ok (.putfield 330, 3) := by decide +kernel
theorem dX7_inspect_46 : decode cX7_inspect 46 = .ok (.aload_n 2, 1) := by decide +kernel
theorem dX7_inspect_47 : decode cX7_inspect 47 = .ok (.invokevirtual 333, 3) := by decide +kernel
theorem dX7_inspect_50 : decode cX7_inspect 50 = .ok (.ifCond .ne 7, 3) := by decide +kernel
theorem dX7_inspect_53 : decode cX7_inspect 53 = .ok (.iconst 1, 1) := by decide +kernel
theorem dX7_inspect_54 : decode cX7_inspect 54 = .ok (.goto 4, 3) := by decide +kernel
theorem dX7_inspect_57 : decode cX7_inspect 57 = .ok (.iconst 0, 1) := by decide +kernel
theorem dX7_inspect_58 : decode cX7_inspect 58 = .ok (.istore_n 3, 1) := by decide +kernel
theorem dX7_inspect_59 : decode cX7_inspect 59 = .ok (.iload_n 3, 1) := by decide +kernel
theorem dX7_inspect_60 : decode cX7_inspect 60 = .ok (.ifCond .eq 17, 3) := by decide +kernel
theorem dX7_inspect_63 : decode cX7_inspect 63 = .ok (.aload_n 2, 1) := by decide +kernel
theorem dX7_inspect_64 : decode cX7_inspect 64 = .ok (.aload_n 0, 1) := by decide +kernel
theorem dX7_inspect_65 : decode cX7_inspect 65 = .ok (.getfield 26, 3) := by decide +kernel
theorem dX7_inspect_68 : decode cX7_inspect 68 = .ok (.getfield 239, 3) := by decide +kernel
theorem dX7_inspect_71 : decode cX7_inspect 71 = .ok (.invokevirtual 336, 3) := by decide +kernel
theorem dX7_inspect_74 : decode cX7_inspect 74 = .ok (.goto 7, 3) := by decide +kernel
theorem dX7_inspect_77 : decode cX7_inspect 77 = .ok (.aload_n 2, 1) := by decide +kernel
theorem dX7_inspect_78 : decode cX7_inspect 78 = .ok (.invokevirtual 339, 3) := by decide +kernel
theorem dX7_inspect_81 : decode cX7_inspect 81 = .ok (.iload_n 3, 1) := by decide +kernel
theorem dX7_inspect_82 : decode cX7_inspect 82 = .ok (.ireturn, 1) := by decide +kernel
theorem dX7_reinstate_0 : decode cX7_reinstate 0 = .ok (.aload_n 0, 1) := by decide +kernel
theorem dX7_reinstate_1 : decode cX7_reinstate 1 = .ok (.iload_n 1, 1) := by decide +kernel
theorem dX7_reinstate_2 : decode cX7_reinstate 2 = .ok (.invokevirtual 146, 3) := by decide +kernel
theorem dX7_reinstate_5 : decode cX7_reinstate 5 = .ok (.astore_n 2, 1) := by decide +kernel
theorem dX7_reinstate_6 : decode cX7_reinstate 6 = .ok (.aload_n 2, 1) := by decide +kernel
theorem dX7_reinstate_7 : decode cX7_reinstate 7 = .ok (.getfield 150, 3) := by decide +kernel
theorem dX7_reinstate_10 : decode cX7_reinstate 10 = .ok (.bipush 6, 2) := by decide +kernel
theorem dX7_reinstate_12 : decode cX7_reinstate 12 = .ok (.if_icmp .eq 14, 3) := by decide +kernel
theorem dX7_reinstate_15 : decode cX7_reinstate 15 = .ok (.new 58, 3) := by decide +kernel
theorem dX7_reinstate_18 : decode cX7_reinstate 18 = .ok (.dup, 1) := by decide +kernel
theorem dX7_reinstate_19 : decode cX7_reinstate 19 = .ok (.ldc_w 342, 3) := by decide +kernel
theorem dX7_reinstate_22 : decode cX7_reinstate 22 = .ok (.invokespecial 62, 3) := by decide +kernel
theorem dX7_reinstate_25 : decode cX7_reinstate 25 = .ok (.athrow, 1) := by decide +kernel
theorem dX7_reinstate_26 : decode cX7_reinstate 26 = .ok (.aload_n 0, 1) := by decide +kernel
theorem dX7_reinstate_27 : decode cX7_reinstate 27 = .ok (.invokevirtual 77, 3) := by decide +kernel
theorem dX7_reinstate_30 : decode cX7_reinstate 30 = .ok (.aload_n 2, 1) := by decide +kernel
theorem dX7_reinstate_31 : decode cX7_reinstate 31 = .ok (.iconst 2, 1) := by decide +kernel
theorem dX7_reinstate_32 : decode cX7_reinstate 32 = .ok (.putfield 150, 3) := by decide +kernel
theorem dX7_reinstate_35 : decode cX7_reinstate 35 = .ok (.aload_n 2, 1) := by decide +kernel
theorem dX7_reinstate_36 : decode cX7_reinstate 36 = .ok (.iconst 0, 1) := by decide +kernel
theorem dX7_reinstate_37 : decode cX7_reinstate 37 = .ok (.putfield 174, 3) := by decide +kernel
theorem dX7_reinstate_40 : decode cX7_reinstate 40 = .ok (.aload_n 2, 1) := by decide +kernel
theorem dX7_reinstate_41 : decode cX7_reinstate 41 = .ok (.aload_n 0, 1) := by decide +kernel
theorem dX7_reinstate_42 : decode cX7_reinstate 42 = .ok (.getfield 26, 3) := by decide +kernel
theorem dX7_reinstate_45 : decode cX7_reinstate 45 = .ok (.getfield 239, 3) := by decide +kernel
theorem dX7_reinstate_48 : decode cX7_reinstate 48 = .ok (.bipush 30, 2) := by decide +kernel
theorem dX7_reinstate_50 : decode cX7_reinstate 50 = .ok (.iadd, 1) := by decide +kernel
theorem dX7_reinstate_51 : decode cX7_reinstate 51 = .ok (.putfield 177, 3) := by decide +kernel
theorem dX7_reinstate_54 : decode cX7_reinstate 54 = .ok (.aload_n 2, 1) := by decide +kernel
theorem dX7_reinstate_55 : decode cX7_reinstate 55 = .ok (.dup, 1) := by decide +kernel
theorem dX7_reinstate_56 : decode cX7_reinstate 56 = .ok (.getfield 330, 3) := by decide +kernel
theorem dX7_reinstate_59 : decode cX7_reinstate 59 = .ok (.bipush 25, 2) := by decide +kernel
theorem dX7_reinstate_61 : decode cX7_reinstate 61 = .ok (.iadd, 1) := by decide +kernel
theorem dX7_reinstate_62 : decode cX7_reinstate 62 = .ok (.putfield 330, 3) := by decide +kernel
theorem dX7_reinstate_65 : decode cX7_reinstate 65 = .ok (.aload_n 2, 1) := by decide +kernel
theorem dX7_reinstate_66 : decode cX7_reinstate 66 = .ok (.getfield 171, 3) := by decide +kernel
theorem dX7_reinstate_69 : decode cX7_reinstate 69 = .ok (.ireturn, 1) := by decide +kernel
theorem dX7_extend_0 : decode cX7_extend 0 = .ok (.aload_n 0, 1) := by decide +kernel
theorem dX7_extend_1 : decode cX7_extend 1 = .ok (.iload_n 1, 1) := by decide +kernel
theorem dX7_extend_2 : decode cX7_extend 2 = .ok (.invokevirtual 146, 3) := by decide +kernel
theorem dX7_extend_5 : decode cX7_extend 5 = .ok (.astore_n 2, 1) := by decide +kernel
theorem dX7_extend_6 : decode cX7_extend 6 = .ok (.aload_n 2, 1) := by decide +kernel
theorem dX7_extend_7 : decode cX7_extend 7 = .ok (.getfield 150, 3) := by decide +kernel
theorem dX7_extend_10 : decode cX7_extend 10 = .ok (.iconst 2, 1) := by decide +kernel
theorem dX7_extend_11 : decode cX7_extend 11 = .ok (.if_icmp .ne 10, 3) := by decide +kernel
theorem dX7_extend_14 : decode cX7_extend 14 = .ok (.aload_n 2, 1) := by decide +kernel
theorem dX7_extend_15 : decode cX7_extend 15 = .ok (.getfield 344, 3) := by decide +kernel
theorem dX7_extend_18 : decode cX7_extend 18 = .ok (.ifCond .eq 14, 3) := by decide +kernel
theorem dX7_extend_21 : decode cX7_extend 21 = .ok (.new 58, 3) := by decide +kernel
theorem dX7_extend_24 : decode cX7_extend 24 = .ok (.dup, 1) := by decide +kernel
theorem dX7_extend_25 : decode cX7_extend 25 = .ok (.ldc_w 347, 3) := by decide +kernel
theorem dX7_extend_28 : decode cX7_extend 28 = .ok (.invokespecial 62, 3) := by decide +kernel
theorem dX7_extend_31 : decode cX7_extend 31 = .ok (.athrow, 1) := by decide +kernel
theorem dX7_extend_32 : decode cX7_extend 32 = .ok (.aload_n 0, 1) := by decide +kernel
theorem dX7_extend_33 : decode cX7_extend 33 = .ok (.invokevirtual 77, 3) := by decide +kernel
theorem dX7_extend_36 : decode cX7_extend 36 = .ok (.aload_n 2, 1) := by decide +kernel
theorem dX7_extend_37 : decode cX7_extend 37 = .ok (.iconst 1, 1) := by decide +kernel
theorem dX7_extend_38 : decode cX7_extend 38 = .ok (.putfield 344, 3) := by decide +kernel
theorem dX7_extend_41 : decode cX7_extend 41 = .ok (.aload_n 2, 1) := by decide +kernel
theorem dX7_extend_42 : decode cX7_extend 42 = .ok (.dup, 1) := by decide +kernel
theorem dX7_extend_43 : decode cX7_extend 43 = .ok (.getfield 177, 3) := by decide +kernel
theorem dX7_extend_46 : decode cX7_extend 46 = .ok (.bipush 15, 2) := by decide +kernel
theorem dX7_extend_48 : decode cX7_extend 48 = .ok (.iadd, 1) := by decide +kernel
theorem dX7_extend_49 : decode cX7_extend 49 = .ok (.putfield 177, 3) := by decide +kernel
theorem dX7_extend_52 : decode cX7_extend 52 = .ok (.aload_n 2, 1) := by decide +kernel
theorem dX7_extend_53 : decode cX7_extend 53 = .ok (.dup, 1) := by decide +kernel
theorem dX7_extend_54 : decode cX7_extend 54 = .ok (.getfield 330, 3) := by decide +kernel
theorem dX7_extend_57 : decode cX7_extend 57 = .ok (.bipush 15, 2) := by decide +kernel
theorem dX7_extend_59 : decode cX7_extend 59 = .ok (.iadd, 1) := by decide +kernel
theorem dX7_extend_60 : decode cX7_extend 60 = .ok (.putfield 330, 3) := by decide +kernel
theorem dX7_extend_63 : decode cX7_extend 63 = .ok (.aload_n 2, 1) := by decide +kernel
theorem dX7_extend_64 : decode cX7_extend 64 = .ok (.getfield 177, 3) := by decide +kernel
theorem dX7_extend_67 : decode cX7_extend 67 = .ok (.ireturn, 1) := by decide +kernel
theorem dX7_pass_0 : decode cX7_pass 0 = .ok (.iload_n 1, 1) := by decide +kernel
theorem dX7_pass_1 : decode cX7_pass 1 = .ok (.iconst 1, 1) := by decide +kernel
theorem dX7_pass_2 : decode cX7_pass 2 = .ok (.if_icmp .lt 9, 3) := by decide +kernel
theorem dX7_pass_5 : decode cX7_pass 5 = .ok (.iload_n 1, 1) := by decide +kernel
theorem dX7_pass_6 : decode cX7_pass 6 = .ok (.bipush 50, 2) := by decide +kernel
theorem dX7_pass_8 : decode cX7_pass 8 = .ok (.if_icmp .le 14, 3) := by decide +kernel
theorem dX7_pass_11 : decode cX7_pass 11 = .ok (.new 48, 3) := by decide +kernel
theorem dX7_pass_14 : decode cX7_pass 14 = .ok (.dup, 1) := by decide +kernel
theorem dX7_pass_15 : decode cX7_pass 15 = .ok (.ldc_w 349, 3) := by decide +kernel
theorem dX7_pass_18 : decode cX7_pass 18 = .ok (.invokespecial 52, 3) := by decide +kernel
theorem dX7_pass_21 : decode cX7_pass 21 = .ok (.athrow, 1) := by decide +kernel
theorem dX7_pass_22 : decode cX7_pass 22 = .ok (.aload_n 0, 1) := by decide +kernel
theorem dX7_pass_23 : decode cX7_pass 23 = .ok (.invokevirtual 77, 3) := by decide +kernel
theorem dX7_pass_26 : decode cX7_pass 26 = .ok (.aload_n 0, 1) := by decide +kernel
theorem dX7_pass_27 : decode cX7_pass 27 = .ok (.getfield 26, 3) := by decide +kernel
theorem dX7_pass_30 : decode cX7_pass 30 = .ok (.dup, 1) := by decide +kernel
theorem dX7_pass_31 : decode cX7_pass 31 = .ok (.getfield 239, 3) := by decide +kernel
theorem dX7_pass_34 : decode cX7_pass 34 = .ok (.iload_n 1, 1) := by decide +kernel
theorem dX7_pass_35 : decode cX7_pass 35 = .ok (.iadd, 1) := by decide +kernel
theorem dX7_pass_36 : decode cX7_pass 36 = .ok (.putfield 239, 3) := by decide +kernel
theorem dX7_pass_39 : decode cX7_pass 39 = .ok (.iconst 0, 1) := by decide +kernel
theorem dX7_pass_40 : decode cX7_pass 40 = .ok (.istore_n 2, 1) := by decide +kernel
theorem dX7_pass_41 : decode cX7_pass 41 = .ok (.iconst 0, 1) := by decide +kernel
theorem dX7_pass_42 : decode cX7_pass 42 = .ok (.istore_n 3, 1) := by decide +kernel
theorem dX7_pass_43 : decode cX7_pass 43 = .ok (.iload_n 3, 1) := by decide +kernel
theorem dX7_pass_44 : decode cX7_pass 44 = .ok (.aload_n 0, 1) := by decide +kernel
theorem dX7_pass_45 : decode cX7_pass 45 = .ok (.getfield 26, 3) := by decide +kernel
theorem dX7_pass_48 : decode cX7_pass 48 = .ok (.getfield 212, 3) := by decide +kernel
theorem dX7_pass_51 : decode cX7_pass 51 = .ok (.if_icmp .ge 53, 3) := by decide +kernel
theorem dX7_pass_54 : decode cX7_pass 54 = .ok (.aload_n 0, 1) := by decide +kernel
theorem dX7_pass_55 : decode cX7_pass 55 = .ok (.getfield 26, 3) := by decide +kernel
theorem dX7_pass_58 : decode cX7_pass 58 = .ok (.getfield 215, 3) := by decide +kernel
theorem dX7_pass_61 : decode cX7_pass 61 = .ok (.iload_n 3, 1) := by decide +kernel
theorem dX7_pass_62 : decode cX7_pass 62 = .ok (.aaload, 1) := by decide +kernel
theorem dX7_pass_63 : decode cX7_pass 63 = .ok (.astore 4, 2) := by decide +kernel
theorem dX7_pass_65 : decode cX7_pass 65 = .ok (.aload 4, 2) := by decide +kernel
theorem dX7_pass_67 : decode cX7_pass 67 = .ok (.getfield 150, 3) := by decide +kernel
theorem dX7_pass_70 : decode cX7_pass 70 = .ok (.iconst 2, 1) := by decide +kernel
theorem dX7_pass_71 : decode cX7_pass 71 = .ok (.if_icmp .ne 27, 3) := by decide +kernel
theorem dX7_pass_74 : decode cX7_pass 74 = .ok (.aload_n 0, 1) := by decide +kernel
theorem dX7_pass_75 : decode cX7_pass 75 = .ok (.getfield 26, 3) := by decide +kernel
theorem dX7_pass_78 : decode cX7_pass 78 = .ok (.getfield 239, 3) := by decide +kernel
theorem dX7_pass_81 : decode cX7_pass 81 = .ok (.aload 4, 2) := by decide +kernel
theorem dX7_pass_83 : decode cX7_pass 83 = .ok (.getfield 177, 3) := by decide +kernel
theorem dX7_pass_86 : decode cX7_pass 86 = .ok (.if_icmp .le 12, 3) := by decide +kernel
theorem dX7_pass_89 : decode cX7_pass 89 = .ok (.aload 4, 2) := by decide +kernel
theorem dX7_pass_91 : decode cX7_pass 91 = .ok (.iconst 4, 1) := by decide +kernel
theorem dX7_pass_92 : decode cX7_pass 92 = .ok (.putfield 150, 3) := by decide +kernel
theorem dX7_pass_95 : decode cX7_pass 95 = .ok (.iinc 2 1, 3) := by decide +kernel
theorem dX7_pass_98 : decode cX7_pass 98 = .ok (.iinc 3 1, 3) := by decide +kernel
theorem dX7_pass_101 : decode cX7_pass 101 = .ok (.goto (-58), 3) := by decide +kernel
theorem dX7_pass_104 : decode cX7_pass 104 = .ok (.iload_n 2, 1) := by decide +kernel
theorem dX7_pass_105 : decode cX7_pass 105 = .ok (.ireturn, 1) := by decide +kernel
theorem dX7_account_0 : decode cX7_account 0 = .ok (.iload_n 1, 1) := by decide +kernel
theorem dX7_account_1 : decode cX7_account 1 = .ok (.iconst (-1), 1) := by decide +kernel
theorem dX7_account_2 : decode cX7_account 2 = .ok (.if_icmp .lt 14, 3) := by decide +kernel
theorem dX7_account_5 : decode cX7_account 5 = .ok (.iload_n 1, 1) := by decide +kernel
theorem dX7_account_6 : decode cX7_account 6 = .ok (.aload_n 0, 1) := by decide +kernel
theorem dX7_account_7 : decode cX7_account 7 = .ok (.getfield 26, 3) := by decide +kernel
theorem dX7_account_10 : decode cX7_account 10 = .ok (.getfield 212, 3) := by decide +kernel
theorem dX7_account_13 : decode cX7_account 13 = .ok (.if_icmp .lt 14, 3) := by decide +kernel
theorem dX7_account_16 : decode cX7_account 16 = .ok (.new 83, 3) := by decide +kernel
theorem dX7_account_19 : decode cX7_account 19 = .ok (.dup, 1) := by decide +kernel
theorem dX7_account_20 : decode cX7_account 20 = .ok (.ldc_w 351, 3) := by decide +kernel
theorem dX7_account_23 : decode cX7_account 23 = .ok (.invokespecial 87, 3) := by decide +kernel
theorem dX7_account_26 : decode cX7_account 26 = .ok (.athrow, 1) := by decide +kernel
theorem dX7_account_27 : decode cX7_account 27 = .ok (.iload_n 2, 1) := by decide +kernel
theorem dX7_account_28 : decode cX7_account 28 = .ok (.ifCond .lt 8, 3) := by decide +kernel
theorem dX7_account_31 : decode cX7_account 31 = .ok (.iload_n 2, 1) := by decide +kernel
theorem dX7_account_32 : decode cX7_account 32 = .ok (.iconst 2, 1) := by decide +kernel
theorem dX7_account_33 : decode cX7_account 33 = .ok (.if_icmp .le 14, 3) := by decide +kernel
theorem dX7_account_36 : decode cX7_account 36 = .ok (.new 48, 3) := by decide +kernel
theorem dX7_account_39 : decode cX7_account 39 = .ok (.dup, 1) := by decide +kernel
theorem dX7_account_40 : decode cX7_account 40 = .ok (.ldc_w 353, 3) := by decide +kernel
theorem dX7_account_43 : decode cX7_account 43 = .ok (.invokespecial 52, 3) := by decide +kernel
theorem dX7_account_46 : decode cX7_account 46 = .ok (.athrow, 1) := by decide +kernel
theorem dX7_account_47 : decode cX7_account 47 = .ok (.iconst 0, 1) := by decide +kernel
theorem dX7_account_48 : decode cX7_account 48 = .ok (.istore_n 3, 1) := by decide +kernel
theorem dX7_account_49 : decode cX7_account 49 = .ok (.iconst 0, 1) := by decide +kernel
theorem dX7_account_50 : decode cX7_account 50 = .ok (.istore 4, 2) := by decide +kernel
theorem dX7_account_52 : decode cX7_account 52 = .ok (.iconst 0, 1) := by decide +kernel
theorem dX7_account_53 : decode cX7_account 53 = .ok (.istore 5, 2) := by decide +kernel
theorem dX7_account_55 : decode cX7_account 55 = .ok (.iload 5, 2) := by decide +kernel
theorem dX7_account_57 : decode cX7_account 57 = .ok (.aload_n 0, 1) := by decide +kernel
theorem dX7_account_58 : decode cX7_account 58 = .ok (.getfield 26, 3) := by decide +kernel
theorem dX7_account_61 : decode cX7_account 61 = .ok (.getfield 212, 3) := by decide +kernel
theorem dX7_account_64 : decode cX7_account 64 = .ok (.if_icmp .ge 54, 3) := by decide +kernel
theorem dX7_account_67 : decode cX7_account 67 = .ok (.iload_n 1, 1) := by decide +kernel
theorem dX7_account_68 : decode cX7_account 68 = .ok (.iconst (-1), 1) := by decide +kernel
theorem dX7_account_69 : decode cX7_account 69 = .ok (.if_icmp .eq 9, 3) := by decide +kernel
theorem dX7_account_72 : decode cX7_account 72 = .ok (.iload_n 1, 1) := by decide +kernel
theorem dX7_account_73 : decode cX7_account 73 = .ok (.iload 5, 2) := by decide +kernel
theorem dX7_account_75 : decode cX7_account 75 = .ok (.if_icmp .ne 37, 3) := by decide +kernel
theorem dX7_account_78 : decode cX7_account 78 = .ok (.iload_n 3, 1) := by decide +kernel
theorem dX7_account_79 : decode cX7_account 79 = .ok (.aload_n 0, 1) := by decide +kernel
theorem dX7_account_80 : decode cX7_account 80 = .ok (.getfield 26, 3) := by decide +kernel
theorem dX7_account_83 : decode cX7_account 83 = .ok (.getfield 215, 3) := by decide +kernel
theorem dX7_account_86 : decode cX7_account 86 = .ok (.iload 5, 2) := by decide +kernel
theorem dX7_account_88 : decode cX7_account 88 = .ok (.aaload, 1) := by decide +kernel
theorem dX7_account_89 : decode cX7_account 89 = .ok (.getfield 330, 3) := by decide +kernel
theorem dX7_account_92 : decode cX7_account 92 = .ok (.iadd, 1) := by decide +kernel
theorem dX7_account_93 : decode cX7_account 93 = .ok (.istore_n 3, 1) := by decide +kernel
theorem dX7_account_94 : decode cX7_account 94 = .ok (.iload 4, 2) := by decide +kernel
theorem dX7_account_96 : decode cX7_account 96 = .ok (.aload_n 0, 1) := by decide +kernel
theorem dX7_account_97 : decode cX7_account 97 = .ok (.getfield 26, 3) := by decide +kernel
theorem dX7_account_100 : decode cX7_account 100 = .ok (.getfield 215, 3) := by decide +kernel
theorem dX7_account_103 : decode cX7_account 103 = .ok (.iload 5, 2) := by decide +kernel
theorem dX7_account_105 : decode cX7_account 105 = .ok (.aaload, 1) := by decide +kernel
theorem dX7_account_106 : decode cX7_account 106 = .ok (.getfield 263, 3) := by decide +kernel
theorem dX7_account_109 : decode cX7_account 109 = .ok (.iadd, 1) := by decide +kernel
theorem dX7_account_110 : decode cX7_account 110 = .ok (.istore 4, 2) := by decide +kernel
theorem dX7_account_112 : decode cX7_account 112 = .ok (.iinc 5 1, 3) := by decide +kernel
theorem dX7_account_115 : decode cX7_account 115 = .ok (.goto (-60), 3) := by decide +kernel
theorem dX7_account_118 : decode cX7_account 118 = .ok (.iload_n 2, 1) := by decide +kernel
theorem dX7_account_119 : decode cX7_account 119 = .ok (.ifCond .ne 7, 3) := by decide +kernel
theorem dX7_account_122 : decode cX7_account 122 = .ok (.iload_n 3, 1) := by decide +kernel
theorem dX7_account_123 : decode cX7_account 123 = .ok (.goto 17, 3) := by decide +kernel
theorem dX7_account_126 : decode cX7_account 126 = .ok (.iload_n 2, 1) := by decide +kernel
theorem dX7_account_127 : decode cX7_account 127 = .ok (.iconst 1, 1) := by decide +kernel
theorem dX7_account_128 : decode cX7_account 128 = .ok (.if_icmp .ne 8, 3) := by decide +kernel
theorem dX7_account_131 : decode cX7_account 131 = .ok (.iload 4, 2) := by decide +kernel
theorem dX7_account_133 : decode cX7_account 133 = .ok (.goto 7, 3) := by decide +kernel
theorem dX7_account_136 : decode cX7_account 136 = .ok (.iload_n 3, 1) := by decide +kernel
theorem dX7_account_137 : decode cX7_account 137 = .ok (.iload 4, 2) := by decide +kernel
theorem dX7_account_139 : decode cX7_account 139 = .ok (.isub, 1) := by decide +kernel
theorem dX7_account_140 : decode cX7_account 140 = .ok (.ireturn, 1) := by decide +kernel
theorem dX7_meanFloorArea_0 : decode cX7_meanFloorArea 0 = .ok (.iconst 0, 1) := by decide +kernel
theorem dX7_meanFloorArea_1 : decode cX7_meanFloorArea 1 = .ok (.istore_n 1, 1) := by decide +kernel
theorem dX7_meanFloorArea_2 : decode cX7_meanFloorArea 2 = .ok (.iconst 0, 1) := by decide +kernel
theorem dX7_meanFloorArea_3 : decode cX7_meanFloorArea 3 = .ok (.istore_n 2, 1) := by decide +kernel
theorem dX7_meanFloorArea_4 : decode cX7_meanFloorArea 4 = .ok (.iconst 0, 1) := by decide +kernel
theorem dX7_meanFloorArea_5 : decode cX7_meanFloorArea 5 = .ok (.istore_n 3, 1) := by decide +kernel
theorem dX7_meanFloorArea_6 : decode cX7_meanFloorArea 6 = .ok (.iload_n 3, 1) := by decide +kernel
theorem dX7_meanFloorArea_7 : decode cX7_meanFloorArea 7 = .ok (.aload_n 0, 1) := by decide +kernel
theorem dX7_meanFloorArea_8 : decode cX7_meanFloorArea 8 = .ok (.getfield 26, 3) := by decide +kernel
theorem dX7_meanFloorArea_11 : decode cX7_meanFloorArea 11 = .ok (.getfield 212, 3) := by decide +kernel
theorem dX7_meanFloorArea_14 : decode cX7_meanFloorArea 14 = .ok (.if_icmp .ge 42, 3) := by decide +kernel
theorem dX7_meanFloorArea_17 : decode cX7_meanFloorArea 17 = .ok (.aload_n 0, 1) := by decide +kernel
theorem dX7_meanFloorArea_18 : decode cX7_meanFloorArea 18 = .ok (.getfield 26, 3) := by decide +kernel
theorem dX7_meanFloorArea_21 : decode cX7_meanFloorArea 21 = .ok (.getfield 215, 3) := by decide +kernel
theorem dX7_meanFloorArea_24 : decode cX7_meanFloorArea 24 = .ok (.iload_n 3, 1) := by decide +kernel
theorem dX7_meanFloorArea_25 : decode cX7_meanFloorArea 25 = .ok (.aaload, 1) := by decide +kernel
theorem dX7_meanFloorArea_26 : decode cX7_meanFloorArea 26 = .ok (.invokevirtual 219, 3) := by decide +kernel
theorem dX7_meanFloorArea_29 : decode cX7_meanFloorArea 29 = .ok (.ifCond .eq 21, 3) := by decide +kernel
theorem dX7_meanFloorArea_32 : decode cX7_meanFloorArea 32 = .ok (.iload_n 1, 1) := by decide +kernel
theorem dX7_meanFloorArea_33 : decode cX7_meanFloorArea 33 = .ok (.aload_n 0, 1) := by decide +kernel
theorem dX7_meanFloorArea_34 : decode cX7_meanFloorArea 34 = .ok (.getfield 26, 3) := by decide +kernel
theorem dX7_meanFloorArea_37 : decode cX7_meanFloorArea 37 = .ok (.getfield 215, 3) := by decide +kernel
theorem dX7_meanFloorArea_40 : decode cX7_meanFloorArea 40 = .ok (.iload_n 3, 1) := by decide +kernel
theorem dX7_meanFloorArea_41 : decode cX7_meanFloorArea 41 = .ok (.aaload, 1) := by decide +kernel
theorem dX7_meanFloorArea_42 : decode cX7_meanFloorArea 42 = .ok (.invokevirtual 168, 3) := by decide +kernel
theorem dX7_meanFloorArea_45 : decode cX7_meanFloorArea 45 = .ok (.iadd, 1) := by decide +kernel
theorem dX7_meanFloorArea_46 : decode cX7_meanFloorArea 46 = .ok (.istore_n 1, 1) := by decide +kernel
theorem dX7_meanFloorArea_47 : decode cX7_meanFloorArea 47 = .ok (.iinc 2 1, 3) := by decide +kernel
theorem dX7_meanFloorArea_50 : decode cX7_meanFloorArea 50 = .ok (.iinc 3 1, 3) := by decide +kernel
theorem dX7_meanFloorArea_53 : decode cX7_meanFloorArea 53 = .ok (.goto (-47), 3) := by decide +kernel
theorem dX7_meanFloorArea_56 : decode cX7_meanFloorArea 56 = .ok (.iload_n 2, 1) := by decide +kernel
theorem dX7_meanFloorArea_57 : decode cX7_meanFloorArea 57 = .ok (.ifCond .ne 14, 3) := by decide +kernel
theorem dX7_meanFloorArea_60 : decode cX7_meanFloorArea 60 = .ok (.new 355, 3) := by decide +kernel
theorem dX7_meanFloorArea_63 : decode cX7_meanFloorArea 63 = .ok (.dup, 1) := by decide +kernel
theorem dX7_meanFloorArea_64 : decode cX7_meanFloorArea 64 = .ok (.ldc_w 357, 3) := by decide +kernel
theorem dX7_meanFloorArea_67 : decode cX7_meanFloorArea 67 = .ok (.invokespecial 359, 3) := by decide +kernel
theorem dX7_meanFloorArea_70 : decode cX7_meanFloorArea 70 = .ok (.athrow, 1) := by decide +kernel
theorem dX7_meanFloorArea_71 : decode cX7_meanFloorArea 71 = .ok (.iload_n 1, 1) := by decide +kernel
theorem dX7_meanFloorArea_72 : decode cX7_meanFloorArea 72 = .ok (.i2f, 1) := by decide +kernel
theorem dX7_meanFloorArea_73 : decode cX7_meanFloorArea 73 = .ok (.iload_n 2, 1) := by decide +kernel
theorem dX7_meanFloorArea_74 : decode cX7_meanFloorArea 74 = .ok (.i2f, 1) := by decide +kernel
theorem dX7_meanFloorArea_75 : decode cX7_meanFloorArea 75 = .ok (.fdiv, 1) := by decide +kernel
theorem dX7_meanFloorArea_76 : decode cX7_meanFloorArea 76 = .ok (.freturn, 1) := by decide +kernel
theorem dX7_count_0 : decode cX7_count 0 = .ok (.iload_n 1, 1) := by decide +kernel
theorem dX7_count_1 : decode cX7_count 1 = .ok (.tableswitch 128 0 7 #[47, 55, 63, 71, 79, 107, 115, 120], 47) := by decide +kernel
theorem dX7_count_48 : decode cX7_count 48 = .ok (.aload_n 0, 1) := by decide +kernel
theorem dX7_count_49 : decode cX7_count 49 = .ok (.getfield 26, 3) := by decide +kernel
theorem dX7_count_52 : decode cX7_count 52 = .ok (.getfield 360, 3) := by decide +kernel
theorem dX7_count_55 : decode cX7_count 55 = .ok (.ireturn, 1) := by decide +kernel
theorem dX7_count_56 : decode cX7_count 56 = .ok (.aload_n 0, 1) := by decide +kernel
theorem dX7_count_57 : decode cX7_count 57 = .ok (.getfield 26, 3) := by decide +kernel
theorem dX7_count_60 : decode cX7_count 60 = .ok (.getfield 212, 3) := by decide +kernel
theorem dX7_count_63 : decode cX7_count 63 = .ok (.ireturn, 1) := by decide +kernel
theorem dX7_count_64 : decode cX7_count 64 = .ok (.aload_n 0, 1) := by decide +kernel
theorem dX7_count_65 : decode cX7_count 65 = .ok (.getfield 26, 3) := by decide +kernel
theorem dX7_count_68 : decode cX7_count 68 = .ok (.getfield 271, 3) := by decide +kernel
theorem dX7_count_71 : decode cX7_count 71 = .ok (.ireturn, 1) := by decide +kernel
theorem dX7_count_72 : decode cX7_count 72 = .ok (.aload_n 0, 1) := by decide +kernel
theorem dX7_count_73 : decode cX7_count 73 = .ok (.getfield 26, 3) := by decide +kernel
theorem dX7_count_76 : decode cX7_count 76 = .ok (.getfield 239, 3) := by decide +kernel
theorem dX7_count_79 : decode cX7_count 79 = .ok (.ireturn, 1) := by decide +kernel
theorem dX7_count_80 : decode cX7_count 80 = .ok (.aload_n 0, 1) := by decide +kernel
theorem dX7_count_81 : decode cX7_count 81 = .ok (.getfield 26, 3) := by decide +kernel
theorem dX7_count_84 : decode cX7_count 84 = .ok (.iconst 2, 1) := by decide +kernel
theorem dX7_count_85 : decode cX7_count 85 = .ok (.invokevirtual 363, 3) := by decide +kernel
theorem dX7_count_88 : decode cX7_count 88 = .ok (.aload_n 0, 1) := by decide +kernel
theorem dX7_count_89 : decode cX7_count 89 = .ok (.getfield 26, 3) := by decide +kernel
theorem dX7_count_92 : decode cX7_count 92 = .ok (.iconst 3, 1) := by decide +kernel
theorem dX7_count_93 : decode cX7_count 93 = .ok (.invokevirtual 363, 3) := by decide +kernel
theorem dX7_count_96 : decode cX7_count 96 = .ok (.iadd, 1) := by decide +kernel
theorem dX7_count_97 : decode cX7_count 97 = .ok (.aload_n 0, 1) := by decide +kernel
theorem dX7_count_98 : decode cX7_count 98 = .ok (.getfield 26, 3) := by decide +kernel
theorem dX7_count_101 : decode cX7_count 101 = .ok (.bipush 6, 2) := by decide +kernel
theorem dX7_count_103 : decode cX7_count 103 = .ok (.invokevirtual 363, 3) := by decide +kernel
theorem dX7_count_106 : decode cX7_count 106 = .ok (.iadd, 1) := by decide +kernel
theorem dX7_count_107 : decode cX7_count 107 = .ok (.ireturn, 1) := by decide +kernel
theorem dX7_count_108 : decode cX7_count 108 = .ok (.aload_n 0, 1) := by decide +kernel
theorem dX7_count_109 : decode cX7_count 109 = .ok (.getfield 26, 3) := by decide +kernel
theorem dX7_count_112 : decode cX7_count 112 = .ok (.invokevirtual 366, 3) := by decide +kernel
theorem dX7_count_115 : decode cX7_count 115 = .ok (.ireturn, 1) := by decide +kernel
theorem dX7_count_116 : decode cX7_count 116 = .ok (.aload_n 0, 1) := by decide +kernel
theorem dX7_count_117 : decode cX7_count 117 = .ok (.getfield 44, 3) := by decide +kernel
theorem dX7_count_120 : decode cX7_count 120 = .ok (.ireturn, 1) := by decide +kernel
theorem dX7_count_121 : decode cX7_count 121 = .ok (.aload_n 0, 1) := by decide +kernel
theorem dX7_count_122 : decode cX7_count 122 = .ok (.getfield 10, 3) := by decide +kernel
theorem dX7_count_125 : decode cX7_count 125 = .ok (.getfield 55, 3) := by decide +kernel
theorem dX7_count_128 : decode cX7_count 128 = .ok (.ireturn, 1) := by decide +kernel
theorem dX7_count_129 : decode cX7_count 129 = .ok (.iload_n 1, 1) := by decide +kernel
theorem dX7_count_130 : decode cX7_count 130 = .ok (.bipush 10, 2) := by decide +kernel
theorem dX7_count_132 : decode cX7_count 132 = .ok (.if_icmp .lt 9, 3) := by decide +kernel
theorem dX7_count_135 : decode cX7_count 135 = .ok (.iload_n 1, 1) := by decide +kernel
theorem dX7_count_136 : decode cX7_count 136 = .ok (.bipush 17, 2) := by decide +kernel
theorem dX7_count_138 : decode cX7_count 138 = .ok (.if_icmp .lt 14, 3) := by decide +kernel
theorem dX7_count_141 : decode cX7_count 141 = .ok (.new 48, 3) := by decide +kernel
theorem dX7_count_144 : decode cX7_count 144 = .ok (.dup, 1) := by decide +kernel
theorem dX7_count_145 : decode cX7_count 145 = .ok (.ldc_w 369, 3) := by decide +kernel
theorem dX7_count_148 : decode cX7_count 148 = .ok (.invokespecial 52, 3) := by decide +kernel
theorem dX7_count_151 : decode cX7_count 151 = .ok (.athrow, 1) := by decide +kernel
theorem dX7_count_152 : decode cX7_count 152 = .ok (.aload_n 0, 1) := by decide +kernel
theorem dX7_count_153 : decode cX7_count 153 = .ok (.getfield 26, 3) := by decide +kernel
theorem dX7_count_156 : decode cX7_count 156 = .ok (.iload_n 1, 1) := by decide +kernel
theorem dX7_count_157 : decode cX7_count 157 = .ok (.bipush 10, 2) := by decide +kernel
theorem dX7_count_159 : decode cX7_count 159 = .ok (.isub, 1) := by decide +kernel
theorem dX7_count_160 : decode cX7_count 160 = .ok (.invokevirtual 363, 3) := by decide +kernel
theorem dX7_count_163 : decode cX7_count 163 = .ok (.ireturn, 1) := by decide +kernel
theorem dX7_undo_0 : decode cX7_undo 0 = .ok (.aload_n 0, 1) := by decide +kernel
theorem dX7_undo_1 : decode cX7_undo 1 = .ok (.getfield 44, 3) := by decide +kernel
theorem dX7_undo_4 : decode cX7_undo 4 = .ok (.ifCond .le 12, 3) := by decide +kernel
theorem dX7_undo_7 : decode cX7_undo 7 = .ok (.aload_n 0, 1) := by decide +kernel
theorem dX7_undo_8 : decode cX7_undo 8 = .ok (.getfield 44, 3) := by decide +kernel
theorem dX7_undo_11 : decode cX7_undo 11 = .ok (.bipush 6, 2) := by decide +kernel
theorem dX7_undo_13 : decode cX7_undo 13 = .ok (.if_icmp .le 14, 3) := by decide +kernel
theorem dX7_undo_16 : decode cX7_undo 16 = .ok (.new 58, 3) := by decide +kernel
theorem dX7_undo_19 : decode cX7_undo 19 = .ok (.dup, 1) := by decide +kernel
theorem dX7_undo_20 : decode cX7_undo 20 = .ok (.ldc_w 371, 3) := by decide +kernel
theorem dX7_undo_23 : decode cX7_undo 23 = .ok (.invokespecial 62, 3) := by decide +kernel
theorem dX7_undo_26 : decode cX7_undo 26 = .ok (.athrow, 1) := by decide +kernel
theorem dX7_undo_27 : decode cX7_undo 27 = .ok (.aload_n 0, 1) := by decide +kernel
theorem dX7_undo_28 : decode cX7_undo 28 = .ok (.dup, 1) := by decide +kernel
theorem dX7_undo_29 : decode cX7_undo 29 = .ok (.getfield 44, 3) := by decide +kernel
theorem dX7_undo_32 : decode cX7_undo 32 = .ok (.iconst 1, 1) := by decide +kernel
theorem dX7_undo_33 : decode cX7_undo 33 = .ok (.isub, 1) := by decide +kernel
theorem dX7_undo_34 : decode cX7_undo 34 = .ok (.putfield 44, 3) := by decide +kernel
theorem dX7_undo_37 : decode cX7_undo 37 = .ok (.aload_n 0, 1) := by decide +kernel
theorem dX7_undo_38 : decode cX7_undo 38 = .ok (.getfield 26, 3) := by decide +kernel
theorem dX7_undo_41 : decode cX7_undo 41 = .ok (.aload_n 0, 1) := by decide +kernel
theorem dX7_undo_42 : decode cX7_undo 42 = .ok (.getfield 40, 3) := by decide +kernel
theorem dX7_undo_45 : decode cX7_undo 45 = .ok (.aload_n 0, 1) := by decide +kernel
theorem dX7_undo_46 : decode cX7_undo 46 = .ok (.getfield 44, 3) := by decide +kernel
theorem dX7_undo_49 : decode cX7_undo 49 = .ok (.aaload, 1) := by decide +kernel
theorem dX7_undo_50 : decode cX7_undo 50 = .ok (.invokevirtual 67, 3) := by decide +kernel
theorem dX7_undo_53 : decode cX7_undo 53 = .ok (.aload_n 0, 1) := by decide +kernel
theorem dX7_undo_54 : decode cX7_undo 54 = .ok (.getfield 44, 3) := by decide +kernel
theorem dX7_undo_57 : decode cX7_undo 57 = .ok (.ireturn, 1) := by decide +kernel
theorem dX7_save_0 : decode cX7_save 0 = .ok (.aload_n 0, 1) := by decide +kernel
theorem dX7_save_1 : decode cX7_save 1 = .ok (.getfield 33, 3) := by decide +kernel
theorem dX7_save_4 : decode cX7_save 4 = .ok (.aload_n 0, 1) := by decide +kernel
theorem dX7_save_5 : decode cX7_save 5 = .ok (.getfield 26, 3) := by decide +kernel
theorem dX7_save_8 : decode cX7_save 8 = .ok (.invokevirtual 67, 3) := by decide +kernel
theorem dX7_save_11 : decode cX7_save 11 = .ok (.aload_n 0, 1) := by decide +kernel
theorem dX7_save_12 : decode cX7_save 12 = .ok (.iconst 1, 1) := by decide +kernel
theorem dX7_save_13 : decode cX7_save 13 = .ok (.putfield 36, 3) := by decide +kernel
theorem dX7_save_16 : decode cX7_save 16 = .ok (.aload_n 0, 1) := by decide +kernel
theorem dX7_save_17 : decode cX7_save 17 = .ok (.getfield 26, 3) := by decide +kernel
theorem dX7_save_20 : decode cX7_save 20 = .ok (.getfield 212, 3) := by decide +kernel
theorem dX7_save_23 : decode cX7_save 23 = .ok (.ireturn, 1) := by decide +kernel
theorem dX7_restore_0 : decode cX7_restore 0 = .ok (.aload_n 0, 1) := by decide +kernel
theorem dX7_restore_1 : decode cX7_restore 1 = .ok (.getfield 36, 3) := by decide +kernel
theorem dX7_restore_4 : decode cX7_restore 4 = .ok (.ifCond .ne 14, 3) := by decide +kernel
theorem dX7_restore_7 : decode cX7_restore 7 = .ok (.new 58, 3) := by decide +kernel
theorem dX7_restore_10 : decode cX7_restore 10 = .ok (.dup, 1) := by decide +kernel
theorem dX7_restore_11 : decode cX7_restore 11 = .ok (.ldc_w 373, 3) := by decide +kernel
theorem dX7_restore_14 : decode cX7_restore 14 = .ok (.invokespecial 62, 3) := by decide +kernel
theorem dX7_restore_17 : decode cX7_restore 17 = .ok (.athrow, 1) := by decide +kernel
theorem dX7_restore_18 : decode cX7_restore 18 = .ok (.aload_n 0, 1) := by decide +kernel
theorem dX7_restore_19 : decode cX7_restore 19 = .ok (.getfield 26, 3) := by decide +kernel
theorem dX7_restore_22 : decode cX7_restore 22 = .ok (.aload_n 0, 1) := by decide +kernel
theorem dX7_restore_23 : decode cX7_restore 23 = .ok (.getfield 33, 3) := by decide +kernel
theorem dX7_restore_26 : decode cX7_restore 26 = .ok (.invokevirtual 67, 3) := by decide +kernel
theorem dX7_restore_29 : decode cX7_restore 29 = .ok (.aload_n 0, 1) := by decide +kernel
theorem dX7_restore_30 : decode cX7_restore 30 = .ok (.iconst 0, 1) := by decide +kernel
theorem dX7_restore_31 : decode cX7_restore 31 = .ok (.putfield 44, 3) := by decide +kernel
theorem dX7_restore_34 : decode cX7_restore 34 = .ok (.aload_n 0, 1) := by decide +kernel
theorem dX7_restore_35 : decode cX7_restore 35 = .ok (.getfield 26, 3) := by decide +kernel
theorem dX7_restore_38 : decode cX7_restore 38 = .ok (.getfield 212, 3) := by decide +kernel
theorem dX7_restore_41 : decode cX7_restore 41 = .ok (.ireturn, 1) := by decide +kernel
theorem dX7_remember_0 : decode cX7_remember 0 = .ok (.aload_n 0, 1) := by decide +kernel
theorem dX7_remember_1 : decode cX7_remember 1 = .ok (.getfield 44, 3) := by decide +kernel
theorem dX7_remember_4 : decode cX7_remember 4 = .ok (.bipush 6, 2) := by decide +kernel
theorem dX7_remember_6 : decode cX7_remember 6 = .ok (.if_icmp .lt 50, 3) := by decide +kernel
theorem dX7_remember_9 : decode cX7_remember 9 = .ok (.aload_n 0, 1) := by decide +kernel
theorem dX7_remember_10 : decode cX7_remember 10 = .ok (.getfield 40, 3) := by decide +kernel
theorem dX7_remember_13 : decode cX7_remember 13 = .ok (.iconst 0, 1) := by decide +kernel
theorem dX7_remember_14 : decode cX7_remember 14 = .ok (.aaload, 1) := by decide +kernel
theorem dX7_remember_15 : decode cX7_remember 15 = .ok (.astore_n 1, 1) := by decide +kernel
theorem dX7_remember_16 : decode cX7_remember 16 = .ok (.iconst 1, 1) := by decide +kernel
theorem dX7_remember_17 : decode cX7_remember 17 = .ok (.istore_n 2, 1) := by decide +kernel
theorem dX7_remember_18 : decode cX7_remember 18 = .ok (.iload_n 2, 1) := by decide +kernel
theorem dX7_remember_19 : decode cX7_remember 19 = .ok (.bipush 6, 2) := by decide +kernel
theorem dX7_remember_21 : decode cX7_remember 21 = .ok (.if_icmp .ge 23, 3) := by decide +kernel
theorem dX7_remember_24 : decode cX7_remember 24 = .ok (.aload_n 0, 1) := by decide +kernel
theorem dX7_remember_25 : decode cX7_remember 25 = .ok (.getfield 40, 3) := by decide +kernel
theorem dX7_remember_28 : decode cX7_remember 28 = .ok (.iload_n 2, 1) := by decide +kernel
theorem dX7_remember_29 : decode cX7_remember 29 = .ok (.iconst 1, 1) := by decide +kernel
theorem dX7_remember_30 : decode cX7_remember 30 = .ok (.isub, 1) := by decide +kernel
theorem dX7_remember_31 : decode cX7_remember 31 = .ok (.aload_n 0, 1) := by decide +kernel
theorem dX7_remember_32 : decode cX7_remember 32 = .ok (.getfield 40, 3) := by decide +kernel
theorem dX7_remember_35 : decode cX7_remember 35 = .ok (.iload_n 2, 1) := by decide +kernel
theorem dX7_remember_36 : decode cX7_remember 36 = .ok (.aaload, 1) := by decide +kernel
theorem dX7_remember_37 : decode cX7_remember 37 = .ok (.aastore, 1) := by decide +kernel
theorem dX7_remember_38 : decode cX7_remember 38 = .ok (.iinc 2 1, 3) := by decide +kernel
theorem dX7_remember_41 : decode cX7_remember 41 = .ok (.goto (-23), 3) := by decide +kernel
theorem dX7_remember_44 : decode cX7_remember 44 = .ok (.aload_n 0, 1) := by decide +kernel
theorem dX7_remember_45 : decode cX7_remember 45 = .ok (.getfield 40, 3) := by decide +kernel
theorem dX7_remember_48 : decode cX7_remember 48 = .ok (.iconst 5, 1) := by decide +kernel
theorem dX7_remember_49 : decode cX7_remember 49 = .ok (.aload_n 1, 1) := by decide +kernel
theorem dX7_remember_50 : decode cX7_remember 50 = .ok (.aastore, 1) := by decide +kernel
theorem dX7_remember_51 : decode cX7_remember 51 = .ok (.aload_n 0, 1) := by decide +kernel
theorem dX7_remember_52 : decode cX7_remember 52 = .ok (.iconst 5, 1) := by decide +kernel
theorem dX7_remember_53 : decode cX7_remember 53 = .ok (.putfield 44, 3) := by decide +kernel
theorem dX7_remember_56 : decode cX7_remember 56 = .ok (.aload_n 0, 1) := by decide +kernel
theorem dX7_remember_57 : decode cX7_remember 57 = .ok (.getfield 40, 3) := by decide +kernel
theorem dX7_remember_60 : decode cX7_remember 60 = .ok (.aload_n 0, 1) := by decide +kernel
theorem dX7_remember_61 : decode cX7_remember 61 = .ok (.getfield 44, 3) := by decide +kernel
theorem dX7_remember_64 : decode cX7_remember 64 = .ok (.aaload, 1) := by decide +kernel
theorem dX7_remember_65 : decode cX7_remember 65 = .ok (.aload_n 0, 1) := by decide +kernel
theorem dX7_remember_66 : decode cX7_remember 66 = .ok (.getfield 26, 3) := by decide +kernel
theorem dX7_remember_69 : decode cX7_remember 69 = .ok (.invokevirtual 67, 3) := by decide +kernel
theorem dX7_remember_72 : decode cX7_remember 72 = .ok (.aload_n 0, 1) := by decide +kernel
theorem dX7_remember_73 : decode cX7_remember 73 = .ok (.dup, 1) := by decide +kernel
theorem dX7_remember_74 : decode cX7_remember 74 = .ok (.getfield 44, 3) := by decide +kernel
theorem dX7_remember_77 : decode cX7_remember 77 = .ok (.iconst 1, 1) := by decide +kernel
theorem dX7_remember_78 : decode cX7_remember 78 = .ok (.iadd, 1) := by decide +kernel
theorem dX7_remember_79 : decode cX7_remember 79 = .ok (.putfield 44, 3) := by decide +kernel
theorem dX7_remember_82 : decode cX7_remember 82 = .ok (.return_, 1) := by decide +kernel
theorem dX7_lotOrThrow_0 : decode cX7_lotOrThrow 0 = .ok (.iload_n 1, 1) := by decide +kernel
theorem dX7_lotOrThrow_1 : decode cX7_lotOrThrow 1 = .ok (.ifCond .lt 14, 3) := by decide +kernel
theorem dX7_lotOrThrow_4 : decode cX7_lotOrThrow 4 = .ok (.iload_n 1, 1) := by decide +kernel
theorem dX7_lotOrThrow_5 : decode cX7_lotOrThrow 5 = .ok (.aload_n 0, 1) := by decide +kernel
theorem dX7_lotOrThrow_6 : decode cX7_lotOrThrow 6 = .ok (.getfield 26, 3) := by decide +kernel
theorem dX7_lotOrThrow_9 : decode cX7_lotOrThrow 9 = .ok (.getfield 360, 3) := by decide +kernel
theorem dX7_lotOrThrow_12 : decode cX7_lotOrThrow 12 = .ok (.if_icmp .lt 14, 3) := by decide +kernel
theorem dX7_lotOrThrow_15 : decode cX7_lotOrThrow 15 = .ok (.new 83, 3) := by decide +kernel
theorem dX7_lotOrThrow_18 : decode cX7_lotOrThrow 18 = .ok (.dup, 1) := by decide +kernel
theorem dX7_lotOrThrow_19 : decode cX7_lotOrThrow 19 = .ok (.ldc_w 375, 3) := by decide +kernel
theorem dX7_lotOrThrow_22 : decode cX7_lotOrThrow 22 = .ok (.invokespecial 87, 3) := by decide +kernel
theorem dX7_lotOrThrow_25 : decode cX7_lotOrThrow 25 = .ok (.athrow, 1) := by decide +kernel
theorem dX7_lotOrThrow_26 : decode cX7_lotOrThrow 26 = .ok (.aload_n 0, 1) := by decide +kernel
theorem dX7_lotOrThrow_27 : decode cX7_lotOrThrow 27 = .ok (.getfield 26, 3) := by decide +kernel
theorem dX7_lotOrThrow_30 : decode cX7_lotOrThrow 30 = .ok (.getfield 377, 3) := by decide +kernel
theorem dX7_lotOrThrow_33 : decode cX7_lotOrThrow 33 = .ok (.iload_n 1, 1) := by decide +kernel
theorem dX7_lotOrThrow_34 : decode cX7_lotOrThrow 34 = .ok (.aaload, 1) := by decide +kernel
theorem dX7_lotOrThrow_35 : decode cX7_lotOrThrow 35 = .ok (.areturn, 1) := by decide +kernel
theorem dX7_permitOrThrow_0 : decode cX7_permitOrThrow 0 = .ok (.iload_n 1, 1) := by decide +kernel
theorem dX7_permitOrThrow_1 : decode cX7_permitOrThrow 1 = .ok (.ifCond .lt 14, 3) := by decide +kernel
theorem dX7_permitOrThrow_4 : decode cX7_permitOrThrow 4 = .ok (.iload_n 1, 1) := by decide +kernel
theorem dX7_permitOrThrow_5 : decode cX7_permitOrThrow 5 = .ok (.aload_n 0, 1) := by decide +kernel
theorem dX7_permitOrThrow_6 : decode cX7_permitOrThrow 6 = .ok (.getfield 26, 3) := by decide +kernel
theorem dX7_permitOrThrow_9 : decode cX7_permitOrThrow 9 = .ok (.getfield 212, 3) := by decide +kernel
theorem dX7_permitOrThrow_12 : decode cX7_permitOrThrow 12 = .ok (.if_icmp .lt 14, 3) := by decide +kernel
theorem dX7_permitOrThrow_15 : decode cX7_permitOrThrow 15 = .ok (.new 83, 3) := by decide +kernel
theorem dX7_permitOrThrow_18 : decode cX7_permitOrThrow 18 = .ok (.dup, 1) := by decide +kernel
theorem dX7_permitOrThrow_19 : decode cX7_permitOrThrow 19 = .ok (.ldc_w 351, 3) := by decide +kernel
theorem dX7_permitOrThrow_22 : decode cX7_permitOrThrow 22 = .ok (.invokespecial 87, 3) := by decide +kernel
theorem dX7_permitOrThrow_25 : decode cX7_permitOrThrow 25 = .ok (.athrow, 1) := by decide +kernel
theorem dX7_permitOrThrow_26 : decode cX7_permitOrThrow 26 = .ok (.aload_n 0, 1) := by decide +kernel
theorem dX7_permitOrThrow_27 : decode cX7_permitOrThrow 27 = .ok (.getfield 26, 3) := by decide +kernel
theorem dX7_permitOrThrow_30 : decode cX7_permitOrThrow 30 = .ok (.getfield 215, 3) := by decide +kernel
theorem dX7_permitOrThrow_33 : decode cX7_permitOrThrow 33 = .ok (.iload_n 1, 1) := by decide +kernel
theorem dX7_permitOrThrow_34 : decode cX7_permitOrThrow 34 = .ok (.aaload, 1) := by decide +kernel
theorem dX7_permitOrThrow_35 : decode cX7_permitOrThrow 35 = .ok (.areturn, 1) := by decide +kernel
theorem dX7_lowestKind_0 : decode cX7_lowestKind 0 = .ok (.iconst 0, 1) := by decide +kernel
theorem dX7_lowestKind_1 : decode cX7_lowestKind 1 = .ok (.istore_n 1, 1) := by decide +kernel
theorem dX7_lowestKind_2 : decode cX7_lowestKind 2 = .ok (.iload_n 1, 1) := by decide +kernel
theorem dX7_lowestKind_3 : decode cX7_lowestKind 3 = .ok (.bipush 9, 2) := by decide +kernel
theorem dX7_lowestKind_5 : decode cX7_lowestKind 5 = .ok (.if_icmp .ge 19, 3) := by decide +kernel
theorem dX7_lowestKind_8 : decode cX7_lowestKind 8 = .ok (.iload_n 0, 1) := by decide +kernel
theorem dX7_lowestKind_9 : decode cX7_lowestKind 9 = .ok (.iconst 1, 1) := by decide +kernel
theorem dX7_lowestKind_10 : decode cX7_lowestKind 10 = .ok (.iload_n 1, 1) := by decide +kernel
theorem dX7_lowestKind_11 : decode cX7_lowestKind 11 = .ok (.ishl, 1) := by decide +kernel
theorem dX7_lowestKind_12 : decode cX7_lowestKind 12 = .ok (.iand, 1) := by decide +kernel
theorem dX7_lowestKind_13 : decode cX7_lowestKind 13 = .ok (.ifCond .eq 5, 3) := by decide +kernel
theorem dX7_lowestKind_16 : decode cX7_lowestKind 16 = .ok (.iload_n 1, 1) := by decide +kernel
theorem dX7_lowestKind_17 : decode cX7_lowestKind 17 = .ok (.ireturn, 1) := by decide +kernel
theorem dX7_lowestKind_18 : decode cX7_lowestKind 18 = .ok (.iinc 1 1, 3) := by decide +kernel
theorem dX7_lowestKind_21 : decode cX7_lowestKind 21 = .ok (.goto (-19), 3) := by decide +kernel
theorem dX7_lowestKind_24 : decode cX7_lowestKind 24 = .ok (.iconst (-1), 1) := by decide +kernel
theorem dX7_lowestKind_25 : decode cX7_lowestKind 25 = .ok (.ireturn, 1) := by decide +kernel
theorem dJ6_bitCount_0f7a4_0 : decode cJ6_bitCount_0f7a4 0 = .ok (.iload_n 0, 1) := by decide +kernel
theorem dJ6_bitCount_0f7a4_1 : decode cJ6_bitCount_0f7a4 1 = .ok (.iload_n 0, 1) := by decide +kernel
theorem dJ6_bitCount_0f7a4_2 : decode cJ6_bitCount_0f7a4 2 = .ok (.iconst 1, 1) := by decide +kernel
theorem dJ6_bitCount_0f7a4_3 : decode cJ6_bitCount_0f7a4 3 = .ok (.iushr, 1) := by decide +kernel
theorem dJ6_bitCount_0f7a4_4 : decode cJ6_bitCount_0f7a4 4 = .ok (.ldc_w 265, 3) := by decide +kernel
theorem dJ6_bitCount_0f7a4_7 : decode cJ6_bitCount_0f7a4 7 = .ok (.iand, 1) := by decide +kernel
theorem dJ6_bitCount_0f7a4_8 : decode cJ6_bitCount_0f7a4 8 = .ok (.isub, 1) := by decide +kernel
theorem dJ6_bitCount_0f7a4_9 : decode cJ6_bitCount_0f7a4 9 = .ok (.istore_n 0, 1) := by decide +kernel
theorem dJ6_bitCount_0f7a4_10 : decode cJ6_bitCount_0f7a4 10 = .ok (.iload_n 0, 1) := by decide +kernel
theorem dJ6_bitCount_0f7a4_11 : decode cJ6_bitCount_0f7a4 11 = .ok (.ldc_w 266, 3) := by decide +kernel
theorem dJ6_bitCount_0f7a4_14 : decode cJ6_bitCount_0f7a4 14 = .ok (.iand, 1) := by decide +kernel
theorem dJ6_bitCount_0f7a4_15 : decode cJ6_bitCount_0f7a4 15 = .ok (.iload_n 0, 1) := by decide +kernel
theorem dJ6_bitCount_0f7a4_16 : decode cJ6_bitCount_0f7a4 16 = .ok (.iconst 2, 1) := by decide +kernel
theorem dJ6_bitCount_0f7a4_17 : decode cJ6_bitCount_0f7a4 17 = .ok (.iushr, 1) := by decide +kernel
theorem dJ6_bitCount_0f7a4_18 : decode cJ6_bitCount_0f7a4 18 = .ok (.ldc_w 266, 3) := by decide +kernel
theorem dJ6_bitCount_0f7a4_21 : decode cJ6_bitCount_0f7a4 21 = .ok (.iand, 1) := by decide +kernel
theorem dJ6_bitCount_0f7a4_22 : decode cJ6_bitCount_0f7a4 22 = .ok (.iadd, 1) := by decide +kernel
theorem dJ6_bitCount_0f7a4_23 : decode cJ6_bitCount_0f7a4 23 = .ok (.istore_n 0, 1) := by decide +kernel
theorem dJ6_bitCount_0f7a4_24 : decode cJ6_bitCount_0f7a4 24 = .ok (.iload_n 0, 1) := by decide +kernel
theorem dJ6_bitCount_0f7a4_25 : decode cJ6_bitCount_0f7a4 25 = .ok (.iload_n 0, 1) := by decide +kernel
theorem dJ6_bitCount_0f7a4_26 : decode cJ6_bitCount_0f7a4 26 = .ok (.iconst 4, 1) := by decide +kernel
theorem dJ6_bitCount_0f7a4_27 : decode cJ6_bitCount_0f7a4 27 = .ok (.iushr, 1) := by decide +kernel
theorem dJ6_bitCount_0f7a4_28 : decode cJ6_bitCount_0f7a4 28 = .ok (.iadd, 1) := by decide +kernel
theorem dJ6_bitCount_0f7a4_29 : decode cJ6_bitCount_0f7a4 29 = .ok (.ldc_w 267, 3) := by decide +kernel
theorem dJ6_bitCount_0f7a4_32 : decode cJ6_bitCount_0f7a4 32 = .ok (.iand, 1) := by decide +kernel
theorem dJ6_bitCount_0f7a4_33 : decode cJ6_bitCount_0f7a4 33 = .ok (.istore_n 0, 1) := by decide +kernel
theorem dJ6_bitCount_0f7a4_34 : decode cJ6_bitCount_0f7a4 34 = .ok (.iload_n 0, 1) := by decide +kernel
theorem dJ6_bitCount_0f7a4_35 : decode cJ6_bitCount_0f7a4 35 = .ok (.iload_n 0, 1) := by decide +kernel
theorem dJ6_bitCount_0f7a4_36 : decode cJ6_bitCount_0f7a4 36 = .ok (.bipush 8, 2) := by decide +kernel
theorem dJ6_bitCount_0f7a4_38 : decode cJ6_bitCount_0f7a4 38 = .ok (.iushr, 1) := by decide +kernel
theorem dJ6_bitCount_0f7a4_39 : decode cJ6_bitCount_0f7a4 39 = .ok (.iadd, 1) := by decide +kernel
theorem dJ6_bitCount_0f7a4_40 : decode cJ6_bitCount_0f7a4 40 = .ok (.istore_n 0, 1) := by decide +kernel
theorem dJ6_bitCount_0f7a4_41 : decode cJ6_bitCount_0f7a4 41 = .ok (.iload_n 0, 1) := by decide +kernel
theorem dJ6_bitCount_0f7a4_42 : decode cJ6_bitCount_0f7a4 42 = .ok (.iload_n 0, 1) := by decide +kernel
theorem dJ6_bitCount_0f7a4_43 : decode cJ6_bitCount_0f7a4 43 = .ok (.bipush 16, 2) := by decide +kernel
theorem dJ6_bitCount_0f7a4_45 : decode cJ6_bitCount_0f7a4 45 = .ok (.iushr, 1) := by decide +kernel
theorem dJ6_bitCount_0f7a4_46 : decode cJ6_bitCount_0f7a4 46 = .ok (.iadd, 1) := by decide +kernel
theorem dJ6_bitCount_0f7a4_47 : decode cJ6_bitCount_0f7a4 47 = .ok (.istore_n 0, 1) := by decide +kernel
theorem dJ6_bitCount_0f7a4_48 : decode cJ6_bitCount_0f7a4 48 = .ok (.iload_n 0, 1) := by decide +kernel
theorem dJ6_bitCount_0f7a4_49 : decode cJ6_bitCount_0f7a4 49 = .ok (.bipush 63, 2) := by decide +kernel
theorem dJ6_bitCount_0f7a4_51 : decode cJ6_bitCount_0f7a4 51 = .ok (.iand, 1) := by decide +kernel
theorem dJ6_bitCount_0f7a4_52 : decode cJ6_bitCount_0f7a4 52 = .ok (.ireturn, 1) := by decide +kernel
