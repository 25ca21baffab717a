theorem dV_init_0 : decode cV_init 0 = .ok (.aload_n 0, 1) := by decide +kernel
theorem dV_init_1 : decode cV_init 1 = .ok (.invokespecial 3, 3) := by decide +kernel
theorem dV_init_4 : decode cV_init 4 = .ok (.aload_n 0, 1) := by decide +kernel
theorem dV_init_5 : decode cV_init 5 = .ok (.new 9, 3) := by decide +kernel
theorem dV_init_8 : decode cV_init 8 = .ok (.dup, 1) := by decide +kernel
theorem dV_init_9 : decode cV_init 9 = .ok (.invokespecial 11, 3) := by decide +kernel
theorem dV_init_12 : decode cV_init 12 = .ok (.putfield 12, 3) := by decide +kernel
theorem dV_init_15 : decode cV_init 15 = .ok (.aload_n 0, 1) := by decide +kernel
theorem dV_init_16 : decode cV_init 16 = .ok (.bipush 8, 2) := by decide +kernel
theorem dV_init_18 : decode cV_init 18 = .ok (.anewarray 16, 3) := by decide +kernel
theorem dV_init_21 : decode cV_init 21 = .ok (.putfield 18, 3) := by decide +kernel
theorem dV_init_24 : decode cV_init 24 = .ok (.iconst 0, 1) := by decide +kernel
theorem dV_init_25 : decode cV_init 25 = .ok (.istore_n 1, 1) := by decide +kernel
theorem dV_init_26 : decode cV_init 26 = .ok (.iload_n 1, 1) := by decide +kernel
theorem dV_init_27 : decode cV_init 27 = .ok (.bipush 8, 2) := by decide +kernel
theorem dV_init_29 : decode cV_init 29 = .ok (.if_icmp .ge 22, 3) := by decide +kernel
theorem dV_init_32 : decode cV_init 32 = .ok (.aload_n 0, 1) := by decide +kernel
theorem dV_init_33 : decode cV_init 33 = .ok (.getfield 18, 3) := by decide +kernel
theorem dV_init_36 : decode cV_init 36 = .ok (.iload_n 1, 1) := by decide +kernel
theorem dV_init_37 : decode cV_init 37 = .ok (.new 16, 3) := by decide +kernel
theorem dV_init_40 : decode cV_init 40 = .ok (.dup, 1) := by decide +kernel
theorem dV_init_41 : decode cV_init 41 = .ok (.invokespecial 22, 3) := by decide +kernel
theorem dV_init_44 : decode cV_init 44 = .ok (.aastore, 1) := by decide +kernel
theorem dV_init_45 : decode cV_init 45 = .ok (.iinc 1 1, 3) := by decide +kernel
theorem dV_init_48 : decode cV_init 48 = .ok (.goto (-22), 3) := by decide +kernel
theorem dV_init_51 : decode cV_init 51 = .ok (.aload_n 0, 1) := by decide +kernel
theorem dV_init_52 : decode cV_init 52 = .ok (.new 23, 3) := by decide +kernel
theorem dV_init_55 : decode cV_init 55 = .ok (.dup, 1) := by decide +kernel
theorem dV_init_56 : decode cV_init 56 = .ok (.invokespecial 25, 3) := by decide +kernel
theorem dV_init_59 : decode cV_init 59 = .ok (.putfield 26, 3) := by decide +kernel
theorem dV_init_62 : decode cV_init 62 = .ok (.aload_n 0, 1) := by decide +kernel
theorem dV_init_63 : decode cV_init 63 = .ok (.getfield 26, 3) := by decide +kernel
theorem dV_init_66 : decode cV_init 66 = .ok (.iconst 3, 1) := by decide +kernel
theorem dV_init_67 : decode cV_init 67 = .ok (.putfield 30, 3) := by decide +kernel
theorem dV_init_70 : decode cV_init 70 = .ok (.aload_n 0, 1) := by decide +kernel
theorem dV_init_71 : decode cV_init 71 = .ok (.new 23, 3) := by decide +kernel
theorem dV_init_74 : decode cV_init 74 = .ok (.dup, 1) := by decide +kernel
theorem dV_init_75 : decode cV_init 75 = .ok (.invokespecial 25, 3) := by decide +kernel
theorem dV_init_78 : decode cV_init 78 = .ok (.putfield 34, 3) := by decide +kernel
theorem dV_init_81 : decode cV_init 81 = .ok (.aload_n 0, 1) := by decide +kernel
theorem dV_init_82 : decode cV_init 82 = .ok (.new 23, 3) := by decide +kernel
theorem dV_init_85 : decode cV_init 85 = .ok (.dup, 1) := by decide +kernel
theorem dV_init_86 : decode cV_init 86 = .ok (.invokespecial 25, 3) := by decide +kernel
theorem dV_init_89 : decode cV_init 89 = .ok (.putfield 37, 3) := by decide +kernel
theorem dV_init_92 : decode cV_init 92 = .ok (.aload_n 0, 1) := by decide +kernel
theorem dV_init_93 : decode cV_init 93 = .ok (.new 40, 3) := by decide +kernel
theorem dV_init_96 : decode cV_init 96 = .ok (.dup, 1) := by decide +kernel
theorem dV_init_97 : decode cV_init 97 = .ok (.invokespecial 42, 3) := by decide +kernel
theorem dV_init_100 : decode cV_init 100 = .ok (.putfield 43, 3) := by decide +kernel
theorem dV_init_103 : decode cV_init 103 = .ok (.return_, 1) := by decide +kernel
theorem dM_init_0 : decode cM_init 0 = .ok (.aload_n 0, 1) := by decide +kernel
theorem dM_init_1 : decode cM_init 1 = .ok (.invokespecial 3, 3) := by decide +kernel
theorem dM_init_4 : decode cM_init 4 = .ok (.aload_n 0, 1) := by decide +kernel
theorem dM_init_5 : decode cM_init 5 = .ok (.sipush 4096, 3) := by decide +kernel
theorem dM_init_8 : decode cM_init 8 = .ok (.newarray .int, 2) := by decide +kernel
theorem dM_init_10 : decode cM_init 10 = .ok (.putfield 9, 3) := by decide +kernel
theorem dM_init_13 : decode cM_init 13 = .ok (.return_, 1) := by decide +kernel
theorem dA_init_0 : decode cA_init 0 = .ok (.aload_n 0, 1) := by decide +kernel
theorem dA_init_1 : decode cA_init 1 = .ok (.invokespecial 3, 3) := by decide +kernel
theorem dA_init_4 : decode cA_init 4 = .ok (.return_, 1) := by decide +kernel
theorem dP_init_0 : decode cP_init 0 = .ok (.aload_n 0, 1) := by decide +kernel
theorem dP_init_1 : decode cP_init 1 = .ok (.invokespecial 3, 3) := by decide +kernel
theorem dP_init_4 : decode cP_init 4 = .ok (.aload_n 0, 1) := by decide +kernel
theorem dP_init_5 : decode cP_init 5 = .ok (.iconst 5, 1) := by decide +kernel
theorem dP_init_6 : decode cP_init 6 = .ok (.bipush 32, 2) := by decide +kernel
theorem dP_init_8 : decode cP_init 8 = .ok (.multianewarray 9 2, 4) := by decide +kernel
theorem dP_init_12 : decode cP_init 12 = .ok (.putfield 11, 3) := by decide +kernel
theorem dP_init_15 : decode cP_init 15 = .ok (.return_, 1) := by decide +kernel
theorem dS_init_0 : decode cS_init 0 = .ok (.aload_n 0, 1) := by decide +kernel
theorem dS_init_1 : decode cS_init 1 = .ok (.invokespecial 3, 3) := by decide +kernel
theorem dS_init_4 : decode cS_init 4 = .ok (.aload_n 0, 1) := by decide +kernel
theorem dS_init_5 : decode cS_init 5 = .ok (.iconst 1, 1) := by decide +kernel
theorem dS_init_6 : decode cS_init 6 = .ok (.putfield 9, 3) := by decide +kernel
theorem dS_init_9 : decode cS_init 9 = .ok (.aload_n 0, 1) := by decide +kernel
theorem dS_init_10 : decode cS_init 10 = .ok (.iconst 1, 1) := by decide +kernel
theorem dS_init_11 : decode cS_init 11 = .ok (.putfield 15, 3) := by decide +kernel
theorem dS_init_14 : decode cS_init 14 = .ok (.aload_n 0, 1) := by decide +kernel
theorem dS_init_15 : decode cS_init 15 = .ok (.ldc 18, 2) := by decide +kernel
theorem dS_init_17 : decode cS_init 17 = .ok (.putfield 19, 3) := by decide +kernel
theorem dS_init_20 : decode cS_init 20 = .ok (.return_, 1) := by decide +kernel
theorem dV_make_0 : decode cV_make 0 = .ok (.aload_n 0, 1) := by decide +kernel
theorem dV_make_1 : decode cV_make 1 = .ok (.getfield 34, 3) := by decide +kernel
theorem dV_make_4 : decode cV_make 4 = .ok (.aload_n 0, 1) := by decide +kernel
theorem dV_make_5 : decode cV_make 5 = .ok (.getfield 26, 3) := by decide +kernel
theorem dV_make_8 : decode cV_make 8 = .ok (.iconst 0, 1) := by decide +kernel
theorem dV_make_9 : decode cV_make 9 = .ok (.invokevirtual 137, 3) := by decide +kernel
theorem dV_make_12 : decode cV_make 12 = .ok (.aload_n 0, 1) := by decide +kernel
theorem dV_make_13 : decode cV_make 13 = .ok (.getfield 37, 3) := by decide +kernel
theorem dV_make_16 : decode cV_make 16 = .ok (.aload_n 0, 1) := by decide +kernel
theorem dV_make_17 : decode cV_make 17 = .ok (.getfield 34, 3) := by decide +kernel
theorem dV_make_20 : decode cV_make 20 = .ok (.iconst 1, 1) := by decide +kernel
theorem dV_make_21 : decode cV_make 21 = .ok (.invokevirtual 137, 3) := by decide +kernel
theorem dV_make_24 : decode cV_make 24 = .ok (.iconst 0, 1) := by decide +kernel
theorem dV_make_25 : decode cV_make 25 = .ok (.istore_n 1, 1) := by decide +kernel
theorem dV_make_26 : decode cV_make 26 = .ok (.iload_n 1, 1) := by decide +kernel
theorem dV_make_27 : decode cV_make 27 = .ok (.aload_n 0, 1) := by decide +kernel
theorem dV_make_28 : decode cV_make 28 = .ok (.getfield 37, 3) := by decide +kernel
theorem dV_make_31 : decode cV_make 31 = .ok (.getfield 30, 3) := by decide +kernel
theorem dV_make_34 : decode cV_make 34 = .ok (.if_icmp .ge 25, 3) := by decide +kernel
theorem dV_make_37 : decode cV_make 37 = .ok (.aload_n 0, 1) := by decide +kernel
theorem dV_make_38 : decode cV_make 38 = .ok (.getfield 43, 3) := by decide +kernel
theorem dV_make_41 : decode cV_make 41 = .ok (.aload_n 0, 1) := by decide +kernel
theorem dV_make_42 : decode cV_make 42 = .ok (.getfield 37, 3) := by decide +kernel
theorem dV_make_45 : decode cV_make 45 = .ok (.getfield 141, 3) := by decide +kernel
theorem dV_make_48 : decode cV_make 48 = .ok (.iload_n 1, 1) := by decide +kernel
theorem dV_make_49 : decode cV_make 49 = .ok (.aaload, 1) := by decide +kernel
theorem dV_make_50 : decode cV_make 50 = .ok (.invokevirtual 145, 3) := by decide +kernel
theorem dV_make_53 : decode cV_make 53 = .ok (.iinc 1 1, 3) := by decide +kernel
theorem dV_make_56 : decode cV_make 56 = .ok (.goto (-30), 3) := by decide +kernel
theorem dV_make_59 : decode cV_make 59 = .ok (.aload_n 0, 1) := by decide +kernel
theorem dV_make_60 : decode cV_make 60 = .ok (.getfield 37, 3) := by decide +kernel
theorem dV_make_63 : decode cV_make 63 = .ok (.getfield 30, 3) := by decide +kernel
theorem dV_make_66 : decode cV_make 66 = .ok (.invokestatic 94, 3) := by decide +kernel
theorem dV_make_69 : decode cV_make 69 = .ok (.ireturn, 1) := by decide +kernel
theorem dP_takeInside_0 : decode cP_takeInside 0 = .ok (.aload_n 0, 1) := by decide +kernel
theorem dP_takeInside_1 : decode cP_takeInside 1 = .ok (.iconst 0, 1) := by decide +kernel
theorem dP_takeInside_2 : decode cP_takeInside 2 = .ok (.putfield 16, 3) := by decide +kernel
theorem dP_takeInside_5 : decode cP_takeInside 5 = .ok (.iconst 0, 1) := by decide +kernel
theorem dP_takeInside_6 : decode cP_takeInside 6 = .ok (.istore_n 3, 1) := by decide +kernel
theorem dP_takeInside_7 : decode cP_takeInside 7 = .ok (.iload_n 3, 1) := by decide +kernel
theorem dP_takeInside_8 : decode cP_takeInside 8 = .ok (.aload_n 1, 1) := by decide +kernel
theorem dP_takeInside_9 : decode cP_takeInside 9 = .ok (.getfield 16, 3) := by decide +kernel
theorem dP_takeInside_12 : decode cP_takeInside 12 = .ok (.if_icmp .ge 46, 3) := by decide +kernel
theorem dP_takeInside_15 : decode cP_takeInside 15 = .ok (.iload_n 3, 1) := by decide +kernel
theorem dP_takeInside_16 : decode cP_takeInside 16 = .ok (.iconst 1, 1) := by decide +kernel
theorem dP_takeInside_17 : decode cP_takeInside 17 = .ok (.iadd, 1) := by decide +kernel
theorem dP_takeInside_18 : decode cP_takeInside 18 = .ok (.aload_n 1, 1) := by decide +kernel
theorem dP_takeInside_19 : decode cP_takeInside 19 = .ok (.getfield 16, 3) := by decide +kernel
theorem dP_takeInside_22 : decode cP_takeInside 22 = .ok (.if_icmp .ge 9, 3) := by decide +kernel
theorem dP_takeInside_25 : decode cP_takeInside 25 = .ok (.iload_n 3, 1) := by decide +kernel
theorem dP_takeInside_26 : decode cP_takeInside 26 = .ok (.iconst 1, 1) := by decide +kernel
theorem dP_takeInside_27 : decode cP_takeInside 27 = .ok (.iadd, 1) := by decide +kernel
theorem dP_takeInside_28 : decode cP_takeInside 28 = .ok (.goto 4, 3) := by decide +kernel
theorem dP_takeInside_31 : decode cP_takeInside 31 = .ok (.iconst 0, 1) := by decide +kernel
theorem dP_takeInside_32 : decode cP_takeInside 32 = .ok (.istore 4, 2) := by decide +kernel
theorem dP_takeInside_34 : decode cP_takeInside 34 = .ok (.aload_n 0, 1) := by decide +kernel
theorem dP_takeInside_35 : decode cP_takeInside 35 = .ok (.aload_n 1, 1) := by decide +kernel
theorem dP_takeInside_36 : decode cP_takeInside 36 = .ok (.getfield 11, 3) := by decide +kernel
theorem dP_takeInside_39 : decode cP_takeInside 39 = .ok (.iload_n 3, 1) := by decide +kernel
theorem dP_takeInside_40 : decode cP_takeInside 40 = .ok (.aaload, 1) := by decide +kernel
theorem dP_takeInside_41 : decode cP_takeInside 41 = .ok (.aload_n 1, 1) := by decide +kernel
theorem dP_takeInside_42 : decode cP_takeInside 42 = .ok (.getfield 11, 3) := by decide +kernel
theorem dP_takeInside_45 : decode cP_takeInside 45 = .ok (.iload 4, 2) := by decide +kernel
theorem dP_takeInside_47 : decode cP_takeInside 47 = .ok (.aaload, 1) := by decide +kernel
theorem dP_takeInside_48 : decode cP_takeInside 48 = .ok (.iload_n 2, 1) := by decide +kernel
theorem dP_takeInside_49 : decode cP_takeInside 49 = .ok (.invokevirtual 20, 3) := by decide +kernel
theorem dP_takeInside_52 : decode cP_takeInside 52 = .ok (.iinc 3 1, 3) := by decide +kernel
theorem dP_takeInside_55 : decode cP_takeInside 55 = .ok (.goto (-48), 3) := by decide +kernel
theorem dP_takeInside_58 : decode cP_takeInside 58 = .ok (.aload_n 0, 1) := by decide +kernel
theorem dP_takeInside_59 : decode cP_takeInside 59 = .ok (.getfield 16, 3) := by decide +kernel
theorem dP_takeInside_62 : decode cP_takeInside 62 = .ok (.iconst 3, 1) := by decide +kernel
theorem dP_takeInside_63 : decode cP_takeInside 63 = .ok (.if_icmp .ge 8, 3) := by decide +kernel
theorem dP_takeInside_66 : decode cP_takeInside 66 = .ok (.aload_n 0, 1) := by decide +kernel
theorem dP_takeInside_67 : decode cP_takeInside 67 = .ok (.iconst 0, 1) := by decide +kernel
theorem dP_takeInside_68 : decode cP_takeInside 68 = .ok (.putfield 16, 3) := by decide +kernel
theorem dP_takeInside_71 : decode cP_takeInside 71 = .ok (.return_, 1) := by decide +kernel
theorem dP_takeEdge_0 : decode cP_takeEdge 0 = .ok (.aload_n 1, 1) := by decide +kernel
theorem dP_takeEdge_1 : decode cP_takeEdge 1 = .ok (.iload_n 3, 1) := by decide +kernel
theorem dP_takeEdge_2 : decode cP_takeEdge 2 = .ok (.invokestatic 24, 3) := by decide +kernel
theorem dP_takeEdge_5 : decode cP_takeEdge 5 = .ok (.lstore 4, 2) := by decide +kernel
theorem dP_takeEdge_7 : decode cP_takeEdge 7 = .ok (.aload_n 2, 1) := by decide +kernel
theorem dP_takeEdge_8 : decode cP_takeEdge 8 = .ok (.iload_n 3, 1) := by decide +kernel
theorem dP_takeEdge_9 : decode cP_takeEdge 9 = .ok (.invokestatic 24, 3) := by decide +kernel
theorem dP_takeEdge_12 : decode cP_takeEdge 12 = .ok (.lstore 6, 2) := by decide +kernel
theorem dP_takeEdge_14 : decode cP_takeEdge 14 = .ok (.lload 4, 2) := by decide +kernel
theorem dP_takeEdge_16 : decode cP_takeEdge 16 = .ok (.lconst 0, 1) := by decide +kernel
theorem dP_takeEdge_17 : decode cP_takeEdge 17 = .ok (.lcmp, 1) := by decide +kernel
theorem dP_takeEdge_18 : decode cP_takeEdge 18 = .ok (.ifCond .lt 8, 3) := by decide +kernel
theorem dP_takeEdge_21 : decode cP_takeEdge 21 = .ok (.aload_n 0, 1) := by decide +kernel
theorem dP_takeEdge_22 : decode cP_takeEdge 22 = .ok (.aload_n 1, 1) := by decide +kernel
theorem dP_takeEdge_23 : decode cP_takeEdge 23 = .ok (.invokevirtual 28, 3) := by decide +kernel
theorem dP_takeEdge_26 : decode cP_takeEdge 26 = .ok (.lload 4, 2) := by decide +kernel
theorem dP_takeEdge_28 : decode cP_takeEdge 28 = .ok (.lconst 0, 1) := by decide +kernel
theorem dP_takeEdge_29 : decode cP_takeEdge 29 = .ok (.lcmp, 1) := by decide +kernel
theorem dP_takeEdge_30 : decode cP_takeEdge 30 = .ok (.ifCond .lt 23, 3) := by decide +kernel
theorem dP_takeEdge_33 : decode cP_takeEdge 33 = .ok (.lload 6, 2) := by decide +kernel
theorem dP_takeEdge_35 : decode cP_takeEdge 35 = .ok (.lconst 0, 1) := by decide +kernel
theorem dP_takeEdge_36 : decode cP_takeEdge 36 = .ok (.lcmp, 1) := by decide +kernel
theorem dP_takeEdge_37 : decode cP_takeEdge 37 = .ok (.ifCond .ge 16, 3) := by decide +kernel
theorem dP_takeEdge_40 : decode cP_takeEdge 40 = .ok (.aload_n 0, 1) := by decide +kernel
theorem dP_takeEdge_41 : decode cP_takeEdge 41 = .ok (.aload_n 1, 1) := by decide +kernel
theorem dP_takeEdge_42 : decode cP_takeEdge 42 = .ok (.aload_n 2, 1) := by decide +kernel
theorem dP_takeEdge_43 : decode cP_takeEdge 43 = .ok (.lload 4, 2) := by decide +kernel
theorem dP_takeEdge_45 : decode cP_takeEdge 45 = .ok (.lload 6, 2) := by decide +kernel
theorem dP_takeEdge_47 : decode cP_takeEdge 47 = .ok (.invokestatic 32, 3) := by decide +kernel
theorem dP_takeEdge_50 : decode cP_takeEdge 50 = .ok (.invokevirtual 36, 3) := by decide +kernel
theorem dP_takeEdge_53 : decode cP_takeEdge 53 = .ok (.lload 4, 2) := by decide +kernel
theorem dP_takeEdge_55 : decode cP_takeEdge 55 = .ok (.lconst 0, 1) := by decide +kernel
theorem dP_takeEdge_56 : decode cP_takeEdge 56 = .ok (.lcmp, 1) := by decide +kernel
theorem dP_takeEdge_57 : decode cP_takeEdge 57 = .ok (.ifCond .ge 23, 3) := by decide +kernel
theorem dP_takeEdge_60 : decode cP_takeEdge 60 = .ok (.lload 6, 2) := by decide +kernel
theorem dP_takeEdge_62 : decode cP_takeEdge 62 = .ok (.lconst 0, 1) := by decide +kernel
theorem dP_takeEdge_63 : decode cP_takeEdge 63 = .ok (.lcmp, 1) := by decide +kernel
theorem dP_takeEdge_64 : decode cP_takeEdge 64 = .ok (.ifCond .lt 16, 3) := by decide +kernel
theorem dP_takeEdge_67 : decode cP_takeEdge 67 = .ok (.aload_n 0, 1) := by decide +kernel
theorem dP_takeEdge_68 : decode cP_takeEdge 68 = .ok (.aload_n 2, 1) := by decide +kernel
theorem dP_takeEdge_69 : decode cP_takeEdge 69 = .ok (.aload_n 1, 1) := by decide +kernel
theorem dP_takeEdge_70 : decode cP_takeEdge 70 = .ok (.lload 6, 2) := by decide +kernel
theorem dP_takeEdge_72 : decode cP_takeEdge 72 = .ok (.lload 4, 2) := by decide +kernel
theorem dP_takeEdge_74 : decode cP_takeEdge 74 = .ok (.invokestatic 32, 3) := by decide +kernel
theorem dP_takeEdge_77 : decode cP_takeEdge 77 = .ok (.invokevirtual 36, 3) := by decide +kernel
theorem dP_takeEdge_80 : decode cP_takeEdge 80 = .ok (.return_, 1) := by decide +kernel
theorem dP_distance_0 : decode cP_distance 0 = .ok (.iload_n 1, 1) := by decide +kernel
theorem dP_distance_1 : decode cP_distance 1 = .ok (.ifCond .ne 15, 3) := by decide +kernel
theorem dP_distance_4 : decode cP_distance 4 = .ok (.aload_n 0, 1) := by decide +kernel
theorem dP_distance_5 : decode cP_distance 5 = .ok (.iconst 2, 1) := by decide +kernel
theorem dP_distance_6 : decode cP_distance 6 = .ok (.iaload, 1) := by decide +kernel
theorem dP_distance_7 : decode cP_distance 7 = .ok (.i2l, 1) := by decide +kernel
theorem dP_distance_8 : decode cP_distance 8 = .ok (.aload_n 0, 1) := by decide +kernel
theorem dP_distance_9 : decode cP_distance 9 = .ok (.iconst 3, 1) := by decide +kernel
theorem dP_distance_10 : decode cP_distance 10 = .ok (.iaload, 1) := by decide +kernel
theorem dP_distance_11 : decode cP_distance 11 = .ok (.i2l, 1) := by decide +kernel
theorem dP_distance_12 : decode cP_distance 12 = .ok (.ladd, 1) := by decide +kernel
theorem dP_distance_13 : decode cP_distance 13 = .ok (.goto 11, 3) := by decide +kernel
theorem dP_distance_16 : decode cP_distance 16 = .ok (.aload_n 0, 1) := by decide +kernel
theorem dP_distance_17 : decode cP_distance 17 = .ok (.iconst 3, 1) := by decide +kernel
theorem dP_distance_18 : decode cP_distance 18 = .ok (.iaload, 1) := by decide +kernel
theorem dP_distance_19 : decode cP_distance 19 = .ok (.i2l, 1) := by decide +kernel
theorem dP_distance_20 : decode cP_distance 20 = .ok (.ldc2_w 56, 3) := by decide +kernel
theorem dP_distance_23 : decode cP_distance 23 = .ok (.lsub, 1) := by decide +kernel
theorem dP_distance_24 : decode cP_distance 24 = .ok (.lreturn, 1) := by decide +kernel
theorem dP_take_0 : decode cP_take 0 = .ok (.aload_n 0, 1) := by decide +kernel
theorem dP_take_1 : decode cP_take 1 = .ok (.getfield 16, 3) := by decide +kernel
theorem dP_take_4 : decode cP_take 4 = .ok (.iconst 5, 1) := by decide +kernel
theorem dP_take_5 : decode cP_take 5 = .ok (.if_icmp .lt 4, 3) := by decide +kernel
theorem dP_take_8 : decode cP_take 8 = .ok (.return_, 1) := by decide +kernel
theorem dP_take_9 : decode cP_take 9 = .ok (.aload_n 1, 1) := by decide +kernel
theorem dP_take_10 : decode cP_take 10 = .ok (.iconst 0, 1) := by decide +kernel
theorem dP_take_11 : decode cP_take 11 = .ok (.aload_n 0, 1) := by decide +kernel
theorem dP_take_12 : decode cP_take 12 = .ok (.getfield 11, 3) := by decide +kernel
theorem dP_take_15 : decode cP_take 15 = .ok (.aload_n 0, 1) := by decide +kernel
theorem dP_take_16 : decode cP_take 16 = .ok (.getfield 16, 3) := by decide +kernel
theorem dP_take_19 : decode cP_take 19 = .ok (.aaload, 1) := by decide +kernel
theorem dP_take_20 : decode cP_take 20 = .ok (.iconst 0, 1) := by decide +kernel
theorem dP_take_21 : decode cP_take 21 = .ok (.bipush 32, 2) := by decide +kernel
theorem dP_take_23 : decode cP_take 23 = .ok (.invokestatic 40, 3) := by decide +kernel
theorem dP_take_26 : decode cP_take 26 = .ok (.aload_n 0, 1) := by decide +kernel
theorem dP_take_27 : decode cP_take 27 = .ok (.dup, 1) := by decide +kernel
theorem dP_take_28 : decode cP_take 28 = .ok (.getfield 16, 3) := by decide +kernel
theorem dP_take_31 : decode cP_take 31 = .ok (.iconst 1, 1) := by decide +kernel
theorem dP_take_32 : decode cP_take 32 = .ok (.iadd, 1) := by decide +kernel
theorem dP_take_33 : decode cP_take 33 = .ok (.putfield 16, 3) := by decide +kernel
theorem dP_take_36 : decode cP_take 36 = .ok (.return_, 1) := by decide +kernel
theorem dP_share_0 : decode cP_share 0 = .ok (.ldc2_w 46, 3) := by decide +kernel
theorem dP_share_3 : decode cP_share 3 = .ok (.lload_n 0, 1) := by decide +kernel
theorem dP_share_4 : decode cP_share 4 = .ok (.lmul, 1) := by decide +kernel
theorem dP_share_5 : decode cP_share 5 = .ok (.lconst 1, 1) := by decide +kernel
theorem dP_share_6 : decode cP_share 6 = .ok (.lload_n 0, 1) := by decide +kernel
theorem dP_share_7 : decode cP_share 7 = .ok (.lload_n 2, 1) := by decide +kernel
theorem dP_share_8 : decode cP_share 8 = .ok (.lsub, 1) := by decide +kernel
theorem dP_share_9 : decode cP_share 9 = .ok (.invokestatic 53, 3) := by decide +kernel
theorem dP_share_12 : decode cP_share 12 = .ok (.invokestatic 48, 3) := by decide +kernel
theorem dP_share_15 : decode cP_share 15 = .ok (.lreturn, 1) := by decide +kernel
theorem dJ_max_0 : decode cJ_max 0 = .ok (.lload_n 0, 1) := by decide +kernel
theorem dJ_max_1 : decode cJ_max 1 = .ok (.lload_n 2, 1) := by decide +kernel
theorem dJ_max_2 : decode cJ_max 2 = .ok (.lcmp, 1) := by decide +kernel
theorem dJ_max_3 : decode cJ_max 3 = .ok (.ifCond .lt 7, 3) := by decide +kernel
theorem dJ_max_6 : decode cJ_max 6 = .ok (.lload_n 0, 1) := by decide +kernel
theorem dJ_max_7 : decode cJ_max 7 = .ok (.goto 4, 3) := by decide +kernel
theorem dJ_max_10 : decode cJ_max 10 = .ok (.lload_n 2, 1) := by decide +kernel
theorem dJ_max_11 : decode cJ_max 11 = .ok (.lreturn, 1) := by decide +kernel
theorem dJ_floorDiv_0 : decode cJ_floorDiv 0 = .ok (.lload_n 0, 1) := by decide +kernel
theorem dJ_floorDiv_1 : decode cJ_floorDiv 1 = .ok (.lload_n 2, 1) := by decide +kernel
theorem dJ_floorDiv_2 : decode cJ_floorDiv 2 = .ok (.ldiv, 1) := by decide +kernel
theorem dJ_floorDiv_3 : decode cJ_floorDiv 3 = .ok (.lstore 4, 2) := by decide +kernel
theorem dJ_floorDiv_5 : decode cJ_floorDiv 5 = .ok (.lload_n 0, 1) := by decide +kernel
theorem dJ_floorDiv_6 : decode cJ_floorDiv 6 = .ok (.lload_n 2, 1) := by decide +kernel
theorem dJ_floorDiv_7 : decode cJ_floorDiv 7 = .ok (.lxor, 1) := by decide +kernel
theorem dJ_floorDiv_8 : decode cJ_floorDiv 8 = .ok (.lconst 0, 1) := by decide +kernel
theorem dJ_floorDiv_9 : decode cJ_floorDiv 9 = .ok (.lcmp, 1) := by decide +kernel
theorem dJ_floorDiv_10 : decode cJ_floorDiv 10 = .ok (.ifCond .ge 17, 3) := by decide +kernel
theorem dJ_floorDiv_13 : decode cJ_floorDiv 13 = .ok (.lload 4, 2) := by decide +kernel
theorem dJ_floorDiv_15 : decode cJ_floorDiv 15 = .ok (.lload_n 2, 1) := by decide +kernel
theorem dJ_floorDiv_16 : decode cJ_floorDiv 16 = .ok (.lmul, 1) := by decide +kernel
theorem dJ_floorDiv_17 : decode cJ_floorDiv 17 = .ok (.lload_n 0, 1) := by decide +kernel
theorem dJ_floorDiv_18 : decode cJ_floorDiv 18 = .ok (.lcmp, 1) := by decide +kernel
theorem dJ_floorDiv_19 : decode cJ_floorDiv 19 = .ok (.ifCond .eq 8, 3) := by decide +kernel
theorem dJ_floorDiv_22 : decode cJ_floorDiv 22 = .ok (.lload 4, 2) := by decide +kernel
theorem dJ_floorDiv_24 : decode cJ_floorDiv 24 = .ok (.lconst 1, 1) := by decide +kernel
theorem dJ_floorDiv_25 : decode cJ_floorDiv 25 = .ok (.lsub, 1) := by decide +kernel
theorem dJ_floorDiv_26 : decode cJ_floorDiv 26 = .ok (.lreturn, 1) := by decide +kernel
theorem dJ_floorDiv_27 : decode cJ_floorDiv 27 = .ok (.lload 4, 2) := by decide +kernel
theorem dJ_floorDiv_29 : decode cJ_floorDiv 29 = .ok (.lreturn, 1) := by decide +kernel
theorem dP_takeBetween_0 : decode cP_takeBetween 0 = .ok (.aload_n 0, 1) := by decide +kernel
theorem dP_takeBetween_1 : decode cP_takeBetween 1 = .ok (.getfield 16, 3) := by decide +kernel
theorem dP_takeBetween_4 : decode cP_takeBetween 4 = .ok (.iconst 5, 1) := by decide +kernel
theorem dP_takeBetween_5 : decode cP_takeBetween 5 = .ok (.if_icmp .lt 4, 3) := by decide +kernel
theorem dP_takeBetween_8 : decode cP_takeBetween 8 = .ok (.return_, 1) := by decide +kernel
theorem dP_takeBetween_9 : decode cP_takeBetween 9 = .ok (.aload_n 0, 1) := by decide +kernel
theorem dP_takeBetween_10 : decode cP_takeBetween 10 = .ok (.getfield 11, 3) := by decide +kernel
theorem dP_takeBetween_13 : decode cP_takeBetween 13 = .ok (.aload_n 0, 1) := by decide +kernel
theorem dP_takeBetween_14 : decode cP_takeBetween 14 = .ok (.getfield 16, 3) := by decide +kernel
theorem dP_takeBetween_17 : decode cP_takeBetween 17 = .ok (.aaload, 1) := by decide +kernel
theorem dP_takeBetween_18 : decode cP_takeBetween 18 = .ok (.astore 5, 2) := by decide +kernel
theorem dP_takeBetween_20 : decode cP_takeBetween 20 = .ok (.iconst 0, 1) := by decide +kernel
theorem dP_takeBetween_21 : decode cP_takeBetween 21 = .ok (.istore 6, 2) := by decide +kernel
theorem dP_takeBetween_23 : decode cP_takeBetween 23 = .ok (.iload 6, 2) := by decide +kernel
theorem dP_takeBetween_25 : decode cP_takeBetween 25 = .ok (.bipush 32, 2) := by decide +kernel
theorem dP_takeBetween_27 : decode cP_takeBetween 27 = .ok (.if_icmp .ge 44, 3) := by decide +kernel
theorem dP_takeBetween_30 : decode cP_takeBetween 30 = .ok (.aload_n 2, 1) := by decide +kernel
theorem dP_takeBetween_31 : decode cP_takeBetween 31 = .ok (.iload 6, 2) := by decide +kernel
theorem dP_takeBetween_33 : decode cP_takeBetween 33 = .ok (.iaload, 1) := by decide +kernel
theorem dP_takeBetween_34 : decode cP_takeBetween 34 = .ok (.i2l, 1) := by decide +kernel
theorem dP_takeBetween_35 : decode cP_takeBetween 35 = .ok (.aload_n 1, 1) := by decide +kernel
theorem dP_takeBetween_36 : decode cP_takeBetween 36 = .ok (.iload 6, 2) := by decide +kernel
theorem dP_takeBetween_38 : decode cP_takeBetween 38 = .ok (.iaload, 1) := by decide +kernel
theorem dP_takeBetween_39 : decode cP_takeBetween 39 = .ok (.i2l, 1) := by decide +kernel
theorem dP_takeBetween_40 : decode cP_takeBetween 40 = .ok (.lsub, 1) := by decide +kernel
theorem dP_takeBetween_41 : decode cP_takeBetween 41 = .ok (.lstore 7, 2) := by decide +kernel
theorem dP_takeBetween_43 : decode cP_takeBetween 43 = .ok (.aload 5, 2) := by decide +kernel
theorem dP_takeBetween_45 : decode cP_takeBetween 45 = .ok (.iload 6, 2) := by decide +kernel
theorem dP_takeBetween_47 : decode cP_takeBetween 47 = .ok (.aload_n 1, 1) := by decide +kernel
theorem dP_takeBetween_48 : decode cP_takeBetween 48 = .ok (.iload 6, 2) := by decide +kernel
theorem dP_takeBetween_50 : decode cP_takeBetween 50 = .ok (.iaload, 1) := by decide +kernel
theorem dP_takeBetween_51 : decode cP_takeBetween 51 = .ok (.i2l, 1) := by decide +kernel
theorem dP_takeBetween_52 : decode cP_takeBetween 52 = .ok (.lload 7, 2) := by decide +kernel
theorem dP_takeBetween_54 : decode cP_takeBetween 54 = .ok (.lload_n 3, 1) := by decide +kernel
theorem dP_takeBetween_55 : decode cP_takeBetween 55 = .ok (.lmul, 1) := by decide +kernel
theorem dP_takeBetween_56 : decode cP_takeBetween 56 = .ok (.ldc2_w 46, 3) := by decide +kernel
theorem dP_takeBetween_59 : decode cP_takeBetween 59 = .ok (.invokestatic 48, 3) := by decide +kernel
theorem dP_takeBetween_62 : decode cP_takeBetween 62 = .ok (.ladd, 1) := by decide +kernel
theorem dP_takeBetween_63 : decode cP_takeBetween 63 = .ok (.l2i, 1) := by decide +kernel
theorem dP_takeBetween_64 : decode cP_takeBetween 64 = .ok (.iastore, 1) := by decide +kernel
theorem dP_takeBetween_65 : decode cP_takeBetween 65 = .ok (.iinc 6 1, 3) := by decide +kernel
theorem dP_takeBetween_68 : decode cP_takeBetween 68 = .ok (.goto (-45), 3) := by decide +kernel
theorem dP_takeBetween_71 : decode cP_takeBetween 71 = .ok (.aload_n 0, 1) := by decide +kernel
theorem dP_takeBetween_72 : decode cP_takeBetween 72 = .ok (.dup, 1) := by decide +kernel
theorem dP_takeBetween_73 : decode cP_takeBetween 73 = .ok (.getfield 16, 3) := by decide +kernel
theorem dP_takeBetween_76 : decode cP_takeBetween 76 = .ok (.iconst 1, 1) := by decide +kernel
theorem dP_takeBetween_77 : decode cP_takeBetween 77 = .ok (.iadd, 1) := by decide +kernel
theorem dP_takeBetween_78 : decode cP_takeBetween 78 = .ok (.putfield 16, 3) := by decide +kernel
theorem dP_takeBetween_81 : decode cP_takeBetween 81 = .ok (.return_, 1) := by decide +kernel
theorem dS_lay_0 : decode cS_lay 0 = .ok (.sipush 256, 3) := by decide +kernel
theorem dS_lay_3 : decode cS_lay 3 = .ok (.aload_n 1, 1) := by decide +kernel
theorem dS_lay_4 : decode cS_lay 4 = .ok (.iconst 3, 1) := by decide +kernel
theorem dS_lay_5 : decode cS_lay 5 = .ok (.iaload, 1) := by decide +kernel
theorem dS_lay_6 : decode cS_lay 6 = .ok (.invokestatic 31, 3) := by decide +kernel
theorem dS_lay_9 : decode cS_lay 9 = .ok (.i2l, 1) := by decide +kernel
theorem dS_lay_10 : decode cS_lay 10 = .ok (.lstore_n 2, 1) := by decide +kernel
theorem dS_lay_11 : decode cS_lay 11 = .ok (.aload_n 1, 1) := by decide +kernel
theorem dS_lay_12 : decode cS_lay 12 = .ok (.iconst 0, 1) := by decide +kernel
theorem dS_lay_13 : decode cS_lay 13 = .ok (.aload_n 1, 1) := by decide +kernel
theorem dS_lay_14 : decode cS_lay 14 = .ok (.iconst 0, 1) := by decide +kernel
theorem dS_lay_15 : decode cS_lay 15 = .ok (.iaload, 1) := by decide +kernel
theorem dS_lay_16 : decode cS_lay 16 = .ok (.lload_n 2, 1) := by decide +kernel
theorem dS_lay_17 : decode cS_lay 17 = .ok (.invokestatic 37, 3) := by decide +kernel
theorem dS_lay_20 : decode cS_lay 20 = .ok (.aload_n 0, 1) := by decide +kernel
theorem dS_lay_21 : decode cS_lay 21 = .ok (.getfield 22, 3) := by decide +kernel
theorem dS_lay_24 : decode cS_lay 24 = .ok (.aload_n 0, 1) := by decide +kernel
theorem dS_lay_25 : decode cS_lay 25 = .ok (.getfield 9, 3) := by decide +kernel
theorem dS_lay_28 : decode cS_lay 28 = .ok (.invokestatic 41, 3) := by decide +kernel
theorem dS_lay_31 : decode cS_lay 31 = .ok (.l2i, 1) := by decide +kernel
theorem dS_lay_32 : decode cS_lay 32 = .ok (.iastore, 1) := by decide +kernel
theorem dS_lay_33 : decode cS_lay 33 = .ok (.aload_n 1, 1) := by decide +kernel
theorem dS_lay_34 : decode cS_lay 34 = .ok (.iconst 1, 1) := by decide +kernel
theorem dS_lay_35 : decode cS_lay 35 = .ok (.aload_n 1, 1) := by decide +kernel
theorem dS_lay_36 : decode cS_lay 36 = .ok (.iconst 1, 1) := by decide +kernel
theorem dS_lay_37 : decode cS_lay 37 = .ok (.iaload, 1) := by decide +kernel
theorem dS_lay_38 : decode cS_lay 38 = .ok (.lload_n 2, 1) := by decide +kernel
theorem dS_lay_39 : decode cS_lay 39 = .ok (.invokestatic 37, 3) := by decide +kernel
theorem dS_lay_42 : decode cS_lay 42 = .ok (.aload_n 0, 1) := by decide +kernel
theorem dS_lay_43 : decode cS_lay 43 = .ok (.getfield 25, 3) := by decide +kernel
theorem dS_lay_46 : decode cS_lay 46 = .ok (.aload_n 0, 1) := by decide +kernel
theorem dS_lay_47 : decode cS_lay 47 = .ok (.getfield 15, 3) := by decide +kernel
theorem dS_lay_50 : decode cS_lay 50 = .ok (.invokestatic 41, 3) := by decide +kernel
theorem dS_lay_53 : decode cS_lay 53 = .ok (.l2i, 1) := by decide +kernel
theorem dS_lay_54 : decode cS_lay 54 = .ok (.iastore, 1) := by decide +kernel
theorem dS_lay_55 : decode cS_lay 55 = .ok (.aload_n 1, 1) := by decide +kernel
theorem dS_lay_56 : decode cS_lay 56 = .ok (.iconst 2, 1) := by decide +kernel
theorem dS_lay_57 : decode cS_lay 57 = .ok (.aload_n 0, 1) := by decide +kernel
theorem dS_lay_58 : decode cS_lay 58 = .ok (.aload_n 1, 1) := by decide +kernel
theorem dS_lay_59 : decode cS_lay 59 = .ok (.iconst 2, 1) := by decide +kernel
theorem dS_lay_60 : decode cS_lay 60 = .ok (.iaload, 1) := by decide +kernel
theorem dS_lay_61 : decode cS_lay 61 = .ok (.lload_n 2, 1) := by decide +kernel
theorem dS_lay_62 : decode cS_lay 62 = .ok (.invokestatic 37, 3) := by decide +kernel
theorem dS_lay_65 : decode cS_lay 65 = .ok (.invokevirtual 45, 3) := by decide +kernel
theorem dS_lay_68 : decode cS_lay 68 = .ok (.l2i, 1) := by decide +kernel
theorem dS_lay_69 : decode cS_lay 69 = .ok (.iastore, 1) := by decide +kernel
theorem dS_lay_70 : decode cS_lay 70 = .ok (.aload_n 1, 1) := by decide +kernel
theorem dS_lay_71 : decode cS_lay 71 = .ok (.iconst 3, 1) := by decide +kernel
theorem dS_lay_72 : decode cS_lay 72 = .ok (.lconst 1, 1) := by decide +kernel
theorem dS_lay_73 : decode cS_lay 73 = .ok (.ldc2_w 49, 3) := by decide +kernel
theorem dS_lay_76 : decode cS_lay 76 = .ok (.lload_n 2, 1) := by decide +kernel
theorem dS_lay_77 : decode cS_lay 77 = .ok (.ldiv, 1) := by decide +kernel
theorem dS_lay_78 : decode cS_lay 78 = .ok (.invokestatic 51, 3) := by decide +kernel
theorem dS_lay_81 : decode cS_lay 81 = .ok (.l2i, 1) := by decide +kernel
theorem dS_lay_82 : decode cS_lay 82 = .ok (.iastore, 1) := by decide +kernel
theorem dS_lay_83 : decode cS_lay 83 = .ok (.return_, 1) := by decide +kernel
theorem dJ_max2_0 : decode cJ_max2 0 = .ok (.iload_n 0, 1) := by decide +kernel
theorem dJ_max2_1 : decode cJ_max2 1 = .ok (.iload_n 1, 1) := by decide +kernel
theorem dJ_max2_2 : decode cJ_max2 2 = .ok (.if_icmp .lt 7, 3) := by decide +kernel
theorem dJ_max2_5 : decode cJ_max2 5 = .ok (.iload_n 0, 1) := by decide +kernel
theorem dJ_max2_6 : decode cJ_max2 6 = .ok (.goto 4, 3) := by decide +kernel
theorem dJ_max2_9 : decode cJ_max2 9 = .ok (.iload_n 1, 1) := by decide +kernel
theorem dJ_max2_10 : decode cJ_max2 10 = .ok (.ireturn, 1) := by decide +kernel
theorem dS_towards_0 : decode cS_towards 0 = .ok (.iload_n 0, 1) := by decide +kernel
theorem dS_towards_1 : decode cS_towards 1 = .ok (.i2l, 1) := by decide +kernel
theorem dS_towards_2 : decode cS_towards 2 = .ok (.ldc2_w 54, 3) := by decide +kernel
theorem dS_towards_5 : decode cS_towards 5 = .ok (.lmul, 1) := by decide +kernel
theorem dS_towards_6 : decode cS_towards 6 = .ok (.lload_n 1, 1) := by decide +kernel
theorem dS_towards_7 : decode cS_towards 7 = .ok (.invokestatic 56, 3) := by decide +kernel
theorem dS_towards_10 : decode cS_towards 10 = .ok (.ldc2_w 54, 3) := by decide +kernel
theorem dS_towards_13 : decode cS_towards 13 = .ok (.ladd, 1) := by decide +kernel
theorem dS_towards_14 : decode cS_towards 14 = .ok (.lreturn, 1) := by decide +kernel
theorem dS_sixteenths_0 : decode cS_sixteenths 0 = .ok (.ldc2_w 59, 3) := by decide +kernel
theorem dS_sixteenths_3 : decode cS_sixteenths 3 = .ok (.iload_n 2, 1) := by decide +kernel
theorem dS_sixteenths_4 : decode cS_sixteenths 4 = .ok (.i2l, 1) := by decide +kernel
theorem dS_sixteenths_5 : decode cS_sixteenths 5 = .ok (.lmul, 1) := by decide +kernel
theorem dS_sixteenths_6 : decode cS_sixteenths 6 = .ok (.lload_n 0, 1) := by decide +kernel
theorem dS_sixteenths_7 : decode cS_sixteenths 7 = .ok (.iload_n 3, 1) := by decide +kernel
theorem dS_sixteenths_8 : decode cS_sixteenths 8 = .ok (.i2l, 1) := by decide +kernel
theorem dS_sixteenths_9 : decode cS_sixteenths 9 = .ok (.lmul, 1) := by decide +kernel
theorem dS_sixteenths_10 : decode cS_sixteenths 10 = .ok (.ldc2_w 61, 3) := by decide +kernel
theorem dS_sixteenths_13 : decode cS_sixteenths 13 = .ok (.invokestatic 56, 3) := by decide +kernel
theorem dS_sixteenths_16 : decode cS_sixteenths 16 = .ok (.ladd, 1) := by decide +kernel
theorem dS_sixteenths_17 : decode cS_sixteenths 17 = .ok (.lstore 4, 2) := by decide +kernel
theorem dS_sixteenths_19 : decode cS_sixteenths 19 = .ok (.ldc2_w 63, 3) := by decide +kernel
theorem dS_sixteenths_22 : decode cS_sixteenths 22 = .ok (.ldc2_w 65, 3) := by decide +kernel
theorem dS_sixteenths_25 : decode cS_sixteenths 25 = .ok (.lload 4, 2) := by decide +kernel
theorem dS_sixteenths_27 : decode cS_sixteenths 27 = .ok (.invokestatic 67, 3) := by decide +kernel
theorem dS_sixteenths_30 : decode cS_sixteenths 30 = .ok (.invokestatic 51, 3) := by decide +kernel
theorem dS_sixteenths_33 : decode cS_sixteenths 33 = .ok (.lreturn, 1) := by decide +kernel
theorem dJ_min_0 : decode cJ_min 0 = .ok (.lload_n 0, 1) := by decide +kernel
theorem dJ_min_1 : decode cJ_min 1 = .ok (.lload_n 2, 1) := by decide +kernel
theorem dJ_min_2 : decode cJ_min 2 = .ok (.lcmp, 1) := by decide +kernel
theorem dJ_min_3 : decode cJ_min 3 = .ok (.ifCond .gt 7, 3) := by decide +kernel
theorem dJ_min_6 : decode cJ_min 6 = .ok (.lload_n 0, 1) := by decide +kernel
theorem dJ_min_7 : decode cJ_min 7 = .ok (.goto 4, 3) := by decide +kernel
theorem dJ_min_10 : decode cJ_min 10 = .ok (.lload_n 2, 1) := by decide +kernel
theorem dJ_min_11 : decode cJ_min 11 = .ok (.lreturn, 1) := by decide +kernel
theorem dS_depth_0 : decode cS_depth 0 = .ok (.ldc2_w 70, 3) := by decide +kernel
theorem dS_depth_3 : decode cS_depth 3 = .ok (.lstore_n 3, 1) := by decide +kernel
theorem dS_depth_4 : decode cS_depth 4 = .ok (.aload_n 0, 1) := by decide +kernel
theorem dS_depth_5 : decode cS_depth 5 = .ok (.getfield 19, 3) := by decide +kernel
theorem dS_depth_8 : decode cS_depth 8 = .ok (.i2l, 1) := by decide +kernel
theorem dS_depth_9 : decode cS_depth 9 = .ok (.aload_n 0, 1) := by decide +kernel
theorem dS_depth_10 : decode cS_depth 10 = .ok (.getfield 28, 3) := by decide +kernel
theorem dS_depth_13 : decode cS_depth 13 = .ok (.i2l, 1) := by decide +kernel
theorem dS_depth_14 : decode cS_depth 14 = .ok (.lsub, 1) := by decide +kernel
theorem dS_depth_15 : decode cS_depth 15 = .ok (.lstore 5, 2) := by decide +kernel
theorem dS_depth_17 : decode cS_depth 17 = .ok (.lload_n 1, 1) := by decide +kernel
theorem dS_depth_18 : decode cS_depth 18 = .ok (.lload_n 3, 1) := by decide +kernel
theorem dS_depth_19 : decode cS_depth 19 = .ok (.invokestatic 56, 3) := by decide +kernel
theorem dS_depth_22 : decode cS_depth 22 = .ok (.lstore 7, 2) := by decide +kernel
theorem dS_depth_24 : decode cS_depth 24 = .ok (.lload_n 1, 1) := by decide +kernel
theorem dS_depth_25 : decode cS_depth 25 = .ok (.lload_n 3, 1) := by decide +kernel
theorem dS_depth_26 : decode cS_depth 26 = .ok (.invokestatic 72, 3) := by decide +kernel
theorem dS_depth_29 : decode cS_depth 29 = .ok (.lstore 9, 2) := by decide +kernel
theorem dS_depth_31 : decode cS_depth 31 = .ok (.aload_n 0, 1) := by decide +kernel
theorem dS_depth_32 : decode cS_depth 32 = .ok (.getfield 28, 3) := by decide +kernel
theorem dS_depth_35 : decode cS_depth 35 = .ok (.i2l, 1) := by decide +kernel
theorem dS_depth_36 : decode cS_depth 36 = .ok (.lload 7, 2) := by decide +kernel
theorem dS_depth_38 : decode cS_depth 38 = .ok (.lload 5, 2) := by decide +kernel
theorem dS_depth_40 : decode cS_depth 40 = .ok (.lmul, 1) := by decide +kernel
theorem dS_depth_41 : decode cS_depth 41 = .ok (.ladd, 1) := by decide +kernel
theorem dS_depth_42 : decode cS_depth 42 = .ok (.lload 9, 2) := by decide +kernel
theorem dS_depth_44 : decode cS_depth 44 = .ok (.lload 5, 2) := by decide +kernel
theorem dS_depth_46 : decode cS_depth 46 = .ok (.lmul, 1) := by decide +kernel
theorem dS_depth_47 : decode cS_depth 47 = .ok (.lload_n 3, 1) := by decide +kernel
theorem dS_depth_48 : decode cS_depth 48 = .ok (.invokestatic 56, 3) := by decide +kernel
theorem dS_depth_51 : decode cS_depth 51 = .ok (.ladd, 1) := by decide +kernel
theorem dS_depth_52 : decode cS_depth 52 = .ok (.lstore 11, 2) := by decide +kernel
theorem dS_depth_54 : decode cS_depth 54 = .ok (.lconst 0, 1) := by decide +kernel
theorem dS_depth_55 : decode cS_depth 55 = .ok (.ldc2_w 75, 3) := by decide +kernel
theorem dS_depth_58 : decode cS_depth 58 = .ok (.lload 11, 2) := by decide +kernel
theorem dS_depth_60 : decode cS_depth 60 = .ok (.invokestatic 67, 3) := by decide +kernel
theorem dS_depth_63 : decode cS_depth 63 = .ok (.invokestatic 51, 3) := by decide +kernel
theorem dS_depth_66 : decode cS_depth 66 = .ok (.lreturn, 1) := by decide +kernel
theorem dJ_floorMod_0 : decode cJ_floorMod 0 = .ok (.lload_n 0, 1) := by decide +kernel
theorem dJ_floorMod_1 : decode cJ_floorMod 1 = .ok (.lload_n 2, 1) := by decide +kernel
theorem dJ_floorMod_2 : decode cJ_floorMod 2 = .ok (.lrem, 1) := by decide +kernel
theorem dJ_floorMod_3 : decode cJ_floorMod 3 = .ok (.lstore 4, 2) := by decide +kernel
theorem dJ_floorMod_5 : decode cJ_floorMod 5 = .ok (.lload_n 0, 1) := by decide +kernel
theorem dJ_floorMod_6 : decode cJ_floorMod 6 = .ok (.lload_n 2, 1) := by decide +kernel
theorem dJ_floorMod_7 : decode cJ_floorMod 7 = .ok (.lxor, 1) := by decide +kernel
theorem dJ_floorMod_8 : decode cJ_floorMod 8 = .ok (.lconst 0, 1) := by decide +kernel
theorem dJ_floorMod_9 : decode cJ_floorMod 9 = .ok (.lcmp, 1) := by decide +kernel
theorem dJ_floorMod_10 : decode cJ_floorMod 10 = .ok (.ifCond .ge 15, 3) := by decide +kernel
theorem dJ_floorMod_13 : decode cJ_floorMod 13 = .ok (.lload 4, 2) := by decide +kernel
theorem dJ_floorMod_15 : decode cJ_floorMod 15 = .ok (.lconst 0, 1) := by decide +kernel
theorem dJ_floorMod_16 : decode cJ_floorMod 16 = .ok (.lcmp, 1) := by decide +kernel
theorem dJ_floorMod_17 : decode cJ_floorMod 17 = .ok (.ifCond .eq 8, 3) := by decide +kernel
theorem dJ_floorMod_20 : decode cJ_floorMod 20 = .ok (.lload 4, 2) := by decide +kernel
theorem dJ_floorMod_22 : decode cJ_floorMod 22 = .ok (.lload_n 2, 1) := by decide +kernel
theorem dJ_floorMod_23 : decode cJ_floorMod 23 = .ok (.ladd, 1) := by decide +kernel
theorem dJ_floorMod_24 : decode cJ_floorMod 24 = .ok (.lreturn, 1) := by decide +kernel
theorem dJ_floorMod_25 : decode cJ_floorMod 25 = .ok (.lload 4, 2) := by decide +kernel
theorem dJ_floorMod_27 : decode cJ_floorMod 27 = .ok (.lreturn, 1) := by decide +kernel
theorem dV_fanOf_0 : decode cV_fanOf 0 = .ok (.iload_n 0, 1) := by decide +kernel
theorem dV_fanOf_1 : decode cV_fanOf 1 = .ok (.iconst 3, 1) := by decide +kernel
theorem dV_fanOf_2 : decode cV_fanOf 2 = .ok (.if_icmp .ge 7, 3) := by decide +kernel
theorem dV_fanOf_5 : decode cV_fanOf 5 = .ok (.iconst 0, 1) := by decide +kernel
theorem dV_fanOf_6 : decode cV_fanOf 6 = .ok (.goto 6, 3) := by decide +kernel
theorem dV_fanOf_9 : decode cV_fanOf 9 = .ok (.iload_n 0, 1) := by decide +kernel
theorem dV_fanOf_10 : decode cV_fanOf 10 = .ok (.iconst 2, 1) := by decide +kernel
theorem dV_fanOf_11 : decode cV_fanOf 11 = .ok (.isub, 1) := by decide +kernel
theorem dV_fanOf_12 : decode cV_fanOf 12 = .ok (.ireturn, 1) := by decide +kernel
theorem dV_word_0 : decode cV_word 0 = .ok (.iload_n 1, 1) := by decide +kernel
theorem dV_word_1 : decode cV_word 1 = .ok (.sipush 4096, 3) := by decide +kernel
theorem dV_word_4 : decode cV_word 4 = .ok (.invokestatic 47, 3) := by decide +kernel
theorem dV_word_7 : decode cV_word 7 = .ok (.ifCond .ne 13, 3) := by decide +kernel
theorem dV_word_10 : decode cV_word 10 = .ok (.new 51, 3) := by decide +kernel
theorem dV_word_13 : decode cV_word 13 = .ok (.dup, 1) := by decide +kernel
theorem dV_word_14 : decode cV_word 14 = .ok (.ldc 53, 2) := by decide +kernel
theorem dV_word_16 : decode cV_word 16 = .ok (.invokespecial 55, 3) := by decide +kernel
theorem dV_word_19 : decode cV_word 19 = .ok (.athrow, 1) := by decide +kernel
theorem dV_word_20 : decode cV_word 20 = .ok (.aload_n 0, 1) := by decide +kernel
theorem dV_word_21 : decode cV_word 21 = .ok (.getfield 12, 3) := by decide +kernel
theorem dV_word_24 : decode cV_word 24 = .ok (.iload_n 1, 1) := by decide +kernel
theorem dV_word_25 : decode cV_word 25 = .ok (.iload_n 2, 1) := by decide +kernel
theorem dV_word_26 : decode cV_word 26 = .ok (.invokevirtual 58, 3) := by decide +kernel
theorem dV_word_29 : decode cV_word 29 = .ok (.ireturn, 1) := by decide +kernel
theorem dV_isBelow_0 : decode cV_isBelow 0 = .ok (.iload_n 0, 1) := by decide +kernel
theorem dV_isBelow_1 : decode cV_isBelow 1 = .ok (.ifCond .lt 12, 3) := by decide +kernel
theorem dV_isBelow_4 : decode cV_isBelow 4 = .ok (.iload_n 0, 1) := by decide +kernel
theorem dV_isBelow_5 : decode cV_isBelow 5 = .ok (.iload_n 1, 1) := by decide +kernel
theorem dV_isBelow_6 : decode cV_isBelow 6 = .ok (.if_icmp .ge 7, 3) := by decide +kernel
theorem dV_isBelow_9 : decode cV_isBelow 9 = .ok (.iconst 1, 1) := by decide +kernel
theorem dV_isBelow_10 : decode cV_isBelow 10 = .ok (.goto 4, 3) := by decide +kernel
theorem dV_isBelow_13 : decode cV_isBelow 13 = .ok (.iconst 0, 1) := by decide +kernel
theorem dV_isBelow_14 : decode cV_isBelow 14 = .ok (.ireturn, 1) := by decide +kernel
theorem dM_swap_0 : decode cM_swap 0 = .ok (.aload_n 0, 1) := by decide +kernel
theorem dM_swap_1 : decode cM_swap 1 = .ok (.iload_n 1, 1) := by decide +kernel
theorem dM_swap_2 : decode cM_swap 2 = .ok (.i2l, 1) := by decide +kernel
theorem dM_swap_3 : decode cM_swap 3 = .ok (.invokevirtual 15, 3) := by decide +kernel
theorem dM_swap_6 : decode cM_swap 6 = .ok (.istore_n 3, 1) := by decide +kernel
theorem dM_swap_7 : decode cM_swap 7 = .ok (.iload_n 1, 1) := by decide +kernel
theorem dM_swap_8 : decode cM_swap 8 = .ok (.sipush 4096, 3) := by decide +kernel
theorem dM_swap_11 : decode cM_swap 11 = .ok (.invokestatic 19, 3) := by decide +kernel
theorem dM_swap_14 : decode cM_swap 14 = .ok (.ifCond .eq 10, 3) := by decide +kernel
theorem dM_swap_17 : decode cM_swap 17 = .ok (.aload_n 0, 1) := by decide +kernel
theorem dM_swap_18 : decode cM_swap 18 = .ok (.getfield 9, 3) := by decide +kernel
theorem dM_swap_21 : decode cM_swap 21 = .ok (.iload_n 1, 1) := by decide +kernel
theorem dM_swap_22 : decode cM_swap 22 = .ok (.iload_n 2, 1) := by decide +kernel
theorem dM_swap_23 : decode cM_swap 23 = .ok (.iastore, 1) := by decide +kernel
theorem dM_swap_24 : decode cM_swap 24 = .ok (.iload_n 3, 1) := by decide +kernel
theorem dM_swap_25 : decode cM_swap 25 = .ok (.ireturn, 1) := by decide +kernel
theorem dM_at_0 : decode cM_at 0 = .ok (.lload_n 1, 1) := by decide +kernel
theorem dM_at_1 : decode cM_at 1 = .ok (.lconst 0, 1) := by decide +kernel
theorem dM_at_2 : decode cM_at 2 = .ok (.lcmp, 1) := by decide +kernel
theorem dM_at_3 : decode cM_at 3 = .ok (.ifCond .lt 21, 3) := by decide +kernel
theorem dM_at_6 : decode cM_at 6 = .ok (.lload_n 1, 1) := by decide +kernel
theorem dM_at_7 : decode cM_at 7 = .ok (.ldc2_w 23, 3) := by decide +kernel
theorem dM_at_10 : decode cM_at 10 = .ok (.lcmp, 1) := by decide +kernel
theorem dM_at_11 : decode cM_at 11 = .ok (.ifCond .ge 13, 3) := by decide +kernel
theorem dM_at_14 : decode cM_at 14 = .ok (.aload_n 0, 1) := by decide +kernel
theorem dM_at_15 : decode cM_at 15 = .ok (.getfield 9, 3) := by decide +kernel
theorem dM_at_18 : decode cM_at 18 = .ok (.lload_n 1, 1) := by decide +kernel
theorem dM_at_19 : decode cM_at 19 = .ok (.l2i, 1) := by decide +kernel
theorem dM_at_20 : decode cM_at 20 = .ok (.iaload, 1) := by decide +kernel
theorem dM_at_21 : decode cM_at 21 = .ok (.goto 4, 3) := by decide +kernel
theorem dM_at_24 : decode cM_at 24 = .ok (.iconst 0, 1) := by decide +kernel
theorem dM_at_25 : decode cM_at 25 = .ok (.ireturn, 1) := by decide +kernel
theorem dV_attribute_0 : decode cV_attribute 0 = .ok (.iload_n 1, 1) := by decide +kernel
theorem dV_attribute_1 : decode cV_attribute 1 = .ok (.bipush 8, 2) := by decide +kernel
theorem dV_attribute_3 : decode cV_attribute 3 = .ok (.invokestatic 47, 3) := by decide +kernel
theorem dV_attribute_6 : decode cV_attribute 6 = .ok (.ifCond .eq 11, 3) := by decide +kernel
theorem dV_attribute_9 : decode cV_attribute 9 = .ok (.iload_n 2, 1) := by decide +kernel
theorem dV_attribute_10 : decode cV_attribute 10 = .ok (.ifCond .lt 7, 3) := by decide +kernel
theorem dV_attribute_13 : decode cV_attribute 13 = .ok (.iload_n 3, 1) := by decide +kernel
theorem dV_attribute_14 : decode cV_attribute 14 = .ok (.ifCond .ge 13, 3) := by decide +kernel
theorem dV_attribute_17 : decode cV_attribute 17 = .ok (.new 62, 3) := by decide +kernel
theorem dV_attribute_20 : decode cV_attribute 20 = .ok (.dup, 1) := by decide +kernel
theorem dV_attribute_21 : decode cV_attribute 21 = .ok (.ldc 64, 2) := by decide +kernel
theorem dV_attribute_23 : decode cV_attribute 23 = .ok (.invokespecial 66, 3) := by decide +kernel
theorem dV_attribute_26 : decode cV_attribute 26 = .ok (.athrow, 1) := by decide +kernel
theorem dV_attribute_27 : decode cV_attribute 27 = .ok (.iload 4, 2) := by decide +kernel
theorem dV_attribute_29 : decode cV_attribute 29 = .ok (.iconst 5, 1) := by decide +kernel
theorem dV_attribute_30 : decode cV_attribute 30 = .ok (.invokestatic 47, 3) := by decide +kernel
theorem dV_attribute_33 : decode cV_attribute 33 = .ok (.ifCond .eq 12, 3) := by decide +kernel
theorem dV_attribute_36 : decode cV_attribute 36 = .ok (.iload 5, 2) := by decide +kernel
theorem dV_attribute_38 : decode cV_attribute 38 = .ok (.iconst 4, 1) := by decide +kernel
theorem dV_attribute_39 : decode cV_attribute 39 = .ok (.invokestatic 47, 3) := by decide +kernel
theorem dV_attribute_42 : decode cV_attribute 42 = .ok (.ifCond .ne 13, 3) := by decide +kernel
theorem dV_attribute_45 : decode cV_attribute 45 = .ok (.new 62, 3) := by decide +kernel
theorem dV_attribute_48 : decode cV_attribute 48 = .ok (.dup, 1) := by decide +kernel
theorem dV_attribute_49 : decode cV_attribute 49 = .ok (.ldc 67, 2) := by decide +kernel
theorem dV_attribute_51 : decode cV_attribute 51 = .ok (.invokespecial 66, 3) := by decide +kernel
theorem dV_attribute_54 : decode cV_attribute 54 = .ok (.athrow, 1) := by decide +kernel
theorem dV_attribute_55 : decode cV_attribute 55 = .ok (.aload_n 0, 1) := by decide +kernel
theorem dV_attribute_56 : decode cV_attribute 56 = .ok (.getfield 18, 3) := by decide +kernel
theorem dV_attribute_59 : decode cV_attribute 59 = .ok (.iload_n 1, 1) := by decide +kernel
theorem dV_attribute_60 : decode cV_attribute 60 = .ok (.aaload, 1) := by decide +kernel
theorem dV_attribute_61 : decode cV_attribute 61 = .ok (.iload_n 2, 1) := by decide +kernel
theorem dV_attribute_62 : decode cV_attribute 62 = .ok (.iload_n 3, 1) := by decide +kernel
theorem dV_attribute_63 : decode cV_attribute 63 = .ok (.iload 4, 2) := by decide +kernel
theorem dV_attribute_65 : decode cV_attribute 65 = .ok (.iload 5, 2) := by decide +kernel
theorem dV_attribute_67 : decode cV_attribute 67 = .ok (.invokevirtual 69, 3) := by decide +kernel
theorem dV_attribute_70 : decode cV_attribute 70 = .ok (.return_, 1) := by decide +kernel
theorem dA_become_0 : decode cA_become 0 = .ok (.aload_n 0, 1) := by decide +kernel
theorem dA_become_1 : decode cA_become 1 = .ok (.iload_n 1, 1) := by decide +kernel
theorem dA_become_2 : decode cA_become 2 = .ok (.putfield 9, 3) := by decide +kernel
theorem dA_become_5 : decode cA_become 5 = .ok (.aload_n 0, 1) := by decide +kernel
theorem dA_become_6 : decode cA_become 6 = .ok (.iload_n 2, 1) := by decide +kernel
theorem dA_become_7 : decode cA_become 7 = .ok (.putfield 15, 3) := by decide +kernel
theorem dA_become_10 : decode cA_become 10 = .ok (.aload_n 0, 1) := by decide +kernel
theorem dA_become_11 : decode cA_become 11 = .ok (.iload_n 3, 1) := by decide +kernel
theorem dA_become_12 : decode cA_become 12 = .ok (.putfield 18, 3) := by decide +kernel
theorem dA_become_15 : decode cA_become 15 = .ok (.aload_n 0, 1) := by decide +kernel
theorem dA_become_16 : decode cA_become 16 = .ok (.iload 4, 2) := by decide +kernel
theorem dA_become_18 : decode cA_become 18 = .ok (.putfield 21, 3) := by decide +kernel
theorem dA_become_21 : decode cA_become 21 = .ok (.return_, 1) := by decide +kernel
theorem dV_fetch_0 : decode cV_fetch 0 = .ok (.iload_n 1, 1) := by decide +kernel
theorem dV_fetch_1 : decode cV_fetch 1 = .ok (.bipush 8, 2) := by decide +kernel
theorem dV_fetch_3 : decode cV_fetch 3 = .ok (.invokestatic 47, 3) := by decide +kernel
theorem dV_fetch_6 : decode cV_fetch 6 = .ok (.ifCond .eq 15, 3) := by decide +kernel
theorem dV_fetch_9 : decode cV_fetch 9 = .ok (.iload_n 3, 1) := by decide +kernel
theorem dV_fetch_10 : decode cV_fetch 10 = .ok (.iconst 4, 1) := by decide +kernel
theorem dV_fetch_11 : decode cV_fetch 11 = .ok (.invokestatic 47, 3) := by decide +kernel
theorem dV_fetch_14 : decode cV_fetch 14 = .ok (.ifCond .eq 7, 3) := by decide +kernel
theorem dV_fetch_17 : decode cV_fetch 17 = .ok (.iload_n 2, 1) := by decide +kernel
theorem dV_fetch_18 : decode cV_fetch 18 = .ok (.ifCond .ge 13, 3) := by decide +kernel
theorem dV_fetch_21 : decode cV_fetch 21 = .ok (.new 62, 3) := by decide +kernel
theorem dV_fetch_24 : decode cV_fetch 24 = .ok (.dup, 1) := by decide +kernel
theorem dV_fetch_25 : decode cV_fetch 25 = .ok (.ldc 73, 2) := by decide +kernel
theorem dV_fetch_27 : decode cV_fetch 27 = .ok (.invokespecial 66, 3) := by decide +kernel
theorem dV_fetch_30 : decode cV_fetch 30 = .ok (.athrow, 1) := by decide +kernel
theorem dV_fetch_31 : decode cV_fetch 31 = .ok (.aload_n 0, 1) := by decide +kernel
theorem dV_fetch_32 : decode cV_fetch 32 = .ok (.getfield 18, 3) := by decide +kernel
theorem dV_fetch_35 : decode cV_fetch 35 = .ok (.iload_n 1, 1) := by decide +kernel
theorem dV_fetch_36 : decode cV_fetch 36 = .ok (.aaload, 1) := by decide +kernel
theorem dV_fetch_37 : decode cV_fetch 37 = .ok (.aload_n 0, 1) := by decide +kernel
theorem dV_fetch_38 : decode cV_fetch 38 = .ok (.getfield 12, 3) := by decide +kernel
theorem dV_fetch_41 : decode cV_fetch 41 = .ok (.iload_n 2, 1) := by decide +kernel
theorem dV_fetch_42 : decode cV_fetch 42 = .ok (.iload_n 3, 1) := by decide +kernel
theorem dV_fetch_43 : decode cV_fetch 43 = .ok (.invokevirtual 75, 3) := by decide +kernel
theorem dV_fetch_46 : decode cV_fetch 46 = .ok (.ireturn, 1) := by decide +kernel
theorem dA_read_0 : decode cA_read 0 = .ok (.iload_n 3, 1) := by decide +kernel
theorem dA_read_1 : decode cA_read 1 = .ok (.aload_n 0, 1) := by decide +kernel
theorem dA_read_2 : decode cA_read 2 = .ok (.getfield 18, 3) := by decide +kernel
theorem dA_read_5 : decode cA_read 5 = .ok (.if_icmp .lt 15, 3) := by decide +kernel
theorem dA_read_8 : decode cA_read 8 = .ok (.iload_n 3, 1) := by decide +kernel
theorem dA_read_9 : decode cA_read 9 = .ok (.iconst 3, 1) := by decide +kernel
theorem dA_read_10 : decode cA_read 10 = .ok (.if_icmp .ne 8, 3) := by decide +kernel
theorem dA_read_13 : decode cA_read 13 = .ok (.ldc 24, 2) := by decide +kernel
theorem dA_read_15 : decode cA_read 15 = .ok (.goto 4, 3) := by decide +kernel
theorem dA_read_18 : decode cA_read 18 = .ok (.iconst 0, 1) := by decide +kernel
theorem dA_read_19 : decode cA_read 19 = .ok (.ireturn, 1) := by decide +kernel
theorem dA_read_20 : decode cA_read 20 = .ok (.aload_n 0, 1) := by decide +kernel
theorem dA_read_21 : decode cA_read 21 = .ok (.getfield 9, 3) := by decide +kernel
theorem dA_read_24 : decode cA_read 24 = .ok (.i2l, 1) := by decide +kernel
theorem dA_read_25 : decode cA_read 25 = .ok (.iload_n 2, 1) := by decide +kernel
theorem dA_read_26 : decode cA_read 26 = .ok (.i2l, 1) := by decide +kernel
theorem dA_read_27 : decode cA_read 27 = .ok (.aload_n 0, 1) := by decide +kernel
theorem dA_read_28 : decode cA_read 28 = .ok (.getfield 15, 3) := by decide +kernel
theorem dA_read_31 : decode cA_read 31 = .ok (.i2l, 1) := by decide +kernel
theorem dA_read_32 : decode cA_read 32 = .ok (.lmul, 1) := by decide +kernel
theorem dA_read_33 : decode cA_read 33 = .ok (.ladd, 1) := by decide +kernel
theorem dA_read_34 : decode cA_read 34 = .ok (.lstore 4, 2) := by decide +kernel
theorem dA_read_36 : decode cA_read 36 = .ok (.aload_n 0, 1) := by decide +kernel
theorem dA_read_37 : decode cA_read 37 = .ok (.getfield 21, 3) := by decide +kernel
theorem dA_read_40 : decode cA_read 40 = .ok (.tableswitch 69 0 2 #[28, 38, 56], 28) := by decide +kernel
theorem dA_read_68 : decode cA_read 68 = .ok (.aload_n 1, 1) := by decide +kernel
theorem dA_read_69 : decode cA_read 69 = .ok (.lload 4, 2) := by decide +kernel
theorem dA_read_71 : decode cA_read 71 = .ok (.iload_n 3, 1) := by decide +kernel
theorem dA_read_72 : decode cA_read 72 = .ok (.i2l, 1) := by decide +kernel
theorem dA_read_73 : decode cA_read 73 = .ok (.ladd, 1) := by decide +kernel
theorem dA_read_74 : decode cA_read 74 = .ok (.invokevirtual 25, 3) := by decide +kernel
theorem dA_read_77 : decode cA_read 77 = .ok (.ireturn, 1) := by decide +kernel
theorem dA_read_78 : decode cA_read 78 = .ok (.ldc 24, 2) := by decide +kernel
theorem dA_read_80 : decode cA_read 80 = .ok (.aload_n 1, 1) := by decide +kernel
theorem dA_read_81 : decode cA_read 81 = .ok (.lload 4, 2) := by decide +kernel
theorem dA_read_83 : decode cA_read 83 = .ok (.iload_n 3, 1) := by decide +kernel
theorem dA_read_84 : decode cA_read 84 = .ok (.invokevirtual 31, 3) := by decide +kernel
theorem dA_read_87 : decode cA_read 87 = .ok (.imul, 1) := by decide +kernel
theorem dA_read_88 : decode cA_read 88 = .ok (.bipush 127, 2) := by decide +kernel
theorem dA_read_90 : decode cA_read 90 = .ok (.iadd, 1) := by decide +kernel
theorem dA_read_91 : decode cA_read 91 = .ok (.sipush 255, 3) := by decide +kernel
theorem dA_read_94 : decode cA_read 94 = .ok (.idiv, 1) := by decide +kernel
theorem dA_read_95 : decode cA_read 95 = .ok (.ireturn, 1) := by decide +kernel
theorem dA_read_96 : decode cA_read 96 = .ok (.aload_n 1, 1) := by decide +kernel
theorem dA_read_97 : decode cA_read 97 = .ok (.lload 4, 2) := by decide +kernel
theorem dA_read_99 : decode cA_read 99 = .ok (.iload_n 3, 1) := by decide +kernel
theorem dA_read_100 : decode cA_read 100 = .ok (.invokevirtual 35, 3) := by decide +kernel
theorem dA_read_103 : decode cA_read 103 = .ok (.i2s, 1) := by decide +kernel
theorem dA_read_104 : decode cA_read 104 = .ok (.sipush 256, 3) := by decide +kernel
theorem dA_read_107 : decode cA_read 107 = .ok (.imul, 1) := by decide +kernel
theorem dA_read_108 : decode cA_read 108 = .ok (.ireturn, 1) := by decide +kernel
theorem dA_read_109 : decode cA_read 109 = .ok (.aload_n 1, 1) := by decide +kernel
theorem dA_read_110 : decode cA_read 110 = .ok (.lload 4, 2) := by decide +kernel
theorem dA_read_112 : decode cA_read 112 = .ok (.iload_n 3, 1) := by decide +kernel
theorem dA_read_113 : decode cA_read 113 = .ok (.invokevirtual 31, 3) := by decide +kernel
theorem dA_read_116 : decode cA_read 116 = .ok (.i2b, 1) := by decide +kernel
theorem dA_read_117 : decode cA_read 117 = .ok (.ldc 24, 2) := by decide +kernel
theorem dA_read_119 : decode cA_read 119 = .ok (.imul, 1) := by decide +kernel
theorem dA_read_120 : decode cA_read 120 = .ok (.ireturn, 1) := by decide +kernel
theorem dM_octet_0 : decode cM_octet 0 = .ok (.aload_n 0, 1) := by decide +kernel
theorem dM_octet_1 : decode cM_octet 1 = .ok (.lload_n 1, 1) := by decide +kernel
theorem dM_octet_2 : decode cM_octet 2 = .ok (.invokevirtual 15, 3) := by decide +kernel
theorem dM_octet_5 : decode cM_octet 5 = .ok (.bipush 8, 2) := by decide +kernel
theorem dM_octet_7 : decode cM_octet 7 = .ok (.iload_n 3, 1) := by decide +kernel
theorem dM_octet_8 : decode cM_octet 8 = .ok (.imul, 1) := by decide +kernel
theorem dM_octet_9 : decode cM_octet 9 = .ok (.iushr, 1) := by decide +kernel
theorem dM_octet_10 : decode cM_octet 10 = .ok (.sipush 255, 3) := by decide +kernel
theorem dM_octet_13 : decode cM_octet 13 = .ok (.iand, 1) := by decide +kernel
theorem dM_octet_14 : decode cM_octet 14 = .ok (.ireturn, 1) := by decide +kernel
theorem dM_half_0 : decode cM_half 0 = .ok (.aload_n 0, 1) := by decide +kernel
theorem dM_half_1 : decode cM_half 1 = .ok (.lload_n 1, 1) := by decide +kernel
theorem dM_half_2 : decode cM_half 2 = .ok (.iload_n 3, 1) := by decide +kernel
theorem dM_half_3 : decode cM_half 3 = .ok (.iconst 2, 1) := by decide +kernel
theorem dM_half_4 : decode cM_half 4 = .ok (.idiv, 1) := by decide +kernel
theorem dM_half_5 : decode cM_half 5 = .ok (.i2l, 1) := by decide +kernel
theorem dM_half_6 : decode cM_half 6 = .ok (.ladd, 1) := by decide +kernel
theorem dM_half_7 : decode cM_half 7 = .ok (.invokevirtual 15, 3) := by decide +kernel
theorem dM_half_10 : decode cM_half 10 = .ok (.bipush 16, 2) := by decide +kernel
theorem dM_half_12 : decode cM_half 12 = .ok (.iload_n 3, 1) := by decide +kernel
theorem dM_half_13 : decode cM_half 13 = .ok (.iconst 2, 1) := by decide +kernel
theorem dM_half_14 : decode cM_half 14 = .ok (.irem, 1) := by decide +kernel
theorem dM_half_15 : decode cM_half 15 = .ok (.imul, 1) := by decide +kernel
theorem dM_half_16 : decode cM_half 16 = .ok (.iushr, 1) := by decide +kernel
theorem dM_half_17 : decode cM_half 17 = .ok (.ldc 25, 2) := by decide +kernel
theorem dM_half_19 : decode cM_half 19 = .ok (.iand, 1) := by decide +kernel
theorem dM_half_20 : decode cM_half 20 = .ok (.ireturn, 1) := by decide +kernel
theorem dV_index_0 : decode cV_index 0 = .ok (.iload_n 1, 1) := by decide +kernel
theorem dV_index_1 : decode cV_index 1 = .ok (.iconst 3, 1) := by decide +kernel
theorem dV_index_2 : decode cV_index 2 = .ok (.invokestatic 47, 3) := by decide +kernel
theorem dV_index_5 : decode cV_index 5 = .ok (.ifCond .eq 11, 3) := by decide +kernel
theorem dV_index_8 : decode cV_index 8 = .ok (.iload_n 2, 1) := by decide +kernel
theorem dV_index_9 : decode cV_index 9 = .ok (.ifCond .lt 7, 3) := by decide +kernel
theorem dV_index_12 : decode cV_index 12 = .ok (.iload_n 3, 1) := by decide +kernel
theorem dV_index_13 : decode cV_index 13 = .ok (.ifCond .ge 13, 3) := by decide +kernel
theorem dV_index_16 : decode cV_index 16 = .ok (.new 62, 3) := by decide +kernel
theorem dV_index_19 : decode cV_index 19 = .ok (.dup, 1) := by decide +kernel
theorem dV_index_20 : decode cV_index 20 = .ok (.ldc 79, 2) := by decide +kernel
theorem dV_index_22 : decode cV_index 22 = .ok (.invokespecial 66, 3) := by decide +kernel
theorem dV_index_25 : decode cV_index 25 = .ok (.athrow, 1) := by decide +kernel
theorem dV_index_26 : decode cV_index 26 = .ok (.iload_n 1, 1) := by decide +kernel
theorem dV_index_27 : decode cV_index 27 = .ok (.ifCond .ne 16, 3) := by decide +kernel
theorem dV_index_30 : decode cV_index 30 = .ok (.aload_n 0, 1) := by decide +kernel
theorem dV_index_31 : decode cV_index 31 = .ok (.getfield 12, 3) := by decide +kernel
theorem dV_index_34 : decode cV_index 34 = .ok (.iload_n 2, 1) := by decide +kernel
theorem dV_index_35 : decode cV_index 35 = .ok (.i2l, 1) := by decide +kernel
theorem dV_index_36 : decode cV_index 36 = .ok (.iload_n 3, 1) := by decide +kernel
theorem dV_index_37 : decode cV_index 37 = .ok (.i2l, 1) := by decide +kernel
theorem dV_index_38 : decode cV_index 38 = .ok (.ladd, 1) := by decide +kernel
theorem dV_index_39 : decode cV_index 39 = .ok (.invokevirtual 81, 3) := by decide +kernel
theorem dV_index_42 : decode cV_index 42 = .ok (.ireturn, 1) := by decide +kernel
theorem dV_index_43 : decode cV_index 43 = .ok (.iload_n 1, 1) := by decide +kernel
theorem dV_index_44 : decode cV_index 44 = .ok (.iconst 1, 1) := by decide +kernel
theorem dV_index_45 : decode cV_index 45 = .ok (.if_icmp .ne 14, 3) := by decide +kernel
theorem dV_index_48 : decode cV_index 48 = .ok (.aload_n 0, 1) := by decide +kernel
theorem dV_index_49 : decode cV_index 49 = .ok (.getfield 12, 3) := by decide +kernel
theorem dV_index_52 : decode cV_index 52 = .ok (.iload_n 2, 1) := by decide +kernel
theorem dV_index_53 : decode cV_index 53 = .ok (.i2l, 1) := by decide +kernel
theorem dV_index_54 : decode cV_index 54 = .ok (.iload_n 3, 1) := by decide +kernel
theorem dV_index_55 : decode cV_index 55 = .ok (.invokevirtual 85, 3) := by decide +kernel
theorem dV_index_58 : decode cV_index 58 = .ok (.ireturn, 1) := by decide +kernel
theorem dV_index_59 : decode cV_index 59 = .ok (.aload_n 0, 1) := by decide +kernel
theorem dV_index_60 : decode cV_index 60 = .ok (.getfield 12, 3) := by decide +kernel
theorem dV_index_63 : decode cV_index 63 = .ok (.iload_n 2, 1) := by decide +kernel
theorem dV_index_64 : decode cV_index 64 = .ok (.i2l, 1) := by decide +kernel
theorem dV_index_65 : decode cV_index 65 = .ok (.iload_n 3, 1) := by decide +kernel
theorem dV_index_66 : decode cV_index 66 = .ok (.iconst 4, 1) := by decide +kernel
theorem dV_index_67 : decode cV_index 67 = .ok (.idiv, 1) := by decide +kernel
theorem dV_index_68 : decode cV_index 68 = .ok (.i2l, 1) := by decide +kernel
theorem dV_index_69 : decode cV_index 69 = .ok (.ladd, 1) := by decide +kernel
theorem dV_index_70 : decode cV_index 70 = .ok (.iload_n 3, 1) := by decide +kernel
theorem dV_index_71 : decode cV_index 71 = .ok (.iconst 4, 1) := by decide +kernel
theorem dV_index_72 : decode cV_index 72 = .ok (.irem, 1) := by decide +kernel
theorem dV_index_73 : decode cV_index 73 = .ok (.invokevirtual 89, 3) := by decide +kernel
theorem dV_index_76 : decode cV_index 76 = .ok (.ireturn, 1) := by decide +kernel
theorem dV_triangles_0 : decode cV_triangles 0 = .ok (.iload_n 1, 1) := by decide +kernel
theorem dV_triangles_1 : decode cV_triangles 1 = .ok (.iconst 3, 1) := by decide +kernel
theorem dV_triangles_2 : decode cV_triangles 2 = .ok (.invokestatic 47, 3) := by decide +kernel
theorem dV_triangles_5 : decode cV_triangles 5 = .ok (.ifCond .eq 7, 3) := by decide +kernel
theorem dV_triangles_8 : decode cV_triangles 8 = .ok (.iload_n 2, 1) := by decide +kernel
theorem dV_triangles_9 : decode cV_triangles 9 = .ok (.ifCond .ge 13, 3) := by decide +kernel
theorem dV_triangles_12 : decode cV_triangles 12 = .ok (.new 62, 3) := by decide +kernel
theorem dV_triangles_15 : decode cV_triangles 15 = .ok (.dup, 1) := by decide +kernel
theorem dV_triangles_16 : decode cV_triangles 16 = .ok (.ldc 92, 2) := by decide +kernel
theorem dV_triangles_18 : decode cV_triangles 18 = .ok (.invokespecial 66, 3) := by decide +kernel
theorem dV_triangles_21 : decode cV_triangles 21 = .ok (.athrow, 1) := by decide +kernel
theorem dV_triangles_22 : decode cV_triangles 22 = .ok (.iload_n 1, 1) := by decide +kernel
theorem dV_triangles_23 : decode cV_triangles 23 = .ok (.ifCond .ne 9, 3) := by decide +kernel
theorem dV_triangles_26 : decode cV_triangles 26 = .ok (.iload_n 2, 1) := by decide +kernel
theorem dV_triangles_27 : decode cV_triangles 27 = .ok (.iconst 3, 1) := by decide +kernel
theorem dV_triangles_28 : decode cV_triangles 28 = .ok (.idiv, 1) := by decide +kernel
theorem dV_triangles_29 : decode cV_triangles 29 = .ok (.goto 7, 3) := by decide +kernel
theorem dV_triangles_32 : decode cV_triangles 32 = .ok (.iload_n 2, 1) := by decide +kernel
theorem dV_triangles_33 : decode cV_triangles 33 = .ok (.invokestatic 94, 3) := by decide +kernel
theorem dV_triangles_36 : decode cV_triangles 36 = .ok (.ireturn, 1) := by decide +kernel
theorem dV_corner_0 : decode cV_corner 0 = .ok (.iload_n 1, 1) := by decide +kernel
theorem dV_corner_1 : decode cV_corner 1 = .ok (.iconst 3, 1) := by decide +kernel
theorem dV_corner_2 : decode cV_corner 2 = .ok (.invokestatic 47, 3) := by decide +kernel
theorem dV_corner_5 : decode cV_corner 5 = .ok (.ifCond .eq 20, 3) := by decide +kernel
theorem dV_corner_8 : decode cV_corner 8 = .ok (.iload_n 2, 1) := by decide +kernel
theorem dV_corner_9 : decode cV_corner 9 = .ok (.ldc 98, 2) := by decide +kernel
theorem dV_corner_11 : decode cV_corner 11 = .ok (.invokestatic 47, 3) := by decide +kernel
theorem dV_corner_14 : decode cV_corner 14 = .ok (.ifCond .eq 11, 3) := by decide +kernel
theorem dV_corner_17 : decode cV_corner 17 = .ok (.iload_n 3, 1) := by decide +kernel
theorem dV_corner_18 : decode cV_corner 18 = .ok (.iconst 3, 1) := by decide +kernel
theorem dV_corner_19 : decode cV_corner 19 = .ok (.invokestatic 47, 3) := by decide +kernel
theorem dV_corner_22 : decode cV_corner 22 = .ok (.ifCond .ne 13, 3) := by decide +kernel
theorem dV_corner_25 : decode cV_corner 25 = .ok (.new 62, 3) := by decide +kernel
theorem dV_corner_28 : decode cV_corner 28 = .ok (.dup, 1) := by decide +kernel
theorem dV_corner_29 : decode cV_corner 29 = .ok (.ldc 99, 2) := by decide +kernel
theorem dV_corner_31 : decode cV_corner 31 = .ok (.invokespecial 66, 3) := by decide +kernel
theorem dV_corner_34 : decode cV_corner 34 = .ok (.athrow, 1) := by decide +kernel
theorem dV_corner_35 : decode cV_corner 35 = .ok (.iload_n 1, 1) := by decide +kernel
theorem dV_corner_36 : decode cV_corner 36 = .ok (.ifCond .ne 9, 3) := by decide +kernel
theorem dV_corner_39 : decode cV_corner 39 = .ok (.iconst 3, 1) := by decide +kernel
theorem dV_corner_40 : decode cV_corner 40 = .ok (.iload_n 2, 1) := by decide +kernel
theorem dV_corner_41 : decode cV_corner 41 = .ok (.imul, 1) := by decide +kernel
theorem dV_corner_42 : decode cV_corner 42 = .ok (.iload_n 3, 1) := by decide +kernel
theorem dV_corner_43 : decode cV_corner 43 = .ok (.iadd, 1) := by decide +kernel
theorem dV_corner_44 : decode cV_corner 44 = .ok (.ireturn, 1) := by decide +kernel
theorem dV_corner_45 : decode cV_corner 45 = .ok (.iload_n 1, 1) := by decide +kernel
theorem dV_corner_46 : decode cV_corner 46 = .ok (.iconst 1, 1) := by decide +kernel
theorem dV_corner_47 : decode cV_corner 47 = .ok (.if_icmp .ne 9, 3) := by decide +kernel
theorem dV_corner_50 : decode cV_corner 50 = .ok (.iload_n 2, 1) := by decide +kernel
theorem dV_corner_51 : decode cV_corner 51 = .ok (.iload_n 3, 1) := by decide +kernel
theorem dV_corner_52 : decode cV_corner 52 = .ok (.invokestatic 101, 3) := by decide +kernel
theorem dV_corner_55 : decode cV_corner 55 = .ok (.ireturn, 1) := by decide +kernel
theorem dV_corner_56 : decode cV_corner 56 = .ok (.iload_n 2, 1) := by decide +kernel
theorem dV_corner_57 : decode cV_corner 57 = .ok (.iload_n 3, 1) := by decide +kernel
theorem dV_corner_58 : decode cV_corner 58 = .ok (.invokestatic 104, 3) := by decide +kernel
theorem dV_corner_61 : decode cV_corner 61 = .ok (.ireturn, 1) := by decide +kernel
theorem dV_stripCorner_0 : decode cV_stripCorner 0 = .ok (.iload_n 0, 1) := by decide +kernel
theorem dV_stripCorner_1 : decode cV_stripCorner 1 = .ok (.iconst 2, 1) := by decide +kernel
theorem dV_stripCorner_2 : decode cV_stripCorner 2 = .ok (.irem, 1) := by decide +kernel
theorem dV_stripCorner_3 : decode cV_stripCorner 3 = .ok (.iconst 1, 1) := by decide +kernel
theorem dV_stripCorner_4 : decode cV_stripCorner 4 = .ok (.if_icmp .ne 12, 3) := by decide +kernel
theorem dV_stripCorner_7 : decode cV_stripCorner 7 = .ok (.iload_n 1, 1) := by decide +kernel
theorem dV_stripCorner_8 : decode cV_stripCorner 8 = .ok (.iconst 2, 1) := by decide +kernel
theorem dV_stripCorner_9 : decode cV_stripCorner 9 = .ok (.if_icmp .ge 7, 3) := by decide +kernel
theorem dV_stripCorner_12 : decode cV_stripCorner 12 = .ok (.iconst 1, 1) := by decide +kernel
theorem dV_stripCorner_13 : decode cV_stripCorner 13 = .ok (.goto 4, 3) := by decide +kernel
theorem dV_stripCorner_16 : decode cV_stripCorner 16 = .ok (.iconst 0, 1) := by decide +kernel
theorem dV_stripCorner_17 : decode cV_stripCorner 17 = .ok (.istore_n 2, 1) := by decide +kernel
theorem dV_stripCorner_18 : decode cV_stripCorner 18 = .ok (.iload_n 2, 1) := by decide +kernel
theorem dV_stripCorner_19 : decode cV_stripCorner 19 = .ok (.ifCond .eq 11, 3) := by decide +kernel
theorem dV_stripCorner_22 : decode cV_stripCorner 22 = .ok (.iload_n 0, 1) := by decide +kernel
theorem dV_stripCorner_23 : decode cV_stripCorner 23 = .ok (.iconst 1, 1) := by decide +kernel
theorem dV_stripCorner_24 : decode cV_stripCorner 24 = .ok (.iadd, 1) := by decide +kernel
theorem dV_stripCorner_25 : decode cV_stripCorner 25 = .ok (.iload_n 1, 1) := by decide +kernel
theorem dV_stripCorner_26 : decode cV_stripCorner 26 = .ok (.isub, 1) := by decide +kernel
theorem dV_stripCorner_27 : decode cV_stripCorner 27 = .ok (.goto 6, 3) := by decide +kernel
theorem dV_stripCorner_30 : decode cV_stripCorner 30 = .ok (.iload_n 0, 1) := by decide +kernel
theorem dV_stripCorner_31 : decode cV_stripCorner 31 = .ok (.iload_n 1, 1) := by decide +kernel
theorem dV_stripCorner_32 : decode cV_stripCorner 32 = .ok (.iadd, 1) := by decide +kernel
theorem dV_stripCorner_33 : decode cV_stripCorner 33 = .ok (.ireturn, 1) := by decide +kernel
theorem dV_fanCorner_0 : decode cV_fanCorner 0 = .ok (.iload_n 1, 1) := by decide +kernel
theorem dV_fanCorner_1 : decode cV_fanCorner 1 = .ok (.ifCond .ne 7, 3) := by decide +kernel
theorem dV_fanCorner_4 : decode cV_fanCorner 4 = .ok (.iconst 0, 1) := by decide +kernel
theorem dV_fanCorner_5 : decode cV_fanCorner 5 = .ok (.goto 6, 3) := by decide +kernel
theorem dV_fanCorner_8 : decode cV_fanCorner 8 = .ok (.iload_n 0, 1) := by decide +kernel
theorem dV_fanCorner_9 : decode cV_fanCorner 9 = .ok (.iload_n 1, 1) := by decide +kernel
theorem dV_fanCorner_10 : decode cV_fanCorner 10 = .ok (.iadd, 1) := by decide +kernel
theorem dV_fanCorner_11 : decode cV_fanCorner 11 = .ok (.ireturn, 1) := by decide +kernel
theorem dV_place_0 : decode cV_place 0 = .ok (.iload_n 1, 1) := by decide +kernel
theorem dV_place_1 : decode cV_place 1 = .ok (.iconst 3, 1) := by decide +kernel
theorem dV_place_2 : decode cV_place 2 = .ok (.invokestatic 47, 3) := by decide +kernel
theorem dV_place_5 : decode cV_place 5 = .ok (.ifCond .ne 13, 3) := by decide +kernel
theorem dV_place_8 : decode cV_place 8 = .ok (.new 62, 3) := by decide +kernel
theorem dV_place_11 : decode cV_place 11 = .ok (.dup, 1) := by decide +kernel
theorem dV_place_12 : decode cV_place 12 = .ok (.ldc 107, 2) := by decide +kernel
theorem dV_place_14 : decode cV_place 14 = .ok (.invokespecial 66, 3) := by decide +kernel
theorem dV_place_17 : decode cV_place 17 = .ok (.athrow, 1) := by decide +kernel
theorem dV_place_18 : decode cV_place 18 = .ok (.aload_n 0, 1) := by decide +kernel
theorem dV_place_19 : decode cV_place 19 = .ok (.iload_n 1, 1) := by decide +kernel
theorem dV_place_20 : decode cV_place 20 = .ok (.iconst 0, 1) := by decide +kernel
theorem dV_place_21 : decode cV_place 21 = .ok (.iload_n 2, 1) := by decide +kernel
theorem dV_place_22 : decode cV_place 22 = .ok (.iload_n 3, 1) := by decide +kernel
theorem dV_place_23 : decode cV_place 23 = .ok (.iload 4, 2) := by decide +kernel
theorem dV_place_25 : decode cV_place 25 = .ok (.iload 5, 2) := by decide +kernel
theorem dV_place_27 : decode cV_place 27 = .ok (.invokevirtual 109, 3) := by decide +kernel
theorem dV_place_30 : decode cV_place 30 = .ok (.return_, 1) := by decide +kernel
theorem dV_putVector_0 : decode cV_putVector 0 = .ok (.aload_n 0, 1) := by decide +kernel
theorem dV_putVector_1 : decode cV_putVector 1 = .ok (.getfield 26, 3) := by decide +kernel
theorem dV_putVector_4 : decode cV_putVector 4 = .ok (.getfield 141, 3) := by decide +kernel
theorem dV_putVector_7 : decode cV_putVector 7 = .ok (.iload_n 1, 1) := by decide +kernel
theorem dV_putVector_8 : decode cV_putVector 8 = .ok (.aaload, 1) := by decide +kernel
theorem dV_putVector_9 : decode cV_putVector 9 = .ok (.astore 7, 2) := by decide +kernel
theorem dV_putVector_11 : decode cV_putVector 11 = .ok (.aload 7, 2) := by decide +kernel
theorem dV_putVector_13 : decode cV_putVector 13 = .ok (.iload_n 2, 1) := by decide +kernel
theorem dV_putVector_14 : decode cV_putVector 14 = .ok (.iload_n 3, 1) := by decide +kernel
theorem dV_putVector_15 : decode cV_putVector 15 = .ok (.iastore, 1) := by decide +kernel
theorem dV_putVector_16 : decode cV_putVector 16 = .ok (.aload 7, 2) := by decide +kernel
theorem dV_putVector_18 : decode cV_putVector 18 = .ok (.iload_n 2, 1) := by decide +kernel
theorem dV_putVector_19 : decode cV_putVector 19 = .ok (.iconst 1, 1) := by decide +kernel
theorem dV_putVector_20 : decode cV_putVector 20 = .ok (.iadd, 1) := by decide +kernel
theorem dV_putVector_21 : decode cV_putVector 21 = .ok (.iload 4, 2) := by decide +kernel
theorem dV_putVector_23 : decode cV_putVector 23 = .ok (.iastore, 1) := by decide +kernel
theorem dV_putVector_24 : decode cV_putVector 24 = .ok (.aload 7, 2) := by decide +kernel
theorem dV_putVector_26 : decode cV_putVector 26 = .ok (.iload_n 2, 1) := by decide +kernel
theorem dV_putVector_27 : decode cV_putVector 27 = .ok (.iconst 2, 1) := by decide +kernel
theorem dV_putVector_28 : decode cV_putVector 28 = .ok (.iadd, 1) := by decide +kernel
theorem dV_putVector_29 : decode cV_putVector 29 = .ok (.iload 5, 2) := by decide +kernel
theorem dV_putVector_31 : decode cV_putVector 31 = .ok (.iastore, 1) := by decide +kernel
theorem dV_putVector_32 : decode cV_putVector 32 = .ok (.aload 7, 2) := by decide +kernel
theorem dV_putVector_34 : decode cV_putVector 34 = .ok (.iload_n 2, 1) := by decide +kernel
theorem dV_putVector_35 : decode cV_putVector 35 = .ok (.iconst 3, 1) := by decide +kernel
theorem dV_putVector_36 : decode cV_putVector 36 = .ok (.iadd, 1) := by decide +kernel
theorem dV_putVector_37 : decode cV_putVector 37 = .ok (.iload 6, 2) := by decide +kernel
theorem dV_putVector_39 : decode cV_putVector 39 = .ok (.iastore, 1) := by decide +kernel
theorem dV_putVector_40 : decode cV_putVector 40 = .ok (.aload_n 0, 1) := by decide +kernel
theorem dV_putVector_41 : decode cV_putVector 41 = .ok (.getfield 37, 3) := by decide +kernel
theorem dV_putVector_44 : decode cV_putVector 44 = .ok (.iconst 0, 1) := by decide +kernel
theorem dV_putVector_45 : decode cV_putVector 45 = .ok (.putfield 30, 3) := by decide +kernel
theorem dV_putVector_48 : decode cV_putVector 48 = .ok (.return_, 1) := by decide +kernel
theorem dV_vary_0 : decode cV_vary 0 = .ok (.iload_n 1, 1) := by decide +kernel
theorem dV_vary_1 : decode cV_vary 1 = .ok (.iconst 3, 1) := by decide +kernel
theorem dV_vary_2 : decode cV_vary 2 = .ok (.invokestatic 47, 3) := by decide +kernel
theorem dV_vary_5 : decode cV_vary 5 = .ok (.ifCond .eq 12, 3) := by decide +kernel
theorem dV_vary_8 : decode cV_vary 8 = .ok (.iload_n 2, 1) := by decide +kernel
theorem dV_vary_9 : decode cV_vary 9 = .ok (.bipush 7, 2) := by decide +kernel
theorem dV_vary_11 : decode cV_vary 11 = .ok (.invokestatic 47, 3) := by decide +kernel
theorem dV_vary_14 : decode cV_vary 14 = .ok (.ifCond .ne 13, 3) := by decide +kernel
theorem dV_vary_17 : decode cV_vary 17 = .ok (.new 62, 3) := by decide +kernel
theorem dV_vary_20 : decode cV_vary 20 = .ok (.dup, 1) := by decide +kernel
theorem dV_vary_21 : decode cV_vary 21 = .ok (.ldc 113, 2) := by decide +kernel
theorem dV_vary_23 : decode cV_vary 23 = .ok (.invokespecial 66, 3) := by decide +kernel
theorem dV_vary_26 : decode cV_vary 26 = .ok (.athrow, 1) := by decide +kernel
theorem dV_vary_27 : decode cV_vary 27 = .ok (.aload_n 0, 1) := by decide +kernel
theorem dV_vary_28 : decode cV_vary 28 = .ok (.iload_n 1, 1) := by decide +kernel
theorem dV_vary_29 : decode cV_vary 29 = .ok (.iconst 4, 1) := by decide +kernel
theorem dV_vary_30 : decode cV_vary 30 = .ok (.iconst 4, 1) := by decide +kernel
theorem dV_vary_31 : decode cV_vary 31 = .ok (.iload_n 2, 1) := by decide +kernel
theorem dV_vary_32 : decode cV_vary 32 = .ok (.imul, 1) := by decide +kernel
theorem dV_vary_33 : decode cV_vary 33 = .ok (.iadd, 1) := by decide +kernel
theorem dV_vary_34 : decode cV_vary 34 = .ok (.iload_n 3, 1) := by decide +kernel
theorem dV_vary_35 : decode cV_vary 35 = .ok (.iload 4, 2) := by decide +kernel
theorem dV_vary_37 : decode cV_vary 37 = .ok (.iload 5, 2) := by decide +kernel
theorem dV_vary_39 : decode cV_vary 39 = .ok (.iload 6, 2) := by decide +kernel
theorem dV_vary_41 : decode cV_vary 41 = .ok (.invokevirtual 109, 3) := by decide +kernel
theorem dV_vary_44 : decode cV_vary 44 = .ok (.return_, 1) := by decide +kernel
theorem dV_view_0 : decode cV_view 0 = .ok (.iload_n 1, 1) := by decide +kernel
theorem dV_view_1 : decode cV_view 1 = .ok (.sipush (-1023), 3) := by decide +kernel
theorem dV_view_4 : decode cV_view 4 = .ok (.sipush 1023, 3) := by decide +kernel
theorem dV_view_7 : decode cV_view 7 = .ok (.invokestatic 115, 3) := by decide +kernel
theorem dV_view_10 : decode cV_view 10 = .ok (.ifCond .eq 16, 3) := by decide +kernel
theorem dV_view_13 : decode cV_view 13 = .ok (.iload_n 2, 1) := by decide +kernel
theorem dV_view_14 : decode cV_view 14 = .ok (.sipush (-1023), 3) := by decide +kernel
theorem dV_view_17 : decode cV_view 17 = .ok (.sipush 1023, 3) := by decide +kernel
theorem dV_view_20 : decode cV_view 20 = .ok (.invokestatic 115, 3) := by decide +kernel
theorem dV_view_23 : decode cV_view 23 = .ok (.ifCond .ne 13, 3) := by decide +kernel
theorem dV_view_26 : decode cV_view 26 = .ok (.new 62, 3) := by decide +kernel
theorem dV_view_29 : decode cV_view 29 = .ok (.dup, 1) := by decide +kernel
theorem dV_view_30 : decode cV_view 30 = .ok (.ldc 119, 2) := by decide +kernel
theorem dV_view_32 : decode cV_view 32 = .ok (.invokespecial 66, 3) := by decide +kernel
theorem dV_view_35 : decode cV_view 35 = .ok (.athrow, 1) := by decide +kernel
theorem dV_view_36 : decode cV_view 36 = .ok (.iload_n 3, 1) := by decide +kernel
theorem dV_view_37 : decode cV_view 37 = .ok (.iconst 1, 1) := by decide +kernel
theorem dV_view_38 : decode cV_view 38 = .ok (.sipush 1024, 3) := by decide +kernel
theorem dV_view_41 : decode cV_view 41 = .ok (.invokestatic 115, 3) := by decide +kernel
theorem dV_view_44 : decode cV_view 44 = .ok (.ifCond .eq 15, 3) := by decide +kernel
theorem dV_view_47 : decode cV_view 47 = .ok (.iload 4, 2) := by decide +kernel
theorem dV_view_49 : decode cV_view 49 = .ok (.iconst 1, 1) := by decide +kernel
theorem dV_view_50 : decode cV_view 50 = .ok (.sipush 1024, 3) := by decide +kernel
theorem dV_view_53 : decode cV_view 53 = .ok (.invokestatic 115, 3) := by decide +kernel
theorem dV_view_56 : decode cV_view 56 = .ok (.ifCond .ne 13, 3) := by decide +kernel
theorem dV_view_59 : decode cV_view 59 = .ok (.new 62, 3) := by decide +kernel
theorem dV_view_62 : decode cV_view 62 = .ok (.dup, 1) := by decide +kernel
theorem dV_view_63 : decode cV_view 63 = .ok (.ldc 121, 2) := by decide +kernel
theorem dV_view_65 : decode cV_view 65 = .ok (.invokespecial 66, 3) := by decide +kernel
theorem dV_view_68 : decode cV_view 68 = .ok (.athrow, 1) := by decide +kernel
theorem dV_view_69 : decode cV_view 69 = .ok (.iload 5, 2) := by decide +kernel
theorem dV_view_71 : decode cV_view 71 = .ok (.iconst 0, 1) := by decide +kernel
theorem dV_view_72 : decode cV_view 72 = .ok (.ldc 123, 2) := by decide +kernel
theorem dV_view_74 : decode cV_view 74 = .ok (.invokestatic 115, 3) := by decide +kernel
theorem dV_view_77 : decode cV_view 77 = .ok (.ifCond .eq 14, 3) := by decide +kernel
theorem dV_view_80 : decode cV_view 80 = .ok (.iload 6, 2) := by decide +kernel
theorem dV_view_82 : decode cV_view 82 = .ok (.iconst 0, 1) := by decide +kernel
theorem dV_view_83 : decode cV_view 83 = .ok (.ldc 123, 2) := by decide +kernel
theorem dV_view_85 : decode cV_view 85 = .ok (.invokestatic 115, 3) := by decide +kernel
theorem dV_view_88 : decode cV_view 88 = .ok (.ifCond .ne 13, 3) := by decide +kernel
theorem dV_view_91 : decode cV_view 91 = .ok (.new 62, 3) := by decide +kernel
theorem dV_view_94 : decode cV_view 94 = .ok (.dup, 1) := by decide +kernel
theorem dV_view_95 : decode cV_view 95 = .ok (.ldc 124, 2) := by decide +kernel
theorem dV_view_97 : decode cV_view 97 = .ok (.invokespecial 66, 3) := by decide +kernel
theorem dV_view_100 : decode cV_view 100 = .ok (.athrow, 1) := by decide +kernel
theorem dV_view_101 : decode cV_view 101 = .ok (.aload_n 0, 1) := by decide +kernel
theorem dV_view_102 : decode cV_view 102 = .ok (.getfield 43, 3) := by decide +kernel
theorem dV_view_105 : decode cV_view 105 = .ok (.iload_n 1, 1) := by decide +kernel
theorem dV_view_106 : decode cV_view 106 = .ok (.iload_n 2, 1) := by decide +kernel
theorem dV_view_107 : decode cV_view 107 = .ok (.iload_n 3, 1) := by decide +kernel
theorem dV_view_108 : decode cV_view 108 = .ok (.iload 4, 2) := by decide +kernel
theorem dV_view_110 : decode cV_view 110 = .ok (.iload 5, 2) := by decide +kernel
theorem dV_view_112 : decode cV_view 112 = .ok (.iload 6, 2) := by decide +kernel
theorem dV_view_114 : decode cV_view 114 = .ok (.invokevirtual 126, 3) := by decide +kernel
theorem dV_view_117 : decode cV_view 117 = .ok (.aload_n 0, 1) := by decide +kernel
theorem dV_view_118 : decode cV_view 118 = .ok (.getfield 37, 3) := by decide +kernel
theorem dV_view_121 : decode cV_view 121 = .ok (.iconst 0, 1) := by decide +kernel
theorem dV_view_122 : decode cV_view 122 = .ok (.putfield 30, 3) := by decide +kernel
theorem dV_view_125 : decode cV_view 125 = .ok (.return_, 1) := by decide +kernel
theorem dV_isWithin_0 : decode cV_isWithin 0 = .ok (.iload_n 0, 1) := by decide +kernel
theorem dV_isWithin_1 : decode cV_isWithin 1 = .ok (.iload_n 1, 1) := by decide +kernel
theorem dV_isWithin_2 : decode cV_isWithin 2 = .ok (.if_icmp .lt 12, 3) := by decide +kernel
theorem dV_isWithin_5 : decode cV_isWithin 5 = .ok (.iload_n 0, 1) := by decide +kernel
theorem dV_isWithin_6 : decode cV_isWithin 6 = .ok (.iload_n 2, 1) := by decide +kernel
theorem dV_isWithin_7 : decode cV_isWithin 7 = .ok (.if_icmp .gt 7, 3) := by decide +kernel
theorem dV_isWithin_10 : decode cV_isWithin 10 = .ok (.iconst 1, 1) := by decide +kernel
theorem dV_isWithin_11 : decode cV_isWithin 11 = .ok (.goto 4, 3) := by decide +kernel
theorem dV_isWithin_14 : decode cV_isWithin 14 = .ok (.iconst 0, 1) := by decide +kernel
theorem dV_isWithin_15 : decode cV_isWithin 15 = .ok (.ireturn, 1) := by decide +kernel
theorem dS_become_0 : decode cS_become 0 = .ok (.aload_n 0, 1) := by decide +kernel
theorem dS_become_1 : decode cS_become 1 = .ok (.iload_n 1, 1) := by decide +kernel
theorem dS_become_2 : decode cS_become 2 = .ok (.putfield 22, 3) := by decide +kernel
theorem dS_become_5 : decode cS_become 5 = .ok (.aload_n 0, 1) := by decide +kernel
theorem dS_become_6 : decode cS_become 6 = .ok (.iload_n 2, 1) := by decide +kernel
theorem dS_become_7 : decode cS_become 7 = .ok (.putfield 25, 3) := by decide +kernel
theorem dS_become_10 : decode cS_become 10 = .ok (.aload_n 0, 1) := by decide +kernel
theorem dS_become_11 : decode cS_become 11 = .ok (.iload_n 3, 1) := by decide +kernel
theorem dS_become_12 : decode cS_become 12 = .ok (.putfield 9, 3) := by decide +kernel
theorem dS_become_15 : decode cS_become 15 = .ok (.aload_n 0, 1) := by decide +kernel
theorem dS_become_16 : decode cS_become 16 = .ok (.iload 4, 2) := by decide +kernel
theorem dS_become_18 : decode cS_become 18 = .ok (.putfield 15, 3) := by decide +kernel
theorem dS_become_21 : decode cS_become 21 = .ok (.aload_n 0, 1) := by decide +kernel
theorem dS_become_22 : decode cS_become 22 = .ok (.iload 5, 2) := by decide +kernel
theorem dS_become_24 : decode cS_become 24 = .ok (.putfield 28, 3) := by decide +kernel
theorem dS_become_27 : decode cS_become 27 = .ok (.aload_n 0, 1) := by decide +kernel
theorem dS_become_28 : decode cS_become 28 = .ok (.iload 6, 2) := by decide +kernel
theorem dS_become_30 : decode cS_become 30 = .ok (.putfield 19, 3) := by decide +kernel
theorem dS_become_33 : decode cS_become 33 = .ok (.return_, 1) := by decide +kernel
theorem dV_faces_0 : decode cV_faces 0 = .ok (.iload_n 1, 1) := by decide +kernel
theorem dV_faces_1 : decode cV_faces 1 = .ok (.iconst 0, 1) := by decide +kernel
theorem dV_faces_2 : decode cV_faces 2 = .ok (.iconst 3, 1) := by decide +kernel
theorem dV_faces_3 : decode cV_faces 3 = .ok (.invokestatic 115, 3) := by decide +kernel
theorem dV_faces_6 : decode cV_faces 6 = .ok (.ifCond .ne 13, 3) := by decide +kernel
theorem dV_faces_9 : decode cV_faces 9 = .ok (.new 62, 3) := by decide +kernel
theorem dV_faces_12 : decode cV_faces 12 = .ok (.dup, 1) := by decide +kernel
theorem dV_faces_13 : decode cV_faces 13 = .ok (.ldc 128, 2) := by decide +kernel
theorem dV_faces_15 : decode cV_faces 15 = .ok (.invokespecial 66, 3) := by decide +kernel
theorem dV_faces_18 : decode cV_faces 18 = .ok (.athrow, 1) := by decide +kernel
theorem dV_faces_19 : decode cV_faces 19 = .ok (.aload_n 0, 1) := by decide +kernel
theorem dV_faces_20 : decode cV_faces 20 = .ok (.iload_n 1, 1) := by decide +kernel
theorem dV_faces_21 : decode cV_faces 21 = .ok (.putfield 130, 3) := by decide +kernel
theorem dV_faces_24 : decode cV_faces 24 = .ok (.aload_n 0, 1) := by decide +kernel
theorem dV_faces_25 : decode cV_faces 25 = .ok (.iload_n 2, 1) := by decide +kernel
theorem dV_faces_26 : decode cV_faces 26 = .ok (.putfield 133, 3) := by decide +kernel
theorem dV_faces_29 : decode cV_faces 29 = .ok (.aload_n 0, 1) := by decide +kernel
theorem dV_faces_30 : decode cV_faces 30 = .ok (.getfield 37, 3) := by decide +kernel
theorem dV_faces_33 : decode cV_faces 33 = .ok (.iconst 0, 1) := by decide +kernel
theorem dV_faces_34 : decode cV_faces 34 = .ok (.putfield 30, 3) := by decide +kernel
theorem dV_faces_37 : decode cV_faces 37 = .ok (.return_, 1) := by decide +kernel
theorem dV_side_0 : decode cV_side 0 = .ok (.iload_n 1, 1) := by decide +kernel
theorem dV_side_1 : decode cV_side 1 = .ok (.aload_n 0, 1) := by decide +kernel
theorem dV_side_2 : decode cV_side 2 = .ok (.getfield 37, 3) := by decide +kernel
theorem dV_side_5 : decode cV_side 5 = .ok (.getfield 30, 3) := by decide +kernel
theorem dV_side_8 : decode cV_side 8 = .ok (.invokestatic 94, 3) := by decide +kernel
theorem dV_side_11 : decode cV_side 11 = .ok (.invokestatic 47, 3) := by decide +kernel
theorem dV_side_14 : decode cV_side 14 = .ok (.ifCond .ne 13, 3) := by decide +kernel
theorem dV_side_17 : decode cV_side 17 = .ok (.new 51, 3) := by decide +kernel
theorem dV_side_20 : decode cV_side 20 = .ok (.dup, 1) := by decide +kernel
theorem dV_side_21 : decode cV_side 21 = .ok (.ldc 149, 2) := by decide +kernel
theorem dV_side_23 : decode cV_side 23 = .ok (.invokespecial 55, 3) := by decide +kernel
theorem dV_side_26 : decode cV_side 26 = .ok (.athrow, 1) := by decide +kernel
theorem dV_side_27 : decode cV_side 27 = .ok (.aload_n 0, 1) := by decide +kernel
theorem dV_side_28 : decode cV_side 28 = .ok (.getfield 37, 3) := by decide +kernel
theorem dV_side_31 : decode cV_side 31 = .ok (.iload_n 1, 1) := by decide +kernel
theorem dV_side_32 : decode cV_side 32 = .ok (.invokevirtual 151, 3) := by decide +kernel
theorem dV_side_35 : decode cV_side 35 = .ok (.lstore_n 2, 1) := by decide +kernel
theorem dV_side_36 : decode cV_side 36 = .ok (.lload_n 2, 1) := by decide +kernel
theorem dV_side_37 : decode cV_side 37 = .ok (.lconst 0, 1) := by decide +kernel
theorem dV_side_38 : decode cV_side 38 = .ok (.lcmp, 1) := by decide +kernel
theorem dV_side_39 : decode cV_side 39 = .ok (.ifCond .ne 5, 3) := by decide +kernel
theorem dV_side_42 : decode cV_side 42 = .ok (.iconst (-1), 1) := by decide +kernel
theorem dV_side_43 : decode cV_side 43 = .ok (.ireturn, 1) := by decide +kernel
theorem dV_side_44 : decode cV_side 44 = .ok (.lload_n 2, 1) := by decide +kernel
theorem dV_side_45 : decode cV_side 45 = .ok (.lconst 0, 1) := by decide +kernel
theorem dV_side_46 : decode cV_side 46 = .ok (.lcmp, 1) := by decide +kernel
theorem dV_side_47 : decode cV_side 47 = .ok (.ifCond .le 7, 3) := by decide +kernel
theorem dV_side_50 : decode cV_side 50 = .ok (.iconst 1, 1) := by decide +kernel
theorem dV_side_51 : decode cV_side 51 = .ok (.goto 4, 3) := by decide +kernel
theorem dV_side_54 : decode cV_side 54 = .ok (.iconst 0, 1) := by decide +kernel
theorem dV_side_55 : decode cV_side 55 = .ok (.aload_n 0, 1) := by decide +kernel
theorem dV_side_56 : decode cV_side 56 = .ok (.getfield 133, 3) := by decide +kernel
theorem dV_side_59 : decode cV_side 59 = .ok (.if_icmp .eq 7, 3) := by decide +kernel
theorem dV_side_62 : decode cV_side 62 = .ok (.iconst 0, 1) := by decide +kernel
theorem dV_side_63 : decode cV_side 63 = .ok (.goto 4, 3) := by decide +kernel
theorem dV_side_66 : decode cV_side 66 = .ok (.iconst 1, 1) := by decide +kernel
theorem dV_side_67 : decode cV_side 67 = .ok (.istore 4, 2) := by decide +kernel
theorem dV_side_69 : decode cV_side 69 = .ok (.aload_n 0, 1) := by decide +kernel
theorem dV_side_70 : decode cV_side 70 = .ok (.iload 4, 2) := by decide +kernel
theorem dV_side_72 : decode cV_side 72 = .ok (.invokevirtual 155, 3) := by decide +kernel
theorem dV_side_75 : decode cV_side 75 = .ok (.ifCond .eq 7, 3) := by decide +kernel
theorem dV_side_78 : decode cV_side 78 = .ok (.iconst (-1), 1) := by decide +kernel
theorem dV_side_79 : decode cV_side 79 = .ok (.goto 5, 3) := by decide +kernel
theorem dV_side_82 : decode cV_side 82 = .ok (.iload 4, 2) := by decide +kernel
theorem dV_side_84 : decode cV_side 84 = .ok (.ireturn, 1) := by decide +kernel
theorem dP_sizeOf_0 : decode cP_sizeOf 0 = .ok (.aload_n 0, 1) := by decide +kernel
theorem dP_sizeOf_1 : decode cP_sizeOf 1 = .ok (.getfield 11, 3) := by decide +kernel
theorem dP_sizeOf_4 : decode cP_sizeOf 4 = .ok (.iconst 0, 1) := by decide +kernel
theorem dP_sizeOf_5 : decode cP_sizeOf 5 = .ok (.aaload, 1) := by decide +kernel
theorem dP_sizeOf_6 : decode cP_sizeOf 6 = .ok (.astore_n 2, 1) := by decide +kernel
theorem dP_sizeOf_7 : decode cP_sizeOf 7 = .ok (.aload_n 0, 1) := by decide +kernel
theorem dP_sizeOf_8 : decode cP_sizeOf 8 = .ok (.getfield 11, 3) := by decide +kernel
theorem dP_sizeOf_11 : decode cP_sizeOf 11 = .ok (.iload_n 1, 1) := by decide +kernel
theorem dP_sizeOf_12 : decode cP_sizeOf 12 = .ok (.iconst 1, 1) := by decide +kernel
theorem dP_sizeOf_13 : decode cP_sizeOf 13 = .ok (.iadd, 1) := by decide +kernel
theorem dP_sizeOf_14 : decode cP_sizeOf 14 = .ok (.aaload, 1) := by decide +kernel
theorem dP_sizeOf_15 : decode cP_sizeOf 15 = .ok (.astore_n 3, 1) := by decide +kernel
theorem dP_sizeOf_16 : decode cP_sizeOf 16 = .ok (.aload_n 0, 1) := by decide +kernel
theorem dP_sizeOf_17 : decode cP_sizeOf 17 = .ok (.getfield 11, 3) := by decide +kernel
theorem dP_sizeOf_20 : decode cP_sizeOf 20 = .ok (.iload_n 1, 1) := by decide +kernel
theorem dP_sizeOf_21 : decode cP_sizeOf 21 = .ok (.iconst 2, 1) := by decide +kernel
theorem dP_sizeOf_22 : decode cP_sizeOf 22 = .ok (.iadd, 1) := by decide +kernel
theorem dP_sizeOf_23 : decode cP_sizeOf 23 = .ok (.aaload, 1) := by decide +kernel
theorem dP_sizeOf_24 : decode cP_sizeOf 24 = .ok (.astore 4, 2) := by decide +kernel
theorem dP_sizeOf_26 : decode cP_sizeOf 26 = .ok (.aload_n 3, 1) := by decide +kernel
theorem dP_sizeOf_27 : decode cP_sizeOf 27 = .ok (.iconst 0, 1) := by decide +kernel
theorem dP_sizeOf_28 : decode cP_sizeOf 28 = .ok (.iaload, 1) := by decide +kernel
theorem dP_sizeOf_29 : decode cP_sizeOf 29 = .ok (.i2l, 1) := by decide +kernel
theorem dP_sizeOf_30 : decode cP_sizeOf 30 = .ok (.aload_n 2, 1) := by decide +kernel
theorem dP_sizeOf_31 : decode cP_sizeOf 31 = .ok (.iconst 0, 1) := by decide +kernel
theorem dP_sizeOf_32 : decode cP_sizeOf 32 = .ok (.iaload, 1) := by decide +kernel
theorem dP_sizeOf_33 : decode cP_sizeOf 33 = .ok (.i2l, 1) := by decide +kernel
theorem dP_sizeOf_34 : decode cP_sizeOf 34 = .ok (.lsub, 1) := by decide +kernel
theorem dP_sizeOf_35 : decode cP_sizeOf 35 = .ok (.lstore 5, 2) := by decide +kernel
theorem dP_sizeOf_37 : decode cP_sizeOf 37 = .ok (.aload_n 3, 1) := by decide +kernel
theorem dP_sizeOf_38 : decode cP_sizeOf 38 = .ok (.iconst 1, 1) := by decide +kernel
theorem dP_sizeOf_39 : decode cP_sizeOf 39 = .ok (.iaload, 1) := by decide +kernel
theorem dP_sizeOf_40 : decode cP_sizeOf 40 = .ok (.i2l, 1) := by decide +kernel
theorem dP_sizeOf_41 : decode cP_sizeOf 41 = .ok (.aload_n 2, 1) := by decide +kernel
theorem dP_sizeOf_42 : decode cP_sizeOf 42 = .ok (.iconst 1, 1) := by decide +kernel
theorem dP_sizeOf_43 : decode cP_sizeOf 43 = .ok (.iaload, 1) := by decide +kernel
theorem dP_sizeOf_44 : decode cP_sizeOf 44 = .ok (.i2l, 1) := by decide +kernel
theorem dP_sizeOf_45 : decode cP_sizeOf 45 = .ok (.lsub, 1) := by decide +kernel
theorem dP_sizeOf_46 : decode cP_sizeOf 46 = .ok (.lstore 7, 2) := by decide +kernel
theorem dP_sizeOf_48 : decode cP_sizeOf 48 = .ok (.aload 4, 2) := by decide +kernel
theorem dP_sizeOf_50 : decode cP_sizeOf 50 = .ok (.iconst 0, 1) := by decide +kernel
theorem dP_sizeOf_51 : decode cP_sizeOf 51 = .ok (.iaload, 1) := by decide +kernel
theorem dP_sizeOf_52 : decode cP_sizeOf 52 = .ok (.i2l, 1) := by decide +kernel
theorem dP_sizeOf_53 : decode cP_sizeOf 53 = .ok (.aload_n 2, 1) := by decide +kernel
theorem dP_sizeOf_54 : decode cP_sizeOf 54 = .ok (.iconst 0, 1) := by decide +kernel
theorem dP_sizeOf_55 : decode cP_sizeOf 55 = .ok (.iaload, 1) := by decide +kernel
theorem dP_sizeOf_56 : decode cP_sizeOf 56 = .ok (.i2l, 1) := by decide +kernel
theorem dP_sizeOf_57 : decode cP_sizeOf 57 = .ok (.lsub, 1) := by decide +kernel
theorem dP_sizeOf_58 : decode cP_sizeOf 58 = .ok (.lstore 9, 2) := by decide +kernel
theorem dP_sizeOf_60 : decode cP_sizeOf 60 = .ok (.aload 4, 2) := by decide +kernel
theorem dP_sizeOf_62 : decode cP_sizeOf 62 = .ok (.iconst 1, 1) := by decide +kernel
theorem dP_sizeOf_63 : decode cP_sizeOf 63 = .ok (.iaload, 1) := by decide +kernel
theorem dP_sizeOf_64 : decode cP_sizeOf 64 = .ok (.i2l, 1) := by decide +kernel
theorem dP_sizeOf_65 : decode cP_sizeOf 65 = .ok (.aload_n 2, 1) := by decide +kernel
theorem dP_sizeOf_66 : decode cP_sizeOf 66 = .ok (.iconst 1, 1) := by decide +kernel
theorem dP_sizeOf_67 : decode cP_sizeOf 67 = .ok (.iaload, 1) := by decide +kernel
theorem dP_sizeOf_68 : decode cP_sizeOf 68 = .ok (.i2l, 1) := by decide +kernel
theorem dP_sizeOf_69 : decode cP_sizeOf 69 = .ok (.lsub, 1) := by decide +kernel
theorem dP_sizeOf_70 : decode cP_sizeOf 70 = .ok (.lstore 11, 2) := by decide +kernel
theorem dP_sizeOf_72 : decode cP_sizeOf 72 = .ok (.lload 5, 2) := by decide +kernel
theorem dP_sizeOf_74 : decode cP_sizeOf 74 = .ok (.lload 11, 2) := by decide +kernel
theorem dP_sizeOf_76 : decode cP_sizeOf 76 = .ok (.lmul, 1) := by decide +kernel
theorem dP_sizeOf_77 : decode cP_sizeOf 77 = .ok (.lload 9, 2) := by decide +kernel
theorem dP_sizeOf_79 : decode cP_sizeOf 79 = .ok (.lload 7, 2) := by decide +kernel
theorem dP_sizeOf_81 : decode cP_sizeOf 81 = .ok (.lmul, 1) := by decide +kernel
theorem dP_sizeOf_82 : decode cP_sizeOf 82 = .ok (.lsub, 1) := by decide +kernel
theorem dP_sizeOf_83 : decode cP_sizeOf 83 = .ok (.lreturn, 1) := by decide +kernel
theorem dV_isOut_0 : decode cV_isOut 0 = .ok (.aload_n 0, 1) := by decide +kernel
theorem dV_isOut_1 : decode cV_isOut 1 = .ok (.getfield 130, 3) := by decide +kernel
theorem dV_isOut_4 : decode cV_isOut 4 = .ok (.iload_n 1, 1) := by decide +kernel
theorem dV_isOut_5 : decode cV_isOut 5 = .ok (.ishr, 1) := by decide +kernel
theorem dV_isOut_6 : decode cV_isOut 6 = .ok (.iconst 1, 1) := by decide +kernel
theorem dV_isOut_7 : decode cV_isOut 7 = .ok (.iand, 1) := by decide +kernel
theorem dV_isOut_8 : decode cV_isOut 8 = .ok (.ifCond .eq 7, 3) := by decide +kernel
theorem dV_isOut_11 : decode cV_isOut 11 = .ok (.iconst 1, 1) := by decide +kernel
theorem dV_isOut_12 : decode cV_isOut 12 = .ok (.goto 4, 3) := by decide +kernel
theorem dV_isOut_15 : decode cV_isOut 15 = .ok (.iconst 0, 1) := by decide +kernel
theorem dV_isOut_16 : decode cV_isOut 16 = .ok (.ireturn, 1) := by decide +kernel
theorem dV_got_0 : decode cV_got 0 = .ok (.iload_n 1, 1) := by decide +kernel
theorem dV_got_1 : decode cV_got 1 = .ok (.aload_n 0, 1) := by decide +kernel
theorem dV_got_2 : decode cV_got 2 = .ok (.getfield 37, 3) := by decide +kernel
theorem dV_got_5 : decode cV_got 5 = .ok (.getfield 30, 3) := by decide +kernel
theorem dV_got_8 : decode cV_got 8 = .ok (.invokestatic 94, 3) := by decide +kernel
theorem dV_got_11 : decode cV_got 11 = .ok (.invokestatic 47, 3) := by decide +kernel
theorem dV_got_14 : decode cV_got 14 = .ok (.ifCond .ne 13, 3) := by decide +kernel
theorem dV_got_17 : decode cV_got 17 = .ok (.new 51, 3) := by decide +kernel
theorem dV_got_20 : decode cV_got 20 = .ok (.dup, 1) := by decide +kernel
theorem dV_got_21 : decode cV_got 21 = .ok (.ldc 149, 2) := by decide +kernel
theorem dV_got_23 : decode cV_got 23 = .ok (.invokespecial 55, 3) := by decide +kernel
theorem dV_got_26 : decode cV_got 26 = .ok (.athrow, 1) := by decide +kernel
theorem dV_got_27 : decode cV_got 27 = .ok (.iload_n 2, 1) := by decide +kernel
theorem dV_got_28 : decode cV_got 28 = .ok (.iconst 3, 1) := by decide +kernel
theorem dV_got_29 : decode cV_got 29 = .ok (.invokestatic 47, 3) := by decide +kernel
theorem dV_got_32 : decode cV_got 32 = .ok (.ifCond .eq 12, 3) := by decide +kernel
theorem dV_got_35 : decode cV_got 35 = .ok (.iload_n 3, 1) := by decide +kernel
theorem dV_got_36 : decode cV_got 36 = .ok (.bipush 32, 2) := by decide +kernel
theorem dV_got_38 : decode cV_got 38 = .ok (.invokestatic 47, 3) := by decide +kernel
theorem dV_got_41 : decode cV_got 41 = .ok (.ifCond .ne 13, 3) := by decide +kernel
theorem dV_got_44 : decode cV_got 44 = .ok (.new 62, 3) := by decide +kernel
theorem dV_got_47 : decode cV_got 47 = .ok (.dup, 1) := by decide +kernel
theorem dV_got_48 : decode cV_got 48 = .ok (.ldc 159, 2) := by decide +kernel
theorem dV_got_50 : decode cV_got 50 = .ok (.invokespecial 66, 3) := by decide +kernel
theorem dV_got_53 : decode cV_got 53 = .ok (.athrow, 1) := by decide +kernel
theorem dV_got_54 : decode cV_got 54 = .ok (.aload_n 0, 1) := by decide +kernel
theorem dV_got_55 : decode cV_got 55 = .ok (.getfield 37, 3) := by decide +kernel
theorem dV_got_58 : decode cV_got 58 = .ok (.getfield 141, 3) := by decide +kernel
theorem dV_got_61 : decode cV_got 61 = .ok (.iload_n 1, 1) := by decide +kernel
theorem dV_got_62 : decode cV_got 62 = .ok (.iload_n 2, 1) := by decide +kernel
theorem dV_got_63 : decode cV_got 63 = .ok (.invokestatic 104, 3) := by decide +kernel
theorem dV_got_66 : decode cV_got 66 = .ok (.aaload, 1) := by decide +kernel
theorem dV_got_67 : decode cV_got 67 = .ok (.iload_n 3, 1) := by decide +kernel
theorem dV_got_68 : decode cV_got 68 = .ok (.iaload, 1) := by decide +kernel
theorem dV_got_69 : decode cV_got 69 = .ok (.ireturn, 1) := by decide +kernel
theorem dV_area_0 : decode cV_area 0 = .ok (.iload_n 1, 1) := by decide +kernel
theorem dV_area_1 : decode cV_area 1 = .ok (.aload_n 0, 1) := by decide +kernel
theorem dV_area_2 : decode cV_area 2 = .ok (.getfield 37, 3) := by decide +kernel
theorem dV_area_5 : decode cV_area 5 = .ok (.getfield 30, 3) := by decide +kernel
theorem dV_area_8 : decode cV_area 8 = .ok (.invokestatic 94, 3) := by decide +kernel
theorem dV_area_11 : decode cV_area 11 = .ok (.invokestatic 47, 3) := by decide +kernel
theorem dV_area_14 : decode cV_area 14 = .ok (.ifCond .ne 13, 3) := by decide +kernel
theorem dV_area_17 : decode cV_area 17 = .ok (.new 51, 3) := by decide +kernel
theorem dV_area_20 : decode cV_area 20 = .ok (.dup, 1) := by decide +kernel
theorem dV_area_21 : decode cV_area 21 = .ok (.ldc 149, 2) := by decide +kernel
theorem dV_area_23 : decode cV_area 23 = .ok (.invokespecial 55, 3) := by decide +kernel
theorem dV_area_26 : decode cV_area 26 = .ok (.athrow, 1) := by decide +kernel
theorem dV_area_27 : decode cV_area 27 = .ok (.aload_n 0, 1) := by decide +kernel
theorem dV_area_28 : decode cV_area 28 = .ok (.getfield 37, 3) := by decide +kernel
theorem dV_area_31 : decode cV_area 31 = .ok (.iload_n 1, 1) := by decide +kernel
theorem dV_area_32 : decode cV_area 32 = .ok (.invokevirtual 151, 3) := by decide +kernel
theorem dV_area_35 : decode cV_area 35 = .ok (.lreturn, 1) := by decide +kernel
