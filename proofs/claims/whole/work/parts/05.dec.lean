theorem dR_init_0 : decode cR_init 0 = .ok (.aload_n 0, 1) := by decide +kernel
theorem dR_init_1 : decode cR_init 1 = .ok (.invokespecial 1, 3) := by decide +kernel
theorem dR_init_4 : decode cR_init 4 = .ok (.aload_n 0, 1) := by decide +kernel
theorem dR_init_5 : decode cR_init 5 = .ok (.sipush 4096, 3) := by decide +kernel
theorem dR_init_8 : decode cR_init 8 = .ok (.newarray .int, 2) := by decide +kernel
theorem dR_init_10 : decode cR_init 10 = .ok (.putfield 7, 3) := by decide +kernel
theorem dR_init_13 : decode cR_init 13 = .ok (.aload_n 0, 1) := by decide +kernel
theorem dR_init_14 : decode cR_init 14 = .ok (.bipush 32, 2) := by decide +kernel
theorem dR_init_16 : decode cR_init 16 = .ok (.newarray .int, 2) := by decide +kernel
theorem dR_init_18 : decode cR_init 18 = .ok (.putfield 13, 3) := by decide +kernel
theorem dR_init_21 : decode cR_init 21 = .ok (.aload_n 0, 1) := by decide +kernel
theorem dR_init_22 : decode cR_init 22 = .ok (.bipush 96, 2) := by decide +kernel
theorem dR_init_24 : decode cR_init 24 = .ok (.newarray .int, 2) := by decide +kernel
theorem dR_init_26 : decode cR_init 26 = .ok (.putfield 16, 3) := by decide +kernel
theorem dR_init_29 : decode cR_init 29 = .ok (.aload_n 0, 1) := by decide +kernel
theorem dR_init_30 : decode cR_init 30 = .ok (.bipush 6, 2) := by decide +kernel
theorem dR_init_32 : decode cR_init 32 = .ok (.newarray .int, 2) := by decide +kernel
theorem dR_init_34 : decode cR_init 34 = .ok (.putfield 19, 3) := by decide +kernel
theorem dR_init_37 : decode cR_init 37 = .ok (.aload_n 0, 1) := by decide +kernel
theorem dR_init_38 : decode cR_init 38 = .ok (.sipush 256, 3) := by decide +kernel
theorem dR_init_41 : decode cR_init 41 = .ok (.newarray .int, 2) := by decide +kernel
theorem dR_init_43 : decode cR_init 43 = .ok (.putfield 22, 3) := by decide +kernel
theorem dR_init_46 : decode cR_init 46 = .ok (.aload_n 0, 1) := by decide +kernel
theorem dR_init_47 : decode cR_init 47 = .ok (.sipush 256, 3) := by decide +kernel
theorem dR_init_50 : decode cR_init 50 = .ok (.newarray .int, 2) := by decide +kernel
theorem dR_init_52 : decode cR_init 52 = .ok (.putfield 25, 3) := by decide +kernel
theorem dR_init_55 : decode cR_init 55 = .ok (.aload_n 0, 1) := by decide +kernel
theorem dR_init_56 : decode cR_init 56 = .ok (.bipush 32, 2) := by decide +kernel
theorem dR_init_58 : decode cR_init 58 = .ok (.newarray .int, 2) := by decide +kernel
theorem dR_init_60 : decode cR_init 60 = .ok (.putfield 28, 3) := by decide +kernel
theorem dR_init_63 : decode cR_init 63 = .ok (.aload_n 0, 1) := by decide +kernel
theorem dR_init_64 : decode cR_init 64 = .ok (.getfield 19, 3) := by decide +kernel
theorem dR_init_67 : decode cR_init 67 = .ok (.iconst 2, 1) := by decide +kernel
theorem dR_init_68 : decode cR_init 68 = .ok (.iconst 1, 1) := by decide +kernel
theorem dR_init_69 : decode cR_init 69 = .ok (.iastore, 1) := by decide +kernel
theorem dR_init_70 : decode cR_init 70 = .ok (.aload_n 0, 1) := by decide +kernel
theorem dR_init_71 : decode cR_init 71 = .ok (.getfield 19, 3) := by decide +kernel
theorem dR_init_74 : decode cR_init 74 = .ok (.iconst 3, 1) := by decide +kernel
theorem dR_init_75 : decode cR_init 75 = .ok (.iconst 1, 1) := by decide +kernel
theorem dR_init_76 : decode cR_init 76 = .ok (.iastore, 1) := by decide +kernel
theorem dR_init_77 : decode cR_init 77 = .ok (.aload_n 0, 1) := by decide +kernel
theorem dR_init_78 : decode cR_init 78 = .ok (.getfield 19, 3) := by decide +kernel
theorem dR_init_81 : decode cR_init 81 = .ok (.iconst 5, 1) := by decide +kernel
theorem dR_init_82 : decode cR_init 82 = .ok (.ldc 31, 2) := by decide +kernel
theorem dR_init_84 : decode cR_init 84 = .ok (.iastore, 1) := by decide +kernel
theorem dR_init_85 : decode cR_init 85 = .ok (.return_, 1) := by decide +kernel
theorem dR_thrown_0 : decode cR_thrown 0 = .ok (.aload_n 0, 1) := by decide +kernel
theorem dR_thrown_1 : decode cR_thrown 1 = .ok (.getfield 32, 3) := by decide +kernel
theorem dR_thrown_4 : decode cR_thrown 4 = .ok (.ireturn, 1) := by decide +kernel
theorem dR_word_0 : decode cR_word 0 = .ok (.aload_n 0, 1) := by decide +kernel
theorem dR_word_1 : decode cR_word 1 = .ok (.iload_n 1, 1) := by decide +kernel
theorem dR_word_2 : decode cR_word 2 = .ok (.iconst 0, 1) := by decide +kernel
theorem dR_word_3 : decode cR_word 3 = .ok (.sipush 4095, 3) := by decide +kernel
theorem dR_word_6 : decode cR_word 6 = .ok (.invokestatic 38, 3) := by decide +kernel
theorem dR_word_9 : decode cR_word 9 = .ok (.ifCond .ne 7, 3) := by decide +kernel
theorem dR_word_12 : decode cR_word 12 = .ok (.iconst 1, 1) := by decide +kernel
theorem dR_word_13 : decode cR_word 13 = .ok (.goto 4, 3) := by decide +kernel
theorem dR_word_16 : decode cR_word 16 = .ok (.iconst 0, 1) := by decide +kernel
theorem dR_word_17 : decode cR_word 17 = .ok (.iconst 0, 1) := by decide +kernel
theorem dR_word_18 : decode cR_word 18 = .ok (.invokevirtual 42, 3) := by decide +kernel
theorem dR_word_21 : decode cR_word 21 = .ok (.ifCond .eq 5, 3) := by decide +kernel
theorem dR_word_24 : decode cR_word 24 = .ok (.iconst 0, 1) := by decide +kernel
theorem dR_word_25 : decode cR_word 25 = .ok (.ireturn, 1) := by decide +kernel
theorem dR_word_26 : decode cR_word 26 = .ok (.aload_n 0, 1) := by decide +kernel
theorem dR_word_27 : decode cR_word 27 = .ok (.getfield 7, 3) := by decide +kernel
theorem dR_word_30 : decode cR_word 30 = .ok (.iload_n 1, 1) := by decide +kernel
theorem dR_word_31 : decode cR_word 31 = .ok (.iaload, 1) := by decide +kernel
theorem dR_word_32 : decode cR_word 32 = .ok (.istore_n 3, 1) := by decide +kernel
theorem dR_word_33 : decode cR_word 33 = .ok (.aload_n 0, 1) := by decide +kernel
theorem dR_word_34 : decode cR_word 34 = .ok (.getfield 7, 3) := by decide +kernel
theorem dR_word_37 : decode cR_word 37 = .ok (.iload_n 1, 1) := by decide +kernel
theorem dR_word_38 : decode cR_word 38 = .ok (.iload_n 2, 1) := by decide +kernel
theorem dR_word_39 : decode cR_word 39 = .ok (.iastore, 1) := by decide +kernel
theorem dR_word_40 : decode cR_word 40 = .ok (.iload_n 3, 1) := by decide +kernel
theorem dR_word_41 : decode cR_word 41 = .ok (.ireturn, 1) := by decide +kernel
theorem dR_in__0 : decode cR_in_ 0 = .ok (.iload_n 0, 1) := by decide +kernel
theorem dR_in__1 : decode cR_in_ 1 = .ok (.iload_n 1, 1) := by decide +kernel
theorem dR_in__2 : decode cR_in_ 2 = .ok (.if_icmp .lt 12, 3) := by decide +kernel
theorem dR_in__5 : decode cR_in_ 5 = .ok (.iload_n 0, 1) := by decide +kernel
theorem dR_in__6 : decode cR_in_ 6 = .ok (.iload_n 2, 1) := by decide +kernel
theorem dR_in__7 : decode cR_in_ 7 = .ok (.if_icmp .gt 7, 3) := by decide +kernel
theorem dR_in__10 : decode cR_in_ 10 = .ok (.iconst 1, 1) := by decide +kernel
theorem dR_in__11 : decode cR_in_ 11 = .ok (.goto 4, 3) := by decide +kernel
theorem dR_in__14 : decode cR_in_ 14 = .ok (.iconst 0, 1) := by decide +kernel
theorem dR_in__15 : decode cR_in_ 15 = .ok (.ireturn, 1) := by decide +kernel
theorem dR_refuse_0 : decode cR_refuse 0 = .ok (.aload_n 0, 1) := by decide +kernel
theorem dR_refuse_1 : decode cR_refuse 1 = .ok (.iload_n 1, 1) := by decide +kernel
theorem dR_refuse_2 : decode cR_refuse 2 = .ok (.ifCond .eq 7, 3) := by decide +kernel
theorem dR_refuse_5 : decode cR_refuse 5 = .ok (.iconst 1, 1) := by decide +kernel
theorem dR_refuse_6 : decode cR_refuse 6 = .ok (.goto 12, 3) := by decide +kernel
theorem dR_refuse_9 : decode cR_refuse 9 = .ok (.iload_n 2, 1) := by decide +kernel
theorem dR_refuse_10 : decode cR_refuse 10 = .ok (.ifCond .eq 7, 3) := by decide +kernel
theorem dR_refuse_13 : decode cR_refuse 13 = .ok (.iconst 2, 1) := by decide +kernel
theorem dR_refuse_14 : decode cR_refuse 14 = .ok (.goto 4, 3) := by decide +kernel
theorem dR_refuse_17 : decode cR_refuse 17 = .ok (.iconst 0, 1) := by decide +kernel
theorem dR_refuse_18 : decode cR_refuse 18 = .ok (.putfield 32, 3) := by decide +kernel
theorem dR_refuse_21 : decode cR_refuse 21 = .ok (.aload_n 0, 1) := by decide +kernel
theorem dR_refuse_22 : decode cR_refuse 22 = .ok (.getfield 32, 3) := by decide +kernel
theorem dR_refuse_25 : decode cR_refuse 25 = .ok (.ifCond .le 7, 3) := by decide +kernel
theorem dR_refuse_28 : decode cR_refuse 28 = .ok (.iconst 1, 1) := by decide +kernel
theorem dR_refuse_29 : decode cR_refuse 29 = .ok (.goto 4, 3) := by decide +kernel
theorem dR_refuse_32 : decode cR_refuse 32 = .ok (.iconst 0, 1) := by decide +kernel
theorem dR_refuse_33 : decode cR_refuse 33 = .ok (.ireturn, 1) := by decide +kernel
theorem dR_attribute_0 : decode cR_attribute 0 = .ok (.aload_n 0, 1) := by decide +kernel
theorem dR_attribute_1 : decode cR_attribute 1 = .ok (.iload_n 1, 1) := by decide +kernel
theorem dR_attribute_2 : decode cR_attribute 2 = .ok (.iconst 0, 1) := by decide +kernel
theorem dR_attribute_3 : decode cR_attribute 3 = .ok (.bipush 7, 2) := by decide +kernel
theorem dR_attribute_5 : decode cR_attribute 5 = .ok (.invokestatic 38, 3) := by decide +kernel
theorem dR_attribute_8 : decode cR_attribute 8 = .ok (.ifCond .eq 31, 3) := by decide +kernel
theorem dR_attribute_11 : decode cR_attribute 11 = .ok (.iload_n 2, 1) := by decide +kernel
theorem dR_attribute_12 : decode cR_attribute 12 = .ok (.ifCond .lt 27, 3) := by decide +kernel
theorem dR_attribute_15 : decode cR_attribute 15 = .ok (.iload_n 3, 1) := by decide +kernel
theorem dR_attribute_16 : decode cR_attribute 16 = .ok (.ifCond .lt 23, 3) := by decide +kernel
theorem dR_attribute_19 : decode cR_attribute 19 = .ok (.iload 4, 2) := by decide +kernel
theorem dR_attribute_21 : decode cR_attribute 21 = .ok (.iconst 0, 1) := by decide +kernel
theorem dR_attribute_22 : decode cR_attribute 22 = .ok (.iconst 4, 1) := by decide +kernel
theorem dR_attribute_23 : decode cR_attribute 23 = .ok (.invokestatic 38, 3) := by decide +kernel
theorem dR_attribute_26 : decode cR_attribute 26 = .ok (.ifCond .eq 13, 3) := by decide +kernel
theorem dR_attribute_29 : decode cR_attribute 29 = .ok (.iload 5, 2) := by decide +kernel
theorem dR_attribute_31 : decode cR_attribute 31 = .ok (.iconst 0, 1) := by decide +kernel
theorem dR_attribute_32 : decode cR_attribute 32 = .ok (.iconst 3, 1) := by decide +kernel
theorem dR_attribute_33 : decode cR_attribute 33 = .ok (.invokestatic 38, 3) := by decide +kernel
theorem dR_attribute_36 : decode cR_attribute 36 = .ok (.ifCond .ne 7, 3) := by decide +kernel
theorem dR_attribute_39 : decode cR_attribute 39 = .ok (.iconst 1, 1) := by decide +kernel
theorem dR_attribute_40 : decode cR_attribute 40 = .ok (.goto 4, 3) := by decide +kernel
theorem dR_attribute_43 : decode cR_attribute 43 = .ok (.iconst 0, 1) := by decide +kernel
theorem dR_attribute_44 : decode cR_attribute 44 = .ok (.iconst 0, 1) := by decide +kernel
theorem dR_attribute_45 : decode cR_attribute 45 = .ok (.invokevirtual 42, 3) := by decide +kernel
theorem dR_attribute_48 : decode cR_attribute 48 = .ok (.ifCond .eq 4, 3) := by decide +kernel
theorem dR_attribute_51 : decode cR_attribute 51 = .ok (.return_, 1) := by decide +kernel
theorem dR_attribute_52 : decode cR_attribute 52 = .ok (.aload_n 0, 1) := by decide +kernel
theorem dR_attribute_53 : decode cR_attribute 53 = .ok (.getfield 13, 3) := by decide +kernel
theorem dR_attribute_56 : decode cR_attribute 56 = .ok (.iconst 4, 1) := by decide +kernel
theorem dR_attribute_57 : decode cR_attribute 57 = .ok (.iload_n 1, 1) := by decide +kernel
theorem dR_attribute_58 : decode cR_attribute 58 = .ok (.imul, 1) := by decide +kernel
theorem dR_attribute_59 : decode cR_attribute 59 = .ok (.iload_n 2, 1) := by decide +kernel
theorem dR_attribute_60 : decode cR_attribute 60 = .ok (.iastore, 1) := by decide +kernel
theorem dR_attribute_61 : decode cR_attribute 61 = .ok (.aload_n 0, 1) := by decide +kernel
theorem dR_attribute_62 : decode cR_attribute 62 = .ok (.getfield 13, 3) := by decide +kernel
theorem dR_attribute_65 : decode cR_attribute 65 = .ok (.iconst 4, 1) := by decide +kernel
theorem dR_attribute_66 : decode cR_attribute 66 = .ok (.iload_n 1, 1) := by decide +kernel
theorem dR_attribute_67 : decode cR_attribute 67 = .ok (.imul, 1) := by decide +kernel
theorem dR_attribute_68 : decode cR_attribute 68 = .ok (.iconst 1, 1) := by decide +kernel
theorem dR_attribute_69 : decode cR_attribute 69 = .ok (.iadd, 1) := by decide +kernel
theorem dR_attribute_70 : decode cR_attribute 70 = .ok (.iload_n 3, 1) := by decide +kernel
theorem dR_attribute_71 : decode cR_attribute 71 = .ok (.iastore, 1) := by decide +kernel
theorem dR_attribute_72 : decode cR_attribute 72 = .ok (.aload_n 0, 1) := by decide +kernel
theorem dR_attribute_73 : decode cR_attribute 73 = .ok (.getfield 13, 3) := by decide +kernel
theorem dR_attribute_76 : decode cR_attribute 76 = .ok (.iconst 4, 1) := by decide +kernel
theorem dR_attribute_77 : decode cR_attribute 77 = .ok (.iload_n 1, 1) := by decide +kernel
theorem dR_attribute_78 : decode cR_attribute 78 = .ok (.imul, 1) := by decide +kernel
theorem dR_attribute_79 : decode cR_attribute 79 = .ok (.iconst 2, 1) := by decide +kernel
theorem dR_attribute_80 : decode cR_attribute 80 = .ok (.iadd, 1) := by decide +kernel
theorem dR_attribute_81 : decode cR_attribute 81 = .ok (.iload 4, 2) := by decide +kernel
theorem dR_attribute_83 : decode cR_attribute 83 = .ok (.iastore, 1) := by decide +kernel
theorem dR_attribute_84 : decode cR_attribute 84 = .ok (.aload_n 0, 1) := by decide +kernel
theorem dR_attribute_85 : decode cR_attribute 85 = .ok (.getfield 13, 3) := by decide +kernel
theorem dR_attribute_88 : decode cR_attribute 88 = .ok (.iconst 4, 1) := by decide +kernel
theorem dR_attribute_89 : decode cR_attribute 89 = .ok (.iload_n 1, 1) := by decide +kernel
theorem dR_attribute_90 : decode cR_attribute 90 = .ok (.imul, 1) := by decide +kernel
theorem dR_attribute_91 : decode cR_attribute 91 = .ok (.iconst 3, 1) := by decide +kernel
theorem dR_attribute_92 : decode cR_attribute 92 = .ok (.iadd, 1) := by decide +kernel
theorem dR_attribute_93 : decode cR_attribute 93 = .ok (.iload 5, 2) := by decide +kernel
theorem dR_attribute_95 : decode cR_attribute 95 = .ok (.iastore, 1) := by decide +kernel
theorem dR_attribute_96 : decode cR_attribute 96 = .ok (.return_, 1) := by decide +kernel
theorem dR_fetch_0 : decode cR_fetch 0 = .ok (.aload_n 0, 1) := by decide +kernel
theorem dR_fetch_1 : decode cR_fetch 1 = .ok (.iload_n 1, 1) := by decide +kernel
theorem dR_fetch_2 : decode cR_fetch 2 = .ok (.iconst 0, 1) := by decide +kernel
theorem dR_fetch_3 : decode cR_fetch 3 = .ok (.bipush 7, 2) := by decide +kernel
theorem dR_fetch_5 : decode cR_fetch 5 = .ok (.invokestatic 38, 3) := by decide +kernel
theorem dR_fetch_8 : decode cR_fetch 8 = .ok (.ifCond .eq 16, 3) := by decide +kernel
theorem dR_fetch_11 : decode cR_fetch 11 = .ok (.iload_n 3, 1) := by decide +kernel
theorem dR_fetch_12 : decode cR_fetch 12 = .ok (.iconst 0, 1) := by decide +kernel
theorem dR_fetch_13 : decode cR_fetch 13 = .ok (.iconst 3, 1) := by decide +kernel
theorem dR_fetch_14 : decode cR_fetch 14 = .ok (.invokestatic 38, 3) := by decide +kernel
theorem dR_fetch_17 : decode cR_fetch 17 = .ok (.ifCond .eq 7, 3) := by decide +kernel
theorem dR_fetch_20 : decode cR_fetch 20 = .ok (.iload_n 2, 1) := by decide +kernel
theorem dR_fetch_21 : decode cR_fetch 21 = .ok (.ifCond .ge 7, 3) := by decide +kernel
theorem dR_fetch_24 : decode cR_fetch 24 = .ok (.iconst 1, 1) := by decide +kernel
theorem dR_fetch_25 : decode cR_fetch 25 = .ok (.goto 4, 3) := by decide +kernel
theorem dR_fetch_28 : decode cR_fetch 28 = .ok (.iconst 0, 1) := by decide +kernel
theorem dR_fetch_29 : decode cR_fetch 29 = .ok (.iconst 0, 1) := by decide +kernel
theorem dR_fetch_30 : decode cR_fetch 30 = .ok (.invokevirtual 42, 3) := by decide +kernel
theorem dR_fetch_33 : decode cR_fetch 33 = .ok (.ifCond .eq 5, 3) := by decide +kernel
theorem dR_fetch_36 : decode cR_fetch 36 = .ok (.iconst 0, 1) := by decide +kernel
theorem dR_fetch_37 : decode cR_fetch 37 = .ok (.ireturn, 1) := by decide +kernel
theorem dR_fetch_38 : decode cR_fetch 38 = .ok (.iload_n 3, 1) := by decide +kernel
theorem dR_fetch_39 : decode cR_fetch 39 = .ok (.aload_n 0, 1) := by decide +kernel
theorem dR_fetch_40 : decode cR_fetch 40 = .ok (.getfield 13, 3) := by decide +kernel
theorem dR_fetch_43 : decode cR_fetch 43 = .ok (.iconst 4, 1) := by decide +kernel
theorem dR_fetch_44 : decode cR_fetch 44 = .ok (.iload_n 1, 1) := by decide +kernel
theorem dR_fetch_45 : decode cR_fetch 45 = .ok (.imul, 1) := by decide +kernel
theorem dR_fetch_46 : decode cR_fetch 46 = .ok (.iconst 2, 1) := by decide +kernel
theorem dR_fetch_47 : decode cR_fetch 47 = .ok (.iadd, 1) := by decide +kernel
theorem dR_fetch_48 : decode cR_fetch 48 = .ok (.iaload, 1) := by decide +kernel
theorem dR_fetch_49 : decode cR_fetch 49 = .ok (.if_icmp .lt 15, 3) := by decide +kernel
theorem dR_fetch_52 : decode cR_fetch 52 = .ok (.iload_n 3, 1) := by decide +kernel
theorem dR_fetch_53 : decode cR_fetch 53 = .ok (.iconst 3, 1) := by decide +kernel
theorem dR_fetch_54 : decode cR_fetch 54 = .ok (.if_icmp .ne 8, 3) := by decide +kernel
theorem dR_fetch_57 : decode cR_fetch 57 = .ok (.ldc 51, 2) := by decide +kernel
theorem dR_fetch_59 : decode cR_fetch 59 = .ok (.goto 4, 3) := by decide +kernel
theorem dR_fetch_62 : decode cR_fetch 62 = .ok (.iconst 0, 1) := by decide +kernel
theorem dR_fetch_63 : decode cR_fetch 63 = .ok (.ireturn, 1) := by decide +kernel
theorem dR_fetch_64 : decode cR_fetch 64 = .ok (.aload_n 0, 1) := by decide +kernel
theorem dR_fetch_65 : decode cR_fetch 65 = .ok (.getfield 13, 3) := by decide +kernel
theorem dR_fetch_68 : decode cR_fetch 68 = .ok (.iconst 4, 1) := by decide +kernel
theorem dR_fetch_69 : decode cR_fetch 69 = .ok (.iload_n 1, 1) := by decide +kernel
theorem dR_fetch_70 : decode cR_fetch 70 = .ok (.imul, 1) := by decide +kernel
theorem dR_fetch_71 : decode cR_fetch 71 = .ok (.iaload, 1) := by decide +kernel
theorem dR_fetch_72 : decode cR_fetch 72 = .ok (.i2l, 1) := by decide +kernel
theorem dR_fetch_73 : decode cR_fetch 73 = .ok (.iload_n 2, 1) := by decide +kernel
theorem dR_fetch_74 : decode cR_fetch 74 = .ok (.i2l, 1) := by decide +kernel
theorem dR_fetch_75 : decode cR_fetch 75 = .ok (.aload_n 0, 1) := by decide +kernel
theorem dR_fetch_76 : decode cR_fetch 76 = .ok (.getfield 13, 3) := by decide +kernel
theorem dR_fetch_79 : decode cR_fetch 79 = .ok (.iconst 4, 1) := by decide +kernel
theorem dR_fetch_80 : decode cR_fetch 80 = .ok (.iload_n 1, 1) := by decide +kernel
theorem dR_fetch_81 : decode cR_fetch 81 = .ok (.imul, 1) := by decide +kernel
theorem dR_fetch_82 : decode cR_fetch 82 = .ok (.iconst 1, 1) := by decide +kernel
theorem dR_fetch_83 : decode cR_fetch 83 = .ok (.iadd, 1) := by decide +kernel
theorem dR_fetch_84 : decode cR_fetch 84 = .ok (.iaload, 1) := by decide +kernel
theorem dR_fetch_85 : decode cR_fetch 85 = .ok (.i2l, 1) := by decide +kernel
theorem dR_fetch_86 : decode cR_fetch 86 = .ok (.lmul, 1) := by decide +kernel
theorem dR_fetch_87 : decode cR_fetch 87 = .ok (.ladd, 1) := by decide +kernel
theorem dR_fetch_88 : decode cR_fetch 88 = .ok (.lstore 4, 2) := by decide +kernel
theorem dR_fetch_90 : decode cR_fetch 90 = .ok (.aload_n 0, 1) := by decide +kernel
theorem dR_fetch_91 : decode cR_fetch 91 = .ok (.getfield 13, 3) := by decide +kernel
theorem dR_fetch_94 : decode cR_fetch 94 = .ok (.iconst 4, 1) := by decide +kernel
theorem dR_fetch_95 : decode cR_fetch 95 = .ok (.iload_n 1, 1) := by decide +kernel
theorem dR_fetch_96 : decode cR_fetch 96 = .ok (.imul, 1) := by decide +kernel
theorem dR_fetch_97 : decode cR_fetch 97 = .ok (.iconst 3, 1) := by decide +kernel
theorem dR_fetch_98 : decode cR_fetch 98 = .ok (.iadd, 1) := by decide +kernel
theorem dR_fetch_99 : decode cR_fetch 99 = .ok (.iaload, 1) := by decide +kernel
theorem dR_fetch_100 : decode cR_fetch 100 = .ok (.tableswitch 95 0 2 #[28, 38, 56], 28) := by decide +kernel
theorem dR_fetch_128 : decode cR_fetch 128 = .ok (.aload_n 0, 1) := by decide +kernel
theorem dR_fetch_129 : decode cR_fetch 129 = .ok (.lload 4, 2) := by decide +kernel
theorem dR_fetch_131 : decode cR_fetch 131 = .ok (.iload_n 3, 1) := by decide +kernel
theorem dR_fetch_132 : decode cR_fetch 132 = .ok (.i2l, 1) := by decide +kernel
theorem dR_fetch_133 : decode cR_fetch 133 = .ok (.ladd, 1) := by decide +kernel
theorem dR_fetch_134 : decode cR_fetch 134 = .ok (.invokevirtual 46, 3) := by decide +kernel
theorem dR_fetch_137 : decode cR_fetch 137 = .ok (.ireturn, 1) := by decide +kernel
theorem dR_fetch_138 : decode cR_fetch 138 = .ok (.ldc 51, 2) := by decide +kernel
theorem dR_fetch_140 : decode cR_fetch 140 = .ok (.aload_n 0, 1) := by decide +kernel
theorem dR_fetch_141 : decode cR_fetch 141 = .ok (.lload 4, 2) := by decide +kernel
theorem dR_fetch_143 : decode cR_fetch 143 = .ok (.iload_n 3, 1) := by decide +kernel
theorem dR_fetch_144 : decode cR_fetch 144 = .ok (.invokevirtual 52, 3) := by decide +kernel
theorem dR_fetch_147 : decode cR_fetch 147 = .ok (.imul, 1) := by decide +kernel
theorem dR_fetch_148 : decode cR_fetch 148 = .ok (.bipush 127, 2) := by decide +kernel
theorem dR_fetch_150 : decode cR_fetch 150 = .ok (.iadd, 1) := by decide +kernel
theorem dR_fetch_151 : decode cR_fetch 151 = .ok (.sipush 255, 3) := by decide +kernel
theorem dR_fetch_154 : decode cR_fetch 154 = .ok (.idiv, 1) := by decide +kernel
theorem dR_fetch_155 : decode cR_fetch 155 = .ok (.ireturn, 1) := by decide +kernel
theorem dR_fetch_156 : decode cR_fetch 156 = .ok (.aload_n 0, 1) := by decide +kernel
theorem dR_fetch_157 : decode cR_fetch 157 = .ok (.lload 4, 2) := by decide +kernel
theorem dR_fetch_159 : decode cR_fetch 159 = .ok (.iload_n 3, 1) := by decide +kernel
theorem dR_fetch_160 : decode cR_fetch 160 = .ok (.iconst 2, 1) := by decide +kernel
theorem dR_fetch_161 : decode cR_fetch 161 = .ok (.idiv, 1) := by decide +kernel
theorem dR_fetch_162 : decode cR_fetch 162 = .ok (.i2l, 1) := by decide +kernel
theorem dR_fetch_163 : decode cR_fetch 163 = .ok (.ladd, 1) := by decide +kernel
theorem dR_fetch_164 : decode cR_fetch 164 = .ok (.iload_n 3, 1) := by decide +kernel
theorem dR_fetch_165 : decode cR_fetch 165 = .ok (.iconst 2, 1) := by decide +kernel
theorem dR_fetch_166 : decode cR_fetch 166 = .ok (.irem, 1) := by decide +kernel
theorem dR_fetch_167 : decode cR_fetch 167 = .ok (.invokevirtual 56, 3) := by decide +kernel
theorem dR_fetch_170 : decode cR_fetch 170 = .ok (.istore 6, 2) := by decide +kernel
theorem dR_fetch_172 : decode cR_fetch 172 = .ok (.sipush 256, 3) := by decide +kernel
theorem dR_fetch_175 : decode cR_fetch 175 = .ok (.iload 6, 2) := by decide +kernel
theorem dR_fetch_177 : decode cR_fetch 177 = .ok (.sipush 32767, 3) := by decide +kernel
theorem dR_fetch_180 : decode cR_fetch 180 = .ok (.if_icmp .le 11, 3) := by decide +kernel
theorem dR_fetch_183 : decode cR_fetch 183 = .ok (.iload 6, 2) := by decide +kernel
theorem dR_fetch_185 : decode cR_fetch 185 = .ok (.ldc 51, 2) := by decide +kernel
theorem dR_fetch_187 : decode cR_fetch 187 = .ok (.isub, 1) := by decide +kernel
theorem dR_fetch_188 : decode cR_fetch 188 = .ok (.goto 5, 3) := by decide +kernel
theorem dR_fetch_191 : decode cR_fetch 191 = .ok (.iload 6, 2) := by decide +kernel
theorem dR_fetch_193 : decode cR_fetch 193 = .ok (.imul, 1) := by decide +kernel
theorem dR_fetch_194 : decode cR_fetch 194 = .ok (.ireturn, 1) := by decide +kernel
theorem dR_fetch_195 : decode cR_fetch 195 = .ok (.aload_n 0, 1) := by decide +kernel
theorem dR_fetch_196 : decode cR_fetch 196 = .ok (.lload 4, 2) := by decide +kernel
theorem dR_fetch_198 : decode cR_fetch 198 = .ok (.iload_n 3, 1) := by decide +kernel
theorem dR_fetch_199 : decode cR_fetch 199 = .ok (.invokevirtual 52, 3) := by decide +kernel
theorem dR_fetch_202 : decode cR_fetch 202 = .ok (.istore 7, 2) := by decide +kernel
theorem dR_fetch_204 : decode cR_fetch 204 = .ok (.ldc 51, 2) := by decide +kernel
theorem dR_fetch_206 : decode cR_fetch 206 = .ok (.iload 7, 2) := by decide +kernel
theorem dR_fetch_208 : decode cR_fetch 208 = .ok (.bipush 127, 2) := by decide +kernel
theorem dR_fetch_210 : decode cR_fetch 210 = .ok (.if_icmp .le 12, 3) := by decide +kernel
theorem dR_fetch_213 : decode cR_fetch 213 = .ok (.iload 7, 2) := by decide +kernel
theorem dR_fetch_215 : decode cR_fetch 215 = .ok (.sipush 256, 3) := by decide +kernel
theorem dR_fetch_218 : decode cR_fetch 218 = .ok (.isub, 1) := by decide +kernel
theorem dR_fetch_219 : decode cR_fetch 219 = .ok (.goto 5, 3) := by decide +kernel
theorem dR_fetch_222 : decode cR_fetch 222 = .ok (.iload 7, 2) := by decide +kernel
theorem dR_fetch_224 : decode cR_fetch 224 = .ok (.imul, 1) := by decide +kernel
theorem dR_fetch_225 : decode cR_fetch 225 = .ok (.ireturn, 1) := by decide +kernel
theorem dR_wordAt_0 : decode cR_wordAt 0 = .ok (.lload_n 1, 1) := by decide +kernel
theorem dR_wordAt_1 : decode cR_wordAt 1 = .ok (.lconst 0, 1) := by decide +kernel
theorem dR_wordAt_2 : decode cR_wordAt 2 = .ok (.lcmp, 1) := by decide +kernel
theorem dR_wordAt_3 : decode cR_wordAt 3 = .ok (.ifCond .lt 11, 3) := by decide +kernel
theorem dR_wordAt_6 : decode cR_wordAt 6 = .ok (.lload_n 1, 1) := by decide +kernel
theorem dR_wordAt_7 : decode cR_wordAt 7 = .ok (.ldc2_w 36, 3) := by decide +kernel
theorem dR_wordAt_10 : decode cR_wordAt 10 = .ok (.lcmp, 1) := by decide +kernel
theorem dR_wordAt_11 : decode cR_wordAt 11 = .ok (.ifCond .le 7, 3) := by decide +kernel
theorem dR_wordAt_14 : decode cR_wordAt 14 = .ok (.iconst 0, 1) := by decide +kernel
theorem dR_wordAt_15 : decode cR_wordAt 15 = .ok (.goto 10, 3) := by decide +kernel
theorem dR_wordAt_18 : decode cR_wordAt 18 = .ok (.aload_n 0, 1) := by decide +kernel
theorem dR_wordAt_19 : decode cR_wordAt 19 = .ok (.getfield 7, 3) := by decide +kernel
theorem dR_wordAt_22 : decode cR_wordAt 22 = .ok (.lload_n 1, 1) := by decide +kernel
theorem dR_wordAt_23 : decode cR_wordAt 23 = .ok (.l2i, 1) := by decide +kernel
theorem dR_wordAt_24 : decode cR_wordAt 24 = .ok (.iaload, 1) := by decide +kernel
theorem dR_wordAt_25 : decode cR_wordAt 25 = .ok (.ireturn, 1) := by decide +kernel
theorem dR_byteAt_0 : decode cR_byteAt 0 = .ok (.aload_n 0, 1) := by decide +kernel
theorem dR_byteAt_1 : decode cR_byteAt 1 = .ok (.lload_n 1, 1) := by decide +kernel
theorem dR_byteAt_2 : decode cR_byteAt 2 = .ok (.invokevirtual 46, 3) := by decide +kernel
theorem dR_byteAt_5 : decode cR_byteAt 5 = .ok (.bipush 8, 2) := by decide +kernel
theorem dR_byteAt_7 : decode cR_byteAt 7 = .ok (.iload_n 3, 1) := by decide +kernel
theorem dR_byteAt_8 : decode cR_byteAt 8 = .ok (.imul, 1) := by decide +kernel
theorem dR_byteAt_9 : decode cR_byteAt 9 = .ok (.ishr, 1) := by decide +kernel
theorem dR_byteAt_10 : decode cR_byteAt 10 = .ok (.sipush 255, 3) := by decide +kernel
theorem dR_byteAt_13 : decode cR_byteAt 13 = .ok (.iand, 1) := by decide +kernel
theorem dR_byteAt_14 : decode cR_byteAt 14 = .ok (.ireturn, 1) := by decide +kernel
theorem dR_halfAt_0 : decode cR_halfAt 0 = .ok (.aload_n 0, 1) := by decide +kernel
theorem dR_halfAt_1 : decode cR_halfAt 1 = .ok (.lload_n 1, 1) := by decide +kernel
theorem dR_halfAt_2 : decode cR_halfAt 2 = .ok (.invokevirtual 46, 3) := by decide +kernel
theorem dR_halfAt_5 : decode cR_halfAt 5 = .ok (.bipush 16, 2) := by decide +kernel
theorem dR_halfAt_7 : decode cR_halfAt 7 = .ok (.iload_n 3, 1) := by decide +kernel
theorem dR_halfAt_8 : decode cR_halfAt 8 = .ok (.imul, 1) := by decide +kernel
theorem dR_halfAt_9 : decode cR_halfAt 9 = .ok (.ishr, 1) := by decide +kernel
theorem dR_halfAt_10 : decode cR_halfAt 10 = .ok (.ldc 50, 2) := by decide +kernel
theorem dR_halfAt_12 : decode cR_halfAt 12 = .ok (.iand, 1) := by decide +kernel
theorem dR_halfAt_13 : decode cR_halfAt 13 = .ok (.ireturn, 1) := by decide +kernel
theorem dR_index_0 : decode cR_index 0 = .ok (.aload_n 0, 1) := by decide +kernel
theorem dR_index_1 : decode cR_index 1 = .ok (.iload_n 2, 1) := by decide +kernel
theorem dR_index_2 : decode cR_index 2 = .ok (.ifCond .lt 16, 3) := by decide +kernel
theorem dR_index_5 : decode cR_index 5 = .ok (.iload_n 3, 1) := by decide +kernel
theorem dR_index_6 : decode cR_index 6 = .ok (.ifCond .lt 12, 3) := by decide +kernel
theorem dR_index_9 : decode cR_index 9 = .ok (.iload_n 1, 1) := by decide +kernel
theorem dR_index_10 : decode cR_index 10 = .ok (.iconst 0, 1) := by decide +kernel
theorem dR_index_11 : decode cR_index 11 = .ok (.iconst 2, 1) := by decide +kernel
theorem dR_index_12 : decode cR_index 12 = .ok (.invokestatic 38, 3) := by decide +kernel
theorem dR_index_15 : decode cR_index 15 = .ok (.ifCond .ne 7, 3) := by decide +kernel
theorem dR_index_18 : decode cR_index 18 = .ok (.iconst 1, 1) := by decide +kernel
theorem dR_index_19 : decode cR_index 19 = .ok (.goto 4, 3) := by decide +kernel
theorem dR_index_22 : decode cR_index 22 = .ok (.iconst 0, 1) := by decide +kernel
theorem dR_index_23 : decode cR_index 23 = .ok (.iconst 0, 1) := by decide +kernel
theorem dR_index_24 : decode cR_index 24 = .ok (.invokevirtual 42, 3) := by decide +kernel
theorem dR_index_27 : decode cR_index 27 = .ok (.ifCond .eq 5, 3) := by decide +kernel
theorem dR_index_30 : decode cR_index 30 = .ok (.iconst 0, 1) := by decide +kernel
theorem dR_index_31 : decode cR_index 31 = .ok (.ireturn, 1) := by decide +kernel
theorem dR_index_32 : decode cR_index 32 = .ok (.iload_n 2, 1) := by decide +kernel
theorem dR_index_33 : decode cR_index 33 = .ok (.i2l, 1) := by decide +kernel
theorem dR_index_34 : decode cR_index 34 = .ok (.lstore 4, 2) := by decide +kernel
theorem dR_index_36 : decode cR_index 36 = .ok (.iload_n 1, 1) := by decide +kernel
theorem dR_index_37 : decode cR_index 37 = .ok (.ifCond .ne 15, 3) := by decide +kernel
theorem dR_index_40 : decode cR_index 40 = .ok (.aload_n 0, 1) := by decide +kernel
theorem dR_index_41 : decode cR_index 41 = .ok (.lload 4, 2) := by decide +kernel
theorem dR_index_43 : decode cR_index 43 = .ok (.iload_n 3, 1) := by decide +kernel
theorem dR_index_44 : decode cR_index 44 = .ok (.i2l, 1) := by decide +kernel
theorem dR_index_45 : decode cR_index 45 = .ok (.ladd, 1) := by decide +kernel
theorem dR_index_46 : decode cR_index 46 = .ok (.invokevirtual 46, 3) := by decide +kernel
theorem dR_index_49 : decode cR_index 49 = .ok (.goto 39, 3) := by decide +kernel
theorem dR_index_52 : decode cR_index 52 = .ok (.iload_n 1, 1) := by decide +kernel
theorem dR_index_53 : decode cR_index 53 = .ok (.iconst 1, 1) := by decide +kernel
theorem dR_index_54 : decode cR_index 54 = .ok (.if_icmp .ne 20, 3) := by decide +kernel
theorem dR_index_57 : decode cR_index 57 = .ok (.aload_n 0, 1) := by decide +kernel
theorem dR_index_58 : decode cR_index 58 = .ok (.lload 4, 2) := by decide +kernel
theorem dR_index_60 : decode cR_index 60 = .ok (.iload_n 3, 1) := by decide +kernel
theorem dR_index_61 : decode cR_index 61 = .ok (.iconst 2, 1) := by decide +kernel
theorem dR_index_62 : decode cR_index 62 = .ok (.idiv, 1) := by decide +kernel
theorem dR_index_63 : decode cR_index 63 = .ok (.i2l, 1) := by decide +kernel
theorem dR_index_64 : decode cR_index 64 = .ok (.ladd, 1) := by decide +kernel
theorem dR_index_65 : decode cR_index 65 = .ok (.iload_n 3, 1) := by decide +kernel
theorem dR_index_66 : decode cR_index 66 = .ok (.iconst 2, 1) := by decide +kernel
theorem dR_index_67 : decode cR_index 67 = .ok (.irem, 1) := by decide +kernel
theorem dR_index_68 : decode cR_index 68 = .ok (.invokevirtual 56, 3) := by decide +kernel
theorem dR_index_71 : decode cR_index 71 = .ok (.goto 17, 3) := by decide +kernel
theorem dR_index_74 : decode cR_index 74 = .ok (.aload_n 0, 1) := by decide +kernel
theorem dR_index_75 : decode cR_index 75 = .ok (.lload 4, 2) := by decide +kernel
theorem dR_index_77 : decode cR_index 77 = .ok (.iload_n 3, 1) := by decide +kernel
theorem dR_index_78 : decode cR_index 78 = .ok (.iconst 4, 1) := by decide +kernel
theorem dR_index_79 : decode cR_index 79 = .ok (.idiv, 1) := by decide +kernel
theorem dR_index_80 : decode cR_index 80 = .ok (.i2l, 1) := by decide +kernel
theorem dR_index_81 : decode cR_index 81 = .ok (.ladd, 1) := by decide +kernel
theorem dR_index_82 : decode cR_index 82 = .ok (.iload_n 3, 1) := by decide +kernel
theorem dR_index_83 : decode cR_index 83 = .ok (.iconst 4, 1) := by decide +kernel
theorem dR_index_84 : decode cR_index 84 = .ok (.irem, 1) := by decide +kernel
theorem dR_index_85 : decode cR_index 85 = .ok (.invokevirtual 52, 3) := by decide +kernel
theorem dR_index_88 : decode cR_index 88 = .ok (.ireturn, 1) := by decide +kernel
theorem dR_triangles_0 : decode cR_triangles 0 = .ok (.aload_n 0, 1) := by decide +kernel
theorem dR_triangles_1 : decode cR_triangles 1 = .ok (.iload_n 1, 1) := by decide +kernel
theorem dR_triangles_2 : decode cR_triangles 2 = .ok (.iconst 0, 1) := by decide +kernel
theorem dR_triangles_3 : decode cR_triangles 3 = .ok (.iconst 2, 1) := by decide +kernel
theorem dR_triangles_4 : decode cR_triangles 4 = .ok (.invokestatic 38, 3) := by decide +kernel
theorem dR_triangles_7 : decode cR_triangles 7 = .ok (.ifCond .eq 7, 3) := by decide +kernel
theorem dR_triangles_10 : decode cR_triangles 10 = .ok (.iload_n 2, 1) := by decide +kernel
theorem dR_triangles_11 : decode cR_triangles 11 = .ok (.ifCond .ge 7, 3) := by decide +kernel
theorem dR_triangles_14 : decode cR_triangles 14 = .ok (.iconst 1, 1) := by decide +kernel
theorem dR_triangles_15 : decode cR_triangles 15 = .ok (.goto 4, 3) := by decide +kernel
theorem dR_triangles_18 : decode cR_triangles 18 = .ok (.iconst 0, 1) := by decide +kernel
theorem dR_triangles_19 : decode cR_triangles 19 = .ok (.iconst 0, 1) := by decide +kernel
theorem dR_triangles_20 : decode cR_triangles 20 = .ok (.invokevirtual 42, 3) := by decide +kernel
theorem dR_triangles_23 : decode cR_triangles 23 = .ok (.ifCond .eq 5, 3) := by decide +kernel
theorem dR_triangles_26 : decode cR_triangles 26 = .ok (.iconst 0, 1) := by decide +kernel
theorem dR_triangles_27 : decode cR_triangles 27 = .ok (.ireturn, 1) := by decide +kernel
theorem dR_triangles_28 : decode cR_triangles 28 = .ok (.iload_n 1, 1) := by decide +kernel
theorem dR_triangles_29 : decode cR_triangles 29 = .ok (.ifCond .ne 9, 3) := by decide +kernel
theorem dR_triangles_32 : decode cR_triangles 32 = .ok (.iload_n 2, 1) := by decide +kernel
theorem dR_triangles_33 : decode cR_triangles 33 = .ok (.iconst 3, 1) := by decide +kernel
theorem dR_triangles_34 : decode cR_triangles 34 = .ok (.idiv, 1) := by decide +kernel
theorem dR_triangles_35 : decode cR_triangles 35 = .ok (.goto 15, 3) := by decide +kernel
theorem dR_triangles_38 : decode cR_triangles 38 = .ok (.iload_n 2, 1) := by decide +kernel
theorem dR_triangles_39 : decode cR_triangles 39 = .ok (.iconst 3, 1) := by decide +kernel
theorem dR_triangles_40 : decode cR_triangles 40 = .ok (.if_icmp .ge 7, 3) := by decide +kernel
theorem dR_triangles_43 : decode cR_triangles 43 = .ok (.iconst 0, 1) := by decide +kernel
theorem dR_triangles_44 : decode cR_triangles 44 = .ok (.goto 6, 3) := by decide +kernel
theorem dR_triangles_47 : decode cR_triangles 47 = .ok (.iload_n 2, 1) := by decide +kernel
theorem dR_triangles_48 : decode cR_triangles 48 = .ok (.iconst 2, 1) := by decide +kernel
theorem dR_triangles_49 : decode cR_triangles 49 = .ok (.isub, 1) := by decide +kernel
theorem dR_triangles_50 : decode cR_triangles 50 = .ok (.ireturn, 1) := by decide +kernel
theorem dR_corner_0 : decode cR_corner 0 = .ok (.aload_n 0, 1) := by decide +kernel
theorem dR_corner_1 : decode cR_corner 1 = .ok (.iload_n 1, 1) := by decide +kernel
theorem dR_corner_2 : decode cR_corner 2 = .ok (.iconst 0, 1) := by decide +kernel
theorem dR_corner_3 : decode cR_corner 3 = .ok (.iconst 2, 1) := by decide +kernel
theorem dR_corner_4 : decode cR_corner 4 = .ok (.invokestatic 38, 3) := by decide +kernel
theorem dR_corner_7 : decode cR_corner 7 = .ok (.ifCond .eq 22, 3) := by decide +kernel
theorem dR_corner_10 : decode cR_corner 10 = .ok (.iload_n 2, 1) := by decide +kernel
theorem dR_corner_11 : decode cR_corner 11 = .ok (.iconst 0, 1) := by decide +kernel
theorem dR_corner_12 : decode cR_corner 12 = .ok (.ldc 59, 2) := by decide +kernel
theorem dR_corner_14 : decode cR_corner 14 = .ok (.invokestatic 38, 3) := by decide +kernel
theorem dR_corner_17 : decode cR_corner 17 = .ok (.ifCond .eq 12, 3) := by decide +kernel
theorem dR_corner_20 : decode cR_corner 20 = .ok (.iload_n 3, 1) := by decide +kernel
theorem dR_corner_21 : decode cR_corner 21 = .ok (.iconst 0, 1) := by decide +kernel
theorem dR_corner_22 : decode cR_corner 22 = .ok (.iconst 2, 1) := by decide +kernel
theorem dR_corner_23 : decode cR_corner 23 = .ok (.invokestatic 38, 3) := by decide +kernel
theorem dR_corner_26 : decode cR_corner 26 = .ok (.ifCond .ne 7, 3) := by decide +kernel
theorem dR_corner_29 : decode cR_corner 29 = .ok (.iconst 1, 1) := by decide +kernel
theorem dR_corner_30 : decode cR_corner 30 = .ok (.goto 4, 3) := by decide +kernel
theorem dR_corner_33 : decode cR_corner 33 = .ok (.iconst 0, 1) := by decide +kernel
theorem dR_corner_34 : decode cR_corner 34 = .ok (.iconst 0, 1) := by decide +kernel
theorem dR_corner_35 : decode cR_corner 35 = .ok (.invokevirtual 42, 3) := by decide +kernel
theorem dR_corner_38 : decode cR_corner 38 = .ok (.ifCond .eq 5, 3) := by decide +kernel
theorem dR_corner_41 : decode cR_corner 41 = .ok (.iconst 0, 1) := by decide +kernel
theorem dR_corner_42 : decode cR_corner 42 = .ok (.ireturn, 1) := by decide +kernel
theorem dR_corner_43 : decode cR_corner 43 = .ok (.iload_n 1, 1) := by decide +kernel
theorem dR_corner_44 : decode cR_corner 44 = .ok (.ifCond .ne 9, 3) := by decide +kernel
theorem dR_corner_47 : decode cR_corner 47 = .ok (.iconst 3, 1) := by decide +kernel
theorem dR_corner_48 : decode cR_corner 48 = .ok (.iload_n 2, 1) := by decide +kernel
theorem dR_corner_49 : decode cR_corner 49 = .ok (.imul, 1) := by decide +kernel
theorem dR_corner_50 : decode cR_corner 50 = .ok (.iload_n 3, 1) := by decide +kernel
theorem dR_corner_51 : decode cR_corner 51 = .ok (.iadd, 1) := by decide +kernel
theorem dR_corner_52 : decode cR_corner 52 = .ok (.ireturn, 1) := by decide +kernel
theorem dR_corner_53 : decode cR_corner 53 = .ok (.iload_n 1, 1) := by decide +kernel
theorem dR_corner_54 : decode cR_corner 54 = .ok (.iconst 2, 1) := by decide +kernel
theorem dR_corner_55 : decode cR_corner 55 = .ok (.if_icmp .ne 15, 3) := by decide +kernel
theorem dR_corner_58 : decode cR_corner 58 = .ok (.iload_n 3, 1) := by decide +kernel
theorem dR_corner_59 : decode cR_corner 59 = .ok (.ifCond .ne 7, 3) := by decide +kernel
theorem dR_corner_62 : decode cR_corner 62 = .ok (.iconst 0, 1) := by decide +kernel
theorem dR_corner_63 : decode cR_corner 63 = .ok (.goto 6, 3) := by decide +kernel
theorem dR_corner_66 : decode cR_corner 66 = .ok (.iload_n 2, 1) := by decide +kernel
theorem dR_corner_67 : decode cR_corner 67 = .ok (.iload_n 3, 1) := by decide +kernel
theorem dR_corner_68 : decode cR_corner 68 = .ok (.iadd, 1) := by decide +kernel
theorem dR_corner_69 : decode cR_corner 69 = .ok (.ireturn, 1) := by decide +kernel
theorem dR_corner_70 : decode cR_corner 70 = .ok (.iload_n 2, 1) := by decide +kernel
theorem dR_corner_71 : decode cR_corner 71 = .ok (.iconst 2, 1) := by decide +kernel
theorem dR_corner_72 : decode cR_corner 72 = .ok (.irem, 1) := by decide +kernel
theorem dR_corner_73 : decode cR_corner 73 = .ok (.iconst 1, 1) := by decide +kernel
theorem dR_corner_74 : decode cR_corner 74 = .ok (.if_icmp .ne 12, 3) := by decide +kernel
theorem dR_corner_77 : decode cR_corner 77 = .ok (.iload_n 3, 1) := by decide +kernel
theorem dR_corner_78 : decode cR_corner 78 = .ok (.iconst 2, 1) := by decide +kernel
theorem dR_corner_79 : decode cR_corner 79 = .ok (.if_icmp .ge 7, 3) := by decide +kernel
theorem dR_corner_82 : decode cR_corner 82 = .ok (.iconst 1, 1) := by decide +kernel
theorem dR_corner_83 : decode cR_corner 83 = .ok (.goto 4, 3) := by decide +kernel
theorem dR_corner_86 : decode cR_corner 86 = .ok (.iconst 0, 1) := by decide +kernel
theorem dR_corner_87 : decode cR_corner 87 = .ok (.istore 4, 2) := by decide +kernel
theorem dR_corner_89 : decode cR_corner 89 = .ok (.iload 4, 2) := by decide +kernel
theorem dR_corner_91 : decode cR_corner 91 = .ok (.ifCond .eq 11, 3) := by decide +kernel
theorem dR_corner_94 : decode cR_corner 94 = .ok (.iload_n 2, 1) := by decide +kernel
theorem dR_corner_95 : decode cR_corner 95 = .ok (.iconst 1, 1) := by decide +kernel
theorem dR_corner_96 : decode cR_corner 96 = .ok (.iadd, 1) := by decide +kernel
theorem dR_corner_97 : decode cR_corner 97 = .ok (.iload_n 3, 1) := by decide +kernel
theorem dR_corner_98 : decode cR_corner 98 = .ok (.isub, 1) := by decide +kernel
theorem dR_corner_99 : decode cR_corner 99 = .ok (.goto 6, 3) := by decide +kernel
theorem dR_corner_102 : decode cR_corner 102 = .ok (.iload_n 2, 1) := by decide +kernel
theorem dR_corner_103 : decode cR_corner 103 = .ok (.iload_n 3, 1) := by decide +kernel
theorem dR_corner_104 : decode cR_corner 104 = .ok (.iadd, 1) := by decide +kernel
theorem dR_corner_105 : decode cR_corner 105 = .ok (.ireturn, 1) := by decide +kernel
theorem dR_place_0 : decode cR_place 0 = .ok (.aload_n 0, 1) := by decide +kernel
theorem dR_place_1 : decode cR_place 1 = .ok (.iload_n 1, 1) := by decide +kernel
theorem dR_place_2 : decode cR_place 2 = .ok (.iconst 0, 1) := by decide +kernel
theorem dR_place_3 : decode cR_place 3 = .ok (.iload_n 2, 1) := by decide +kernel
theorem dR_place_4 : decode cR_place 4 = .ok (.iload_n 3, 1) := by decide +kernel
theorem dR_place_5 : decode cR_place 5 = .ok (.iload 4, 2) := by decide +kernel
theorem dR_place_7 : decode cR_place 7 = .ok (.iload 5, 2) := by decide +kernel
theorem dR_place_9 : decode cR_place 9 = .ok (.invokevirtual 60, 3) := by decide +kernel
theorem dR_place_12 : decode cR_place 12 = .ok (.return_, 1) := by decide +kernel
theorem dR_tell_0 : decode cR_tell 0 = .ok (.aload_n 0, 1) := by decide +kernel
theorem dR_tell_1 : decode cR_tell 1 = .ok (.iload_n 1, 1) := by decide +kernel
theorem dR_tell_2 : decode cR_tell 2 = .ok (.iconst 0, 1) := by decide +kernel
theorem dR_tell_3 : decode cR_tell 3 = .ok (.iconst 2, 1) := by decide +kernel
theorem dR_tell_4 : decode cR_tell 4 = .ok (.invokestatic 38, 3) := by decide +kernel
theorem dR_tell_7 : decode cR_tell 7 = .ok (.ifCond .ne 7, 3) := by decide +kernel
theorem dR_tell_10 : decode cR_tell 10 = .ok (.iconst 1, 1) := by decide +kernel
theorem dR_tell_11 : decode cR_tell 11 = .ok (.goto 4, 3) := by decide +kernel
theorem dR_tell_14 : decode cR_tell 14 = .ok (.iconst 0, 1) := by decide +kernel
theorem dR_tell_15 : decode cR_tell 15 = .ok (.iconst 0, 1) := by decide +kernel
theorem dR_tell_16 : decode cR_tell 16 = .ok (.invokevirtual 42, 3) := by decide +kernel
theorem dR_tell_19 : decode cR_tell 19 = .ok (.ifCond .eq 4, 3) := by decide +kernel
theorem dR_tell_22 : decode cR_tell 22 = .ok (.return_, 1) := by decide +kernel
theorem dR_tell_23 : decode cR_tell 23 = .ok (.aload_n 0, 1) := by decide +kernel
theorem dR_tell_24 : decode cR_tell 24 = .ok (.getfield 16, 3) := by decide +kernel
theorem dR_tell_27 : decode cR_tell 27 = .ok (.bipush 32, 2) := by decide +kernel
theorem dR_tell_29 : decode cR_tell 29 = .ok (.iload_n 1, 1) := by decide +kernel
theorem dR_tell_30 : decode cR_tell 30 = .ok (.imul, 1) := by decide +kernel
theorem dR_tell_31 : decode cR_tell 31 = .ok (.iload_n 2, 1) := by decide +kernel
theorem dR_tell_32 : decode cR_tell 32 = .ok (.iadd, 1) := by decide +kernel
theorem dR_tell_33 : decode cR_tell 33 = .ok (.iload_n 3, 1) := by decide +kernel
theorem dR_tell_34 : decode cR_tell 34 = .ok (.iastore, 1) := by decide +kernel
theorem dR_tell_35 : decode cR_tell 35 = .ok (.aload_n 0, 1) := by decide +kernel
theorem dR_tell_36 : decode cR_tell 36 = .ok (.getfield 16, 3) := by decide +kernel
theorem dR_tell_39 : decode cR_tell 39 = .ok (.bipush 32, 2) := by decide +kernel
theorem dR_tell_41 : decode cR_tell 41 = .ok (.iload_n 1, 1) := by decide +kernel
theorem dR_tell_42 : decode cR_tell 42 = .ok (.imul, 1) := by decide +kernel
theorem dR_tell_43 : decode cR_tell 43 = .ok (.iload_n 2, 1) := by decide +kernel
theorem dR_tell_44 : decode cR_tell 44 = .ok (.iadd, 1) := by decide +kernel
theorem dR_tell_45 : decode cR_tell 45 = .ok (.iconst 1, 1) := by decide +kernel
theorem dR_tell_46 : decode cR_tell 46 = .ok (.iadd, 1) := by decide +kernel
theorem dR_tell_47 : decode cR_tell 47 = .ok (.iload 4, 2) := by decide +kernel
theorem dR_tell_49 : decode cR_tell 49 = .ok (.iastore, 1) := by decide +kernel
theorem dR_tell_50 : decode cR_tell 50 = .ok (.aload_n 0, 1) := by decide +kernel
theorem dR_tell_51 : decode cR_tell 51 = .ok (.getfield 16, 3) := by decide +kernel
theorem dR_tell_54 : decode cR_tell 54 = .ok (.bipush 32, 2) := by decide +kernel
theorem dR_tell_56 : decode cR_tell 56 = .ok (.iload_n 1, 1) := by decide +kernel
theorem dR_tell_57 : decode cR_tell 57 = .ok (.imul, 1) := by decide +kernel
theorem dR_tell_58 : decode cR_tell 58 = .ok (.iload_n 2, 1) := by decide +kernel
theorem dR_tell_59 : decode cR_tell 59 = .ok (.iadd, 1) := by decide +kernel
theorem dR_tell_60 : decode cR_tell 60 = .ok (.iconst 2, 1) := by decide +kernel
theorem dR_tell_61 : decode cR_tell 61 = .ok (.iadd, 1) := by decide +kernel
theorem dR_tell_62 : decode cR_tell 62 = .ok (.iload 5, 2) := by decide +kernel
theorem dR_tell_64 : decode cR_tell 64 = .ok (.iastore, 1) := by decide +kernel
theorem dR_tell_65 : decode cR_tell 65 = .ok (.aload_n 0, 1) := by decide +kernel
theorem dR_tell_66 : decode cR_tell 66 = .ok (.getfield 16, 3) := by decide +kernel
theorem dR_tell_69 : decode cR_tell 69 = .ok (.bipush 32, 2) := by decide +kernel
theorem dR_tell_71 : decode cR_tell 71 = .ok (.iload_n 1, 1) := by decide +kernel
theorem dR_tell_72 : decode cR_tell 72 = .ok (.imul, 1) := by decide +kernel
theorem dR_tell_73 : decode cR_tell 73 = .ok (.iload_n 2, 1) := by decide +kernel
theorem dR_tell_74 : decode cR_tell 74 = .ok (.iadd, 1) := by decide +kernel
theorem dR_tell_75 : decode cR_tell 75 = .ok (.iconst 3, 1) := by decide +kernel
theorem dR_tell_76 : decode cR_tell 76 = .ok (.iadd, 1) := by decide +kernel
theorem dR_tell_77 : decode cR_tell 77 = .ok (.iload 6, 2) := by decide +kernel
theorem dR_tell_79 : decode cR_tell 79 = .ok (.iastore, 1) := by decide +kernel
theorem dR_tell_80 : decode cR_tell 80 = .ok (.aload_n 0, 1) := by decide +kernel
theorem dR_tell_81 : decode cR_tell 81 = .ok (.iconst 0, 1) := by decide +kernel
theorem dR_tell_82 : decode cR_tell 82 = .ok (.putfield 64, 3) := by decide +kernel
theorem dR_tell_85 : decode cR_tell 85 = .ok (.return_, 1) := by decide +kernel
theorem dR_vary_0 : decode cR_vary 0 = .ok (.aload_n 0, 1) := by decide +kernel
theorem dR_vary_1 : decode cR_vary 1 = .ok (.iload_n 2, 1) := by decide +kernel
theorem dR_vary_2 : decode cR_vary 2 = .ok (.iconst 0, 1) := by decide +kernel
theorem dR_vary_3 : decode cR_vary 3 = .ok (.bipush 6, 2) := by decide +kernel
theorem dR_vary_5 : decode cR_vary 5 = .ok (.invokestatic 38, 3) := by decide +kernel
theorem dR_vary_8 : decode cR_vary 8 = .ok (.ifCond .ne 7, 3) := by decide +kernel
theorem dR_vary_11 : decode cR_vary 11 = .ok (.iconst 1, 1) := by decide +kernel
theorem dR_vary_12 : decode cR_vary 12 = .ok (.goto 4, 3) := by decide +kernel
theorem dR_vary_15 : decode cR_vary 15 = .ok (.iconst 0, 1) := by decide +kernel
theorem dR_vary_16 : decode cR_vary 16 = .ok (.iconst 0, 1) := by decide +kernel
theorem dR_vary_17 : decode cR_vary 17 = .ok (.invokevirtual 42, 3) := by decide +kernel
theorem dR_vary_20 : decode cR_vary 20 = .ok (.ifCond .ne 20, 3) := by decide +kernel
theorem dR_vary_23 : decode cR_vary 23 = .ok (.aload_n 0, 1) := by decide +kernel
theorem dR_vary_24 : decode cR_vary 24 = .ok (.iload_n 1, 1) := by decide +kernel
theorem dR_vary_25 : decode cR_vary 25 = .ok (.iconst 4, 1) := by decide +kernel
theorem dR_vary_26 : decode cR_vary 26 = .ok (.iconst 4, 1) := by decide +kernel
theorem dR_vary_27 : decode cR_vary 27 = .ok (.iload_n 2, 1) := by decide +kernel
theorem dR_vary_28 : decode cR_vary 28 = .ok (.imul, 1) := by decide +kernel
theorem dR_vary_29 : decode cR_vary 29 = .ok (.iadd, 1) := by decide +kernel
theorem dR_vary_30 : decode cR_vary 30 = .ok (.iload_n 3, 1) := by decide +kernel
theorem dR_vary_31 : decode cR_vary 31 = .ok (.iload 4, 2) := by decide +kernel
theorem dR_vary_33 : decode cR_vary 33 = .ok (.iload 5, 2) := by decide +kernel
theorem dR_vary_35 : decode cR_vary 35 = .ok (.iload 6, 2) := by decide +kernel
theorem dR_vary_37 : decode cR_vary 37 = .ok (.invokevirtual 60, 3) := by decide +kernel
theorem dR_vary_40 : decode cR_vary 40 = .ok (.return_, 1) := by decide +kernel
theorem dR_view_0 : decode cR_view 0 = .ok (.iload_n 1, 1) := by decide +kernel
theorem dR_view_1 : decode cR_view 1 = .ok (.sipush (-1023), 3) := by decide +kernel
theorem dR_view_4 : decode cR_view 4 = .ok (.sipush 1023, 3) := by decide +kernel
theorem dR_view_7 : decode cR_view 7 = .ok (.invokestatic 38, 3) := by decide +kernel
theorem dR_view_10 : decode cR_view 10 = .ok (.ifCond .eq 65, 3) := by decide +kernel
theorem dR_view_13 : decode cR_view 13 = .ok (.iload_n 2, 1) := by decide +kernel
theorem dR_view_14 : decode cR_view 14 = .ok (.sipush (-1023), 3) := by decide +kernel
theorem dR_view_17 : decode cR_view 17 = .ok (.sipush 1023, 3) := by decide +kernel
theorem dR_view_20 : decode cR_view 20 = .ok (.invokestatic 38, 3) := by decide +kernel
theorem dR_view_23 : decode cR_view 23 = .ok (.ifCond .eq 52, 3) := by decide +kernel
theorem dR_view_26 : decode cR_view 26 = .ok (.iload_n 3, 1) := by decide +kernel
theorem dR_view_27 : decode cR_view 27 = .ok (.iconst 1, 1) := by decide +kernel
theorem dR_view_28 : decode cR_view 28 = .ok (.sipush 1024, 3) := by decide +kernel
theorem dR_view_31 : decode cR_view 31 = .ok (.invokestatic 38, 3) := by decide +kernel
theorem dR_view_34 : decode cR_view 34 = .ok (.ifCond .eq 41, 3) := by decide +kernel
theorem dR_view_37 : decode cR_view 37 = .ok (.iload 4, 2) := by decide +kernel
theorem dR_view_39 : decode cR_view 39 = .ok (.iconst 1, 1) := by decide +kernel
theorem dR_view_40 : decode cR_view 40 = .ok (.sipush 1024, 3) := by decide +kernel
theorem dR_view_43 : decode cR_view 43 = .ok (.invokestatic 38, 3) := by decide +kernel
theorem dR_view_46 : decode cR_view 46 = .ok (.ifCond .eq 29, 3) := by decide +kernel
theorem dR_view_49 : decode cR_view 49 = .ok (.iload 5, 2) := by decide +kernel
theorem dR_view_51 : decode cR_view 51 = .ok (.iconst 0, 1) := by decide +kernel
theorem dR_view_52 : decode cR_view 52 = .ok (.ldc 31, 2) := by decide +kernel
theorem dR_view_54 : decode cR_view 54 = .ok (.invokestatic 38, 3) := by decide +kernel
theorem dR_view_57 : decode cR_view 57 = .ok (.ifCond .eq 18, 3) := by decide +kernel
theorem dR_view_60 : decode cR_view 60 = .ok (.iload 6, 2) := by decide +kernel
theorem dR_view_62 : decode cR_view 62 = .ok (.iconst 0, 1) := by decide +kernel
theorem dR_view_63 : decode cR_view 63 = .ok (.ldc 31, 2) := by decide +kernel
theorem dR_view_65 : decode cR_view 65 = .ok (.invokestatic 38, 3) := by decide +kernel
theorem dR_view_68 : decode cR_view 68 = .ok (.ifCond .eq 7, 3) := by decide +kernel
theorem dR_view_71 : decode cR_view 71 = .ok (.iconst 1, 1) := by decide +kernel
theorem dR_view_72 : decode cR_view 72 = .ok (.goto 4, 3) := by decide +kernel
theorem dR_view_75 : decode cR_view 75 = .ok (.iconst 0, 1) := by decide +kernel
theorem dR_view_76 : decode cR_view 76 = .ok (.istore 7, 2) := by decide +kernel
theorem dR_view_78 : decode cR_view 78 = .ok (.aload_n 0, 1) := by decide +kernel
theorem dR_view_79 : decode cR_view 79 = .ok (.iload 7, 2) := by decide +kernel
theorem dR_view_81 : decode cR_view 81 = .ok (.ifCond .ne 7, 3) := by decide +kernel
theorem dR_view_84 : decode cR_view 84 = .ok (.iconst 1, 1) := by decide +kernel
theorem dR_view_85 : decode cR_view 85 = .ok (.goto 4, 3) := by decide +kernel
theorem dR_view_88 : decode cR_view 88 = .ok (.iconst 0, 1) := by decide +kernel
theorem dR_view_89 : decode cR_view 89 = .ok (.iconst 0, 1) := by decide +kernel
theorem dR_view_90 : decode cR_view 90 = .ok (.invokevirtual 42, 3) := by decide +kernel
theorem dR_view_93 : decode cR_view 93 = .ok (.ifCond .eq 4, 3) := by decide +kernel
theorem dR_view_96 : decode cR_view 96 = .ok (.return_, 1) := by decide +kernel
theorem dR_view_97 : decode cR_view 97 = .ok (.aload_n 0, 1) := by decide +kernel
theorem dR_view_98 : decode cR_view 98 = .ok (.getfield 19, 3) := by decide +kernel
theorem dR_view_101 : decode cR_view 101 = .ok (.iconst 0, 1) := by decide +kernel
theorem dR_view_102 : decode cR_view 102 = .ok (.iload_n 1, 1) := by decide +kernel
theorem dR_view_103 : decode cR_view 103 = .ok (.iastore, 1) := by decide +kernel
theorem dR_view_104 : decode cR_view 104 = .ok (.aload_n 0, 1) := by decide +kernel
theorem dR_view_105 : decode cR_view 105 = .ok (.getfield 19, 3) := by decide +kernel
theorem dR_view_108 : decode cR_view 108 = .ok (.iconst 1, 1) := by decide +kernel
theorem dR_view_109 : decode cR_view 109 = .ok (.iload_n 2, 1) := by decide +kernel
theorem dR_view_110 : decode cR_view 110 = .ok (.iastore, 1) := by decide +kernel
theorem dR_view_111 : decode cR_view 111 = .ok (.aload_n 0, 1) := by decide +kernel
theorem dR_view_112 : decode cR_view 112 = .ok (.getfield 19, 3) := by decide +kernel
theorem dR_view_115 : decode cR_view 115 = .ok (.iconst 2, 1) := by decide +kernel
theorem dR_view_116 : decode cR_view 116 = .ok (.iload_n 3, 1) := by decide +kernel
theorem dR_view_117 : decode cR_view 117 = .ok (.iastore, 1) := by decide +kernel
theorem dR_view_118 : decode cR_view 118 = .ok (.aload_n 0, 1) := by decide +kernel
theorem dR_view_119 : decode cR_view 119 = .ok (.getfield 19, 3) := by decide +kernel
theorem dR_view_122 : decode cR_view 122 = .ok (.iconst 3, 1) := by decide +kernel
theorem dR_view_123 : decode cR_view 123 = .ok (.iload 4, 2) := by decide +kernel
theorem dR_view_125 : decode cR_view 125 = .ok (.iastore, 1) := by decide +kernel
theorem dR_view_126 : decode cR_view 126 = .ok (.aload_n 0, 1) := by decide +kernel
theorem dR_view_127 : decode cR_view 127 = .ok (.getfield 19, 3) := by decide +kernel
theorem dR_view_130 : decode cR_view 130 = .ok (.iconst 4, 1) := by decide +kernel
theorem dR_view_131 : decode cR_view 131 = .ok (.iload 5, 2) := by decide +kernel
theorem dR_view_133 : decode cR_view 133 = .ok (.iastore, 1) := by decide +kernel
theorem dR_view_134 : decode cR_view 134 = .ok (.aload_n 0, 1) := by decide +kernel
theorem dR_view_135 : decode cR_view 135 = .ok (.getfield 19, 3) := by decide +kernel
theorem dR_view_138 : decode cR_view 138 = .ok (.iconst 5, 1) := by decide +kernel
theorem dR_view_139 : decode cR_view 139 = .ok (.iload 6, 2) := by decide +kernel
theorem dR_view_141 : decode cR_view 141 = .ok (.iastore, 1) := by decide +kernel
theorem dR_view_142 : decode cR_view 142 = .ok (.aload_n 0, 1) := by decide +kernel
theorem dR_view_143 : decode cR_view 143 = .ok (.iconst 0, 1) := by decide +kernel
theorem dR_view_144 : decode cR_view 144 = .ok (.putfield 64, 3) := by decide +kernel
theorem dR_view_147 : decode cR_view 147 = .ok (.return_, 1) := by decide +kernel
theorem dR_faces_0 : decode cR_faces 0 = .ok (.aload_n 0, 1) := by decide +kernel
theorem dR_faces_1 : decode cR_faces 1 = .ok (.iload_n 1, 1) := by decide +kernel
theorem dR_faces_2 : decode cR_faces 2 = .ok (.iconst 0, 1) := by decide +kernel
theorem dR_faces_3 : decode cR_faces 3 = .ok (.iconst 3, 1) := by decide +kernel
theorem dR_faces_4 : decode cR_faces 4 = .ok (.invokestatic 38, 3) := by decide +kernel
theorem dR_faces_7 : decode cR_faces 7 = .ok (.ifCond .ne 7, 3) := by decide +kernel
theorem dR_faces_10 : decode cR_faces 10 = .ok (.iconst 1, 1) := by decide +kernel
theorem dR_faces_11 : decode cR_faces 11 = .ok (.goto 4, 3) := by decide +kernel
theorem dR_faces_14 : decode cR_faces 14 = .ok (.iconst 0, 1) := by decide +kernel
theorem dR_faces_15 : decode cR_faces 15 = .ok (.iconst 0, 1) := by decide +kernel
theorem dR_faces_16 : decode cR_faces 16 = .ok (.invokevirtual 42, 3) := by decide +kernel
theorem dR_faces_19 : decode cR_faces 19 = .ok (.ifCond .eq 4, 3) := by decide +kernel
theorem dR_faces_22 : decode cR_faces 22 = .ok (.return_, 1) := by decide +kernel
theorem dR_faces_23 : decode cR_faces 23 = .ok (.aload_n 0, 1) := by decide +kernel
theorem dR_faces_24 : decode cR_faces 24 = .ok (.iload_n 1, 1) := by decide +kernel
theorem dR_faces_25 : decode cR_faces 25 = .ok (.putfield 67, 3) := by decide +kernel
theorem dR_faces_28 : decode cR_faces 28 = .ok (.aload_n 0, 1) := by decide +kernel
theorem dR_faces_29 : decode cR_faces 29 = .ok (.iload_n 2, 1) := by decide +kernel
theorem dR_faces_30 : decode cR_faces 30 = .ok (.putfield 70, 3) := by decide +kernel
theorem dR_faces_33 : decode cR_faces 33 = .ok (.aload_n 0, 1) := by decide +kernel
theorem dR_faces_34 : decode cR_faces 34 = .ok (.iconst 0, 1) := by decide +kernel
theorem dR_faces_35 : decode cR_faces 35 = .ok (.putfield 64, 3) := by decide +kernel
theorem dR_faces_38 : decode cR_faces 38 = .ok (.return_, 1) := by decide +kernel
theorem dR_make_0 : decode cR_make 0 = .ok (.aload_n 0, 1) := by decide +kernel
theorem dR_make_1 : decode cR_make 1 = .ok (.iconst 0, 1) := by decide +kernel
theorem dR_make_2 : decode cR_make 2 = .ok (.putfield 32, 3) := by decide +kernel
theorem dR_make_5 : decode cR_make 5 = .ok (.aload_n 0, 1) := by decide +kernel
theorem dR_make_6 : decode cR_make 6 = .ok (.iconst 3, 1) := by decide +kernel
theorem dR_make_7 : decode cR_make 7 = .ok (.putfield 89, 3) := by decide +kernel
theorem dR_make_10 : decode cR_make 10 = .ok (.iconst 0, 1) := by decide +kernel
theorem dR_make_11 : decode cR_make 11 = .ok (.istore_n 1, 1) := by decide +kernel
theorem dR_make_12 : decode cR_make 12 = .ok (.iload_n 1, 1) := by decide +kernel
theorem dR_make_13 : decode cR_make 13 = .ok (.bipush 96, 2) := by decide +kernel
theorem dR_make_15 : decode cR_make 15 = .ok (.if_icmp .ge 21, 3) := by decide +kernel
theorem dR_make_18 : decode cR_make 18 = .ok (.aload_n 0, 1) := by decide +kernel
theorem dR_make_19 : decode cR_make 19 = .ok (.getfield 22, 3) := by decide +kernel
theorem dR_make_22 : decode cR_make 22 = .ok (.iload_n 1, 1) := by decide +kernel
theorem dR_make_23 : decode cR_make 23 = .ok (.aload_n 0, 1) := by decide +kernel
theorem dR_make_24 : decode cR_make 24 = .ok (.getfield 16, 3) := by decide +kernel
theorem dR_make_27 : decode cR_make 27 = .ok (.iload_n 1, 1) := by decide +kernel
theorem dR_make_28 : decode cR_make 28 = .ok (.iaload, 1) := by decide +kernel
theorem dR_make_29 : decode cR_make 29 = .ok (.iastore, 1) := by decide +kernel
theorem dR_make_30 : decode cR_make 30 = .ok (.iinc 1 1, 3) := by decide +kernel
theorem dR_make_33 : decode cR_make 33 = .ok (.goto (-21), 3) := by decide +kernel
theorem dR_make_36 : decode cR_make 36 = .ok (.aload_n 0, 1) := by decide +kernel
theorem dR_make_37 : decode cR_make 37 = .ok (.iconst 0, 1) := by decide +kernel
theorem dR_make_38 : decode cR_make 38 = .ok (.invokevirtual 108, 3) := by decide +kernel
theorem dR_make_41 : decode cR_make 41 = .ok (.aload_n 0, 1) := by decide +kernel
theorem dR_make_42 : decode cR_make 42 = .ok (.iconst 1, 1) := by decide +kernel
theorem dR_make_43 : decode cR_make 43 = .ok (.invokevirtual 108, 3) := by decide +kernel
theorem dR_make_46 : decode cR_make 46 = .ok (.iconst 0, 1) := by decide +kernel
theorem dR_make_47 : decode cR_make 47 = .ok (.istore_n 1, 1) := by decide +kernel
theorem dR_make_48 : decode cR_make 48 = .ok (.iload_n 1, 1) := by decide +kernel
theorem dR_make_49 : decode cR_make 49 = .ok (.aload_n 0, 1) := by decide +kernel
theorem dR_make_50 : decode cR_make 50 = .ok (.getfield 89, 3) := by decide +kernel
theorem dR_make_53 : decode cR_make 53 = .ok (.if_icmp .ge 153, 3) := by decide +kernel
theorem dR_make_56 : decode cR_make 56 = .ok (.aload_n 0, 1) := by decide +kernel
theorem dR_make_57 : decode cR_make 57 = .ok (.getfield 22, 3) := by decide +kernel
theorem dR_make_60 : decode cR_make 60 = .ok (.bipush 32, 2) := by decide +kernel
theorem dR_make_62 : decode cR_make 62 = .ok (.iload_n 1, 1) := by decide +kernel
theorem dR_make_63 : decode cR_make 63 = .ok (.imul, 1) := by decide +kernel
theorem dR_make_64 : decode cR_make 64 = .ok (.iconst 3, 1) := by decide +kernel
theorem dR_make_65 : decode cR_make 65 = .ok (.iadd, 1) := by decide +kernel
theorem dR_make_66 : decode cR_make 66 = .ok (.iaload, 1) := by decide +kernel
theorem dR_make_67 : decode cR_make 67 = .ok (.istore_n 2, 1) := by decide +kernel
theorem dR_make_68 : decode cR_make 68 = .ok (.aload_n 0, 1) := by decide +kernel
theorem dR_make_69 : decode cR_make 69 = .ok (.getfield 28, 3) := by decide +kernel
theorem dR_make_72 : decode cR_make 72 = .ok (.iconst 4, 1) := by decide +kernel
theorem dR_make_73 : decode cR_make 73 = .ok (.iload_n 1, 1) := by decide +kernel
theorem dR_make_74 : decode cR_make 74 = .ok (.imul, 1) := by decide +kernel
theorem dR_make_75 : decode cR_make 75 = .ok (.aload_n 0, 1) := by decide +kernel
theorem dR_make_76 : decode cR_make 76 = .ok (.getfield 22, 3) := by decide +kernel
theorem dR_make_79 : decode cR_make 79 = .ok (.bipush 32, 2) := by decide +kernel
theorem dR_make_81 : decode cR_make 81 = .ok (.iload_n 1, 1) := by decide +kernel
theorem dR_make_82 : decode cR_make 82 = .ok (.imul, 1) := by decide +kernel
theorem dR_make_83 : decode cR_make 83 = .ok (.iaload, 1) := by decide +kernel
theorem dR_make_84 : decode cR_make 84 = .ok (.iload_n 2, 1) := by decide +kernel
theorem dR_make_85 : decode cR_make 85 = .ok (.aload_n 0, 1) := by decide +kernel
theorem dR_make_86 : decode cR_make 86 = .ok (.getfield 19, 3) := by decide +kernel
theorem dR_make_89 : decode cR_make 89 = .ok (.iconst 0, 1) := by decide +kernel
theorem dR_make_90 : decode cR_make 90 = .ok (.iaload, 1) := by decide +kernel
theorem dR_make_91 : decode cR_make 91 = .ok (.aload_n 0, 1) := by decide +kernel
theorem dR_make_92 : decode cR_make 92 = .ok (.getfield 19, 3) := by decide +kernel
theorem dR_make_95 : decode cR_make 95 = .ok (.iconst 2, 1) := by decide +kernel
theorem dR_make_96 : decode cR_make 96 = .ok (.iaload, 1) := by decide +kernel
theorem dR_make_97 : decode cR_make 97 = .ok (.invokestatic 112, 3) := by decide +kernel
theorem dR_make_100 : decode cR_make 100 = .ok (.iastore, 1) := by decide +kernel
theorem dR_make_101 : decode cR_make 101 = .ok (.aload_n 0, 1) := by decide +kernel
theorem dR_make_102 : decode cR_make 102 = .ok (.getfield 28, 3) := by decide +kernel
theorem dR_make_105 : decode cR_make 105 = .ok (.iconst 4, 1) := by decide +kernel
theorem dR_make_106 : decode cR_make 106 = .ok (.iload_n 1, 1) := by decide +kernel
theorem dR_make_107 : decode cR_make 107 = .ok (.imul, 1) := by decide +kernel
theorem dR_make_108 : decode cR_make 108 = .ok (.iconst 1, 1) := by decide +kernel
theorem dR_make_109 : decode cR_make 109 = .ok (.iadd, 1) := by decide +kernel
theorem dR_make_110 : decode cR_make 110 = .ok (.aload_n 0, 1) := by decide +kernel
theorem dR_make_111 : decode cR_make 111 = .ok (.getfield 22, 3) := by decide +kernel
theorem dR_make_114 : decode cR_make 114 = .ok (.bipush 32, 2) := by decide +kernel
theorem dR_make_116 : decode cR_make 116 = .ok (.iload_n 1, 1) := by decide +kernel
theorem dR_make_117 : decode cR_make 117 = .ok (.imul, 1) := by decide +kernel
theorem dR_make_118 : decode cR_make 118 = .ok (.iconst 1, 1) := by decide +kernel
theorem dR_make_119 : decode cR_make 119 = .ok (.iadd, 1) := by decide +kernel
theorem dR_make_120 : decode cR_make 120 = .ok (.iaload, 1) := by decide +kernel
theorem dR_make_121 : decode cR_make 121 = .ok (.iload_n 2, 1) := by decide +kernel
theorem dR_make_122 : decode cR_make 122 = .ok (.aload_n 0, 1) := by decide +kernel
theorem dR_make_123 : decode cR_make 123 = .ok (.getfield 19, 3) := by decide +kernel
theorem dR_make_126 : decode cR_make 126 = .ok (.iconst 1, 1) := by decide +kernel
theorem dR_make_127 : decode cR_make 127 = .ok (.iaload, 1) := by decide +kernel
theorem dR_make_128 : decode cR_make 128 = .ok (.aload_n 0, 1) := by decide +kernel
theorem dR_make_129 : decode cR_make 129 = .ok (.getfield 19, 3) := by decide +kernel
theorem dR_make_132 : decode cR_make 132 = .ok (.iconst 3, 1) := by decide +kernel
theorem dR_make_133 : decode cR_make 133 = .ok (.iaload, 1) := by decide +kernel
theorem dR_make_134 : decode cR_make 134 = .ok (.invokestatic 112, 3) := by decide +kernel
theorem dR_make_137 : decode cR_make 137 = .ok (.iastore, 1) := by decide +kernel
theorem dR_make_138 : decode cR_make 138 = .ok (.aload_n 0, 1) := by decide +kernel
theorem dR_make_139 : decode cR_make 139 = .ok (.getfield 28, 3) := by decide +kernel
theorem dR_make_142 : decode cR_make 142 = .ok (.iconst 4, 1) := by decide +kernel
theorem dR_make_143 : decode cR_make 143 = .ok (.iload_n 1, 1) := by decide +kernel
theorem dR_make_144 : decode cR_make 144 = .ok (.imul, 1) := by decide +kernel
theorem dR_make_145 : decode cR_make 145 = .ok (.iconst 2, 1) := by decide +kernel
theorem dR_make_146 : decode cR_make 146 = .ok (.iadd, 1) := by decide +kernel
theorem dR_make_147 : decode cR_make 147 = .ok (.aload_n 0, 1) := by decide +kernel
theorem dR_make_148 : decode cR_make 148 = .ok (.getfield 22, 3) := by decide +kernel
theorem dR_make_151 : decode cR_make 151 = .ok (.bipush 32, 2) := by decide +kernel
theorem dR_make_153 : decode cR_make 153 = .ok (.iload_n 1, 1) := by decide +kernel
theorem dR_make_154 : decode cR_make 154 = .ok (.imul, 1) := by decide +kernel
theorem dR_make_155 : decode cR_make 155 = .ok (.iconst 2, 1) := by decide +kernel
theorem dR_make_156 : decode cR_make 156 = .ok (.iadd, 1) := by decide +kernel
theorem dR_make_157 : decode cR_make 157 = .ok (.iaload, 1) := by decide +kernel
theorem dR_make_158 : decode cR_make 158 = .ok (.iload_n 2, 1) := by decide +kernel
theorem dR_make_159 : decode cR_make 159 = .ok (.aload_n 0, 1) := by decide +kernel
theorem dR_make_160 : decode cR_make 160 = .ok (.getfield 19, 3) := by decide +kernel
theorem dR_make_163 : decode cR_make 163 = .ok (.iconst 4, 1) := by decide +kernel
theorem dR_make_164 : decode cR_make 164 = .ok (.iaload, 1) := by decide +kernel
theorem dR_make_165 : decode cR_make 165 = .ok (.aload_n 0, 1) := by decide +kernel
theorem dR_make_166 : decode cR_make 166 = .ok (.getfield 19, 3) := by decide +kernel
theorem dR_make_169 : decode cR_make 169 = .ok (.iconst 5, 1) := by decide +kernel
theorem dR_make_170 : decode cR_make 170 = .ok (.iaload, 1) := by decide +kernel
theorem dR_make_171 : decode cR_make 171 = .ok (.invokestatic 116, 3) := by decide +kernel
theorem dR_make_174 : decode cR_make 174 = .ok (.iastore, 1) := by decide +kernel
theorem dR_make_175 : decode cR_make 175 = .ok (.ldc 119, 2) := by decide +kernel
theorem dR_make_177 : decode cR_make 177 = .ok (.iload_n 2, 1) := by decide +kernel
theorem dR_make_178 : decode cR_make 178 = .ok (.idiv, 1) := by decide +kernel
theorem dR_make_179 : decode cR_make 179 = .ok (.istore_n 3, 1) := by decide +kernel
theorem dR_make_180 : decode cR_make 180 = .ok (.aload_n 0, 1) := by decide +kernel
theorem dR_make_181 : decode cR_make 181 = .ok (.getfield 28, 3) := by decide +kernel
theorem dR_make_184 : decode cR_make 184 = .ok (.iconst 4, 1) := by decide +kernel
theorem dR_make_185 : decode cR_make 185 = .ok (.iload_n 1, 1) := by decide +kernel
theorem dR_make_186 : decode cR_make 186 = .ok (.imul, 1) := by decide +kernel
theorem dR_make_187 : decode cR_make 187 = .ok (.iconst 3, 1) := by decide +kernel
theorem dR_make_188 : decode cR_make 188 = .ok (.iadd, 1) := by decide +kernel
theorem dR_make_189 : decode cR_make 189 = .ok (.iload_n 3, 1) := by decide +kernel
theorem dR_make_190 : decode cR_make 190 = .ok (.iconst 1, 1) := by decide +kernel
theorem dR_make_191 : decode cR_make 191 = .ok (.if_icmp .ge 7, 3) := by decide +kernel
theorem dR_make_194 : decode cR_make 194 = .ok (.iconst 1, 1) := by decide +kernel
theorem dR_make_195 : decode cR_make 195 = .ok (.goto 4, 3) := by decide +kernel
theorem dR_make_198 : decode cR_make 198 = .ok (.iload_n 3, 1) := by decide +kernel
theorem dR_make_199 : decode cR_make 199 = .ok (.iastore, 1) := by decide +kernel
theorem dR_make_200 : decode cR_make 200 = .ok (.iinc 1 1, 3) := by decide +kernel
theorem dR_make_203 : decode cR_make 203 = .ok (.goto (-155), 3) := by decide +kernel
theorem dR_make_206 : decode cR_make 206 = .ok (.aload_n 0, 1) := by decide +kernel
theorem dR_make_207 : decode cR_make 207 = .ok (.aload_n 0, 1) := by decide +kernel
theorem dR_make_208 : decode cR_make 208 = .ok (.getfield 89, 3) := by decide +kernel
theorem dR_make_211 : decode cR_make 211 = .ok (.ifCond .ne 7, 3) := by decide +kernel
theorem dR_make_214 : decode cR_make 214 = .ok (.iconst 0, 1) := by decide +kernel
theorem dR_make_215 : decode cR_make 215 = .ok (.goto 9, 3) := by decide +kernel
theorem dR_make_218 : decode cR_make 218 = .ok (.aload_n 0, 1) := by decide +kernel
theorem dR_make_219 : decode cR_make 219 = .ok (.getfield 89, 3) := by decide +kernel
theorem dR_make_222 : decode cR_make 222 = .ok (.iconst 2, 1) := by decide +kernel
theorem dR_make_223 : decode cR_make 223 = .ok (.isub, 1) := by decide +kernel
theorem dR_make_224 : decode cR_make 224 = .ok (.putfield 64, 3) := by decide +kernel
theorem dR_make_227 : decode cR_make 227 = .ok (.aload_n 0, 1) := by decide +kernel
theorem dR_make_228 : decode cR_make 228 = .ok (.getfield 64, 3) := by decide +kernel
theorem dR_make_231 : decode cR_make 231 = .ok (.ireturn, 1) := by decide +kernel
theorem dR_cut_0 : decode cR_cut 0 = .ok (.aload_n 0, 1) := by decide +kernel
theorem dR_cut_1 : decode cR_cut 1 = .ok (.iconst 0, 1) := by decide +kernel
theorem dR_cut_2 : decode cR_cut 2 = .ok (.putfield 86, 3) := by decide +kernel
theorem dR_cut_5 : decode cR_cut 5 = .ok (.iconst 0, 1) := by decide +kernel
theorem dR_cut_6 : decode cR_cut 6 = .ok (.istore_n 2, 1) := by decide +kernel
theorem dR_cut_7 : decode cR_cut 7 = .ok (.iload_n 2, 1) := by decide +kernel
theorem dR_cut_8 : decode cR_cut 8 = .ok (.aload_n 0, 1) := by decide +kernel
theorem dR_cut_9 : decode cR_cut 9 = .ok (.getfield 89, 3) := by decide +kernel
theorem dR_cut_12 : decode cR_cut 12 = .ok (.if_icmp .ge 155, 3) := by decide +kernel
theorem dR_cut_15 : decode cR_cut 15 = .ok (.iload_n 2, 1) := by decide +kernel
theorem dR_cut_16 : decode cR_cut 16 = .ok (.iconst 1, 1) := by decide +kernel
theorem dR_cut_17 : decode cR_cut 17 = .ok (.iadd, 1) := by decide +kernel
theorem dR_cut_18 : decode cR_cut 18 = .ok (.aload_n 0, 1) := by decide +kernel
theorem dR_cut_19 : decode cR_cut 19 = .ok (.getfield 89, 3) := by decide +kernel
theorem dR_cut_22 : decode cR_cut 22 = .ok (.if_icmp .ne 7, 3) := by decide +kernel
theorem dR_cut_25 : decode cR_cut 25 = .ok (.iconst 0, 1) := by decide +kernel
theorem dR_cut_26 : decode cR_cut 26 = .ok (.goto 6, 3) := by decide +kernel
theorem dR_cut_29 : decode cR_cut 29 = .ok (.iload_n 2, 1) := by decide +kernel
theorem dR_cut_30 : decode cR_cut 30 = .ok (.iconst 1, 1) := by decide +kernel
theorem dR_cut_31 : decode cR_cut 31 = .ok (.iadd, 1) := by decide +kernel
theorem dR_cut_32 : decode cR_cut 32 = .ok (.istore_n 3, 1) := by decide +kernel
theorem dR_cut_33 : decode cR_cut 33 = .ok (.aload_n 0, 1) := by decide +kernel
theorem dR_cut_34 : decode cR_cut 34 = .ok (.iload_n 2, 1) := by decide +kernel
theorem dR_cut_35 : decode cR_cut 35 = .ok (.iload_n 1, 1) := by decide +kernel
theorem dR_cut_36 : decode cR_cut 36 = .ok (.invokevirtual 76, 3) := by decide +kernel
theorem dR_cut_39 : decode cR_cut 39 = .ok (.lconst 0, 1) := by decide +kernel
theorem dR_cut_40 : decode cR_cut 40 = .ok (.lcmp, 1) := by decide +kernel
theorem dR_cut_41 : decode cR_cut 41 = .ok (.ifCond .lt 7, 3) := by decide +kernel
theorem dR_cut_44 : decode cR_cut 44 = .ok (.iconst 1, 1) := by decide +kernel
theorem dR_cut_45 : decode cR_cut 45 = .ok (.goto 4, 3) := by decide +kernel
theorem dR_cut_48 : decode cR_cut 48 = .ok (.iconst 0, 1) := by decide +kernel
theorem dR_cut_49 : decode cR_cut 49 = .ok (.istore 4, 2) := by decide +kernel
theorem dR_cut_51 : decode cR_cut 51 = .ok (.aload_n 0, 1) := by decide +kernel
theorem dR_cut_52 : decode cR_cut 52 = .ok (.iload_n 3, 1) := by decide +kernel
theorem dR_cut_53 : decode cR_cut 53 = .ok (.iload_n 1, 1) := by decide +kernel
theorem dR_cut_54 : decode cR_cut 54 = .ok (.invokevirtual 76, 3) := by decide +kernel
theorem dR_cut_57 : decode cR_cut 57 = .ok (.lconst 0, 1) := by decide +kernel
theorem dR_cut_58 : decode cR_cut 58 = .ok (.lcmp, 1) := by decide +kernel
theorem dR_cut_59 : decode cR_cut 59 = .ok (.ifCond .lt 7, 3) := by decide +kernel
theorem dR_cut_62 : decode cR_cut 62 = .ok (.iconst 1, 1) := by decide +kernel
theorem dR_cut_63 : decode cR_cut 63 = .ok (.goto 4, 3) := by decide +kernel
theorem dR_cut_66 : decode cR_cut 66 = .ok (.iconst 0, 1) := by decide +kernel
theorem dR_cut_67 : decode cR_cut 67 = .ok (.istore 5, 2) := by decide +kernel
theorem dR_cut_69 : decode cR_cut 69 = .ok (.iload 4, 2) := by decide +kernel
theorem dR_cut_71 : decode cR_cut 71 = .ok (.ifCond .eq 56, 3) := by decide +kernel
theorem dR_cut_74 : decode cR_cut 74 = .ok (.iconst 0, 1) := by decide +kernel
theorem dR_cut_75 : decode cR_cut 75 = .ok (.istore 6, 2) := by decide +kernel
theorem dR_cut_77 : decode cR_cut 77 = .ok (.iload 6, 2) := by decide +kernel
theorem dR_cut_79 : decode cR_cut 79 = .ok (.bipush 32, 2) := by decide +kernel
theorem dR_cut_81 : decode cR_cut 81 = .ok (.if_icmp .ge 36, 3) := by decide +kernel
theorem dR_cut_84 : decode cR_cut 84 = .ok (.aload_n 0, 1) := by decide +kernel
theorem dR_cut_85 : decode cR_cut 85 = .ok (.getfield 25, 3) := by decide +kernel
theorem dR_cut_88 : decode cR_cut 88 = .ok (.bipush 32, 2) := by decide +kernel
theorem dR_cut_90 : decode cR_cut 90 = .ok (.aload_n 0, 1) := by decide +kernel
theorem dR_cut_91 : decode cR_cut 91 = .ok (.getfield 86, 3) := by decide +kernel
theorem dR_cut_94 : decode cR_cut 94 = .ok (.imul, 1) := by decide +kernel
theorem dR_cut_95 : decode cR_cut 95 = .ok (.iload 6, 2) := by decide +kernel
theorem dR_cut_97 : decode cR_cut 97 = .ok (.iadd, 1) := by decide +kernel
theorem dR_cut_98 : decode cR_cut 98 = .ok (.aload_n 0, 1) := by decide +kernel
theorem dR_cut_99 : decode cR_cut 99 = .ok (.getfield 22, 3) := by decide +kernel
theorem dR_cut_102 : decode cR_cut 102 = .ok (.bipush 32, 2) := by decide +kernel
theorem dR_cut_104 : decode cR_cut 104 = .ok (.iload_n 2, 1) := by decide +kernel
theorem dR_cut_105 : decode cR_cut 105 = .ok (.imul, 1) := by decide +kernel
theorem dR_cut_106 : decode cR_cut 106 = .ok (.iload 6, 2) := by decide +kernel
theorem dR_cut_108 : decode cR_cut 108 = .ok (.iadd, 1) := by decide +kernel
theorem dR_cut_109 : decode cR_cut 109 = .ok (.iaload, 1) := by decide +kernel
theorem dR_cut_110 : decode cR_cut 110 = .ok (.iastore, 1) := by decide +kernel
theorem dR_cut_111 : decode cR_cut 111 = .ok (.iinc 6 1, 3) := by decide +kernel
theorem dR_cut_114 : decode cR_cut 114 = .ok (.goto (-37), 3) := by decide +kernel
theorem dR_cut_117 : decode cR_cut 117 = .ok (.aload_n 0, 1) := by decide +kernel
theorem dR_cut_118 : decode cR_cut 118 = .ok (.dup, 1) := by decide +kernel
theorem dR_cut_119 : decode cR_cut 119 = .ok (.getfield 86, 3) := by decide +kernel
theorem dR_cut_122 : decode cR_cut 122 = .ok (.iconst 1, 1) := by decide +kernel
theorem dR_cut_123 : decode cR_cut 123 = .ok (.iadd, 1) := by decide +kernel
theorem dR_cut_124 : decode cR_cut 124 = .ok (.putfield 86, 3) := by decide +kernel
theorem dR_cut_127 : decode cR_cut 127 = .ok (.iload 4, 2) := by decide +kernel
theorem dR_cut_129 : decode cR_cut 129 = .ok (.ifCond .eq 15, 3) := by decide +kernel
theorem dR_cut_132 : decode cR_cut 132 = .ok (.iload 5, 2) := by decide +kernel
theorem dR_cut_134 : decode cR_cut 134 = .ok (.ifCond .ne 10, 3) := by decide +kernel
theorem dR_cut_137 : decode cR_cut 137 = .ok (.aload_n 0, 1) := by decide +kernel
theorem dR_cut_138 : decode cR_cut 138 = .ok (.iload_n 2, 1) := by decide +kernel
theorem dR_cut_139 : decode cR_cut 139 = .ok (.iload_n 3, 1) := by decide +kernel
theorem dR_cut_140 : decode cR_cut 140 = .ok (.iload_n 1, 1) := by decide +kernel
theorem dR_cut_141 : decode cR_cut 141 = .ok (.invokevirtual 92, 3) := by decide +kernel
theorem dR_cut_144 : decode cR_cut 144 = .ok (.iload 4, 2) := by decide +kernel
theorem dR_cut_146 : decode cR_cut 146 = .ok (.ifCond .ne 15, 3) := by decide +kernel
theorem dR_cut_149 : decode cR_cut 149 = .ok (.iload 5, 2) := by decide +kernel
theorem dR_cut_151 : decode cR_cut 151 = .ok (.ifCond .eq 10, 3) := by decide +kernel
theorem dR_cut_154 : decode cR_cut 154 = .ok (.aload_n 0, 1) := by decide +kernel
theorem dR_cut_155 : decode cR_cut 155 = .ok (.iload_n 3, 1) := by decide +kernel
theorem dR_cut_156 : decode cR_cut 156 = .ok (.iload_n 2, 1) := by decide +kernel
theorem dR_cut_157 : decode cR_cut 157 = .ok (.iload_n 1, 1) := by decide +kernel
theorem dR_cut_158 : decode cR_cut 158 = .ok (.invokevirtual 92, 3) := by decide +kernel
theorem dR_cut_161 : decode cR_cut 161 = .ok (.iinc 2 1, 3) := by decide +kernel
theorem dR_cut_164 : decode cR_cut 164 = .ok (.goto (-157), 3) := by decide +kernel
theorem dR_cut_167 : decode cR_cut 167 = .ok (.aload_n 0, 1) := by decide +kernel
theorem dR_cut_168 : decode cR_cut 168 = .ok (.aload_n 0, 1) := by decide +kernel
theorem dR_cut_169 : decode cR_cut 169 = .ok (.getfield 86, 3) := by decide +kernel
theorem dR_cut_172 : decode cR_cut 172 = .ok (.iconst 3, 1) := by decide +kernel
theorem dR_cut_173 : decode cR_cut 173 = .ok (.if_icmp .ge 7, 3) := by decide +kernel
theorem dR_cut_176 : decode cR_cut 176 = .ok (.iconst 0, 1) := by decide +kernel
theorem dR_cut_177 : decode cR_cut 177 = .ok (.goto 7, 3) := by decide +kernel
theorem dR_cut_180 : decode cR_cut 180 = .ok (.aload_n 0, 1) := by decide +kernel
theorem dR_cut_181 : decode cR_cut 181 = .ok (.getfield 86, 3) := by decide +kernel
theorem dR_cut_184 : decode cR_cut 184 = .ok (.putfield 89, 3) := by decide +kernel
theorem dR_cut_187 : decode cR_cut 187 = .ok (.iconst 0, 1) := by decide +kernel
theorem dR_cut_188 : decode cR_cut 188 = .ok (.istore_n 2, 1) := by decide +kernel
theorem dR_cut_189 : decode cR_cut 189 = .ok (.iload_n 2, 1) := by decide +kernel
theorem dR_cut_190 : decode cR_cut 190 = .ok (.bipush 32, 2) := by decide +kernel
theorem dR_cut_192 : decode cR_cut 192 = .ok (.aload_n 0, 1) := by decide +kernel
theorem dR_cut_193 : decode cR_cut 193 = .ok (.getfield 89, 3) := by decide +kernel
theorem dR_cut_196 : decode cR_cut 196 = .ok (.imul, 1) := by decide +kernel
theorem dR_cut_197 : decode cR_cut 197 = .ok (.if_icmp .ge 21, 3) := by decide +kernel
theorem dR_cut_200 : decode cR_cut 200 = .ok (.aload_n 0, 1) := by decide +kernel
theorem dR_cut_201 : decode cR_cut 201 = .ok (.getfield 22, 3) := by decide +kernel
theorem dR_cut_204 : decode cR_cut 204 = .ok (.iload_n 2, 1) := by decide +kernel
theorem dR_cut_205 : decode cR_cut 205 = .ok (.aload_n 0, 1) := by decide +kernel
theorem dR_cut_206 : decode cR_cut 206 = .ok (.getfield 25, 3) := by decide +kernel
theorem dR_cut_209 : decode cR_cut 209 = .ok (.iload_n 2, 1) := by decide +kernel
theorem dR_cut_210 : decode cR_cut 210 = .ok (.iaload, 1) := by decide +kernel
theorem dR_cut_211 : decode cR_cut 211 = .ok (.iastore, 1) := by decide +kernel
theorem dR_cut_212 : decode cR_cut 212 = .ok (.iinc 2 1, 3) := by decide +kernel
theorem dR_cut_215 : decode cR_cut 215 = .ok (.goto (-26), 3) := by decide +kernel
theorem dR_cut_218 : decode cR_cut 218 = .ok (.return_, 1) := by decide +kernel
theorem dR_inside_0 : decode cR_inside 0 = .ok (.iload_n 2, 1) := by decide +kernel
theorem dR_inside_1 : decode cR_inside 1 = .ok (.ifCond .eq 22, 3) := by decide +kernel
theorem dR_inside_4 : decode cR_inside 4 = .ok (.aload_n 0, 1) := by decide +kernel
theorem dR_inside_5 : decode cR_inside 5 = .ok (.getfield 22, 3) := by decide +kernel
theorem dR_inside_8 : decode cR_inside 8 = .ok (.bipush 32, 2) := by decide +kernel
theorem dR_inside_10 : decode cR_inside 10 = .ok (.iload_n 1, 1) := by decide +kernel
theorem dR_inside_11 : decode cR_inside 11 = .ok (.imul, 1) := by decide +kernel
theorem dR_inside_12 : decode cR_inside 12 = .ok (.iconst 3, 1) := by decide +kernel
theorem dR_inside_13 : decode cR_inside 13 = .ok (.iadd, 1) := by decide +kernel
theorem dR_inside_14 : decode cR_inside 14 = .ok (.iaload, 1) := by decide +kernel
theorem dR_inside_15 : decode cR_inside 15 = .ok (.i2l, 1) := by decide +kernel
theorem dR_inside_16 : decode cR_inside 16 = .ok (.ldc2_w 74, 3) := by decide +kernel
theorem dR_inside_19 : decode cR_inside 19 = .ok (.lsub, 1) := by decide +kernel
theorem dR_inside_20 : decode cR_inside 20 = .ok (.goto 28, 3) := by decide +kernel
theorem dR_inside_23 : decode cR_inside 23 = .ok (.aload_n 0, 1) := by decide +kernel
theorem dR_inside_24 : decode cR_inside 24 = .ok (.getfield 22, 3) := by decide +kernel
theorem dR_inside_27 : decode cR_inside 27 = .ok (.bipush 32, 2) := by decide +kernel
theorem dR_inside_29 : decode cR_inside 29 = .ok (.iload_n 1, 1) := by decide +kernel
theorem dR_inside_30 : decode cR_inside 30 = .ok (.imul, 1) := by decide +kernel
theorem dR_inside_31 : decode cR_inside 31 = .ok (.iconst 2, 1) := by decide +kernel
theorem dR_inside_32 : decode cR_inside 32 = .ok (.iadd, 1) := by decide +kernel
theorem dR_inside_33 : decode cR_inside 33 = .ok (.iaload, 1) := by decide +kernel
theorem dR_inside_34 : decode cR_inside 34 = .ok (.i2l, 1) := by decide +kernel
theorem dR_inside_35 : decode cR_inside 35 = .ok (.aload_n 0, 1) := by decide +kernel
theorem dR_inside_36 : decode cR_inside 36 = .ok (.getfield 22, 3) := by decide +kernel
theorem dR_inside_39 : decode cR_inside 39 = .ok (.bipush 32, 2) := by decide +kernel
theorem dR_inside_41 : decode cR_inside 41 = .ok (.iload_n 1, 1) := by decide +kernel
theorem dR_inside_42 : decode cR_inside 42 = .ok (.imul, 1) := by decide +kernel
theorem dR_inside_43 : decode cR_inside 43 = .ok (.iconst 3, 1) := by decide +kernel
theorem dR_inside_44 : decode cR_inside 44 = .ok (.iadd, 1) := by decide +kernel
theorem dR_inside_45 : decode cR_inside 45 = .ok (.iaload, 1) := by decide +kernel
theorem dR_inside_46 : decode cR_inside 46 = .ok (.i2l, 1) := by decide +kernel
theorem dR_inside_47 : decode cR_inside 47 = .ok (.ladd, 1) := by decide +kernel
theorem dR_inside_48 : decode cR_inside 48 = .ok (.lreturn, 1) := by decide +kernel
theorem dR_between_0 : decode cR_between 0 = .ok (.aload_n 0, 1) := by decide +kernel
theorem dR_between_1 : decode cR_between 1 = .ok (.iload_n 1, 1) := by decide +kernel
theorem dR_between_2 : decode cR_between 2 = .ok (.iload_n 3, 1) := by decide +kernel
theorem dR_between_3 : decode cR_between 3 = .ok (.invokevirtual 76, 3) := by decide +kernel
theorem dR_between_6 : decode cR_between 6 = .ok (.lstore 4, 2) := by decide +kernel
theorem dR_between_8 : decode cR_between 8 = .ok (.aload_n 0, 1) := by decide +kernel
theorem dR_between_9 : decode cR_between 9 = .ok (.iload_n 2, 1) := by decide +kernel
theorem dR_between_10 : decode cR_between 10 = .ok (.iload_n 3, 1) := by decide +kernel
theorem dR_between_11 : decode cR_between 11 = .ok (.invokevirtual 76, 3) := by decide +kernel
theorem dR_between_14 : decode cR_between 14 = .ok (.lstore 6, 2) := by decide +kernel
theorem dR_between_16 : decode cR_between 16 = .ok (.ldc2_w 80, 3) := by decide +kernel
theorem dR_between_19 : decode cR_between 19 = .ok (.lload 4, 2) := by decide +kernel
theorem dR_between_21 : decode cR_between 21 = .ok (.lmul, 1) := by decide +kernel
theorem dR_between_22 : decode cR_between 22 = .ok (.lload 4, 2) := by decide +kernel
theorem dR_between_24 : decode cR_between 24 = .ok (.lload 6, 2) := by decide +kernel
theorem dR_between_26 : decode cR_between 26 = .ok (.lsub, 1) := by decide +kernel
theorem dR_between_27 : decode cR_between 27 = .ok (.invokestatic 82, 3) := by decide +kernel
theorem dR_between_30 : decode cR_between 30 = .ok (.lstore 8, 2) := by decide +kernel
theorem dR_between_32 : decode cR_between 32 = .ok (.iconst 0, 1) := by decide +kernel
theorem dR_between_33 : decode cR_between 33 = .ok (.istore 10, 2) := by decide +kernel
theorem dR_between_35 : decode cR_between 35 = .ok (.iload 10, 2) := by decide +kernel
theorem dR_between_37 : decode cR_between 37 = .ok (.bipush 32, 2) := by decide +kernel
theorem dR_between_39 : decode cR_between 39 = .ok (.if_icmp .ge 72, 3) := by decide +kernel
theorem dR_between_42 : decode cR_between 42 = .ok (.aload_n 0, 1) := by decide +kernel
theorem dR_between_43 : decode cR_between 43 = .ok (.getfield 22, 3) := by decide +kernel
theorem dR_between_46 : decode cR_between 46 = .ok (.bipush 32, 2) := by decide +kernel
theorem dR_between_48 : decode cR_between 48 = .ok (.iload_n 1, 1) := by decide +kernel
theorem dR_between_49 : decode cR_between 49 = .ok (.imul, 1) := by decide +kernel
theorem dR_between_50 : decode cR_between 50 = .ok (.iload 10, 2) := by decide +kernel
theorem dR_between_52 : decode cR_between 52 = .ok (.iadd, 1) := by decide +kernel
theorem dR_between_53 : decode cR_between 53 = .ok (.iaload, 1) := by decide +kernel
theorem dR_between_54 : decode cR_between 54 = .ok (.i2l, 1) := by decide +kernel
theorem dR_between_55 : decode cR_between 55 = .ok (.lstore 11, 2) := by decide +kernel
theorem dR_between_57 : decode cR_between 57 = .ok (.aload_n 0, 1) := by decide +kernel
theorem dR_between_58 : decode cR_between 58 = .ok (.getfield 22, 3) := by decide +kernel
theorem dR_between_61 : decode cR_between 61 = .ok (.bipush 32, 2) := by decide +kernel
theorem dR_between_63 : decode cR_between 63 = .ok (.iload_n 2, 1) := by decide +kernel
theorem dR_between_64 : decode cR_between 64 = .ok (.imul, 1) := by decide +kernel
theorem dR_between_65 : decode cR_between 65 = .ok (.iload 10, 2) := by decide +kernel
theorem dR_between_67 : decode cR_between 67 = .ok (.iadd, 1) := by decide +kernel
theorem dR_between_68 : decode cR_between 68 = .ok (.iaload, 1) := by decide +kernel
theorem dR_between_69 : decode cR_between 69 = .ok (.i2l, 1) := by decide +kernel
theorem dR_between_70 : decode cR_between 70 = .ok (.lstore 13, 2) := by decide +kernel
theorem dR_between_72 : decode cR_between 72 = .ok (.aload_n 0, 1) := by decide +kernel
theorem dR_between_73 : decode cR_between 73 = .ok (.getfield 25, 3) := by decide +kernel
theorem dR_between_76 : decode cR_between 76 = .ok (.bipush 32, 2) := by decide +kernel
theorem dR_between_78 : decode cR_between 78 = .ok (.aload_n 0, 1) := by decide +kernel
theorem dR_between_79 : decode cR_between 79 = .ok (.getfield 86, 3) := by decide +kernel
theorem dR_between_82 : decode cR_between 82 = .ok (.imul, 1) := by decide +kernel
theorem dR_between_83 : decode cR_between 83 = .ok (.iload 10, 2) := by decide +kernel
theorem dR_between_85 : decode cR_between 85 = .ok (.iadd, 1) := by decide +kernel
theorem dR_between_86 : decode cR_between 86 = .ok (.lload 11, 2) := by decide +kernel
theorem dR_between_88 : decode cR_between 88 = .ok (.lload 13, 2) := by decide +kernel
theorem dR_between_90 : decode cR_between 90 = .ok (.lload 11, 2) := by decide +kernel
theorem dR_between_92 : decode cR_between 92 = .ok (.lsub, 1) := by decide +kernel
theorem dR_between_93 : decode cR_between 93 = .ok (.lload 8, 2) := by decide +kernel
theorem dR_between_95 : decode cR_between 95 = .ok (.lmul, 1) := by decide +kernel
theorem dR_between_96 : decode cR_between 96 = .ok (.ldc2_w 80, 3) := by decide +kernel
theorem dR_between_99 : decode cR_between 99 = .ok (.invokestatic 82, 3) := by decide +kernel
theorem dR_between_102 : decode cR_between 102 = .ok (.ladd, 1) := by decide +kernel
theorem dR_between_103 : decode cR_between 103 = .ok (.l2i, 1) := by decide +kernel
theorem dR_between_104 : decode cR_between 104 = .ok (.iastore, 1) := by decide +kernel
theorem dR_between_105 : decode cR_between 105 = .ok (.iinc 10 1, 3) := by decide +kernel
theorem dR_between_108 : decode cR_between 108 = .ok (.goto (-73), 3) := by decide +kernel
theorem dR_between_111 : decode cR_between 111 = .ok (.aload_n 0, 1) := by decide +kernel
theorem dR_between_112 : decode cR_between 112 = .ok (.dup, 1) := by decide +kernel
theorem dR_between_113 : decode cR_between 113 = .ok (.getfield 86, 3) := by decide +kernel
theorem dR_between_116 : decode cR_between 116 = .ok (.iconst 1, 1) := by decide +kernel
theorem dR_between_117 : decode cR_between 117 = .ok (.iadd, 1) := by decide +kernel
theorem dR_between_118 : decode cR_between 118 = .ok (.putfield 86, 3) := by decide +kernel
theorem dR_between_121 : decode cR_between 121 = .ok (.return_, 1) := by decide +kernel
theorem dR_down_0 : decode cR_down 0 = .ok (.lload_n 0, 1) := by decide +kernel
theorem dR_down_1 : decode cR_down 1 = .ok (.lload_n 2, 1) := by decide +kernel
theorem dR_down_2 : decode cR_down 2 = .ok (.ldiv, 1) := by decide +kernel
theorem dR_down_3 : decode cR_down 3 = .ok (.lstore 4, 2) := by decide +kernel
theorem dR_down_5 : decode cR_down 5 = .ok (.lload 4, 2) := by decide +kernel
theorem dR_down_7 : decode cR_down 7 = .ok (.lload_n 2, 1) := by decide +kernel
theorem dR_down_8 : decode cR_down 8 = .ok (.lmul, 1) := by decide +kernel
theorem dR_down_9 : decode cR_down 9 = .ok (.lload_n 0, 1) := by decide +kernel
theorem dR_down_10 : decode cR_down 10 = .ok (.lcmp, 1) := by decide +kernel
theorem dR_down_11 : decode cR_down 11 = .ok (.ifCond .le 10, 3) := by decide +kernel
theorem dR_down_14 : decode cR_down 14 = .ok (.lload 4, 2) := by decide +kernel
theorem dR_down_16 : decode cR_down 16 = .ok (.lconst 1, 1) := by decide +kernel
theorem dR_down_17 : decode cR_down 17 = .ok (.lsub, 1) := by decide +kernel
theorem dR_down_18 : decode cR_down 18 = .ok (.goto 5, 3) := by decide +kernel
theorem dR_down_21 : decode cR_down 21 = .ok (.lload 4, 2) := by decide +kernel
theorem dR_down_23 : decode cR_down 23 = .ok (.lreturn, 1) := by decide +kernel
theorem dR_lay_0 : decode cR_lay 0 = .ok (.iload_n 0, 1) := by decide +kernel
theorem dR_lay_1 : decode cR_lay 1 = .ok (.i2l, 1) := by decide +kernel
theorem dR_lay_2 : decode cR_lay 2 = .ok (.ldc2_w 80, 3) := by decide +kernel
theorem dR_lay_5 : decode cR_lay 5 = .ok (.lmul, 1) := by decide +kernel
theorem dR_lay_6 : decode cR_lay 6 = .ok (.iload_n 1, 1) := by decide +kernel
theorem dR_lay_7 : decode cR_lay 7 = .ok (.i2l, 1) := by decide +kernel
theorem dR_lay_8 : decode cR_lay 8 = .ok (.invokestatic 82, 3) := by decide +kernel
theorem dR_lay_11 : decode cR_lay 11 = .ok (.ldc2_w 80, 3) := by decide +kernel
theorem dR_lay_14 : decode cR_lay 14 = .ok (.ladd, 1) := by decide +kernel
theorem dR_lay_15 : decode cR_lay 15 = .ok (.lstore 4, 2) := by decide +kernel
theorem dR_lay_17 : decode cR_lay 17 = .ok (.ldc2_w 96, 3) := by decide +kernel
theorem dR_lay_20 : decode cR_lay 20 = .ok (.iload_n 2, 1) := by decide +kernel
theorem dR_lay_21 : decode cR_lay 21 = .ok (.i2l, 1) := by decide +kernel
theorem dR_lay_22 : decode cR_lay 22 = .ok (.lmul, 1) := by decide +kernel
theorem dR_lay_23 : decode cR_lay 23 = .ok (.lload 4, 2) := by decide +kernel
theorem dR_lay_25 : decode cR_lay 25 = .ok (.iload_n 3, 1) := by decide +kernel
theorem dR_lay_26 : decode cR_lay 26 = .ok (.i2l, 1) := by decide +kernel
theorem dR_lay_27 : decode cR_lay 27 = .ok (.lmul, 1) := by decide +kernel
theorem dR_lay_28 : decode cR_lay 28 = .ok (.ldc2_w 98, 3) := by decide +kernel
theorem dR_lay_31 : decode cR_lay 31 = .ok (.invokestatic 82, 3) := by decide +kernel
theorem dR_lay_34 : decode cR_lay 34 = .ok (.ladd, 1) := by decide +kernel
theorem dR_lay_35 : decode cR_lay 35 = .ok (.lstore 6, 2) := by decide +kernel
theorem dR_lay_37 : decode cR_lay 37 = .ok (.lload 6, 2) := by decide +kernel
theorem dR_lay_39 : decode cR_lay 39 = .ok (.ldc2_w 100, 3) := by decide +kernel
theorem dR_lay_42 : decode cR_lay 42 = .ok (.lcmp, 1) := by decide +kernel
theorem dR_lay_43 : decode cR_lay 43 = .ok (.ifCond .ge 9, 3) := by decide +kernel
theorem dR_lay_46 : decode cR_lay 46 = .ok (.ldc2_w 100, 3) := by decide +kernel
theorem dR_lay_49 : decode cR_lay 49 = .ok (.goto 20, 3) := by decide +kernel
theorem dR_lay_52 : decode cR_lay 52 = .ok (.lload 6, 2) := by decide +kernel
theorem dR_lay_54 : decode cR_lay 54 = .ok (.ldc2_w 102, 3) := by decide +kernel
theorem dR_lay_57 : decode cR_lay 57 = .ok (.lcmp, 1) := by decide +kernel
theorem dR_lay_58 : decode cR_lay 58 = .ok (.ifCond .le 9, 3) := by decide +kernel
theorem dR_lay_61 : decode cR_lay 61 = .ok (.ldc2_w 102, 3) := by decide +kernel
theorem dR_lay_64 : decode cR_lay 64 = .ok (.goto 5, 3) := by decide +kernel
theorem dR_lay_67 : decode cR_lay 67 = .ok (.lload 6, 2) := by decide +kernel
theorem dR_lay_69 : decode cR_lay 69 = .ok (.l2i, 1) := by decide +kernel
theorem dR_lay_70 : decode cR_lay 70 = .ok (.ireturn, 1) := by decide +kernel
theorem dR_depthOf_0 : decode cR_depthOf 0 = .ok (.iload_n 0, 1) := by decide +kernel
theorem dR_depthOf_1 : decode cR_depthOf 1 = .ok (.i2l, 1) := by decide +kernel
theorem dR_depthOf_2 : decode cR_depthOf 2 = .ok (.ldc2_w 80, 3) := by decide +kernel
theorem dR_depthOf_5 : decode cR_depthOf 5 = .ok (.lmul, 1) := by decide +kernel
theorem dR_depthOf_6 : decode cR_depthOf 6 = .ok (.iload_n 1, 1) := by decide +kernel
theorem dR_depthOf_7 : decode cR_depthOf 7 = .ok (.i2l, 1) := by decide +kernel
theorem dR_depthOf_8 : decode cR_depthOf 8 = .ok (.invokestatic 82, 3) := by decide +kernel
theorem dR_depthOf_11 : decode cR_depthOf 11 = .ok (.ldc2_w 80, 3) := by decide +kernel
theorem dR_depthOf_14 : decode cR_depthOf 14 = .ok (.ladd, 1) := by decide +kernel
theorem dR_depthOf_15 : decode cR_depthOf 15 = .ok (.lstore 4, 2) := by decide +kernel
theorem dR_depthOf_17 : decode cR_depthOf 17 = .ok (.lload 4, 2) := by decide +kernel
theorem dR_depthOf_19 : decode cR_depthOf 19 = .ok (.ldc2_w 104, 3) := by decide +kernel
theorem dR_depthOf_22 : decode cR_depthOf 22 = .ok (.invokestatic 82, 3) := by decide +kernel
theorem dR_depthOf_25 : decode cR_depthOf 25 = .ok (.lstore 6, 2) := by decide +kernel
theorem dR_depthOf_27 : decode cR_depthOf 27 = .ok (.lload 4, 2) := by decide +kernel
theorem dR_depthOf_29 : decode cR_depthOf 29 = .ok (.lload 6, 2) := by decide +kernel
theorem dR_depthOf_31 : decode cR_depthOf 31 = .ok (.ldc2_w 104, 3) := by decide +kernel
theorem dR_depthOf_34 : decode cR_depthOf 34 = .ok (.lmul, 1) := by decide +kernel
theorem dR_depthOf_35 : decode cR_depthOf 35 = .ok (.lsub, 1) := by decide +kernel
theorem dR_depthOf_36 : decode cR_depthOf 36 = .ok (.lstore 8, 2) := by decide +kernel
theorem dR_depthOf_38 : decode cR_depthOf 38 = .ok (.iload_n 2, 1) := by decide +kernel
theorem dR_depthOf_39 : decode cR_depthOf 39 = .ok (.i2l, 1) := by decide +kernel
theorem dR_depthOf_40 : decode cR_depthOf 40 = .ok (.lload 6, 2) := by decide +kernel
theorem dR_depthOf_42 : decode cR_depthOf 42 = .ok (.iload_n 3, 1) := by decide +kernel
theorem dR_depthOf_43 : decode cR_depthOf 43 = .ok (.iload_n 2, 1) := by decide +kernel
theorem dR_depthOf_44 : decode cR_depthOf 44 = .ok (.isub, 1) := by decide +kernel
theorem dR_depthOf_45 : decode cR_depthOf 45 = .ok (.i2l, 1) := by decide +kernel
theorem dR_depthOf_46 : decode cR_depthOf 46 = .ok (.lmul, 1) := by decide +kernel
theorem dR_depthOf_47 : decode cR_depthOf 47 = .ok (.ladd, 1) := by decide +kernel
theorem dR_depthOf_48 : decode cR_depthOf 48 = .ok (.lload 8, 2) := by decide +kernel
theorem dR_depthOf_50 : decode cR_depthOf 50 = .ok (.iload_n 3, 1) := by decide +kernel
theorem dR_depthOf_51 : decode cR_depthOf 51 = .ok (.iload_n 2, 1) := by decide +kernel
theorem dR_depthOf_52 : decode cR_depthOf 52 = .ok (.isub, 1) := by decide +kernel
theorem dR_depthOf_53 : decode cR_depthOf 53 = .ok (.i2l, 1) := by decide +kernel
theorem dR_depthOf_54 : decode cR_depthOf 54 = .ok (.lmul, 1) := by decide +kernel
theorem dR_depthOf_55 : decode cR_depthOf 55 = .ok (.ldc2_w 104, 3) := by decide +kernel
theorem dR_depthOf_58 : decode cR_depthOf 58 = .ok (.invokestatic 82, 3) := by decide +kernel
theorem dR_depthOf_61 : decode cR_depthOf 61 = .ok (.ladd, 1) := by decide +kernel
theorem dR_depthOf_62 : decode cR_depthOf 62 = .ok (.lstore 10, 2) := by decide +kernel
theorem dR_depthOf_64 : decode cR_depthOf 64 = .ok (.lload 10, 2) := by decide +kernel
theorem dR_depthOf_66 : decode cR_depthOf 66 = .ok (.lconst 0, 1) := by decide +kernel
theorem dR_depthOf_67 : decode cR_depthOf 67 = .ok (.lcmp, 1) := by decide +kernel
theorem dR_depthOf_68 : decode cR_depthOf 68 = .ok (.ifCond .ge 7, 3) := by decide +kernel
theorem dR_depthOf_71 : decode cR_depthOf 71 = .ok (.lconst 0, 1) := by decide +kernel
theorem dR_depthOf_72 : decode cR_depthOf 72 = .ok (.goto 20, 3) := by decide +kernel
theorem dR_depthOf_75 : decode cR_depthOf 75 = .ok (.lload 10, 2) := by decide +kernel
theorem dR_depthOf_77 : decode cR_depthOf 77 = .ok (.ldc2_w 106, 3) := by decide +kernel
theorem dR_depthOf_80 : decode cR_depthOf 80 = .ok (.lcmp, 1) := by decide +kernel
theorem dR_depthOf_81 : decode cR_depthOf 81 = .ok (.ifCond .le 9, 3) := by decide +kernel
theorem dR_depthOf_84 : decode cR_depthOf 84 = .ok (.ldc2_w 106, 3) := by decide +kernel
theorem dR_depthOf_87 : decode cR_depthOf 87 = .ok (.goto 5, 3) := by decide +kernel
theorem dR_depthOf_90 : decode cR_depthOf 90 = .ok (.lload 10, 2) := by decide +kernel
theorem dR_depthOf_92 : decode cR_depthOf 92 = .ok (.l2i, 1) := by decide +kernel
theorem dR_depthOf_93 : decode cR_depthOf 93 = .ok (.ireturn, 1) := by decide +kernel
theorem dR_side_0 : decode cR_side 0 = .ok (.aload_n 0, 1) := by decide +kernel
theorem dR_side_1 : decode cR_side 1 = .ok (.iload_n 1, 1) := by decide +kernel
theorem dR_side_2 : decode cR_side 2 = .ok (.iconst 0, 1) := by decide +kernel
theorem dR_side_3 : decode cR_side 3 = .ok (.aload_n 0, 1) := by decide +kernel
theorem dR_side_4 : decode cR_side 4 = .ok (.getfield 64, 3) := by decide +kernel
theorem dR_side_7 : decode cR_side 7 = .ok (.iconst 1, 1) := by decide +kernel
theorem dR_side_8 : decode cR_side 8 = .ok (.isub, 1) := by decide +kernel
theorem dR_side_9 : decode cR_side 9 = .ok (.invokestatic 38, 3) := by decide +kernel
theorem dR_side_12 : decode cR_side 12 = .ok (.ifCond .ne 7, 3) := by decide +kernel
theorem dR_side_15 : decode cR_side 15 = .ok (.iconst 1, 1) := by decide +kernel
theorem dR_side_16 : decode cR_side 16 = .ok (.goto 4, 3) := by decide +kernel
theorem dR_side_19 : decode cR_side 19 = .ok (.iconst 0, 1) := by decide +kernel
theorem dR_side_20 : decode cR_side 20 = .ok (.iconst 0, 1) := by decide +kernel
theorem dR_side_21 : decode cR_side 21 = .ok (.invokevirtual 42, 3) := by decide +kernel
theorem dR_side_24 : decode cR_side 24 = .ok (.ifCond .eq 5, 3) := by decide +kernel
theorem dR_side_27 : decode cR_side 27 = .ok (.iconst 0, 1) := by decide +kernel
theorem dR_side_28 : decode cR_side 28 = .ok (.ireturn, 1) := by decide +kernel
theorem dR_side_29 : decode cR_side 29 = .ok (.aload_n 0, 1) := by decide +kernel
theorem dR_side_30 : decode cR_side 30 = .ok (.iload_n 1, 1) := by decide +kernel
theorem dR_side_31 : decode cR_side 31 = .ok (.invokevirtual 124, 3) := by decide +kernel
theorem dR_side_34 : decode cR_side 34 = .ok (.lstore_n 2, 1) := by decide +kernel
theorem dR_side_35 : decode cR_side 35 = .ok (.lload_n 2, 1) := by decide +kernel
theorem dR_side_36 : decode cR_side 36 = .ok (.lconst 0, 1) := by decide +kernel
theorem dR_side_37 : decode cR_side 37 = .ok (.lcmp, 1) := by decide +kernel
theorem dR_side_38 : decode cR_side 38 = .ok (.ifCond .le 7, 3) := by decide +kernel
theorem dR_side_41 : decode cR_side 41 = .ok (.iconst 1, 1) := by decide +kernel
theorem dR_side_42 : decode cR_side 42 = .ok (.goto 4, 3) := by decide +kernel
theorem dR_side_45 : decode cR_side 45 = .ok (.iconst 0, 1) := by decide +kernel
theorem dR_side_46 : decode cR_side 46 = .ok (.aload_n 0, 1) := by decide +kernel
theorem dR_side_47 : decode cR_side 47 = .ok (.getfield 70, 3) := by decide +kernel
theorem dR_side_50 : decode cR_side 50 = .ok (.if_icmp .eq 7, 3) := by decide +kernel
theorem dR_side_53 : decode cR_side 53 = .ok (.iconst 0, 1) := by decide +kernel
theorem dR_side_54 : decode cR_side 54 = .ok (.goto 4, 3) := by decide +kernel
theorem dR_side_57 : decode cR_side 57 = .ok (.iconst 1, 1) := by decide +kernel
theorem dR_side_58 : decode cR_side 58 = .ok (.istore 4, 2) := by decide +kernel
theorem dR_side_60 : decode cR_side 60 = .ok (.lload_n 2, 1) := by decide +kernel
theorem dR_side_61 : decode cR_side 61 = .ok (.lconst 0, 1) := by decide +kernel
theorem dR_side_62 : decode cR_side 62 = .ok (.lcmp, 1) := by decide +kernel
theorem dR_side_63 : decode cR_side 63 = .ok (.ifCond .eq 16, 3) := by decide +kernel
theorem dR_side_66 : decode cR_side 66 = .ok (.aload_n 0, 1) := by decide +kernel
theorem dR_side_67 : decode cR_side 67 = .ok (.getfield 67, 3) := by decide +kernel
theorem dR_side_70 : decode cR_side 70 = .ok (.iload 4, 2) := by decide +kernel
theorem dR_side_72 : decode cR_side 72 = .ok (.ishr, 1) := by decide +kernel
theorem dR_side_73 : decode cR_side 73 = .ok (.iconst 1, 1) := by decide +kernel
theorem dR_side_74 : decode cR_side 74 = .ok (.iand, 1) := by decide +kernel
theorem dR_side_75 : decode cR_side 75 = .ok (.iconst 1, 1) := by decide +kernel
theorem dR_side_76 : decode cR_side 76 = .ok (.if_icmp .ne 7, 3) := by decide +kernel
theorem dR_side_79 : decode cR_side 79 = .ok (.iconst 1, 1) := by decide +kernel
theorem dR_side_80 : decode cR_side 80 = .ok (.goto 4, 3) := by decide +kernel
theorem dR_side_83 : decode cR_side 83 = .ok (.iconst 0, 1) := by decide +kernel
theorem dR_side_84 : decode cR_side 84 = .ok (.istore 5, 2) := by decide +kernel
theorem dR_side_86 : decode cR_side 86 = .ok (.iload 5, 2) := by decide +kernel
theorem dR_side_88 : decode cR_side 88 = .ok (.ifCond .eq 7, 3) := by decide +kernel
theorem dR_side_91 : decode cR_side 91 = .ok (.iconst (-1), 1) := by decide +kernel
theorem dR_side_92 : decode cR_side 92 = .ok (.goto 5, 3) := by decide +kernel
theorem dR_side_95 : decode cR_side 95 = .ok (.iload 4, 2) := by decide +kernel
theorem dR_side_97 : decode cR_side 97 = .ok (.ireturn, 1) := by decide +kernel
theorem dR_areaOf_0 : decode cR_areaOf 0 = .ok (.aload_n 0, 1) := by decide +kernel
theorem dR_areaOf_1 : decode cR_areaOf 1 = .ok (.getfield 28, 3) := by decide +kernel
theorem dR_areaOf_4 : decode cR_areaOf 4 = .ok (.iconst 0, 1) := by decide +kernel
theorem dR_areaOf_5 : decode cR_areaOf 5 = .ok (.iaload, 1) := by decide +kernel
theorem dR_areaOf_6 : decode cR_areaOf 6 = .ok (.i2l, 1) := by decide +kernel
theorem dR_areaOf_7 : decode cR_areaOf 7 = .ok (.lstore_n 2, 1) := by decide +kernel
theorem dR_areaOf_8 : decode cR_areaOf 8 = .ok (.aload_n 0, 1) := by decide +kernel
theorem dR_areaOf_9 : decode cR_areaOf 9 = .ok (.getfield 28, 3) := by decide +kernel
theorem dR_areaOf_12 : decode cR_areaOf 12 = .ok (.iconst 1, 1) := by decide +kernel
theorem dR_areaOf_13 : decode cR_areaOf 13 = .ok (.iaload, 1) := by decide +kernel
theorem dR_areaOf_14 : decode cR_areaOf 14 = .ok (.i2l, 1) := by decide +kernel
theorem dR_areaOf_15 : decode cR_areaOf 15 = .ok (.lstore 4, 2) := by decide +kernel
theorem dR_areaOf_17 : decode cR_areaOf 17 = .ok (.iconst 4, 1) := by decide +kernel
theorem dR_areaOf_18 : decode cR_areaOf 18 = .ok (.iload_n 1, 1) := by decide +kernel
theorem dR_areaOf_19 : decode cR_areaOf 19 = .ok (.iconst 1, 1) := by decide +kernel
theorem dR_areaOf_20 : decode cR_areaOf 20 = .ok (.invokestatic 120, 3) := by decide +kernel
theorem dR_areaOf_23 : decode cR_areaOf 23 = .ok (.imul, 1) := by decide +kernel
theorem dR_areaOf_24 : decode cR_areaOf 24 = .ok (.istore 6, 2) := by decide +kernel
theorem dR_areaOf_26 : decode cR_areaOf 26 = .ok (.iconst 4, 1) := by decide +kernel
theorem dR_areaOf_27 : decode cR_areaOf 27 = .ok (.iload_n 1, 1) := by decide +kernel
theorem dR_areaOf_28 : decode cR_areaOf 28 = .ok (.iconst 2, 1) := by decide +kernel
theorem dR_areaOf_29 : decode cR_areaOf 29 = .ok (.invokestatic 120, 3) := by decide +kernel
theorem dR_areaOf_32 : decode cR_areaOf 32 = .ok (.imul, 1) := by decide +kernel
theorem dR_areaOf_33 : decode cR_areaOf 33 = .ok (.istore 7, 2) := by decide +kernel
theorem dR_areaOf_35 : decode cR_areaOf 35 = .ok (.aload_n 0, 1) := by decide +kernel
theorem dR_areaOf_36 : decode cR_areaOf 36 = .ok (.getfield 28, 3) := by decide +kernel
theorem dR_areaOf_39 : decode cR_areaOf 39 = .ok (.iload 6, 2) := by decide +kernel
theorem dR_areaOf_41 : decode cR_areaOf 41 = .ok (.iaload, 1) := by decide +kernel
theorem dR_areaOf_42 : decode cR_areaOf 42 = .ok (.i2l, 1) := by decide +kernel
theorem dR_areaOf_43 : decode cR_areaOf 43 = .ok (.lload_n 2, 1) := by decide +kernel
theorem dR_areaOf_44 : decode cR_areaOf 44 = .ok (.lsub, 1) := by decide +kernel
theorem dR_areaOf_45 : decode cR_areaOf 45 = .ok (.aload_n 0, 1) := by decide +kernel
theorem dR_areaOf_46 : decode cR_areaOf 46 = .ok (.getfield 28, 3) := by decide +kernel
theorem dR_areaOf_49 : decode cR_areaOf 49 = .ok (.iload 7, 2) := by decide +kernel
theorem dR_areaOf_51 : decode cR_areaOf 51 = .ok (.iconst 1, 1) := by decide +kernel
theorem dR_areaOf_52 : decode cR_areaOf 52 = .ok (.iadd, 1) := by decide +kernel
theorem dR_areaOf_53 : decode cR_areaOf 53 = .ok (.iaload, 1) := by decide +kernel
theorem dR_areaOf_54 : decode cR_areaOf 54 = .ok (.i2l, 1) := by decide +kernel
theorem dR_areaOf_55 : decode cR_areaOf 55 = .ok (.lload 4, 2) := by decide +kernel
theorem dR_areaOf_57 : decode cR_areaOf 57 = .ok (.lsub, 1) := by decide +kernel
theorem dR_areaOf_58 : decode cR_areaOf 58 = .ok (.lmul, 1) := by decide +kernel
theorem dR_areaOf_59 : decode cR_areaOf 59 = .ok (.aload_n 0, 1) := by decide +kernel
theorem dR_areaOf_60 : decode cR_areaOf 60 = .ok (.getfield 28, 3) := by decide +kernel
theorem dR_areaOf_63 : decode cR_areaOf 63 = .ok (.iload 7, 2) := by decide +kernel
theorem dR_areaOf_65 : decode cR_areaOf 65 = .ok (.iaload, 1) := by decide +kernel
theorem dR_areaOf_66 : decode cR_areaOf 66 = .ok (.i2l, 1) := by decide +kernel
theorem dR_areaOf_67 : decode cR_areaOf 67 = .ok (.lload_n 2, 1) := by decide +kernel
theorem dR_areaOf_68 : decode cR_areaOf 68 = .ok (.lsub, 1) := by decide +kernel
theorem dR_areaOf_69 : decode cR_areaOf 69 = .ok (.aload_n 0, 1) := by decide +kernel
theorem dR_areaOf_70 : decode cR_areaOf 70 = .ok (.getfield 28, 3) := by decide +kernel
theorem dR_areaOf_73 : decode cR_areaOf 73 = .ok (.iload 6, 2) := by decide +kernel
theorem dR_areaOf_75 : decode cR_areaOf 75 = .ok (.iconst 1, 1) := by decide +kernel
theorem dR_areaOf_76 : decode cR_areaOf 76 = .ok (.iadd, 1) := by decide +kernel
theorem dR_areaOf_77 : decode cR_areaOf 77 = .ok (.iaload, 1) := by decide +kernel
theorem dR_areaOf_78 : decode cR_areaOf 78 = .ok (.i2l, 1) := by decide +kernel
theorem dR_areaOf_79 : decode cR_areaOf 79 = .ok (.lload 4, 2) := by decide +kernel
theorem dR_areaOf_81 : decode cR_areaOf 81 = .ok (.lsub, 1) := by decide +kernel
theorem dR_areaOf_82 : decode cR_areaOf 82 = .ok (.lmul, 1) := by decide +kernel
theorem dR_areaOf_83 : decode cR_areaOf 83 = .ok (.lsub, 1) := by decide +kernel
theorem dR_areaOf_84 : decode cR_areaOf 84 = .ok (.lreturn, 1) := by decide +kernel
theorem dR_cornerOf_0 : decode cR_cornerOf 0 = .ok (.iload_n 1, 1) := by decide +kernel
theorem dR_cornerOf_1 : decode cR_cornerOf 1 = .ok (.ifCond .ne 7, 3) := by decide +kernel
theorem dR_cornerOf_4 : decode cR_cornerOf 4 = .ok (.iconst 0, 1) := by decide +kernel
theorem dR_cornerOf_5 : decode cR_cornerOf 5 = .ok (.goto 6, 3) := by decide +kernel
theorem dR_cornerOf_8 : decode cR_cornerOf 8 = .ok (.iload_n 0, 1) := by decide +kernel
theorem dR_cornerOf_9 : decode cR_cornerOf 9 = .ok (.iload_n 1, 1) := by decide +kernel
theorem dR_cornerOf_10 : decode cR_cornerOf 10 = .ok (.iadd, 1) := by decide +kernel
theorem dR_cornerOf_11 : decode cR_cornerOf 11 = .ok (.ireturn, 1) := by decide +kernel
theorem dR_got_0 : decode cR_got 0 = .ok (.aload_n 0, 1) := by decide +kernel
theorem dR_got_1 : decode cR_got 1 = .ok (.iload_n 1, 1) := by decide +kernel
theorem dR_got_2 : decode cR_got 2 = .ok (.iconst 0, 1) := by decide +kernel
theorem dR_got_3 : decode cR_got 3 = .ok (.aload_n 0, 1) := by decide +kernel
theorem dR_got_4 : decode cR_got 4 = .ok (.getfield 64, 3) := by decide +kernel
theorem dR_got_7 : decode cR_got 7 = .ok (.iconst 1, 1) := by decide +kernel
theorem dR_got_8 : decode cR_got 8 = .ok (.isub, 1) := by decide +kernel
theorem dR_got_9 : decode cR_got 9 = .ok (.invokestatic 38, 3) := by decide +kernel
theorem dR_got_12 : decode cR_got 12 = .ok (.ifCond .ne 7, 3) := by decide +kernel
theorem dR_got_15 : decode cR_got 15 = .ok (.iconst 1, 1) := by decide +kernel
theorem dR_got_16 : decode cR_got 16 = .ok (.goto 4, 3) := by decide +kernel
theorem dR_got_19 : decode cR_got 19 = .ok (.iconst 0, 1) := by decide +kernel
theorem dR_got_20 : decode cR_got 20 = .ok (.iload_n 2, 1) := by decide +kernel
theorem dR_got_21 : decode cR_got 21 = .ok (.iconst 0, 1) := by decide +kernel
theorem dR_got_22 : decode cR_got 22 = .ok (.iconst 2, 1) := by decide +kernel
theorem dR_got_23 : decode cR_got 23 = .ok (.invokestatic 38, 3) := by decide +kernel
theorem dR_got_26 : decode cR_got 26 = .ok (.ifCond .eq 13, 3) := by decide +kernel
theorem dR_got_29 : decode cR_got 29 = .ok (.iload_n 3, 1) := by decide +kernel
theorem dR_got_30 : decode cR_got 30 = .ok (.iconst 0, 1) := by decide +kernel
theorem dR_got_31 : decode cR_got 31 = .ok (.bipush 31, 2) := by decide +kernel
theorem dR_got_33 : decode cR_got 33 = .ok (.invokestatic 38, 3) := by decide +kernel
theorem dR_got_36 : decode cR_got 36 = .ok (.ifCond .ne 7, 3) := by decide +kernel
theorem dR_got_39 : decode cR_got 39 = .ok (.iconst 1, 1) := by decide +kernel
theorem dR_got_40 : decode cR_got 40 = .ok (.goto 4, 3) := by decide +kernel
theorem dR_got_43 : decode cR_got 43 = .ok (.iconst 0, 1) := by decide +kernel
theorem dR_got_44 : decode cR_got 44 = .ok (.invokevirtual 42, 3) := by decide +kernel
theorem dR_got_47 : decode cR_got 47 = .ok (.ifCond .eq 5, 3) := by decide +kernel
theorem dR_got_50 : decode cR_got 50 = .ok (.iconst 0, 1) := by decide +kernel
theorem dR_got_51 : decode cR_got 51 = .ok (.ireturn, 1) := by decide +kernel
theorem dR_got_52 : decode cR_got 52 = .ok (.iload_n 1, 1) := by decide +kernel
theorem dR_got_53 : decode cR_got 53 = .ok (.iload_n 2, 1) := by decide +kernel
theorem dR_got_54 : decode cR_got 54 = .ok (.invokestatic 120, 3) := by decide +kernel
theorem dR_got_57 : decode cR_got 57 = .ok (.istore 4, 2) := by decide +kernel
theorem dR_got_59 : decode cR_got 59 = .ok (.iload_n 3, 1) := by decide +kernel
theorem dR_got_60 : decode cR_got 60 = .ok (.iconst 4, 1) := by decide +kernel
theorem dR_got_61 : decode cR_got 61 = .ok (.if_icmp .ge 17, 3) := by decide +kernel
theorem dR_got_64 : decode cR_got 64 = .ok (.aload_n 0, 1) := by decide +kernel
theorem dR_got_65 : decode cR_got 65 = .ok (.getfield 28, 3) := by decide +kernel
theorem dR_got_68 : decode cR_got 68 = .ok (.iconst 4, 1) := by decide +kernel
theorem dR_got_69 : decode cR_got 69 = .ok (.iload 4, 2) := by decide +kernel
theorem dR_got_71 : decode cR_got 71 = .ok (.imul, 1) := by decide +kernel
theorem dR_got_72 : decode cR_got 72 = .ok (.iload_n 3, 1) := by decide +kernel
theorem dR_got_73 : decode cR_got 73 = .ok (.iadd, 1) := by decide +kernel
theorem dR_got_74 : decode cR_got 74 = .ok (.iaload, 1) := by decide +kernel
theorem dR_got_75 : decode cR_got 75 = .ok (.goto 15, 3) := by decide +kernel
theorem dR_got_78 : decode cR_got 78 = .ok (.aload_n 0, 1) := by decide +kernel
theorem dR_got_79 : decode cR_got 79 = .ok (.getfield 22, 3) := by decide +kernel
theorem dR_got_82 : decode cR_got 82 = .ok (.bipush 32, 2) := by decide +kernel
theorem dR_got_84 : decode cR_got 84 = .ok (.iload 4, 2) := by decide +kernel
theorem dR_got_86 : decode cR_got 86 = .ok (.imul, 1) := by decide +kernel
theorem dR_got_87 : decode cR_got 87 = .ok (.iload_n 3, 1) := by decide +kernel
theorem dR_got_88 : decode cR_got 88 = .ok (.iadd, 1) := by decide +kernel
theorem dR_got_89 : decode cR_got 89 = .ok (.iaload, 1) := by decide +kernel
theorem dR_got_90 : decode cR_got 90 = .ok (.ireturn, 1) := by decide +kernel
theorem dR_area_0 : decode cR_area 0 = .ok (.aload_n 0, 1) := by decide +kernel
theorem dR_area_1 : decode cR_area 1 = .ok (.iload_n 1, 1) := by decide +kernel
theorem dR_area_2 : decode cR_area 2 = .ok (.iconst 0, 1) := by decide +kernel
theorem dR_area_3 : decode cR_area 3 = .ok (.aload_n 0, 1) := by decide +kernel
theorem dR_area_4 : decode cR_area 4 = .ok (.getfield 64, 3) := by decide +kernel
theorem dR_area_7 : decode cR_area 7 = .ok (.iconst 1, 1) := by decide +kernel
theorem dR_area_8 : decode cR_area 8 = .ok (.isub, 1) := by decide +kernel
theorem dR_area_9 : decode cR_area 9 = .ok (.invokestatic 38, 3) := by decide +kernel
theorem dR_area_12 : decode cR_area 12 = .ok (.ifCond .ne 7, 3) := by decide +kernel
theorem dR_area_15 : decode cR_area 15 = .ok (.iconst 1, 1) := by decide +kernel
theorem dR_area_16 : decode cR_area 16 = .ok (.goto 4, 3) := by decide +kernel
theorem dR_area_19 : decode cR_area 19 = .ok (.iconst 0, 1) := by decide +kernel
theorem dR_area_20 : decode cR_area 20 = .ok (.iconst 0, 1) := by decide +kernel
theorem dR_area_21 : decode cR_area 21 = .ok (.invokevirtual 42, 3) := by decide +kernel
theorem dR_area_24 : decode cR_area 24 = .ok (.ifCond .eq 5, 3) := by decide +kernel
theorem dR_area_27 : decode cR_area 27 = .ok (.lconst 0, 1) := by decide +kernel
theorem dR_area_28 : decode cR_area 28 = .ok (.lreturn, 1) := by decide +kernel
theorem dR_area_29 : decode cR_area 29 = .ok (.aload_n 0, 1) := by decide +kernel
theorem dR_area_30 : decode cR_area 30 = .ok (.iload_n 1, 1) := by decide +kernel
theorem dR_area_31 : decode cR_area 31 = .ok (.invokevirtual 124, 3) := by decide +kernel
theorem dR_area_34 : decode cR_area 34 = .ok (.lreturn, 1) := by decide +kernel
