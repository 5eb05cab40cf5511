theorem dX0_init_0 : decode cX0_init 0 = .ok (.aload_n 0, 1) := by decide +kernel
theorem dX0_init_1 : decode cX0_init 1 = .ok (.invokespecial 3, 3) := by decide +kernel
theorem dX0_init_4 : decode cX0_init 4 = .ok (.aload_n 0, 1) := by decide +kernel
theorem dX0_init_5 : decode cX0_init 5 = .ok (.bipush 8, 2) := by decide +kernel
theorem dX0_init_7 : decode cX0_init 7 = .ok (.newarray .int, 2) := by decide +kernel
theorem dX0_init_9 : decode cX0_init 9 = .ok (.putfield 9, 3) := by decide +kernel
theorem dX0_init_12 : decode cX0_init 12 = .ok (.aload_n 0, 1) := by decide +kernel
theorem dX0_init_13 : decode cX0_init 13 = .ok (.aload_n 1, 1) := by decide +kernel
theorem dX0_init_14 : decode cX0_init 14 = .ok (.putfield 15, 3) := by decide +kernel
theorem dX0_init_17 : decode cX0_init 17 = .ok (.aload_n 0, 1) := by decide +kernel
theorem dX0_init_18 : decode cX0_init 18 = .ok (.aload_n 2, 1) := by decide +kernel
theorem dX0_init_19 : decode cX0_init 19 = .ok (.putfield 19, 3) := by decide +kernel
theorem dX0_init_22 : decode cX0_init 22 = .ok (.aload_n 0, 1) := by decide +kernel
theorem dX0_init_23 : decode cX0_init 23 = .ok (.aload_n 3, 1) := by decide +kernel
theorem dX0_init_24 : decode cX0_init 24 = .ok (.putfield 23, 3) := by decide +kernel
theorem dX0_init_27 : decode cX0_init 27 = .ok (.aload_n 0, 1) := by decide +kernel
theorem dX0_init_28 : decode cX0_init 28 = .ok (.new 27, 3) := by decide +kernel
theorem dX0_init_31 : decode cX0_init 31 = .ok (.dup, 1) := by decide +kernel
theorem dX0_init_32 : decode cX0_init 32 = .ok (.invokespecial 29, 3) := by decide +kernel
theorem dX0_init_35 : decode cX0_init 35 = .ok (.putfield 30, 3) := by decide +kernel
theorem dX0_init_38 : decode cX0_init 38 = .ok (.aload_n 0, 1) := by decide +kernel
theorem dX0_init_39 : decode cX0_init 39 = .ok (.new 34, 3) := by decide +kernel
theorem dX0_init_42 : decode cX0_init 42 = .ok (.dup, 1) := by decide +kernel
theorem dX0_init_43 : decode cX0_init 43 = .ok (.invokespecial 36, 3) := by decide +kernel
theorem dX0_init_46 : decode cX0_init 46 = .ok (.putfield 37, 3) := by decide +kernel
theorem dX0_init_49 : decode cX0_init 49 = .ok (.return_, 1) := by decide +kernel
theorem dX0_perform_0 : decode cX0_perform 0 = .ok (.aload_n 3, 1) := by decide +kernel
theorem dX0_perform_1 : decode cX0_perform 1 = .ok (.invokevirtual 41, 3) := by decide +kernel
theorem dX0_perform_4 : decode cX0_perform 4 = .ok (.aload_n 0, 1) := by decide +kernel
theorem dX0_perform_5 : decode cX0_perform 5 = .ok (.aload_n 3, 1) := by decide +kernel
theorem dX0_perform_6 : decode cX0_perform 6 = .ok (.putfield 30, 3) := by decide +kernel
theorem dX0_perform_9 : decode cX0_perform 9 = .ok (.aload_n 0, 1) := by decide +kernel
theorem dX0_perform_10 : decode cX0_perform 10 = .ok (.aload_n 0, 1) := by decide +kernel
theorem dX0_perform_11 : decode cX0_perform 11 = .ok (.getfield 23, 3) := by decide +kernel
theorem dX0_perform_14 : decode cX0_perform 14 = .ok (.getfield 44, 3) := by decide +kernel
theorem dX0_perform_17 : decode cX0_perform 17 = .ok (.iload_n 2, 1) := by decide +kernel
theorem dX0_perform_18 : decode cX0_perform 18 = .ok (.aaload, 1) := by decide +kernel
theorem dX0_perform_19 : decode cX0_perform 19 = .ok (.putfield 37, 3) := by decide +kernel
theorem dX0_perform_22 : decode cX0_perform 22 = .ok (.aload_n 0, 1) := by decide +kernel
theorem dX0_perform_23 : decode cX0_perform 23 = .ok (.iconst 1, 1) := by decide +kernel
theorem dX0_perform_24 : decode cX0_perform 24 = .ok (.putfield 50, 3) := by decide +kernel
theorem dX0_perform_27 : decode cX0_perform 27 = .ok (.aload_n 0, 1) := by decide +kernel
theorem dX0_perform_28 : decode cX0_perform 28 = .ok (.iconst 0, 1) := by decide +kernel
theorem dX0_perform_29 : decode cX0_perform 29 = .ok (.putfield 54, 3) := by decide +kernel
theorem dX0_perform_32 : decode cX0_perform 32 = .ok (.aload_n 0, 1) := by decide +kernel
theorem dX0_perform_33 : decode cX0_perform 33 = .ok (.iconst 0, 1) := by decide +kernel
theorem dX0_perform_34 : decode cX0_perform 34 = .ok (.putfield 57, 3) := by decide +kernel
theorem dX0_perform_37 : decode cX0_perform 37 = .ok (.aload_n 0, 1) := by decide +kernel
theorem dX0_perform_38 : decode cX0_perform 38 = .ok (.getfield 23, 3) := by decide +kernel
theorem dX0_perform_41 : decode cX0_perform 41 = .ok (.iload_n 2, 1) := by decide +kernel
theorem dX0_perform_42 : decode cX0_perform 42 = .ok (.aload_n 0, 1) := by decide +kernel
theorem dX0_perform_43 : decode cX0_perform 43 = .ok (.getfield 9, 3) := by decide +kernel
theorem dX0_perform_46 : decode cX0_perform 46 = .ok (.invokevirtual 60, 3) := by decide +kernel
theorem dX0_perform_49 : decode cX0_perform 49 = .ok (.aload_n 0, 1) := by decide +kernel
theorem dX0_perform_50 : decode cX0_perform 50 = .ok (.iload_n 1, 1) := by decide +kernel
theorem dX0_perform_51 : decode cX0_perform 51 = .ok (.iconst 0, 1) := by decide +kernel
theorem dX0_perform_52 : decode cX0_perform 52 = .ok (.invokevirtual 64, 3) := by decide +kernel
theorem dX0_perform_55 : decode cX0_perform 55 = .ok (.aload_n 0, 1) := by decide +kernel
theorem dX0_perform_56 : decode cX0_perform 56 = .ok (.getfield 30, 3) := by decide +kernel
theorem dX0_perform_59 : decode cX0_perform 59 = .ok (.invokevirtual 68, 3) := by decide +kernel
theorem dX0_perform_62 : decode cX0_perform 62 = .ok (.ifCond .ne 11, 3) := by decide +kernel
theorem dX0_perform_65 : decode cX0_perform 65 = .ok (.aload_n 0, 1) := by decide +kernel
theorem dX0_perform_66 : decode cX0_perform 66 = .ok (.getfield 30, 3) := by decide +kernel
theorem dX0_perform_69 : decode cX0_perform 69 = .ok (.iconst 0, 1) := by decide +kernel
theorem dX0_perform_70 : decode cX0_perform 70 = .ok (.putfield 72, 3) := by decide +kernel
theorem dX0_perform_73 : decode cX0_perform 73 = .ok (.return_, 1) := by decide +kernel
theorem dX0_runScript_0 : decode cX0_runScript 0 = .ok (.iload_n 2, 1) := by decide +kernel
theorem dX0_runScript_1 : decode cX0_runScript 1 = .ok (.iconst 4, 1) := by decide +kernel
theorem dX0_runScript_2 : decode cX0_runScript 2 = .ok (.if_icmp .le 4, 3) := by decide +kernel
theorem dX0_runScript_5 : decode cX0_runScript 5 = .ok (.return_, 1) := by decide +kernel
theorem dX0_runScript_6 : decode cX0_runScript 6 = .ok (.aload_n 0, 1) := by decide +kernel
theorem dX0_runScript_7 : decode cX0_runScript 7 = .ok (.getfield 19, 3) := by decide +kernel
theorem dX0_runScript_10 : decode cX0_runScript 10 = .ok (.iload_n 1, 1) := by decide +kernel
theorem dX0_runScript_11 : decode cX0_runScript 11 = .ok (.aaload, 1) := by decide +kernel
theorem dX0_runScript_12 : decode cX0_runScript 12 = .ok (.astore_n 3, 1) := by decide +kernel
theorem dX0_runScript_13 : decode cX0_runScript 13 = .ok (.iconst 0, 1) := by decide +kernel
theorem dX0_runScript_14 : decode cX0_runScript 14 = .ok (.istore 4, 2) := by decide +kernel
theorem dX0_runScript_16 : decode cX0_runScript 16 = .ok (.iload 4, 2) := by decide +kernel
theorem dX0_runScript_18 : decode cX0_runScript 18 = .ok (.aload_n 3, 1) := by decide +kernel
theorem dX0_runScript_19 : decode cX0_runScript 19 = .ok (.getfield 76, 3) := by decide +kernel
theorem dX0_runScript_22 : decode cX0_runScript 22 = .ok (.if_icmp .ge 79, 3) := by decide +kernel
theorem dX0_runScript_25 : decode cX0_runScript 25 = .ok (.aload_n 0, 1) := by decide +kernel
theorem dX0_runScript_26 : decode cX0_runScript 26 = .ok (.getfield 57, 3) := by decide +kernel
theorem dX0_runScript_29 : decode cX0_runScript 29 = .ok (.ifCond .ne 72, 3) := by decide +kernel
theorem dX0_runScript_32 : decode cX0_runScript 32 = .ok (.aload_n 3, 1) := by decide +kernel
theorem dX0_runScript_33 : decode cX0_runScript 33 = .ok (.getfield 81, 3) := by decide +kernel
theorem dX0_runScript_36 : decode cX0_runScript 36 = .ok (.iload 4, 2) := by decide +kernel
theorem dX0_runScript_38 : decode cX0_runScript 38 = .ok (.aaload, 1) := by decide +kernel
theorem dX0_runScript_39 : decode cX0_runScript 39 = .ok (.astore 5, 2) := by decide +kernel
theorem dX0_runScript_41 : decode cX0_runScript 41 = .ok (.aload_n 0, 1) := by decide +kernel
theorem dX0_runScript_42 : decode cX0_runScript 42 = .ok (.aload 5, 2) := by decide +kernel
theorem dX0_runScript_44 : decode cX0_runScript 44 = .ok (.getfield 85, 3) := by decide +kernel
theorem dX0_runScript_47 : decode cX0_runScript 47 = .ok (.invokevirtual 90, 3) := by decide +kernel
theorem dX0_runScript_50 : decode cX0_runScript 50 = .ok (.ifCond .eq 45, 3) := by decide +kernel
theorem dX0_runScript_53 : decode cX0_runScript 53 = .ok (.iload_n 2, 1) := by decide +kernel
theorem dX0_runScript_54 : decode cX0_runScript 54 = .ok (.ifCond .ne 19, 3) := by decide +kernel
theorem dX0_runScript_57 : decode cX0_runScript 57 = .ok (.aload_n 0, 1) := by decide +kernel
theorem dX0_runScript_58 : decode cX0_runScript 58 = .ok (.getfield 30, 3) := by decide +kernel
theorem dX0_runScript_61 : decode cX0_runScript 61 = .ok (.dup, 1) := by decide +kernel
theorem dX0_runScript_62 : decode cX0_runScript 62 = .ok (.getfield 94, 3) := by decide +kernel
theorem dX0_runScript_65 : decode cX0_runScript 65 = .ok (.iconst 1, 1) := by decide +kernel
theorem dX0_runScript_66 : decode cX0_runScript 66 = .ok (.iload 4, 2) := by decide +kernel
theorem dX0_runScript_68 : decode cX0_runScript 68 = .ok (.ishl, 1) := by decide +kernel
theorem dX0_runScript_69 : decode cX0_runScript 69 = .ok (.ior, 1) := by decide +kernel
theorem dX0_runScript_70 : decode cX0_runScript 70 = .ok (.putfield 94, 3) := by decide +kernel
theorem dX0_runScript_73 : decode cX0_runScript 73 = .ok (.aload_n 0, 1) := by decide +kernel
theorem dX0_runScript_74 : decode cX0_runScript 74 = .ok (.aload 5, 2) := by decide +kernel
theorem dX0_runScript_76 : decode cX0_runScript 76 = .ok (.sipush 1000, 3) := by decide +kernel
theorem dX0_runScript_79 : decode cX0_runScript 79 = .ok (.iload_n 1, 1) := by decide +kernel
theorem dX0_runScript_80 : decode cX0_runScript 80 = .ok (.imul, 1) := by decide +kernel
theorem dX0_runScript_81 : decode cX0_runScript 81 = .ok (.bipush 10, 2) := by decide +kernel
theorem dX0_runScript_83 : decode cX0_runScript 83 = .ok (.iload 4, 2) := by decide +kernel
theorem dX0_runScript_85 : decode cX0_runScript 85 = .ok (.imul, 1) := by decide +kernel
theorem dX0_runScript_86 : decode cX0_runScript 86 = .ok (.iadd, 1) := by decide +kernel
theorem dX0_runScript_87 : decode cX0_runScript 87 = .ok (.iload_n 2, 1) := by decide +kernel
theorem dX0_runScript_88 : decode cX0_runScript 88 = .ok (.invokevirtual 97, 3) := by decide +kernel
theorem dX0_runScript_91 : decode cX0_runScript 91 = .ok (.ifCond .eq 4, 3) := by decide +kernel
theorem dX0_runScript_94 : decode cX0_runScript 94 = .ok (.return_, 1) := by decide +kernel
theorem dX0_runScript_95 : decode cX0_runScript 95 = .ok (.iinc 4 1, 3) := by decide +kernel
theorem dX0_runScript_98 : decode cX0_runScript 98 = .ok (.goto (-82), 3) := by decide +kernel
theorem dX0_runScript_101 : decode cX0_runScript 101 = .ok (.return_, 1) := by decide +kernel
theorem dX0_isMet_0 : decode cX0_isMet 0 = .ok (.aload_n 0, 1) := by decide +kernel
theorem dX0_isMet_1 : decode cX0_isMet 1 = .ok (.getfield 50, 3) := by decide +kernel
theorem dX0_isMet_4 : decode cX0_isMet 4 = .ok (.ifCond .eq 30, 3) := by decide +kernel
theorem dX0_isMet_7 : decode cX0_isMet 7 = .ok (.aload_n 0, 1) := by decide +kernel
theorem dX0_isMet_8 : decode cX0_isMet 8 = .ok (.aload_n 0, 1) := by decide +kernel
theorem dX0_isMet_9 : decode cX0_isMet 9 = .ok (.getfield 15, 3) := by decide +kernel
theorem dX0_isMet_12 : decode cX0_isMet 12 = .ok (.aload_n 0, 1) := by decide +kernel
theorem dX0_isMet_13 : decode cX0_isMet 13 = .ok (.getfield 37, 3) := by decide +kernel
theorem dX0_isMet_16 : decode cX0_isMet 16 = .ok (.aload_n 0, 1) := by decide +kernel
theorem dX0_isMet_17 : decode cX0_isMet 17 = .ok (.getfield 30, 3) := by decide +kernel
theorem dX0_isMet_20 : decode cX0_isMet 20 = .ok (.getfield 101, 3) := by decide +kernel
theorem dX0_isMet_23 : decode cX0_isMet 23 = .ok (.invokevirtual 104, 3) := by decide +kernel
theorem dX0_isMet_26 : decode cX0_isMet 26 = .ok (.putfield 110, 3) := by decide +kernel
theorem dX0_isMet_29 : decode cX0_isMet 29 = .ok (.aload_n 0, 1) := by decide +kernel
theorem dX0_isMet_30 : decode cX0_isMet 30 = .ok (.iconst 0, 1) := by decide +kernel
theorem dX0_isMet_31 : decode cX0_isMet 31 = .ok (.putfield 50, 3) := by decide +kernel
theorem dX0_isMet_34 : decode cX0_isMet 34 = .ok (.aload_n 0, 1) := by decide +kernel
theorem dX0_isMet_35 : decode cX0_isMet 35 = .ok (.getfield 110, 3) := by decide +kernel
theorem dX0_isMet_38 : decode cX0_isMet 38 = .ok (.iload_n 1, 1) := by decide +kernel
theorem dX0_isMet_39 : decode cX0_isMet 39 = .ok (.invokestatic 114, 3) := by decide +kernel
theorem dX0_isMet_42 : decode cX0_isMet 42 = .ok (.ireturn, 1) := by decide +kernel
theorem dX0_endsBy_0 : decode cX0_endsBy 0 = .ok (.iconst 0, 1) := by decide +kernel
theorem dX0_endsBy_1 : decode cX0_endsBy 1 = .ok (.istore 4, 2) := by decide +kernel
theorem dX0_endsBy_3 : decode cX0_endsBy 3 = .ok (.iload 4, 2) := by decide +kernel
theorem dX0_endsBy_5 : decode cX0_endsBy 5 = .ok (.aload_n 1, 1) := by decide +kernel
theorem dX0_endsBy_6 : decode cX0_endsBy 6 = .ok (.getfield 118, 3) := by decide +kernel
theorem dX0_endsBy_9 : decode cX0_endsBy 9 = .ok (.if_icmp .ge 141, 3) := by decide +kernel
theorem dX0_endsBy_12 : decode cX0_endsBy 12 = .ok (.aload_n 0, 1) := by decide +kernel
theorem dX0_endsBy_13 : decode cX0_endsBy 13 = .ok (.getfield 57, 3) := by decide +kernel
theorem dX0_endsBy_16 : decode cX0_endsBy 16 = .ok (.ifCond .ne 134, 3) := by decide +kernel
theorem dX0_endsBy_19 : decode cX0_endsBy 19 = .ok (.aload_n 1, 1) := by decide +kernel
theorem dX0_endsBy_20 : decode cX0_endsBy 20 = .ok (.getfield 119, 3) := by decide +kernel
theorem dX0_endsBy_23 : decode cX0_endsBy 23 = .ok (.iload 4, 2) := by decide +kernel
theorem dX0_endsBy_25 : decode cX0_endsBy 25 = .ok (.caload, 1) := by decide +kernel
theorem dX0_endsBy_26 : decode cX0_endsBy 26 = .ok (.istore 5, 2) := by decide +kernel
theorem dX0_endsBy_28 : decode cX0_endsBy 28 = .ok (.aload_n 1, 1) := by decide +kernel
theorem dX0_endsBy_29 : decode cX0_endsBy 29 = .ok (.getfield 123, 3) := by decide +kernel
theorem dX0_endsBy_32 : decode cX0_endsBy 32 = .ok (.iload 4, 2) := by decide +kernel
theorem dX0_endsBy_34 : decode cX0_endsBy 34 = .ok (.iaload, 1) := by decide +kernel
theorem dX0_endsBy_35 : decode cX0_endsBy 35 = .ok (.istore 6, 2) := by decide +kernel
theorem dX0_endsBy_37 : decode cX0_endsBy 37 = .ok (.aload_n 0, 1) := by decide +kernel
theorem dX0_endsBy_38 : decode cX0_endsBy 38 = .ok (.iload 5, 2) := by decide +kernel
theorem dX0_endsBy_40 : decode cX0_endsBy 40 = .ok (.invokevirtual 126, 3) := by decide +kernel
theorem dX0_endsBy_43 : decode cX0_endsBy 43 = .ok (.ifCond .eq 19, 3) := by decide +kernel
theorem dX0_endsBy_46 : decode cX0_endsBy 46 = .ok (.aload_n 0, 1) := by decide +kernel
theorem dX0_endsBy_47 : decode cX0_endsBy 47 = .ok (.getfield 30, 3) := by decide +kernel
theorem dX0_endsBy_50 : decode cX0_endsBy 50 = .ok (.dup, 1) := by decide +kernel
theorem dX0_endsBy_51 : decode cX0_endsBy 51 = .ok (.getfield 130, 3) := by decide +kernel
theorem dX0_endsBy_54 : decode cX0_endsBy 54 = .ok (.iconst 1, 1) := by decide +kernel
theorem dX0_endsBy_55 : decode cX0_endsBy 55 = .ok (.iadd, 1) := by decide +kernel
theorem dX0_endsBy_56 : decode cX0_endsBy 56 = .ok (.putfield 130, 3) := by decide +kernel
theorem dX0_endsBy_59 : decode cX0_endsBy 59 = .ok (.goto 85, 3) := by decide +kernel
theorem dX0_endsBy_62 : decode cX0_endsBy 62 = .ok (.aload_n 0, 1) := by decide +kernel
theorem dX0_endsBy_63 : decode cX0_endsBy 63 = .ok (.iload 5, 2) := by decide +kernel
theorem dX0_endsBy_65 : decode cX0_endsBy 65 = .ok (.iload 6, 2) := by decide +kernel
theorem dX0_endsBy_67 : decode cX0_endsBy 67 = .ok (.iload_n 3, 1) := by decide +kernel
theorem dX0_endsBy_68 : decode cX0_endsBy 68 = .ok (.invokevirtual 133, 3) := by decide +kernel
theorem dX0_endsBy_71 : decode cX0_endsBy 71 = .ok (.ifCond .ne 73, 3) := by decide +kernel
theorem dX0_endsBy_74 : decode cX0_endsBy 74 = .ok (.aload_n 0, 1) := by decide +kernel
theorem dX0_endsBy_75 : decode cX0_endsBy 75 = .ok (.getfield 30, 3) := by decide +kernel
theorem dX0_endsBy_78 : decode cX0_endsBy 78 = .ok (.getfield 137, 3) := by decide +kernel
theorem dX0_endsBy_81 : decode cX0_endsBy 81 = .ok (.sipush 200, 3) := by decide +kernel
theorem dX0_endsBy_84 : decode cX0_endsBy 84 = .ok (.if_icmp .lt 10, 3) := by decide +kernel
theorem dX0_endsBy_87 : decode cX0_endsBy 87 = .ok (.aload_n 0, 1) := by decide +kernel
theorem dX0_endsBy_88 : decode cX0_endsBy 88 = .ok (.iconst 1, 1) := by decide +kernel
theorem dX0_endsBy_89 : decode cX0_endsBy 89 = .ok (.putfield 57, 3) := by decide +kernel
theorem dX0_endsBy_92 : decode cX0_endsBy 92 = .ok (.iconst 0, 1) := by decide +kernel
theorem dX0_endsBy_93 : decode cX0_endsBy 93 = .ok (.ireturn, 1) := by decide +kernel
theorem dX0_endsBy_94 : decode cX0_endsBy 94 = .ok (.aload_n 0, 1) := by decide +kernel
theorem dX0_endsBy_95 : decode cX0_endsBy 95 = .ok (.getfield 30, 3) := by decide +kernel
theorem dX0_endsBy_98 : decode cX0_endsBy 98 = .ok (.getfield 140, 3) := by decide +kernel
theorem dX0_endsBy_101 : decode cX0_endsBy 101 = .ok (.aload_n 0, 1) := by decide +kernel
theorem dX0_endsBy_102 : decode cX0_endsBy 102 = .ok (.getfield 30, 3) := by decide +kernel
theorem dX0_endsBy_105 : decode cX0_endsBy 105 = .ok (.getfield 137, 3) := by decide +kernel
theorem dX0_endsBy_108 : decode cX0_endsBy 108 = .ok (.iload_n 2, 1) := by decide +kernel
theorem dX0_endsBy_109 : decode cX0_endsBy 109 = .ok (.iload 4, 2) := by decide +kernel
theorem dX0_endsBy_111 : decode cX0_endsBy 111 = .ok (.iadd, 1) := by decide +kernel
theorem dX0_endsBy_112 : decode cX0_endsBy 112 = .ok (.iastore, 1) := by decide +kernel
theorem dX0_endsBy_113 : decode cX0_endsBy 113 = .ok (.aload_n 0, 1) := by decide +kernel
theorem dX0_endsBy_114 : decode cX0_endsBy 114 = .ok (.getfield 30, 3) := by decide +kernel
theorem dX0_endsBy_117 : decode cX0_endsBy 117 = .ok (.dup, 1) := by decide +kernel
theorem dX0_endsBy_118 : decode cX0_endsBy 118 = .ok (.getfield 137, 3) := by decide +kernel
theorem dX0_endsBy_121 : decode cX0_endsBy 121 = .ok (.iconst 1, 1) := by decide +kernel
theorem dX0_endsBy_122 : decode cX0_endsBy 122 = .ok (.iadd, 1) := by decide +kernel
theorem dX0_endsBy_123 : decode cX0_endsBy 123 = .ok (.putfield 137, 3) := by decide +kernel
theorem dX0_endsBy_126 : decode cX0_endsBy 126 = .ok (.aload_n 0, 1) := by decide +kernel
theorem dX0_endsBy_127 : decode cX0_endsBy 127 = .ok (.iload 5, 2) := by decide +kernel
theorem dX0_endsBy_129 : decode cX0_endsBy 129 = .ok (.iload 6, 2) := by decide +kernel
theorem dX0_endsBy_131 : decode cX0_endsBy 131 = .ok (.iload_n 3, 1) := by decide +kernel
theorem dX0_endsBy_132 : decode cX0_endsBy 132 = .ok (.invokevirtual 143, 3) := by decide +kernel
theorem dX0_endsBy_135 : decode cX0_endsBy 135 = .ok (.iload 5, 2) := by decide +kernel
theorem dX0_endsBy_137 : decode cX0_endsBy 137 = .ok (.bipush 115, 2) := by decide +kernel
theorem dX0_endsBy_139 : decode cX0_endsBy 139 = .ok (.if_icmp .ne 5, 3) := by decide +kernel
theorem dX0_endsBy_142 : decode cX0_endsBy 142 = .ok (.iconst 1, 1) := by decide +kernel
theorem dX0_endsBy_143 : decode cX0_endsBy 143 = .ok (.ireturn, 1) := by decide +kernel
theorem dX0_endsBy_144 : decode cX0_endsBy 144 = .ok (.iinc 4 1, 3) := by decide +kernel
theorem dX0_endsBy_147 : decode cX0_endsBy 147 = .ok (.goto (-144), 3) := by decide +kernel
theorem dX0_endsBy_150 : decode cX0_endsBy 150 = .ok (.iconst 0, 1) := by decide +kernel
theorem dX0_endsBy_151 : decode cX0_endsBy 151 = .ok (.ireturn, 1) := by decide +kernel
theorem dX0_isClash_0 : decode cX0_isClash 0 = .ok (.iload_n 1, 1) := by decide +kernel
theorem dX0_isClash_1 : decode cX0_isClash 1 = .ok (.tableswitch 152 99 120 #[134, 152, 152, 152, 152, 152, 152, 152, 103, 152, 103, 152, 152, 152, 152, 111, 152, 152, 152, 134, 134, 103], 103) := by decide +kernel
theorem dX0_isClash_104 : decode cX0_isClash 104 = .ok (.aload_n 0, 1) := by decide +kernel
theorem dX0_isClash_105 : decode cX0_isClash 105 = .ok (.getfield 30, 3) := by decide +kernel
theorem dX0_isClash_108 : decode cX0_isClash 108 = .ok (.invokevirtual 68, 3) := by decide +kernel
theorem dX0_isClash_111 : decode cX0_isClash 111 = .ok (.ireturn, 1) := by decide +kernel
theorem dX0_isClash_112 : decode cX0_isClash 112 = .ok (.aload_n 0, 1) := by decide +kernel
theorem dX0_isClash_113 : decode cX0_isClash 113 = .ok (.getfield 30, 3) := by decide +kernel
theorem dX0_isClash_116 : decode cX0_isClash 116 = .ok (.invokevirtual 68, 3) := by decide +kernel
theorem dX0_isClash_119 : decode cX0_isClash 119 = .ok (.ifCond .ne 10, 3) := by decide +kernel
theorem dX0_isClash_122 : decode cX0_isClash 122 = .ok (.aload_n 0, 1) := by decide +kernel
theorem dX0_isClash_123 : decode cX0_isClash 123 = .ok (.getfield 54, 3) := by decide +kernel
theorem dX0_isClash_126 : decode cX0_isClash 126 = .ok (.ifCond .eq 7, 3) := by decide +kernel
theorem dX0_isClash_129 : decode cX0_isClash 129 = .ok (.iconst 1, 1) := by decide +kernel
theorem dX0_isClash_130 : decode cX0_isClash 130 = .ok (.goto 4, 3) := by decide +kernel
theorem dX0_isClash_133 : decode cX0_isClash 133 = .ok (.iconst 0, 1) := by decide +kernel
theorem dX0_isClash_134 : decode cX0_isClash 134 = .ok (.ireturn, 1) := by decide +kernel
theorem dX0_isClash_135 : decode cX0_isClash 135 = .ok (.aload_n 0, 1) := by decide +kernel
theorem dX0_isClash_136 : decode cX0_isClash 136 = .ok (.getfield 30, 3) := by decide +kernel
theorem dX0_isClash_139 : decode cX0_isClash 139 = .ok (.getfield 72, 3) := by decide +kernel
theorem dX0_isClash_142 : decode cX0_isClash 142 = .ok (.bipush 9, 2) := by decide +kernel
theorem dX0_isClash_144 : decode cX0_isClash 144 = .ok (.if_icmp .ne 7, 3) := by decide +kernel
theorem dX0_isClash_147 : decode cX0_isClash 147 = .ok (.iconst 1, 1) := by decide +kernel
theorem dX0_isClash_148 : decode cX0_isClash 148 = .ok (.goto 4, 3) := by decide +kernel
theorem dX0_isClash_151 : decode cX0_isClash 151 = .ok (.iconst 0, 1) := by decide +kernel
theorem dX0_isClash_152 : decode cX0_isClash 152 = .ok (.ireturn, 1) := by decide +kernel
theorem dX0_isClash_153 : decode cX0_isClash 153 = .ok (.iconst 0, 1) := by decide +kernel
theorem dX0_isClash_154 : decode cX0_isClash 154 = .ok (.ireturn, 1) := by decide +kernel
theorem dX0_isFault_0 : decode cX0_isFault 0 = .ok (.iload_n 1, 1) := by decide +kernel
theorem dX0_isFault_1 : decode cX0_isFault 1 = .ok (.bipush 105, 2) := by decide +kernel
theorem dX0_isFault_3 : decode cX0_isFault 3 = .ok (.if_icmp .ne 23, 3) := by decide +kernel
theorem dX0_isFault_6 : decode cX0_isFault 6 = .ok (.iload_n 3, 1) := by decide +kernel
theorem dX0_isFault_7 : decode cX0_isFault 7 = .ok (.iconst 4, 1) := by decide +kernel
theorem dX0_isFault_8 : decode cX0_isFault 8 = .ok (.if_icmp .lt 18, 3) := by decide +kernel
theorem dX0_isFault_11 : decode cX0_isFault 11 = .ok (.aload_n 0, 1) := by decide +kernel
theorem dX0_isFault_12 : decode cX0_isFault 12 = .ok (.getfield 30, 3) := by decide +kernel
theorem dX0_isFault_15 : decode cX0_isFault 15 = .ok (.dup, 1) := by decide +kernel
theorem dX0_isFault_16 : decode cX0_isFault 16 = .ok (.getfield 147, 3) := by decide +kernel
theorem dX0_isFault_19 : decode cX0_isFault 19 = .ok (.iconst 1, 1) := by decide +kernel
theorem dX0_isFault_20 : decode cX0_isFault 20 = .ok (.iadd, 1) := by decide +kernel
theorem dX0_isFault_21 : decode cX0_isFault 21 = .ok (.putfield 147, 3) := by decide +kernel
theorem dX0_isFault_24 : decode cX0_isFault 24 = .ok (.iconst 1, 1) := by decide +kernel
theorem dX0_isFault_25 : decode cX0_isFault 25 = .ok (.ireturn, 1) := by decide +kernel
theorem dX0_isFault_26 : decode cX0_isFault 26 = .ok (.iload_n 1, 1) := by decide +kernel
theorem dX0_isFault_27 : decode cX0_isFault 27 = .ok (.bipush 119, 2) := by decide +kernel
theorem dX0_isFault_29 : decode cX0_isFault 29 = .ok (.if_icmp .ne 51, 3) := by decide +kernel
theorem dX0_isFault_32 : decode cX0_isFault 32 = .ok (.iload_n 2, 1) := by decide +kernel
theorem dX0_isFault_33 : decode cX0_isFault 33 = .ok (.aload_n 0, 1) := by decide +kernel
theorem dX0_isFault_34 : decode cX0_isFault 34 = .ok (.getfield 37, 3) := by decide +kernel
theorem dX0_isFault_37 : decode cX0_isFault 37 = .ok (.getfield 150, 3) := by decide +kernel
theorem dX0_isFault_40 : decode cX0_isFault 40 = .ok (.if_icmp .eq 25, 3) := by decide +kernel
theorem dX0_isFault_43 : decode cX0_isFault 43 = .ok (.aload_n 0, 1) := by decide +kernel
theorem dX0_isFault_44 : decode cX0_isFault 44 = .ok (.getfield 37, 3) := by decide +kernel
theorem dX0_isFault_47 : decode cX0_isFault 47 = .ok (.getfield 153, 3) := by decide +kernel
theorem dX0_isFault_50 : decode cX0_isFault 50 = .ok (.aload_n 0, 1) := by decide +kernel
theorem dX0_isFault_51 : decode cX0_isFault 51 = .ok (.getfield 30, 3) := by decide +kernel
theorem dX0_isFault_54 : decode cX0_isFault 54 = .ok (.getfield 156, 3) := by decide +kernel
theorem dX0_isFault_57 : decode cX0_isFault 57 = .ok (.ior, 1) := by decide +kernel
theorem dX0_isFault_58 : decode cX0_isFault 58 = .ok (.iload_n 2, 1) := by decide +kernel
theorem dX0_isFault_59 : decode cX0_isFault 59 = .ok (.invokestatic 159, 3) := by decide +kernel
theorem dX0_isFault_62 : decode cX0_isFault 62 = .ok (.ifCond .eq 18, 3) := by decide +kernel
theorem dX0_isFault_65 : decode cX0_isFault 65 = .ok (.aload_n 0, 1) := by decide +kernel
theorem dX0_isFault_66 : decode cX0_isFault 66 = .ok (.getfield 30, 3) := by decide +kernel
theorem dX0_isFault_69 : decode cX0_isFault 69 = .ok (.dup, 1) := by decide +kernel
theorem dX0_isFault_70 : decode cX0_isFault 70 = .ok (.getfield 162, 3) := by decide +kernel
theorem dX0_isFault_73 : decode cX0_isFault 73 = .ok (.iconst 1, 1) := by decide +kernel
theorem dX0_isFault_74 : decode cX0_isFault 74 = .ok (.iadd, 1) := by decide +kernel
theorem dX0_isFault_75 : decode cX0_isFault 75 = .ok (.putfield 162, 3) := by decide +kernel
theorem dX0_isFault_78 : decode cX0_isFault 78 = .ok (.iconst 1, 1) := by decide +kernel
theorem dX0_isFault_79 : decode cX0_isFault 79 = .ok (.ireturn, 1) := by decide +kernel
theorem dX0_isFault_80 : decode cX0_isFault 80 = .ok (.iload_n 1, 1) := by decide +kernel
theorem dX0_isFault_81 : decode cX0_isFault 81 = .ok (.bipush 99, 2) := by decide +kernel
theorem dX0_isFault_83 : decode cX0_isFault 83 = .ok (.if_icmp .ne 26, 3) := by decide +kernel
theorem dX0_isFault_86 : decode cX0_isFault 86 = .ok (.aload_n 0, 1) := by decide +kernel
theorem dX0_isFault_87 : decode cX0_isFault 87 = .ok (.iload_n 2, 1) := by decide +kernel
theorem dX0_isFault_88 : decode cX0_isFault 88 = .ok (.invokevirtual 165, 3) := by decide +kernel
theorem dX0_isFault_91 : decode cX0_isFault 91 = .ok (.ifCond .eq 18, 3) := by decide +kernel
theorem dX0_isFault_94 : decode cX0_isFault 94 = .ok (.aload_n 0, 1) := by decide +kernel
theorem dX0_isFault_95 : decode cX0_isFault 95 = .ok (.getfield 30, 3) := by decide +kernel
theorem dX0_isFault_98 : decode cX0_isFault 98 = .ok (.dup, 1) := by decide +kernel
theorem dX0_isFault_99 : decode cX0_isFault 99 = .ok (.getfield 168, 3) := by decide +kernel
theorem dX0_isFault_102 : decode cX0_isFault 102 = .ok (.iconst 1, 1) := by decide +kernel
theorem dX0_isFault_103 : decode cX0_isFault 103 = .ok (.iadd, 1) := by decide +kernel
theorem dX0_isFault_104 : decode cX0_isFault 104 = .ok (.putfield 168, 3) := by decide +kernel
theorem dX0_isFault_107 : decode cX0_isFault 107 = .ok (.iconst 1, 1) := by decide +kernel
theorem dX0_isFault_108 : decode cX0_isFault 108 = .ok (.ireturn, 1) := by decide +kernel
theorem dX0_isFault_109 : decode cX0_isFault 109 = .ok (.iconst 0, 1) := by decide +kernel
theorem dX0_isFault_110 : decode cX0_isFault 110 = .ok (.ireturn, 1) := by decide +kernel
theorem dX0_isTooMuch_0 : decode cX0_isTooMuch 0 = .ok (.iload_n 1, 1) := by decide +kernel
theorem dX0_isTooMuch_1 : decode cX0_isTooMuch 1 = .ok (.ifCond .eq 33, 3) := by decide +kernel
theorem dX0_isTooMuch_4 : decode cX0_isTooMuch 4 = .ok (.aload_n 0, 1) := by decide +kernel
theorem dX0_isTooMuch_5 : decode cX0_isTooMuch 5 = .ok (.getfield 9, 3) := by decide +kernel
theorem dX0_isTooMuch_8 : decode cX0_isTooMuch 8 = .ok (.iload_n 1, 1) := by decide +kernel
theorem dX0_isTooMuch_9 : decode cX0_isTooMuch 9 = .ok (.iaload, 1) := by decide +kernel
theorem dX0_isTooMuch_10 : decode cX0_isTooMuch 10 = .ok (.aload_n 0, 1) := by decide +kernel
theorem dX0_isTooMuch_11 : decode cX0_isTooMuch 11 = .ok (.getfield 37, 3) := by decide +kernel
theorem dX0_isTooMuch_14 : decode cX0_isTooMuch 14 = .ok (.getfield 171, 3) := by decide +kernel
theorem dX0_isTooMuch_17 : decode cX0_isTooMuch 17 = .ok (.iadd, 1) := by decide +kernel
theorem dX0_isTooMuch_18 : decode cX0_isTooMuch 18 = .ok (.aload_n 0, 1) := by decide +kernel
theorem dX0_isTooMuch_19 : decode cX0_isTooMuch 19 = .ok (.getfield 23, 3) := by decide +kernel
theorem dX0_isTooMuch_22 : decode cX0_isTooMuch 22 = .ok (.getfield 174, 3) := by decide +kernel
theorem dX0_isTooMuch_25 : decode cX0_isTooMuch 25 = .ok (.iload_n 1, 1) := by decide +kernel
theorem dX0_isTooMuch_26 : decode cX0_isTooMuch 26 = .ok (.iaload, 1) := by decide +kernel
theorem dX0_isTooMuch_27 : decode cX0_isTooMuch 27 = .ok (.if_icmp .le 7, 3) := by decide +kernel
theorem dX0_isTooMuch_30 : decode cX0_isTooMuch 30 = .ok (.iconst 1, 1) := by decide +kernel
theorem dX0_isTooMuch_31 : decode cX0_isTooMuch 31 = .ok (.goto 4, 3) := by decide +kernel
theorem dX0_isTooMuch_34 : decode cX0_isTooMuch 34 = .ok (.iconst 0, 1) := by decide +kernel
theorem dX0_isTooMuch_35 : decode cX0_isTooMuch 35 = .ok (.ireturn, 1) := by decide +kernel
theorem dX0_act_0 : decode cX0_act 0 = .ok (.iload_n 1, 1) := by decide +kernel
theorem dX0_act_1 : decode cX0_act 1 = .ok (.lookupswitch 213 #[(70, 156), (83, 205), (85, 174), (99, 142), (105, 194), (107, 107), (109, 99), (114, 130), (118, 142), (119, 142), (120, 118)], 99) := by decide +kernel
theorem dX0_act_100 : decode cX0_act 100 = .ok (.aload_n 0, 1) := by decide +kernel
theorem dX0_act_101 : decode cX0_act 101 = .ok (.iload_n 2, 1) := by decide +kernel
theorem dX0_act_102 : decode cX0_act 102 = .ok (.invokevirtual 177, 3) := by decide +kernel
theorem dX0_act_105 : decode cX0_act 105 = .ok (.goto 109, 3) := by decide +kernel
theorem dX0_act_108 : decode cX0_act 108 = .ok (.aload_n 0, 1) := by decide +kernel
theorem dX0_act_109 : decode cX0_act 109 = .ok (.getfield 30, 3) := by decide +kernel
theorem dX0_act_112 : decode cX0_act 112 = .ok (.iconst 0, 1) := by decide +kernel
theorem dX0_act_113 : decode cX0_act 113 = .ok (.putfield 72, 3) := by decide +kernel
theorem dX0_act_116 : decode cX0_act 116 = .ok (.goto 98, 3) := by decide +kernel
theorem dX0_act_119 : decode cX0_act 119 = .ok (.aload_n 0, 1) := by decide +kernel
theorem dX0_act_120 : decode cX0_act 120 = .ok (.getfield 30, 3) := by decide +kernel
theorem dX0_act_123 : decode cX0_act 123 = .ok (.bipush 8, 2) := by decide +kernel
theorem dX0_act_125 : decode cX0_act 125 = .ok (.putfield 72, 3) := by decide +kernel
theorem dX0_act_128 : decode cX0_act 128 = .ok (.goto 86, 3) := by decide +kernel
theorem dX0_act_131 : decode cX0_act 131 = .ok (.aload_n 0, 1) := by decide +kernel
theorem dX0_act_132 : decode cX0_act 132 = .ok (.getfield 30, 3) := by decide +kernel
theorem dX0_act_135 : decode cX0_act 135 = .ok (.bipush 9, 2) := by decide +kernel
theorem dX0_act_137 : decode cX0_act 137 = .ok (.putfield 72, 3) := by decide +kernel
theorem dX0_act_140 : decode cX0_act 140 = .ok (.goto 74, 3) := by decide +kernel
theorem dX0_act_143 : decode cX0_act 143 = .ok (.aload_n 0, 1) := by decide +kernel
theorem dX0_act_144 : decode cX0_act 144 = .ok (.iconst 1, 1) := by decide +kernel
theorem dX0_act_145 : decode cX0_act 145 = .ok (.putfield 54, 3) := by decide +kernel
theorem dX0_act_148 : decode cX0_act 148 = .ok (.aload_n 0, 1) := by decide +kernel
theorem dX0_act_149 : decode cX0_act 149 = .ok (.iload_n 1, 1) := by decide +kernel
theorem dX0_act_150 : decode cX0_act 150 = .ok (.iload_n 2, 1) := by decide +kernel
theorem dX0_act_151 : decode cX0_act 151 = .ok (.invokevirtual 181, 3) := by decide +kernel
theorem dX0_act_154 : decode cX0_act 154 = .ok (.goto 60, 3) := by decide +kernel
theorem dX0_act_157 : decode cX0_act 157 = .ok (.aload_n 0, 1) := by decide +kernel
theorem dX0_act_158 : decode cX0_act 158 = .ok (.aload_n 0, 1) := by decide +kernel
theorem dX0_act_159 : decode cX0_act 159 = .ok (.getfield 30, 3) := by decide +kernel
theorem dX0_act_162 : decode cX0_act 162 = .ok (.getfield 101, 3) := by decide +kernel
theorem dX0_act_165 : decode cX0_act 165 = .ok (.iconst 1, 1) := by decide +kernel
theorem dX0_act_166 : decode cX0_act 166 = .ok (.iload_n 2, 1) := by decide +kernel
theorem dX0_act_167 : decode cX0_act 167 = .ok (.ishl, 1) := by decide +kernel
theorem dX0_act_168 : decode cX0_act 168 = .ok (.ior, 1) := by decide +kernel
theorem dX0_act_169 : decode cX0_act 169 = .ok (.invokevirtual 185, 3) := by decide +kernel
theorem dX0_act_172 : decode cX0_act 172 = .ok (.goto 42, 3) := by decide +kernel
theorem dX0_act_175 : decode cX0_act 175 = .ok (.aload_n 0, 1) := by decide +kernel
theorem dX0_act_176 : decode cX0_act 176 = .ok (.aload_n 0, 1) := by decide +kernel
theorem dX0_act_177 : decode cX0_act 177 = .ok (.getfield 30, 3) := by decide +kernel
theorem dX0_act_180 : decode cX0_act 180 = .ok (.getfield 101, 3) := by decide +kernel
theorem dX0_act_183 : decode cX0_act 183 = .ok (.iconst 1, 1) := by decide +kernel
theorem dX0_act_184 : decode cX0_act 184 = .ok (.iload_n 2, 1) := by decide +kernel
theorem dX0_act_185 : decode cX0_act 185 = .ok (.ishl, 1) := by decide +kernel
theorem dX0_act_186 : decode cX0_act 186 = .ok (.iconst (-1), 1) := by decide +kernel
theorem dX0_act_187 : decode cX0_act 187 = .ok (.ixor, 1) := by decide +kernel
theorem dX0_act_188 : decode cX0_act 188 = .ok (.iand, 1) := by decide +kernel
theorem dX0_act_189 : decode cX0_act 189 = .ok (.invokevirtual 185, 3) := by decide +kernel
theorem dX0_act_192 : decode cX0_act 192 = .ok (.goto 22, 3) := by decide +kernel
theorem dX0_act_195 : decode cX0_act 195 = .ok (.aload_n 0, 1) := by decide +kernel
theorem dX0_act_196 : decode cX0_act 196 = .ok (.iload_n 2, 1) := by decide +kernel
theorem dX0_act_197 : decode cX0_act 197 = .ok (.iload_n 3, 1) := by decide +kernel
theorem dX0_act_198 : decode cX0_act 198 = .ok (.iconst 1, 1) := by decide +kernel
theorem dX0_act_199 : decode cX0_act 199 = .ok (.iadd, 1) := by decide +kernel
theorem dX0_act_200 : decode cX0_act 200 = .ok (.invokevirtual 64, 3) := by decide +kernel
theorem dX0_act_203 : decode cX0_act 203 = .ok (.goto 11, 3) := by decide +kernel
theorem dX0_act_206 : decode cX0_act 206 = .ok (.aload_n 0, 1) := by decide +kernel
theorem dX0_act_207 : decode cX0_act 207 = .ok (.iconst 1, 1) := by decide +kernel
theorem dX0_act_208 : decode cX0_act 208 = .ok (.putfield 57, 3) := by decide +kernel
theorem dX0_act_211 : decode cX0_act 211 = .ok (.goto 3, 3) := by decide +kernel
theorem dX0_act_214 : decode cX0_act 214 = .ok (.return_, 1) := by decide +kernel
theorem dX0_putInto_0 : decode cX0_putInto 0 = .ok (.iload_n 1, 1) := by decide +kernel
theorem dX0_putInto_1 : decode cX0_putInto 1 = .ok (.istore_n 2, 1) := by decide +kernel
theorem dX0_putInto_2 : decode cX0_putInto 2 = .ok (.aload_n 0, 1) := by decide +kernel
theorem dX0_putInto_3 : decode cX0_putInto 3 = .ok (.iload_n 1, 1) := by decide +kernel
theorem dX0_putInto_4 : decode cX0_putInto 4 = .ok (.invokevirtual 165, 3) := by decide +kernel
theorem dX0_putInto_7 : decode cX0_putInto 7 = .ok (.ifCond .eq 18, 3) := by decide +kernel
theorem dX0_putInto_10 : decode cX0_putInto 10 = .ok (.aload_n 0, 1) := by decide +kernel
theorem dX0_putInto_11 : decode cX0_putInto 11 = .ok (.getfield 30, 3) := by decide +kernel
theorem dX0_putInto_14 : decode cX0_putInto 14 = .ok (.dup, 1) := by decide +kernel
theorem dX0_putInto_15 : decode cX0_putInto 15 = .ok (.getfield 168, 3) := by decide +kernel
theorem dX0_putInto_18 : decode cX0_putInto 18 = .ok (.iconst 1, 1) := by decide +kernel
theorem dX0_putInto_19 : decode cX0_putInto 19 = .ok (.iadd, 1) := by decide +kernel
theorem dX0_putInto_20 : decode cX0_putInto 20 = .ok (.putfield 168, 3) := by decide +kernel
theorem dX0_putInto_23 : decode cX0_putInto 23 = .ok (.iconst 0, 1) := by decide +kernel
theorem dX0_putInto_24 : decode cX0_putInto 24 = .ok (.istore_n 2, 1) := by decide +kernel
theorem dX0_putInto_25 : decode cX0_putInto 25 = .ok (.aload_n 0, 1) := by decide +kernel
theorem dX0_putInto_26 : decode cX0_putInto 26 = .ok (.getfield 30, 3) := by decide +kernel
theorem dX0_putInto_29 : decode cX0_putInto 29 = .ok (.iload_n 2, 1) := by decide +kernel
theorem dX0_putInto_30 : decode cX0_putInto 30 = .ok (.putfield 72, 3) := by decide +kernel
theorem dX0_putInto_33 : decode cX0_putInto 33 = .ok (.aload_n 0, 1) := by decide +kernel
theorem dX0_putInto_34 : decode cX0_putInto 34 = .ok (.getfield 9, 3) := by decide +kernel
theorem dX0_putInto_37 : decode cX0_putInto 37 = .ok (.iload_n 2, 1) := by decide +kernel
theorem dX0_putInto_38 : decode cX0_putInto 38 = .ok (.dup2, 1) := by decide +kernel
theorem dX0_putInto_39 : decode cX0_putInto 39 = .ok (.iaload, 1) := by decide +kernel
theorem dX0_putInto_40 : decode cX0_putInto 40 = .ok (.aload_n 0, 1) := by decide +kernel
theorem dX0_putInto_41 : decode cX0_putInto 41 = .ok (.getfield 37, 3) := by decide +kernel
theorem dX0_putInto_44 : decode cX0_putInto 44 = .ok (.getfield 171, 3) := by decide +kernel
theorem dX0_putInto_47 : decode cX0_putInto 47 = .ok (.iadd, 1) := by decide +kernel
theorem dX0_putInto_48 : decode cX0_putInto 48 = .ok (.iastore, 1) := by decide +kernel
theorem dX0_putInto_49 : decode cX0_putInto 49 = .ok (.return_, 1) := by decide +kernel
theorem dX0_sendOut_0 : decode cX0_sendOut 0 = .ok (.iload_n 1, 1) := by decide +kernel
theorem dX0_sendOut_1 : decode cX0_sendOut 1 = .ok (.bipush 99, 2) := by decide +kernel
theorem dX0_sendOut_3 : decode cX0_sendOut 3 = .ok (.if_icmp .ne 41, 3) := by decide +kernel
theorem dX0_sendOut_6 : decode cX0_sendOut 6 = .ok (.aload_n 0, 1) := by decide +kernel
theorem dX0_sendOut_7 : decode cX0_sendOut 7 = .ok (.getfield 30, 3) := by decide +kernel
theorem dX0_sendOut_10 : decode cX0_sendOut 10 = .ok (.getfield 188, 3) := by decide +kernel
theorem dX0_sendOut_13 : decode cX0_sendOut 13 = .ok (.iload_n 2, 1) := by decide +kernel
theorem dX0_sendOut_14 : decode cX0_sendOut 14 = .ok (.dup2, 1) := by decide +kernel
theorem dX0_sendOut_15 : decode cX0_sendOut 15 = .ok (.iaload, 1) := by decide +kernel
theorem dX0_sendOut_16 : decode cX0_sendOut 16 = .ok (.aload_n 0, 1) := by decide +kernel
theorem dX0_sendOut_17 : decode cX0_sendOut 17 = .ok (.getfield 37, 3) := by decide +kernel
theorem dX0_sendOut_20 : decode cX0_sendOut 20 = .ok (.getfield 171, 3) := by decide +kernel
theorem dX0_sendOut_23 : decode cX0_sendOut 23 = .ok (.iadd, 1) := by decide +kernel
theorem dX0_sendOut_24 : decode cX0_sendOut 24 = .ok (.iastore, 1) := by decide +kernel
theorem dX0_sendOut_25 : decode cX0_sendOut 25 = .ok (.aload_n 0, 1) := by decide +kernel
theorem dX0_sendOut_26 : decode cX0_sendOut 26 = .ok (.getfield 9, 3) := by decide +kernel
theorem dX0_sendOut_29 : decode cX0_sendOut 29 = .ok (.iload_n 2, 1) := by decide +kernel
theorem dX0_sendOut_30 : decode cX0_sendOut 30 = .ok (.dup2, 1) := by decide +kernel
theorem dX0_sendOut_31 : decode cX0_sendOut 31 = .ok (.iaload, 1) := by decide +kernel
theorem dX0_sendOut_32 : decode cX0_sendOut 32 = .ok (.aload_n 0, 1) := by decide +kernel
theorem dX0_sendOut_33 : decode cX0_sendOut 33 = .ok (.getfield 37, 3) := by decide +kernel
theorem dX0_sendOut_36 : decode cX0_sendOut 36 = .ok (.getfield 171, 3) := by decide +kernel
theorem dX0_sendOut_39 : decode cX0_sendOut 39 = .ok (.iadd, 1) := by decide +kernel
theorem dX0_sendOut_40 : decode cX0_sendOut 40 = .ok (.iastore, 1) := by decide +kernel
theorem dX0_sendOut_41 : decode cX0_sendOut 41 = .ok (.goto 53, 3) := by decide +kernel
theorem dX0_sendOut_44 : decode cX0_sendOut 44 = .ok (.iload_n 1, 1) := by decide +kernel
theorem dX0_sendOut_45 : decode cX0_sendOut 45 = .ok (.bipush 119, 2) := by decide +kernel
theorem dX0_sendOut_47 : decode cX0_sendOut 47 = .ok (.if_icmp .ne 21, 3) := by decide +kernel
theorem dX0_sendOut_50 : decode cX0_sendOut 50 = .ok (.aload_n 0, 1) := by decide +kernel
theorem dX0_sendOut_51 : decode cX0_sendOut 51 = .ok (.getfield 30, 3) := by decide +kernel
theorem dX0_sendOut_54 : decode cX0_sendOut 54 = .ok (.dup, 1) := by decide +kernel
theorem dX0_sendOut_55 : decode cX0_sendOut 55 = .ok (.getfield 156, 3) := by decide +kernel
theorem dX0_sendOut_58 : decode cX0_sendOut 58 = .ok (.iconst 1, 1) := by decide +kernel
theorem dX0_sendOut_59 : decode cX0_sendOut 59 = .ok (.iload_n 2, 1) := by decide +kernel
theorem dX0_sendOut_60 : decode cX0_sendOut 60 = .ok (.ishl, 1) := by decide +kernel
theorem dX0_sendOut_61 : decode cX0_sendOut 61 = .ok (.ior, 1) := by decide +kernel
theorem dX0_sendOut_62 : decode cX0_sendOut 62 = .ok (.putfield 156, 3) := by decide +kernel
theorem dX0_sendOut_65 : decode cX0_sendOut 65 = .ok (.goto 29, 3) := by decide +kernel
theorem dX0_sendOut_68 : decode cX0_sendOut 68 = .ok (.aload_n 0, 1) := by decide +kernel
theorem dX0_sendOut_69 : decode cX0_sendOut 69 = .ok (.getfield 23, 3) := by decide +kernel
theorem dX0_sendOut_72 : decode cX0_sendOut 72 = .ok (.aload_n 0, 1) := by decide +kernel
theorem dX0_sendOut_73 : decode cX0_sendOut 73 = .ok (.getfield 37, 3) := by decide +kernel
theorem dX0_sendOut_76 : decode cX0_sendOut 76 = .ok (.getfield 150, 3) := by decide +kernel
theorem dX0_sendOut_79 : decode cX0_sendOut 79 = .ok (.iload_n 2, 1) := by decide +kernel
theorem dX0_sendOut_80 : decode cX0_sendOut 80 = .ok (.invokevirtual 191, 3) := by decide +kernel
theorem dX0_sendOut_83 : decode cX0_sendOut 83 = .ok (.ifCond .eq 11, 3) := by decide +kernel
theorem dX0_sendOut_86 : decode cX0_sendOut 86 = .ok (.aload_n 0, 1) := by decide +kernel
theorem dX0_sendOut_87 : decode cX0_sendOut 87 = .ok (.getfield 30, 3) := by decide +kernel
theorem dX0_sendOut_90 : decode cX0_sendOut 90 = .ok (.iconst 1, 1) := by decide +kernel
theorem dX0_sendOut_91 : decode cX0_sendOut 91 = .ok (.putfield 194, 3) := by decide +kernel
theorem dX0_sendOut_94 : decode cX0_sendOut 94 = .ok (.return_, 1) := by decide +kernel
theorem dX0_changeFlags_0 : decode cX0_changeFlags 0 = .ok (.aload_n 0, 1) := by decide +kernel
theorem dX0_changeFlags_1 : decode cX0_changeFlags 1 = .ok (.aload_n 0, 1) := by decide +kernel
theorem dX0_changeFlags_2 : decode cX0_changeFlags 2 = .ok (.getfield 50, 3) := by decide +kernel
theorem dX0_changeFlags_5 : decode cX0_changeFlags 5 = .ok (.ifCond .ne 14, 3) := by decide +kernel
theorem dX0_changeFlags_8 : decode cX0_changeFlags 8 = .ok (.iload_n 1, 1) := by decide +kernel
theorem dX0_changeFlags_9 : decode cX0_changeFlags 9 = .ok (.aload_n 0, 1) := by decide +kernel
theorem dX0_changeFlags_10 : decode cX0_changeFlags 10 = .ok (.getfield 30, 3) := by decide +kernel
theorem dX0_changeFlags_13 : decode cX0_changeFlags 13 = .ok (.getfield 101, 3) := by decide +kernel
theorem dX0_changeFlags_16 : decode cX0_changeFlags 16 = .ok (.if_icmp .eq 7, 3) := by decide +kernel
theorem dX0_changeFlags_19 : decode cX0_changeFlags 19 = .ok (.iconst 1, 1) := by decide +kernel
theorem dX0_changeFlags_20 : decode cX0_changeFlags 20 = .ok (.goto 4, 3) := by decide +kernel
theorem dX0_changeFlags_23 : decode cX0_changeFlags 23 = .ok (.iconst 0, 1) := by decide +kernel
theorem dX0_changeFlags_24 : decode cX0_changeFlags 24 = .ok (.putfield 50, 3) := by decide +kernel
theorem dX0_changeFlags_27 : decode cX0_changeFlags 27 = .ok (.aload_n 0, 1) := by decide +kernel
theorem dX0_changeFlags_28 : decode cX0_changeFlags 28 = .ok (.getfield 30, 3) := by decide +kernel
theorem dX0_changeFlags_31 : decode cX0_changeFlags 31 = .ok (.iload_n 1, 1) := by decide +kernel
theorem dX0_changeFlags_32 : decode cX0_changeFlags 32 = .ok (.putfield 101, 3) := by decide +kernel
theorem dX0_changeFlags_35 : decode cX0_changeFlags 35 = .ok (.return_, 1) := by decide +kernel
theorem dX1_init_0 : decode cX1_init 0 = .ok (.aload_n 0, 1) := by decide +kernel
theorem dX1_init_1 : decode cX1_init 1 = .ok (.invokespecial 5, 3) := by decide +kernel
theorem dX1_init_4 : decode cX1_init 4 = .ok (.aload_n 0, 1) := by decide +kernel
theorem dX1_init_5 : decode cX1_init 5 = .ok (.bipush 99, 2) := by decide +kernel
theorem dX1_init_7 : decode cX1_init 7 = .ok (.newarray .char, 2) := by decide +kernel
theorem dX1_init_9 : decode cX1_init 9 = .ok (.putfield 13, 3) := by decide +kernel
theorem dX1_init_12 : decode cX1_init 12 = .ok (.aload_n 0, 1) := by decide +kernel
theorem dX1_init_13 : decode cX1_init 13 = .ok (.bipush 99, 2) := by decide +kernel
theorem dX1_init_15 : decode cX1_init 15 = .ok (.newarray .int, 2) := by decide +kernel
theorem dX1_init_17 : decode cX1_init 17 = .ok (.putfield 17, 3) := by decide +kernel
theorem dX1_init_20 : decode cX1_init 20 = .ok (.aload_n 0, 1) := by decide +kernel
theorem dX1_init_21 : decode cX1_init 21 = .ok (.bipush 99, 2) := by decide +kernel
theorem dX1_init_23 : decode cX1_init 23 = .ok (.newarray .boolean, 2) := by decide +kernel
theorem dX1_init_25 : decode cX1_init 25 = .ok (.putfield 21, 3) := by decide +kernel
theorem dX1_init_28 : decode cX1_init 28 = .ok (.aload_n 0, 1) := by decide +kernel
theorem dX1_init_29 : decode cX1_init 29 = .ok (.bipush 99, 2) := by decide +kernel
theorem dX1_init_31 : decode cX1_init 31 = .ok (.newarray .long, 2) := by decide +kernel
theorem dX1_init_33 : decode cX1_init 33 = .ok (.putfield 25, 3) := by decide +kernel
theorem dX1_init_36 : decode cX1_init 36 = .ok (.aload_n 0, 1) := by decide +kernel
theorem dX1_init_37 : decode cX1_init 37 = .ok (.aload_n 1, 1) := by decide +kernel
theorem dX1_init_38 : decode cX1_init 38 = .ok (.putfield 29, 3) := by decide +kernel
theorem dX1_init_41 : decode cX1_init 41 = .ok (.return_, 1) := by decide +kernel
theorem dX1_finds_0 : decode cX1_finds 0 = .ok (.aload_n 0, 1) := by decide +kernel
theorem dX1_finds_1 : decode cX1_finds 1 = .ok (.iload_n 1, 1) := by decide +kernel
theorem dX1_finds_2 : decode cX1_finds 2 = .ok (.invokevirtual 33, 3) := by decide +kernel
theorem dX1_finds_5 : decode cX1_finds 5 = .ok (.aload_n 0, 1) := by decide +kernel
theorem dX1_finds_6 : decode cX1_finds 6 = .ok (.getfield 37, 3) := by decide +kernel
theorem dX1_finds_9 : decode cX1_finds 9 = .ok (.lconst 0, 1) := by decide +kernel
theorem dX1_finds_10 : decode cX1_finds 10 = .ok (.lcmp, 1) := by decide +kernel
theorem dX1_finds_11 : decode cX1_finds 11 = .ok (.ifCond .ne 5, 3) := by decide +kernel
theorem dX1_finds_14 : decode cX1_finds 14 = .ok (.iconst 0, 1) := by decide +kernel
theorem dX1_finds_15 : decode cX1_finds 15 = .ok (.ireturn, 1) := by decide +kernel
theorem dX1_finds_16 : decode cX1_finds 16 = .ok (.aload_n 0, 1) := by decide +kernel
theorem dX1_finds_17 : decode cX1_finds 17 = .ok (.invokevirtual 41, 3) := by decide +kernel
theorem dX1_finds_20 : decode cX1_finds 20 = .ok (.aload_n 0, 1) := by decide +kernel
theorem dX1_finds_21 : decode cX1_finds 21 = .ok (.invokevirtual 44, 3) := by decide +kernel
theorem dX1_finds_24 : decode cX1_finds 24 = .ok (.ifCond .ne 10, 3) := by decide +kernel
theorem dX1_finds_27 : decode cX1_finds 27 = .ok (.aload_n 0, 1) := by decide +kernel
theorem dX1_finds_28 : decode cX1_finds 28 = .ok (.invokevirtual 48, 3) := by decide +kernel
theorem dX1_finds_31 : decode cX1_finds 31 = .ok (.ifCond .eq 7, 3) := by decide +kernel
theorem dX1_finds_34 : decode cX1_finds 34 = .ok (.iconst 1, 1) := by decide +kernel
theorem dX1_finds_35 : decode cX1_finds 35 = .ok (.goto 4, 3) := by decide +kernel
theorem dX1_finds_38 : decode cX1_finds 38 = .ok (.iconst 0, 1) := by decide +kernel
theorem dX1_finds_39 : decode cX1_finds 39 = .ok (.ireturn, 1) := by decide +kernel
theorem dX1_sortMails_0 : decode cX1_sortMails 0 = .ok (.aload_n 0, 1) := by decide +kernel
theorem dX1_sortMails_1 : decode cX1_sortMails 1 = .ok (.lconst 0, 1) := by decide +kernel
theorem dX1_sortMails_2 : decode cX1_sortMails 2 = .ok (.putfield 37, 3) := by decide +kernel
theorem dX1_sortMails_5 : decode cX1_sortMails 5 = .ok (.aload_n 0, 1) := by decide +kernel
theorem dX1_sortMails_6 : decode cX1_sortMails 6 = .ok (.lconst 0, 1) := by decide +kernel
theorem dX1_sortMails_7 : decode cX1_sortMails 7 = .ok (.putfield 51, 3) := by decide +kernel
theorem dX1_sortMails_10 : decode cX1_sortMails 10 = .ok (.iconst 0, 1) := by decide +kernel
theorem dX1_sortMails_11 : decode cX1_sortMails 11 = .ok (.istore_n 2, 1) := by decide +kernel
theorem dX1_sortMails_12 : decode cX1_sortMails 12 = .ok (.iload_n 2, 1) := by decide +kernel
theorem dX1_sortMails_13 : decode cX1_sortMails 13 = .ok (.aload_n 0, 1) := by decide +kernel
theorem dX1_sortMails_14 : decode cX1_sortMails 14 = .ok (.getfield 29, 3) := by decide +kernel
theorem dX1_sortMails_17 : decode cX1_sortMails 17 = .ok (.getfield 54, 3) := by decide +kernel
theorem dX1_sortMails_20 : decode cX1_sortMails 20 = .ok (.if_icmp .ge 68, 3) := by decide +kernel
theorem dX1_sortMails_23 : decode cX1_sortMails 23 = .ok (.aload_n 0, 1) := by decide +kernel
theorem dX1_sortMails_24 : decode cX1_sortMails 24 = .ok (.getfield 29, 3) := by decide +kernel
theorem dX1_sortMails_27 : decode cX1_sortMails 27 = .ok (.getfield 58, 3) := by decide +kernel
theorem dX1_sortMails_30 : decode cX1_sortMails 30 = .ok (.iload_n 2, 1) := by decide +kernel
theorem dX1_sortMails_31 : decode cX1_sortMails 31 = .ok (.aaload, 1) := by decide +kernel
theorem dX1_sortMails_32 : decode cX1_sortMails 32 = .ok (.astore_n 3, 1) := by decide +kernel
theorem dX1_sortMails_33 : decode cX1_sortMails 33 = .ok (.aload_n 3, 1) := by decide +kernel
theorem dX1_sortMails_34 : decode cX1_sortMails 34 = .ok (.iload_n 1, 1) := by decide +kernel
theorem dX1_sortMails_35 : decode cX1_sortMails 35 = .ok (.invokevirtual 62, 3) := by decide +kernel
theorem dX1_sortMails_38 : decode cX1_sortMails 38 = .ok (.ifCond .eq 25, 3) := by decide +kernel
theorem dX1_sortMails_41 : decode cX1_sortMails 41 = .ok (.aload_n 3, 1) := by decide +kernel
theorem dX1_sortMails_42 : decode cX1_sortMails 42 = .ok (.getfield 68, 3) := by decide +kernel
theorem dX1_sortMails_45 : decode cX1_sortMails 45 = .ok (.ifCond .eq 18, 3) := by decide +kernel
theorem dX1_sortMails_48 : decode cX1_sortMails 48 = .ok (.aload_n 0, 1) := by decide +kernel
theorem dX1_sortMails_49 : decode cX1_sortMails 49 = .ok (.dup, 1) := by decide +kernel
theorem dX1_sortMails_50 : decode cX1_sortMails 50 = .ok (.getfield 37, 3) := by decide +kernel
theorem dX1_sortMails_53 : decode cX1_sortMails 53 = .ok (.lconst 1, 1) := by decide +kernel
theorem dX1_sortMails_54 : decode cX1_sortMails 54 = .ok (.iload_n 2, 1) := by decide +kernel
theorem dX1_sortMails_55 : decode cX1_sortMails 55 = .ok (.lshl, 1) := by decide +kernel
theorem dX1_sortMails_56 : decode cX1_sortMails 56 = .ok (.lor, 1) := by decide +kernel
theorem dX1_sortMails_57 : decode cX1_sortMails 57 = .ok (.putfield 37, 3) := by decide +kernel
theorem dX1_sortMails_60 : decode cX1_sortMails 60 = .ok (.goto 22, 3) := by decide +kernel
theorem dX1_sortMails_63 : decode cX1_sortMails 63 = .ok (.aload_n 3, 1) := by decide +kernel
theorem dX1_sortMails_64 : decode cX1_sortMails 64 = .ok (.invokevirtual 72, 3) := by decide +kernel
theorem dX1_sortMails_67 : decode cX1_sortMails 67 = .ok (.ifCond .eq 15, 3) := by decide +kernel
theorem dX1_sortMails_70 : decode cX1_sortMails 70 = .ok (.aload_n 0, 1) := by decide +kernel
theorem dX1_sortMails_71 : decode cX1_sortMails 71 = .ok (.dup, 1) := by decide +kernel
theorem dX1_sortMails_72 : decode cX1_sortMails 72 = .ok (.getfield 51, 3) := by decide +kernel
theorem dX1_sortMails_75 : decode cX1_sortMails 75 = .ok (.lconst 1, 1) := by decide +kernel
theorem dX1_sortMails_76 : decode cX1_sortMails 76 = .ok (.iload_n 2, 1) := by decide +kernel
theorem dX1_sortMails_77 : decode cX1_sortMails 77 = .ok (.lshl, 1) := by decide +kernel
theorem dX1_sortMails_78 : decode cX1_sortMails 78 = .ok (.lor, 1) := by decide +kernel
theorem dX1_sortMails_79 : decode cX1_sortMails 79 = .ok (.putfield 51, 3) := by decide +kernel
theorem dX1_sortMails_82 : decode cX1_sortMails 82 = .ok (.iinc 2 1, 3) := by decide +kernel
theorem dX1_sortMails_85 : decode cX1_sortMails 85 = .ok (.goto (-73), 3) := by decide +kernel
theorem dX1_sortMails_88 : decode cX1_sortMails 88 = .ok (.return_, 1) := by decide +kernel
theorem dX1_listTests_0 : decode cX1_listTests 0 = .ok (.aload_n 0, 1) := by decide +kernel
theorem dX1_listTests_1 : decode cX1_listTests 1 = .ok (.iconst 0, 1) := by decide +kernel
theorem dX1_listTests_2 : decode cX1_listTests 2 = .ok (.putfield 75, 3) := by decide +kernel
theorem dX1_listTests_5 : decode cX1_listTests 5 = .ok (.aload_n 0, 1) := by decide +kernel
theorem dX1_listTests_6 : decode cX1_listTests 6 = .ok (.bipush 102, 2) := by decide +kernel
theorem dX1_listTests_8 : decode cX1_listTests 8 = .ok (.bipush 10, 2) := by decide +kernel
theorem dX1_listTests_10 : decode cX1_listTests 10 = .ok (.invokevirtual 78, 3) := by decide +kernel
theorem dX1_listTests_13 : decode cX1_listTests 13 = .ok (.aload_n 0, 1) := by decide +kernel
theorem dX1_listTests_14 : decode cX1_listTests 14 = .ok (.bipush 116, 2) := by decide +kernel
theorem dX1_listTests_16 : decode cX1_listTests 16 = .ok (.bipush 10, 2) := by decide +kernel
theorem dX1_listTests_18 : decode cX1_listTests 18 = .ok (.invokevirtual 78, 3) := by decide +kernel
theorem dX1_listTests_21 : decode cX1_listTests 21 = .ok (.aload_n 0, 1) := by decide +kernel
theorem dX1_listTests_22 : decode cX1_listTests 22 = .ok (.bipush 115, 2) := by decide +kernel
theorem dX1_listTests_24 : decode cX1_listTests 24 = .ok (.bipush 16, 2) := by decide +kernel
theorem dX1_listTests_26 : decode cX1_listTests 26 = .ok (.invokevirtual 78, 3) := by decide +kernel
theorem dX1_listTests_29 : decode cX1_listTests 29 = .ok (.aload_n 0, 1) := by decide +kernel
theorem dX1_listTests_30 : decode cX1_listTests 30 = .ok (.bipush 98, 2) := by decide +kernel
theorem dX1_listTests_32 : decode cX1_listTests 32 = .ok (.bipush 16, 2) := by decide +kernel
theorem dX1_listTests_34 : decode cX1_listTests 34 = .ok (.invokevirtual 78, 3) := by decide +kernel
theorem dX1_listTests_37 : decode cX1_listTests 37 = .ok (.aload_n 0, 1) := by decide +kernel
theorem dX1_listTests_38 : decode cX1_listTests 38 = .ok (.iconst 0, 1) := by decide +kernel
theorem dX1_listTests_39 : decode cX1_listTests 39 = .ok (.invokevirtual 82, 3) := by decide +kernel
theorem dX1_listTests_42 : decode cX1_listTests 42 = .ok (.istore_n 1, 1) := by decide +kernel
theorem dX1_listTests_43 : decode cX1_listTests 43 = .ok (.iconst 0, 1) := by decide +kernel
theorem dX1_listTests_44 : decode cX1_listTests 44 = .ok (.istore_n 2, 1) := by decide +kernel
theorem dX1_listTests_45 : decode cX1_listTests 45 = .ok (.iload_n 2, 1) := by decide +kernel
theorem dX1_listTests_46 : decode cX1_listTests 46 = .ok (.bipush 40, 2) := by decide +kernel
theorem dX1_listTests_48 : decode cX1_listTests 48 = .ok (.if_icmp .ge 28, 3) := by decide +kernel
theorem dX1_listTests_51 : decode cX1_listTests 51 = .ok (.iload_n 1, 1) := by decide +kernel
theorem dX1_listTests_52 : decode cX1_listTests 52 = .ok (.ifCond .le 24, 3) := by decide +kernel
theorem dX1_listTests_55 : decode cX1_listTests 55 = .ok (.aload_n 0, 1) := by decide +kernel
theorem dX1_listTests_56 : decode cX1_listTests 56 = .ok (.bipush 122, 2) := by decide +kernel
theorem dX1_listTests_58 : decode cX1_listTests 58 = .ok (.iload_n 1, 1) := by decide +kernel
theorem dX1_listTests_59 : decode cX1_listTests 59 = .ok (.iconst 1, 1) := by decide +kernel
theorem dX1_listTests_60 : decode cX1_listTests 60 = .ok (.isub, 1) := by decide +kernel
theorem dX1_listTests_61 : decode cX1_listTests 61 = .ok (.invokevirtual 86, 3) := by decide +kernel
theorem dX1_listTests_64 : decode cX1_listTests 64 = .ok (.aload_n 0, 1) := by decide +kernel
theorem dX1_listTests_65 : decode cX1_listTests 65 = .ok (.iload_n 1, 1) := by decide +kernel
theorem dX1_listTests_66 : decode cX1_listTests 66 = .ok (.invokevirtual 82, 3) := by decide +kernel
theorem dX1_listTests_69 : decode cX1_listTests 69 = .ok (.istore_n 1, 1) := by decide +kernel
theorem dX1_listTests_70 : decode cX1_listTests 70 = .ok (.iinc 2 1, 3) := by decide +kernel
theorem dX1_listTests_73 : decode cX1_listTests 73 = .ok (.goto (-28), 3) := by decide +kernel
theorem dX1_listTests_76 : decode cX1_listTests 76 = .ok (.aload_n 0, 1) := by decide +kernel
theorem dX1_listTests_77 : decode cX1_listTests 77 = .ok (.bipush 100, 2) := by decide +kernel
theorem dX1_listTests_79 : decode cX1_listTests 79 = .ok (.bipush 7, 2) := by decide +kernel
theorem dX1_listTests_81 : decode cX1_listTests 81 = .ok (.invokevirtual 78, 3) := by decide +kernel
theorem dX1_listTests_84 : decode cX1_listTests 84 = .ok (.return_, 1) := by decide +kernel
theorem dX1_listKind_0 : decode cX1_listKind 0 = .ok (.iconst 0, 1) := by decide +kernel
theorem dX1_listKind_1 : decode cX1_listKind 1 = .ok (.istore_n 3, 1) := by decide +kernel
theorem dX1_listKind_2 : decode cX1_listKind 2 = .ok (.iload_n 3, 1) := by decide +kernel
theorem dX1_listKind_3 : decode cX1_listKind 3 = .ok (.iload_n 2, 1) := by decide +kernel
theorem dX1_listKind_4 : decode cX1_listKind 4 = .ok (.if_icmp .ge 15, 3) := by decide +kernel
theorem dX1_listKind_7 : decode cX1_listKind 7 = .ok (.aload_n 0, 1) := by decide +kernel
theorem dX1_listKind_8 : decode cX1_listKind 8 = .ok (.iload_n 1, 1) := by decide +kernel
theorem dX1_listKind_9 : decode cX1_listKind 9 = .ok (.iload_n 3, 1) := by decide +kernel
theorem dX1_listKind_10 : decode cX1_listKind 10 = .ok (.invokevirtual 86, 3) := by decide +kernel
theorem dX1_listKind_13 : decode cX1_listKind 13 = .ok (.iinc 3 1, 3) := by decide +kernel
theorem dX1_listKind_16 : decode cX1_listKind 16 = .ok (.goto (-14), 3) := by decide +kernel
theorem dX1_listKind_19 : decode cX1_listKind 19 = .ok (.return_, 1) := by decide +kernel
theorem dX1_nextSize_0 : decode cX1_nextSize 0 = .ok (.iconst 0, 1) := by decide +kernel
theorem dX1_nextSize_1 : decode cX1_nextSize 1 = .ok (.istore_n 2, 1) := by decide +kernel
theorem dX1_nextSize_2 : decode cX1_nextSize 2 = .ok (.iconst 0, 1) := by decide +kernel
theorem dX1_nextSize_3 : decode cX1_nextSize 3 = .ok (.istore_n 3, 1) := by decide +kernel
theorem dX1_nextSize_4 : decode cX1_nextSize 4 = .ok (.iload_n 3, 1) := by decide +kernel
theorem dX1_nextSize_5 : decode cX1_nextSize 5 = .ok (.aload_n 0, 1) := by decide +kernel
theorem dX1_nextSize_6 : decode cX1_nextSize 6 = .ok (.getfield 29, 3) := by decide +kernel
theorem dX1_nextSize_9 : decode cX1_nextSize 9 = .ok (.getfield 54, 3) := by decide +kernel
theorem dX1_nextSize_12 : decode cX1_nextSize 12 = .ok (.if_icmp .ge 56, 3) := by decide +kernel
theorem dX1_nextSize_15 : decode cX1_nextSize 15 = .ok (.aload_n 0, 1) := by decide +kernel
theorem dX1_nextSize_16 : decode cX1_nextSize 16 = .ok (.getfield 29, 3) := by decide +kernel
theorem dX1_nextSize_19 : decode cX1_nextSize 19 = .ok (.getfield 58, 3) := by decide +kernel
theorem dX1_nextSize_22 : decode cX1_nextSize 22 = .ok (.iload_n 3, 1) := by decide +kernel
theorem dX1_nextSize_23 : decode cX1_nextSize 23 = .ok (.aaload, 1) := by decide +kernel
theorem dX1_nextSize_24 : decode cX1_nextSize 24 = .ok (.astore 4, 2) := by decide +kernel
theorem dX1_nextSize_26 : decode cX1_nextSize 26 = .ok (.aload 4, 2) := by decide +kernel
theorem dX1_nextSize_28 : decode cX1_nextSize 28 = .ok (.invokevirtual 72, 3) := by decide +kernel
theorem dX1_nextSize_31 : decode cX1_nextSize 31 = .ok (.ifCond .eq 31, 3) := by decide +kernel
theorem dX1_nextSize_34 : decode cX1_nextSize 34 = .ok (.aload 4, 2) := by decide +kernel
theorem dX1_nextSize_36 : decode cX1_nextSize 36 = .ok (.getfield 89, 3) := by decide +kernel
theorem dX1_nextSize_39 : decode cX1_nextSize 39 = .ok (.iload_n 1, 1) := by decide +kernel
theorem dX1_nextSize_40 : decode cX1_nextSize 40 = .ok (.if_icmp .le 22, 3) := by decide +kernel
theorem dX1_nextSize_43 : decode cX1_nextSize 43 = .ok (.iload_n 2, 1) := by decide +kernel
theorem dX1_nextSize_44 : decode cX1_nextSize 44 = .ok (.ifCond .eq 12, 3) := by decide +kernel
theorem dX1_nextSize_47 : decode cX1_nextSize 47 = .ok (.aload 4, 2) := by decide +kernel
theorem dX1_nextSize_49 : decode cX1_nextSize 49 = .ok (.getfield 89, 3) := by decide +kernel
theorem dX1_nextSize_52 : decode cX1_nextSize 52 = .ok (.iload_n 2, 1) := by decide +kernel
theorem dX1_nextSize_53 : decode cX1_nextSize 53 = .ok (.if_icmp .ge 9, 3) := by decide +kernel
theorem dX1_nextSize_56 : decode cX1_nextSize 56 = .ok (.aload 4, 2) := by decide +kernel
theorem dX1_nextSize_58 : decode cX1_nextSize 58 = .ok (.getfield 89, 3) := by decide +kernel
theorem dX1_nextSize_61 : decode cX1_nextSize 61 = .ok (.istore_n 2, 1) := by decide +kernel
theorem dX1_nextSize_62 : decode cX1_nextSize 62 = .ok (.iinc 3 1, 3) := by decide +kernel
theorem dX1_nextSize_65 : decode cX1_nextSize 65 = .ok (.goto (-61), 3) := by decide +kernel
theorem dX1_nextSize_68 : decode cX1_nextSize 68 = .ok (.iload_n 2, 1) := by decide +kernel
theorem dX1_nextSize_69 : decode cX1_nextSize 69 = .ok (.ireturn, 1) := by decide +kernel
theorem dX1_list_0 : decode cX1_list 0 = .ok (.lconst 0, 1) := by decide +kernel
theorem dX1_list_1 : decode cX1_list 1 = .ok (.lstore_n 3, 1) := by decide +kernel
theorem dX1_list_2 : decode cX1_list 2 = .ok (.iconst 0, 1) := by decide +kernel
theorem dX1_list_3 : decode cX1_list 3 = .ok (.istore 5, 2) := by decide +kernel
theorem dX1_list_5 : decode cX1_list 5 = .ok (.iload 5, 2) := by decide +kernel
theorem dX1_list_7 : decode cX1_list 7 = .ok (.aload_n 0, 1) := by decide +kernel
theorem dX1_list_8 : decode cX1_list 8 = .ok (.getfield 29, 3) := by decide +kernel
theorem dX1_list_11 : decode cX1_list 11 = .ok (.getfield 54, 3) := by decide +kernel
theorem dX1_list_14 : decode cX1_list 14 = .ok (.if_icmp .ge 35, 3) := by decide +kernel
theorem dX1_list_17 : decode cX1_list 17 = .ok (.iload_n 1, 1) := by decide +kernel
theorem dX1_list_18 : decode cX1_list 18 = .ok (.iload_n 2, 1) := by decide +kernel
theorem dX1_list_19 : decode cX1_list 19 = .ok (.aload_n 0, 1) := by decide +kernel
theorem dX1_list_20 : decode cX1_list 20 = .ok (.getfield 29, 3) := by decide +kernel
theorem dX1_list_23 : decode cX1_list 23 = .ok (.getfield 58, 3) := by decide +kernel
theorem dX1_list_26 : decode cX1_list 26 = .ok (.iload 5, 2) := by decide +kernel
theorem dX1_list_28 : decode cX1_list 28 = .ok (.aaload, 1) := by decide +kernel
theorem dX1_list_29 : decode cX1_list 29 = .ok (.iconst 0, 1) := by decide +kernel
theorem dX1_list_30 : decode cX1_list 30 = .ok (.invokestatic 92, 3) := by decide +kernel
theorem dX1_list_33 : decode cX1_list 33 = .ok (.ifCond .eq 10, 3) := by decide +kernel
theorem dX1_list_36 : decode cX1_list 36 = .ok (.lload_n 3, 1) := by decide +kernel
theorem dX1_list_37 : decode cX1_list 37 = .ok (.lconst 1, 1) := by decide +kernel
theorem dX1_list_38 : decode cX1_list 38 = .ok (.iload 5, 2) := by decide +kernel
theorem dX1_list_40 : decode cX1_list 40 = .ok (.lshl, 1) := by decide +kernel
theorem dX1_list_41 : decode cX1_list 41 = .ok (.lor, 1) := by decide +kernel
theorem dX1_list_42 : decode cX1_list 42 = .ok (.lstore_n 3, 1) := by decide +kernel
theorem dX1_list_43 : decode cX1_list 43 = .ok (.iinc 5 1, 3) := by decide +kernel
theorem dX1_list_46 : decode cX1_list 46 = .ok (.goto (-41), 3) := by decide +kernel
theorem dX1_list_49 : decode cX1_list 49 = .ok (.lload_n 3, 1) := by decide +kernel
theorem dX1_list_50 : decode cX1_list 50 = .ok (.aload_n 0, 1) := by decide +kernel
theorem dX1_list_51 : decode cX1_list 51 = .ok (.getfield 37, 3) := by decide +kernel
theorem dX1_list_54 : decode cX1_list 54 = .ok (.land, 1) := by decide +kernel
theorem dX1_list_55 : decode cX1_list 55 = .ok (.lconst 0, 1) := by decide +kernel
theorem dX1_list_56 : decode cX1_list 56 = .ok (.lcmp, 1) := by decide +kernel
theorem dX1_list_57 : decode cX1_list 57 = .ok (.ifCond .ne 7, 3) := by decide +kernel
theorem dX1_list_60 : decode cX1_list 60 = .ok (.iconst 1, 1) := by decide +kernel
theorem dX1_list_61 : decode cX1_list 61 = .ok (.goto 4, 3) := by decide +kernel
theorem dX1_list_64 : decode cX1_list 64 = .ok (.iconst 0, 1) := by decide +kernel
theorem dX1_list_65 : decode cX1_list 65 = .ok (.istore 5, 2) := by decide +kernel
theorem dX1_list_67 : decode cX1_list 67 = .ok (.aload_n 0, 1) := by decide +kernel
theorem dX1_list_68 : decode cX1_list 68 = .ok (.getfield 75, 3) := by decide +kernel
theorem dX1_list_71 : decode cX1_list 71 = .ok (.bipush 99, 2) := by decide +kernel
theorem dX1_list_73 : decode cX1_list 73 = .ok (.if_icmp .ge 92, 3) := by decide +kernel
theorem dX1_list_76 : decode cX1_list 76 = .ok (.iload 5, 2) := by decide +kernel
theorem dX1_list_78 : decode cX1_list 78 = .ok (.ifCond .ne 18, 3) := by decide +kernel
theorem dX1_list_81 : decode cX1_list 81 = .ok (.aload_n 0, 1) := by decide +kernel
theorem dX1_list_82 : decode cX1_list 82 = .ok (.getfield 37, 3) := by decide +kernel
theorem dX1_list_85 : decode cX1_list 85 = .ok (.lload_n 3, 1) := by decide +kernel
theorem dX1_list_86 : decode cX1_list 86 = .ok (.ldc2_w 98, 3) := by decide +kernel
theorem dX1_list_89 : decode cX1_list 89 = .ok (.lxor, 1) := by decide +kernel
theorem dX1_list_90 : decode cX1_list 90 = .ok (.land, 1) := by decide +kernel
theorem dX1_list_91 : decode cX1_list 91 = .ok (.lconst 0, 1) := by decide +kernel
theorem dX1_list_92 : decode cX1_list 92 = .ok (.lcmp, 1) := by decide +kernel
theorem dX1_list_93 : decode cX1_list 93 = .ok (.ifCond .ne 72, 3) := by decide +kernel
theorem dX1_list_96 : decode cX1_list 96 = .ok (.aload_n 0, 1) := by decide +kernel
theorem dX1_list_97 : decode cX1_list 97 = .ok (.getfield 13, 3) := by decide +kernel
theorem dX1_list_100 : decode cX1_list 100 = .ok (.aload_n 0, 1) := by decide +kernel
theorem dX1_list_101 : decode cX1_list 101 = .ok (.getfield 75, 3) := by decide +kernel
theorem dX1_list_104 : decode cX1_list 104 = .ok (.iload_n 1, 1) := by decide +kernel
theorem dX1_list_105 : decode cX1_list 105 = .ok (.castore, 1) := by decide +kernel
theorem dX1_list_106 : decode cX1_list 106 = .ok (.aload_n 0, 1) := by decide +kernel
theorem dX1_list_107 : decode cX1_list 107 = .ok (.getfield 17, 3) := by decide +kernel
theorem dX1_list_110 : decode cX1_list 110 = .ok (.aload_n 0, 1) := by decide +kernel
theorem dX1_list_111 : decode cX1_list 111 = .ok (.getfield 75, 3) := by decide +kernel
theorem dX1_list_114 : decode cX1_list 114 = .ok (.iload_n 2, 1) := by decide +kernel
theorem dX1_list_115 : decode cX1_list 115 = .ok (.iastore, 1) := by decide +kernel
theorem dX1_list_116 : decode cX1_list 116 = .ok (.aload_n 0, 1) := by decide +kernel
theorem dX1_list_117 : decode cX1_list 117 = .ok (.getfield 21, 3) := by decide +kernel
theorem dX1_list_120 : decode cX1_list 120 = .ok (.aload_n 0, 1) := by decide +kernel
theorem dX1_list_121 : decode cX1_list 121 = .ok (.getfield 75, 3) := by decide +kernel
theorem dX1_list_124 : decode cX1_list 124 = .ok (.iload 5, 2) := by decide +kernel
theorem dX1_list_126 : decode cX1_list 126 = .ok (.bastore, 1) := by decide +kernel
theorem dX1_list_127 : decode cX1_list 127 = .ok (.aload_n 0, 1) := by decide +kernel
theorem dX1_list_128 : decode cX1_list 128 = .ok (.getfield 25, 3) := by decide +kernel
theorem dX1_list_131 : decode cX1_list 131 = .ok (.aload_n 0, 1) := by decide +kernel
theorem dX1_list_132 : decode cX1_list 132 = .ok (.getfield 75, 3) := by decide +kernel
theorem dX1_list_135 : decode cX1_list 135 = .ok (.aload_n 0, 1) := by decide +kernel
theorem dX1_list_136 : decode cX1_list 136 = .ok (.getfield 51, 3) := by decide +kernel
theorem dX1_list_139 : decode cX1_list 139 = .ok (.iload 5, 2) := by decide +kernel
theorem dX1_list_141 : decode cX1_list 141 = .ok (.ifCond .eq 11, 3) := by decide +kernel
theorem dX1_list_144 : decode cX1_list 144 = .ok (.lload_n 3, 1) := by decide +kernel
theorem dX1_list_145 : decode cX1_list 145 = .ok (.ldc2_w 98, 3) := by decide +kernel
theorem dX1_list_148 : decode cX1_list 148 = .ok (.lxor, 1) := by decide +kernel
theorem dX1_list_149 : decode cX1_list 149 = .ok (.goto 4, 3) := by decide +kernel
theorem dX1_list_152 : decode cX1_list 152 = .ok (.lload_n 3, 1) := by decide +kernel
theorem dX1_list_153 : decode cX1_list 153 = .ok (.land, 1) := by decide +kernel
theorem dX1_list_154 : decode cX1_list 154 = .ok (.lastore, 1) := by decide +kernel
theorem dX1_list_155 : decode cX1_list 155 = .ok (.aload_n 0, 1) := by decide +kernel
theorem dX1_list_156 : decode cX1_list 156 = .ok (.dup, 1) := by decide +kernel
theorem dX1_list_157 : decode cX1_list 157 = .ok (.getfield 75, 3) := by decide +kernel
theorem dX1_list_160 : decode cX1_list 160 = .ok (.iconst 1, 1) := by decide +kernel
theorem dX1_list_161 : decode cX1_list 161 = .ok (.iadd, 1) := by decide +kernel
theorem dX1_list_162 : decode cX1_list 162 = .ok (.putfield 75, 3) := by decide +kernel
theorem dX1_list_165 : decode cX1_list 165 = .ok (.return_, 1) := by decide +kernel
theorem dX1_findsOne_0 : decode cX1_findsOne 0 = .ok (.iconst 0, 1) := by decide +kernel
theorem dX1_findsOne_1 : decode cX1_findsOne 1 = .ok (.istore_n 1, 1) := by decide +kernel
theorem dX1_findsOne_2 : decode cX1_findsOne 2 = .ok (.iload_n 1, 1) := by decide +kernel
theorem dX1_findsOne_3 : decode cX1_findsOne 3 = .ok (.aload_n 0, 1) := by decide +kernel
theorem dX1_findsOne_4 : decode cX1_findsOne 4 = .ok (.getfield 75, 3) := by decide +kernel
theorem dX1_findsOne_7 : decode cX1_findsOne 7 = .ok (.if_icmp .ge 32, 3) := by decide +kernel
theorem dX1_findsOne_10 : decode cX1_findsOne 10 = .ok (.aload_n 0, 1) := by decide +kernel
theorem dX1_findsOne_11 : decode cX1_findsOne 11 = .ok (.getfield 25, 3) := by decide +kernel
theorem dX1_findsOne_14 : decode cX1_findsOne 14 = .ok (.iload_n 1, 1) := by decide +kernel
theorem dX1_findsOne_15 : decode cX1_findsOne 15 = .ok (.laload, 1) := by decide +kernel
theorem dX1_findsOne_16 : decode cX1_findsOne 16 = .ok (.lconst 0, 1) := by decide +kernel
theorem dX1_findsOne_17 : decode cX1_findsOne 17 = .ok (.lcmp, 1) := by decide +kernel
theorem dX1_findsOne_18 : decode cX1_findsOne 18 = .ok (.ifCond .ne 15, 3) := by decide +kernel
theorem dX1_findsOne_21 : decode cX1_findsOne 21 = .ok (.aload_n 0, 1) := by decide +kernel
theorem dX1_findsOne_22 : decode cX1_findsOne 22 = .ok (.iload_n 1, 1) := by decide +kernel
theorem dX1_findsOne_23 : decode cX1_findsOne 23 = .ok (.putfield 100, 3) := by decide +kernel
theorem dX1_findsOne_26 : decode cX1_findsOne 26 = .ok (.aload_n 0, 1) := by decide +kernel
theorem dX1_findsOne_27 : decode cX1_findsOne 27 = .ok (.iconst (-1), 1) := by decide +kernel
theorem dX1_findsOne_28 : decode cX1_findsOne 28 = .ok (.putfield 103, 3) := by decide +kernel
theorem dX1_findsOne_31 : decode cX1_findsOne 31 = .ok (.iconst 1, 1) := by decide +kernel
theorem dX1_findsOne_32 : decode cX1_findsOne 32 = .ok (.ireturn, 1) := by decide +kernel
theorem dX1_findsOne_33 : decode cX1_findsOne 33 = .ok (.iinc 1 1, 3) := by decide +kernel
theorem dX1_findsOne_36 : decode cX1_findsOne 36 = .ok (.goto (-34), 3) := by decide +kernel
theorem dX1_findsOne_39 : decode cX1_findsOne 39 = .ok (.iconst 0, 1) := by decide +kernel
theorem dX1_findsOne_40 : decode cX1_findsOne 40 = .ok (.ireturn, 1) := by decide +kernel
theorem dX1_findsPair_0 : decode cX1_findsPair 0 = .ok (.iconst 0, 1) := by decide +kernel
theorem dX1_findsPair_1 : decode cX1_findsPair 1 = .ok (.istore_n 1, 1) := by decide +kernel
theorem dX1_findsPair_2 : decode cX1_findsPair 2 = .ok (.iload_n 1, 1) := by decide +kernel
theorem dX1_findsPair_3 : decode cX1_findsPair 3 = .ok (.aload_n 0, 1) := by decide +kernel
theorem dX1_findsPair_4 : decode cX1_findsPair 4 = .ok (.getfield 75, 3) := by decide +kernel
theorem dX1_findsPair_7 : decode cX1_findsPair 7 = .ok (.if_icmp .ge 57, 3) := by decide +kernel
theorem dX1_findsPair_10 : decode cX1_findsPair 10 = .ok (.iload_n 1, 1) := by decide +kernel
theorem dX1_findsPair_11 : decode cX1_findsPair 11 = .ok (.iconst 1, 1) := by decide +kernel
theorem dX1_findsPair_12 : decode cX1_findsPair 12 = .ok (.iadd, 1) := by decide +kernel
theorem dX1_findsPair_13 : decode cX1_findsPair 13 = .ok (.istore_n 2, 1) := by decide +kernel
theorem dX1_findsPair_14 : decode cX1_findsPair 14 = .ok (.iload_n 2, 1) := by decide +kernel
theorem dX1_findsPair_15 : decode cX1_findsPair 15 = .ok (.aload_n 0, 1) := by decide +kernel
theorem dX1_findsPair_16 : decode cX1_findsPair 16 = .ok (.getfield 75, 3) := by decide +kernel
theorem dX1_findsPair_19 : decode cX1_findsPair 19 = .ok (.if_icmp .ge 39, 3) := by decide +kernel
theorem dX1_findsPair_22 : decode cX1_findsPair 22 = .ok (.aload_n 0, 1) := by decide +kernel
theorem dX1_findsPair_23 : decode cX1_findsPair 23 = .ok (.getfield 25, 3) := by decide +kernel
theorem dX1_findsPair_26 : decode cX1_findsPair 26 = .ok (.iload_n 1, 1) := by decide +kernel
theorem dX1_findsPair_27 : decode cX1_findsPair 27 = .ok (.laload, 1) := by decide +kernel
theorem dX1_findsPair_28 : decode cX1_findsPair 28 = .ok (.aload_n 0, 1) := by decide +kernel
theorem dX1_findsPair_29 : decode cX1_findsPair 29 = .ok (.getfield 25, 3) := by decide +kernel
theorem dX1_findsPair_32 : decode cX1_findsPair 32 = .ok (.iload_n 2, 1) := by decide +kernel
theorem dX1_findsPair_33 : decode cX1_findsPair 33 = .ok (.laload, 1) := by decide +kernel
theorem dX1_findsPair_34 : decode cX1_findsPair 34 = .ok (.land, 1) := by decide +kernel
theorem dX1_findsPair_35 : decode cX1_findsPair 35 = .ok (.lconst 0, 1) := by decide +kernel
theorem dX1_findsPair_36 : decode cX1_findsPair 36 = .ok (.lcmp, 1) := by decide +kernel
theorem dX1_findsPair_37 : decode cX1_findsPair 37 = .ok (.ifCond .ne 15, 3) := by decide +kernel
theorem dX1_findsPair_40 : decode cX1_findsPair 40 = .ok (.aload_n 0, 1) := by decide +kernel
theorem dX1_findsPair_41 : decode cX1_findsPair 41 = .ok (.iload_n 1, 1) := by decide +kernel
theorem dX1_findsPair_42 : decode cX1_findsPair 42 = .ok (.putfield 100, 3) := by decide +kernel
theorem dX1_findsPair_45 : decode cX1_findsPair 45 = .ok (.aload_n 0, 1) := by decide +kernel
theorem dX1_findsPair_46 : decode cX1_findsPair 46 = .ok (.iload_n 2, 1) := by decide +kernel
theorem dX1_findsPair_47 : decode cX1_findsPair 47 = .ok (.putfield 103, 3) := by decide +kernel
theorem dX1_findsPair_50 : decode cX1_findsPair 50 = .ok (.iconst 1, 1) := by decide +kernel
theorem dX1_findsPair_51 : decode cX1_findsPair 51 = .ok (.ireturn, 1) := by decide +kernel
theorem dX1_findsPair_52 : decode cX1_findsPair 52 = .ok (.iinc 2 1, 3) := by decide +kernel
theorem dX1_findsPair_55 : decode cX1_findsPair 55 = .ok (.goto (-41), 3) := by decide +kernel
theorem dX1_findsPair_58 : decode cX1_findsPair 58 = .ok (.iinc 1 1, 3) := by decide +kernel
theorem dX1_findsPair_61 : decode cX1_findsPair 61 = .ok (.goto (-59), 3) := by decide +kernel
theorem dX1_findsPair_64 : decode cX1_findsPair 64 = .ok (.iconst 0, 1) := by decide +kernel
theorem dX1_findsPair_65 : decode cX1_findsPair 65 = .ok (.ireturn, 1) := by decide +kernel
theorem dX1_testsNeeded_0 : decode cX1_testsNeeded 0 = .ok (.aload_n 0, 1) := by decide +kernel
theorem dX1_testsNeeded_1 : decode cX1_testsNeeded 1 = .ok (.getfield 21, 3) := by decide +kernel
theorem dX1_testsNeeded_4 : decode cX1_testsNeeded 4 = .ok (.aload_n 0, 1) := by decide +kernel
theorem dX1_testsNeeded_5 : decode cX1_testsNeeded 5 = .ok (.getfield 100, 3) := by decide +kernel
theorem dX1_testsNeeded_8 : decode cX1_testsNeeded 8 = .ok (.baload, 1) := by decide +kernel
theorem dX1_testsNeeded_9 : decode cX1_testsNeeded 9 = .ok (.ifCond .eq 7, 3) := by decide +kernel
theorem dX1_testsNeeded_12 : decode cX1_testsNeeded 12 = .ok (.iconst 2, 1) := by decide +kernel
theorem dX1_testsNeeded_13 : decode cX1_testsNeeded 13 = .ok (.goto 4, 3) := by decide +kernel
theorem dX1_testsNeeded_16 : decode cX1_testsNeeded 16 = .ok (.iconst 1, 1) := by decide +kernel
theorem dX1_testsNeeded_17 : decode cX1_testsNeeded 17 = .ok (.istore_n 1, 1) := by decide +kernel
theorem dX1_testsNeeded_18 : decode cX1_testsNeeded 18 = .ok (.aload_n 0, 1) := by decide +kernel
theorem dX1_testsNeeded_19 : decode cX1_testsNeeded 19 = .ok (.getfield 103, 3) := by decide +kernel
theorem dX1_testsNeeded_22 : decode cX1_testsNeeded 22 = .ok (.ifCond .lt 23, 3) := by decide +kernel
theorem dX1_testsNeeded_25 : decode cX1_testsNeeded 25 = .ok (.iload_n 1, 1) := by decide +kernel
theorem dX1_testsNeeded_26 : decode cX1_testsNeeded 26 = .ok (.aload_n 0, 1) := by decide +kernel
theorem dX1_testsNeeded_27 : decode cX1_testsNeeded 27 = .ok (.getfield 21, 3) := by decide +kernel
theorem dX1_testsNeeded_30 : decode cX1_testsNeeded 30 = .ok (.aload_n 0, 1) := by decide +kernel
theorem dX1_testsNeeded_31 : decode cX1_testsNeeded 31 = .ok (.getfield 103, 3) := by decide +kernel
theorem dX1_testsNeeded_34 : decode cX1_testsNeeded 34 = .ok (.baload, 1) := by decide +kernel
theorem dX1_testsNeeded_35 : decode cX1_testsNeeded 35 = .ok (.ifCond .eq 7, 3) := by decide +kernel
theorem dX1_testsNeeded_38 : decode cX1_testsNeeded 38 = .ok (.iconst 3, 1) := by decide +kernel
theorem dX1_testsNeeded_39 : decode cX1_testsNeeded 39 = .ok (.goto 4, 3) := by decide +kernel
theorem dX1_testsNeeded_42 : decode cX1_testsNeeded 42 = .ok (.iconst 2, 1) := by decide +kernel
theorem dX1_testsNeeded_43 : decode cX1_testsNeeded 43 = .ok (.iadd, 1) := by decide +kernel
theorem dX1_testsNeeded_44 : decode cX1_testsNeeded 44 = .ok (.istore_n 1, 1) := by decide +kernel
theorem dX1_testsNeeded_45 : decode cX1_testsNeeded 45 = .ok (.iload_n 1, 1) := by decide +kernel
theorem dX1_testsNeeded_46 : decode cX1_testsNeeded 46 = .ok (.ireturn, 1) := by decide +kernel
theorem dX1_writeInto_0 : decode cX1_writeInto 0 = .ok (.aload_n 0, 1) := by decide +kernel
theorem dX1_writeInto_1 : decode cX1_writeInto 1 = .ok (.aload_n 1, 1) := by decide +kernel
theorem dX1_writeInto_2 : decode cX1_writeInto 2 = .ok (.aload_n 0, 1) := by decide +kernel
theorem dX1_writeInto_3 : decode cX1_writeInto 3 = .ok (.getfield 100, 3) := by decide +kernel
theorem dX1_writeInto_6 : decode cX1_writeInto 6 = .ok (.invokevirtual 106, 3) := by decide +kernel
theorem dX1_writeInto_9 : decode cX1_writeInto 9 = .ok (.istore_n 2, 1) := by decide +kernel
theorem dX1_writeInto_10 : decode cX1_writeInto 10 = .ok (.aload_n 0, 1) := by decide +kernel
theorem dX1_writeInto_11 : decode cX1_writeInto 11 = .ok (.getfield 103, 3) := by decide +kernel
theorem dX1_writeInto_14 : decode cX1_writeInto 14 = .ok (.ifCond .lt 22, 3) := by decide +kernel
theorem dX1_writeInto_17 : decode cX1_writeInto 17 = .ok (.aload_n 0, 1) := by decide +kernel
theorem dX1_writeInto_18 : decode cX1_writeInto 18 = .ok (.aload_n 1, 1) := by decide +kernel
theorem dX1_writeInto_19 : decode cX1_writeInto 19 = .ok (.aload_n 0, 1) := by decide +kernel
theorem dX1_writeInto_20 : decode cX1_writeInto 20 = .ok (.getfield 103, 3) := by decide +kernel
theorem dX1_writeInto_23 : decode cX1_writeInto 23 = .ok (.invokevirtual 106, 3) := by decide +kernel
theorem dX1_writeInto_26 : decode cX1_writeInto 26 = .ok (.istore_n 3, 1) := by decide +kernel
theorem dX1_writeInto_27 : decode cX1_writeInto 27 = .ok (.aload_n 1, 1) := by decide +kernel
theorem dX1_writeInto_28 : decode cX1_writeInto 28 = .ok (.bipush 38, 2) := by decide +kernel
theorem dX1_writeInto_30 : decode cX1_writeInto 30 = .ok (.iload_n 2, 1) := by decide +kernel
theorem dX1_writeInto_31 : decode cX1_writeInto 31 = .ok (.iload_n 3, 1) := by decide +kernel
theorem dX1_writeInto_32 : decode cX1_writeInto 32 = .ok (.invokevirtual 110, 3) := by decide +kernel
theorem dX1_writeInto_35 : decode cX1_writeInto 35 = .ok (.istore_n 2, 1) := by decide +kernel
theorem dX1_writeInto_36 : decode cX1_writeInto 36 = .ok (.iload_n 2, 1) := by decide +kernel
theorem dX1_writeInto_37 : decode cX1_writeInto 37 = .ok (.ireturn, 1) := by decide +kernel
theorem dX1_writePart_0 : decode cX1_writePart 0 = .ok (.aload_n 1, 1) := by decide +kernel
theorem dX1_writePart_1 : decode cX1_writePart 1 = .ok (.aload_n 0, 1) := by decide +kernel
theorem dX1_writePart_2 : decode cX1_writePart 2 = .ok (.getfield 13, 3) := by decide +kernel
theorem dX1_writePart_5 : decode cX1_writePart 5 = .ok (.iload_n 2, 1) := by decide +kernel
theorem dX1_writePart_6 : decode cX1_writePart 6 = .ok (.caload, 1) := by decide +kernel
theorem dX1_writePart_7 : decode cX1_writePart 7 = .ok (.aload_n 0, 1) := by decide +kernel
theorem dX1_writePart_8 : decode cX1_writePart 8 = .ok (.getfield 17, 3) := by decide +kernel
theorem dX1_writePart_11 : decode cX1_writePart 11 = .ok (.iload_n 2, 1) := by decide +kernel
theorem dX1_writePart_12 : decode cX1_writePart 12 = .ok (.iaload, 1) := by decide +kernel
theorem dX1_writePart_13 : decode cX1_writePart 13 = .ok (.iconst 0, 1) := by decide +kernel
theorem dX1_writePart_14 : decode cX1_writePart 14 = .ok (.invokevirtual 110, 3) := by decide +kernel
theorem dX1_writePart_17 : decode cX1_writePart 17 = .ok (.istore_n 3, 1) := by decide +kernel
theorem dX1_writePart_18 : decode cX1_writePart 18 = .ok (.aload_n 0, 1) := by decide +kernel
theorem dX1_writePart_19 : decode cX1_writePart 19 = .ok (.getfield 21, 3) := by decide +kernel
theorem dX1_writePart_22 : decode cX1_writePart 22 = .ok (.iload_n 2, 1) := by decide +kernel
theorem dX1_writePart_23 : decode cX1_writePart 23 = .ok (.baload, 1) := by decide +kernel
theorem dX1_writePart_24 : decode cX1_writePart 24 = .ok (.ifCond .eq 14, 3) := by decide +kernel
theorem dX1_writePart_27 : decode cX1_writePart 27 = .ok (.aload_n 1, 1) := by decide +kernel
theorem dX1_writePart_28 : decode cX1_writePart 28 = .ok (.bipush 33, 2) := by decide +kernel
theorem dX1_writePart_30 : decode cX1_writePart 30 = .ok (.iload_n 3, 1) := by decide +kernel
theorem dX1_writePart_31 : decode cX1_writePart 31 = .ok (.iconst 0, 1) := by decide +kernel
theorem dX1_writePart_32 : decode cX1_writePart 32 = .ok (.invokevirtual 110, 3) := by decide +kernel
theorem dX1_writePart_35 : decode cX1_writePart 35 = .ok (.goto 4, 3) := by decide +kernel
theorem dX1_writePart_38 : decode cX1_writePart 38 = .ok (.iload_n 3, 1) := by decide +kernel
theorem dX1_writePart_39 : decode cX1_writePart 39 = .ok (.ireturn, 1) := by decide +kernel
theorem dX2_init_0 : decode cX2_init 0 = .ok (.aload_n 0, 1) := by decide +kernel
theorem dX2_init_1 : decode cX2_init 1 = .ok (.invokespecial 1, 3) := by decide +kernel
theorem dX2_init_4 : decode cX2_init 4 = .ok (.return_, 1) := by decide +kernel
theorem dX2_isKept_0 : decode cX2_isKept 0 = .ok (.aload_n 0, 1) := by decide +kernel
theorem dX2_isKept_1 : decode cX2_isKept 1 = .ok (.getfield 7, 3) := by decide +kernel
theorem dX2_isKept_4 : decode cX2_isKept 4 = .ok (.ifCond .eq 14, 3) := by decide +kernel
theorem dX2_isKept_7 : decode cX2_isKept 7 = .ok (.aload_n 0, 1) := by decide +kernel
theorem dX2_isKept_8 : decode cX2_isKept 8 = .ok (.getfield 13, 3) := by decide +kernel
theorem dX2_isKept_11 : decode cX2_isKept 11 = .ok (.ifCond .ne 7, 3) := by decide +kernel
theorem dX2_isKept_14 : decode cX2_isKept 14 = .ok (.iconst 1, 1) := by decide +kernel
theorem dX2_isKept_15 : decode cX2_isKept 15 = .ok (.goto 4, 3) := by decide +kernel
theorem dX2_isKept_18 : decode cX2_isKept 18 = .ok (.iconst 0, 1) := by decide +kernel
theorem dX2_isKept_19 : decode cX2_isKept 19 = .ok (.ireturn, 1) := by decide +kernel
theorem dX2_liesIn_0 : decode cX2_liesIn 0 = .ok (.aload_n 0, 1) := by decide +kernel
theorem dX2_liesIn_1 : decode cX2_liesIn 1 = .ok (.invokevirtual 16, 3) := by decide +kernel
theorem dX2_liesIn_4 : decode cX2_liesIn 4 = .ok (.ifCond .eq 15, 3) := by decide +kernel
theorem dX2_liesIn_7 : decode cX2_liesIn 7 = .ok (.aload_n 0, 1) := by decide +kernel
theorem dX2_liesIn_8 : decode cX2_liesIn 8 = .ok (.getfield 20, 3) := by decide +kernel
theorem dX2_liesIn_11 : decode cX2_liesIn 11 = .ok (.iload_n 1, 1) := by decide +kernel
theorem dX2_liesIn_12 : decode cX2_liesIn 12 = .ok (.if_icmp .ne 7, 3) := by decide +kernel
theorem dX2_liesIn_15 : decode cX2_liesIn 15 = .ok (.iconst 1, 1) := by decide +kernel
theorem dX2_liesIn_16 : decode cX2_liesIn 16 = .ok (.goto 4, 3) := by decide +kernel
theorem dX2_liesIn_19 : decode cX2_liesIn 19 = .ok (.iconst 0, 1) := by decide +kernel
theorem dX2_liesIn_20 : decode cX2_liesIn 20 = .ok (.ireturn, 1) := by decide +kernel
theorem dX3_init_0 : decode cX3_init 0 = .ok (.aload_n 0, 1) := by decide +kernel
theorem dX3_init_1 : decode cX3_init 1 = .ok (.invokespecial 3, 3) := by decide +kernel
theorem dX3_init_4 : decode cX3_init 4 = .ok (.aload_n 0, 1) := by decide +kernel
theorem dX3_init_5 : decode cX3_init 5 = .ok (.bipush 40, 2) := by decide +kernel
theorem dX3_init_7 : decode cX3_init 7 = .ok (.anewarray 11, 3) := by decide +kernel
theorem dX3_init_10 : decode cX3_init 10 = .ok (.putfield 13, 3) := by decide +kernel
theorem dX3_init_13 : decode cX3_init 13 = .ok (.aload_n 0, 1) := by decide +kernel
theorem dX3_init_14 : decode cX3_init 14 = .ok (.bipush 8, 2) := by decide +kernel
theorem dX3_init_16 : decode cX3_init 16 = .ok (.newarray .int, 2) := by decide +kernel
theorem dX3_init_18 : decode cX3_init 18 = .ok (.putfield 17, 3) := by decide +kernel
theorem dX3_init_21 : decode cX3_init 21 = .ok (.aload_n 0, 1) := by decide +kernel
theorem dX3_init_22 : decode cX3_init 22 = .ok (.bipush 8, 2) := by decide +kernel
theorem dX3_init_24 : decode cX3_init 24 = .ok (.newarray .int, 2) := by decide +kernel
theorem dX3_init_26 : decode cX3_init 26 = .ok (.putfield 21, 3) := by decide +kernel
theorem dX3_init_29 : decode cX3_init 29 = .ok (.aload_n 0, 1) := by decide +kernel
theorem dX3_init_30 : decode cX3_init 30 = .ok (.bipush 10, 2) := by decide +kernel
theorem dX3_init_32 : decode cX3_init 32 = .ok (.newarray .int, 2) := by decide +kernel
theorem dX3_init_34 : decode cX3_init 34 = .ok (.putfield 24, 3) := by decide +kernel
theorem dX3_init_37 : decode cX3_init 37 = .ok (.aload_n 0, 1) := by decide +kernel
theorem dX3_init_38 : decode cX3_init 38 = .ok (.bipush 10, 2) := by decide +kernel
theorem dX3_init_40 : decode cX3_init 40 = .ok (.newarray .int, 2) := by decide +kernel
theorem dX3_init_42 : decode cX3_init 42 = .ok (.putfield 27, 3) := by decide +kernel
theorem dX3_init_45 : decode cX3_init 45 = .ok (.aload_n 0, 1) := by decide +kernel
theorem dX3_init_46 : decode cX3_init 46 = .ok (.bipush 10, 2) := by decide +kernel
theorem dX3_init_48 : decode cX3_init 48 = .ok (.newarray .int, 2) := by decide +kernel
theorem dX3_init_50 : decode cX3_init 50 = .ok (.putfield 30, 3) := by decide +kernel
theorem dX3_init_53 : decode cX3_init 53 = .ok (.iconst 0, 1) := by decide +kernel
theorem dX3_init_54 : decode cX3_init 54 = .ok (.istore_n 1, 1) := by decide +kernel
theorem dX3_init_55 : decode cX3_init 55 = .ok (.iload_n 1, 1) := by decide +kernel
theorem dX3_init_56 : decode cX3_init 56 = .ok (.bipush 40, 2) := by decide +kernel
theorem dX3_init_58 : decode cX3_init 58 = .ok (.if_icmp .ge 22, 3) := by decide +kernel
theorem dX3_init_61 : decode cX3_init 61 = .ok (.aload_n 0, 1) := by decide +kernel
theorem dX3_init_62 : decode cX3_init 62 = .ok (.getfield 13, 3) := by decide +kernel
theorem dX3_init_65 : decode cX3_init 65 = .ok (.iload_n 1, 1) := by decide +kernel
theorem dX3_init_66 : decode cX3_init 66 = .ok (.new 11, 3) := by decide +kernel
theorem dX3_init_69 : decode cX3_init 69 = .ok (.dup, 1) := by decide +kernel
theorem dX3_init_70 : decode cX3_init 70 = .ok (.invokespecial 33, 3) := by decide +kernel
theorem dX3_init_73 : decode cX3_init 73 = .ok (.aastore, 1) := by decide +kernel
theorem dX3_init_74 : decode cX3_init 74 = .ok (.iinc 1 1, 3) := by decide +kernel
theorem dX3_init_77 : decode cX3_init 77 = .ok (.goto (-22), 3) := by decide +kernel
theorem dX3_init_80 : decode cX3_init 80 = .ok (.iconst 0, 1) := by decide +kernel
theorem dX3_init_81 : decode cX3_init 81 = .ok (.istore_n 1, 1) := by decide +kernel
theorem dX3_init_82 : decode cX3_init 82 = .ok (.iload_n 1, 1) := by decide +kernel
theorem dX3_init_83 : decode cX3_init 83 = .ok (.bipush 8, 2) := by decide +kernel
theorem dX3_init_85 : decode cX3_init 85 = .ok (.if_icmp .ge 18, 3) := by decide +kernel
theorem dX3_init_88 : decode cX3_init 88 = .ok (.aload_n 0, 1) := by decide +kernel
theorem dX3_init_89 : decode cX3_init 89 = .ok (.getfield 17, 3) := by decide +kernel
theorem dX3_init_92 : decode cX3_init 92 = .ok (.iload_n 1, 1) := by decide +kernel
theorem dX3_init_93 : decode cX3_init 93 = .ok (.sipush 2000, 3) := by decide +kernel
theorem dX3_init_96 : decode cX3_init 96 = .ok (.iastore, 1) := by decide +kernel
theorem dX3_init_97 : decode cX3_init 97 = .ok (.iinc 1 1, 3) := by decide +kernel
theorem dX3_init_100 : decode cX3_init 100 = .ok (.goto (-18), 3) := by decide +kernel
theorem dX3_init_103 : decode cX3_init 103 = .ok (.return_, 1) := by decide +kernel
theorem dX3_takeIn_0 : decode cX3_takeIn 0 = .ok (.aload_n 0, 1) := by decide +kernel
theorem dX3_takeIn_1 : decode cX3_takeIn 1 = .ok (.getfield 13, 3) := by decide +kernel
theorem dX3_takeIn_4 : decode cX3_takeIn 4 = .ok (.aload_n 0, 1) := by decide +kernel
theorem dX3_takeIn_5 : decode cX3_takeIn 5 = .ok (.getfield 34, 3) := by decide +kernel
theorem dX3_takeIn_8 : decode cX3_takeIn 8 = .ok (.aaload, 1) := by decide +kernel
theorem dX3_takeIn_9 : decode cX3_takeIn 9 = .ok (.astore 6, 2) := by decide +kernel
theorem dX3_takeIn_11 : decode cX3_takeIn 11 = .ok (.aload 6, 2) := by decide +kernel
theorem dX3_takeIn_13 : decode cX3_takeIn 13 = .ok (.iload_n 1, 1) := by decide +kernel
theorem dX3_takeIn_14 : decode cX3_takeIn 14 = .ok (.putfield 38, 3) := by decide +kernel
theorem dX3_takeIn_17 : decode cX3_takeIn 17 = .ok (.aload 6, 2) := by decide +kernel
theorem dX3_takeIn_19 : decode cX3_takeIn 19 = .ok (.iload_n 2, 1) := by decide +kernel
theorem dX3_takeIn_20 : decode cX3_takeIn 20 = .ok (.putfield 41, 3) := by decide +kernel
theorem dX3_takeIn_23 : decode cX3_takeIn 23 = .ok (.aload 6, 2) := by decide +kernel
theorem dX3_takeIn_25 : decode cX3_takeIn 25 = .ok (.iload_n 3, 1) := by decide +kernel
theorem dX3_takeIn_26 : decode cX3_takeIn 26 = .ok (.putfield 44, 3) := by decide +kernel
theorem dX3_takeIn_29 : decode cX3_takeIn 29 = .ok (.aload 6, 2) := by decide +kernel
theorem dX3_takeIn_31 : decode cX3_takeIn 31 = .ok (.iload 4, 2) := by decide +kernel
theorem dX3_takeIn_33 : decode cX3_takeIn 33 = .ok (.putfield 47, 3) := by decide +kernel
theorem dX3_takeIn_36 : decode cX3_takeIn 36 = .ok (.aload 6, 2) := by decide +kernel
theorem dX3_takeIn_38 : decode cX3_takeIn 38 = .ok (.iload 5, 2) := by decide +kernel
theorem dX3_takeIn_40 : decode cX3_takeIn 40 = .ok (.putfield 50, 3) := by decide +kernel
theorem dX3_takeIn_43 : decode cX3_takeIn 43 = .ok (.aload 6, 2) := by decide +kernel
theorem dX3_takeIn_45 : decode cX3_takeIn 45 = .ok (.aload_n 0, 1) := by decide +kernel
theorem dX3_takeIn_46 : decode cX3_takeIn 46 = .ok (.getfield 53, 3) := by decide +kernel
theorem dX3_takeIn_49 : decode cX3_takeIn 49 = .ok (.bipush 7, 2) := by decide +kernel
theorem dX3_takeIn_51 : decode cX3_takeIn 51 = .ok (.irem, 1) := by decide +kernel
theorem dX3_takeIn_52 : decode cX3_takeIn 52 = .ok (.putfield 56, 3) := by decide +kernel
theorem dX3_takeIn_55 : decode cX3_takeIn 55 = .ok (.aload_n 0, 1) := by decide +kernel
theorem dX3_takeIn_56 : decode cX3_takeIn 56 = .ok (.dup, 1) := by decide +kernel
theorem dX3_takeIn_57 : decode cX3_takeIn 57 = .ok (.getfield 34, 3) := by decide +kernel
theorem dX3_takeIn_60 : decode cX3_takeIn 60 = .ok (.iconst 1, 1) := by decide +kernel
theorem dX3_takeIn_61 : decode cX3_takeIn 61 = .ok (.iadd, 1) := by decide +kernel
theorem dX3_takeIn_62 : decode cX3_takeIn 62 = .ok (.putfield 34, 3) := by decide +kernel
theorem dX3_takeIn_65 : decode cX3_takeIn 65 = .ok (.aload_n 0, 1) := by decide +kernel
theorem dX3_takeIn_66 : decode cX3_takeIn 66 = .ok (.getfield 34, 3) := by decide +kernel
theorem dX3_takeIn_69 : decode cX3_takeIn 69 = .ok (.iconst 1, 1) := by decide +kernel
theorem dX3_takeIn_70 : decode cX3_takeIn 70 = .ok (.isub, 1) := by decide +kernel
theorem dX3_takeIn_71 : decode cX3_takeIn 71 = .ok (.ireturn, 1) := by decide +kernel
theorem dX3_sizesIn_0 : decode cX3_sizesIn 0 = .ok (.iconst 0, 1) := by decide +kernel
theorem dX3_sizesIn_1 : decode cX3_sizesIn 1 = .ok (.istore_n 2, 1) := by decide +kernel
theorem dX3_sizesIn_2 : decode cX3_sizesIn 2 = .ok (.iconst 0, 1) := by decide +kernel
theorem dX3_sizesIn_3 : decode cX3_sizesIn 3 = .ok (.istore_n 3, 1) := by decide +kernel
theorem dX3_sizesIn_4 : decode cX3_sizesIn 4 = .ok (.iload_n 3, 1) := by decide +kernel
theorem dX3_sizesIn_5 : decode cX3_sizesIn 5 = .ok (.aload_n 0, 1) := by decide +kernel
theorem dX3_sizesIn_6 : decode cX3_sizesIn 6 = .ok (.getfield 34, 3) := by decide +kernel
theorem dX3_sizesIn_9 : decode cX3_sizesIn 9 = .ok (.if_icmp .ge 34, 3) := by decide +kernel
theorem dX3_sizesIn_12 : decode cX3_sizesIn 12 = .ok (.aload_n 0, 1) := by decide +kernel
theorem dX3_sizesIn_13 : decode cX3_sizesIn 13 = .ok (.getfield 13, 3) := by decide +kernel
theorem dX3_sizesIn_16 : decode cX3_sizesIn 16 = .ok (.iload_n 3, 1) := by decide +kernel
theorem dX3_sizesIn_17 : decode cX3_sizesIn 17 = .ok (.aaload, 1) := by decide +kernel
theorem dX3_sizesIn_18 : decode cX3_sizesIn 18 = .ok (.iload_n 1, 1) := by decide +kernel
theorem dX3_sizesIn_19 : decode cX3_sizesIn 19 = .ok (.invokevirtual 59, 3) := by decide +kernel
theorem dX3_sizesIn_22 : decode cX3_sizesIn 22 = .ok (.ifCond .eq 15, 3) := by decide +kernel
theorem dX3_sizesIn_25 : decode cX3_sizesIn 25 = .ok (.iload_n 2, 1) := by decide +kernel
theorem dX3_sizesIn_26 : decode cX3_sizesIn 26 = .ok (.aload_n 0, 1) := by decide +kernel
theorem dX3_sizesIn_27 : decode cX3_sizesIn 27 = .ok (.getfield 13, 3) := by decide +kernel
theorem dX3_sizesIn_30 : decode cX3_sizesIn 30 = .ok (.iload_n 3, 1) := by decide +kernel
theorem dX3_sizesIn_31 : decode cX3_sizesIn 31 = .ok (.aaload, 1) := by decide +kernel
theorem dX3_sizesIn_32 : decode cX3_sizesIn 32 = .ok (.getfield 50, 3) := by decide +kernel
theorem dX3_sizesIn_35 : decode cX3_sizesIn 35 = .ok (.iadd, 1) := by decide +kernel
theorem dX3_sizesIn_36 : decode cX3_sizesIn 36 = .ok (.istore_n 2, 1) := by decide +kernel
theorem dX3_sizesIn_37 : decode cX3_sizesIn 37 = .ok (.iinc 3 1, 3) := by decide +kernel
theorem dX3_sizesIn_40 : decode cX3_sizesIn 40 = .ok (.goto (-36), 3) := by decide +kernel
theorem dX3_sizesIn_43 : decode cX3_sizesIn 43 = .ok (.iload_n 2, 1) := by decide +kernel
theorem dX3_sizesIn_44 : decode cX3_sizesIn 44 = .ok (.ireturn, 1) := by decide +kernel
theorem dX3_loadWithout_0 : decode cX3_loadWithout 0 = .ok (.iconst 0, 1) := by decide +kernel
theorem dX3_loadWithout_1 : decode cX3_loadWithout 1 = .ok (.istore_n 3, 1) := by decide +kernel
theorem dX3_loadWithout_2 : decode cX3_loadWithout 2 = .ok (.iload_n 3, 1) := by decide +kernel
theorem dX3_loadWithout_3 : decode cX3_loadWithout 3 = .ok (.bipush 8, 2) := by decide +kernel
theorem dX3_loadWithout_5 : decode cX3_loadWithout 5 = .ok (.if_icmp .ge 18, 3) := by decide +kernel
theorem dX3_loadWithout_8 : decode cX3_loadWithout 8 = .ok (.aload_n 2, 1) := by decide +kernel
theorem dX3_loadWithout_9 : decode cX3_loadWithout 9 = .ok (.iload_n 3, 1) := by decide +kernel
theorem dX3_loadWithout_10 : decode cX3_loadWithout 10 = .ok (.aload_n 0, 1) := by decide +kernel
theorem dX3_loadWithout_11 : decode cX3_loadWithout 11 = .ok (.getfield 21, 3) := by decide +kernel
theorem dX3_loadWithout_14 : decode cX3_loadWithout 14 = .ok (.iload_n 3, 1) := by decide +kernel
theorem dX3_loadWithout_15 : decode cX3_loadWithout 15 = .ok (.iaload, 1) := by decide +kernel
theorem dX3_loadWithout_16 : decode cX3_loadWithout 16 = .ok (.iastore, 1) := by decide +kernel
theorem dX3_loadWithout_17 : decode cX3_loadWithout 17 = .ok (.iinc 3 1, 3) := by decide +kernel
theorem dX3_loadWithout_20 : decode cX3_loadWithout 20 = .ok (.goto (-18), 3) := by decide +kernel
theorem dX3_loadWithout_23 : decode cX3_loadWithout 23 = .ok (.iconst 0, 1) := by decide +kernel
theorem dX3_loadWithout_24 : decode cX3_loadWithout 24 = .ok (.istore_n 3, 1) := by decide +kernel
theorem dX3_loadWithout_25 : decode cX3_loadWithout 25 = .ok (.iload_n 3, 1) := by decide +kernel
theorem dX3_loadWithout_26 : decode cX3_loadWithout 26 = .ok (.aload_n 0, 1) := by decide +kernel
theorem dX3_loadWithout_27 : decode cX3_loadWithout 27 = .ok (.getfield 34, 3) := by decide +kernel
theorem dX3_loadWithout_30 : decode cX3_loadWithout 30 = .ok (.if_icmp .ge 49, 3) := by decide +kernel
theorem dX3_loadWithout_33 : decode cX3_loadWithout 33 = .ok (.iload_n 3, 1) := by decide +kernel
theorem dX3_loadWithout_34 : decode cX3_loadWithout 34 = .ok (.iload_n 1, 1) := by decide +kernel
theorem dX3_loadWithout_35 : decode cX3_loadWithout 35 = .ok (.if_icmp .eq 38, 3) := by decide +kernel
theorem dX3_loadWithout_38 : decode cX3_loadWithout 38 = .ok (.aload_n 0, 1) := by decide +kernel
theorem dX3_loadWithout_39 : decode cX3_loadWithout 39 = .ok (.getfield 13, 3) := by decide +kernel
theorem dX3_loadWithout_42 : decode cX3_loadWithout 42 = .ok (.iload_n 3, 1) := by decide +kernel
theorem dX3_loadWithout_43 : decode cX3_loadWithout 43 = .ok (.aaload, 1) := by decide +kernel
theorem dX3_loadWithout_44 : decode cX3_loadWithout 44 = .ok (.invokevirtual 63, 3) := by decide +kernel
theorem dX3_loadWithout_47 : decode cX3_loadWithout 47 = .ok (.ifCond .eq 26, 3) := by decide +kernel
theorem dX3_loadWithout_50 : decode cX3_loadWithout 50 = .ok (.aload_n 2, 1) := by decide +kernel
theorem dX3_loadWithout_51 : decode cX3_loadWithout 51 = .ok (.aload_n 0, 1) := by decide +kernel
theorem dX3_loadWithout_52 : decode cX3_loadWithout 52 = .ok (.getfield 13, 3) := by decide +kernel
theorem dX3_loadWithout_55 : decode cX3_loadWithout 55 = .ok (.iload_n 3, 1) := by decide +kernel
theorem dX3_loadWithout_56 : decode cX3_loadWithout 56 = .ok (.aaload, 1) := by decide +kernel
theorem dX3_loadWithout_57 : decode cX3_loadWithout 57 = .ok (.getfield 67, 3) := by decide +kernel
theorem dX3_loadWithout_60 : decode cX3_loadWithout 60 = .ok (.dup2, 1) := by decide +kernel
theorem dX3_loadWithout_61 : decode cX3_loadWithout 61 = .ok (.iaload, 1) := by decide +kernel
theorem dX3_loadWithout_62 : decode cX3_loadWithout 62 = .ok (.aload_n 0, 1) := by decide +kernel
theorem dX3_loadWithout_63 : decode cX3_loadWithout 63 = .ok (.getfield 13, 3) := by decide +kernel
theorem dX3_loadWithout_66 : decode cX3_loadWithout 66 = .ok (.iload_n 3, 1) := by decide +kernel
theorem dX3_loadWithout_67 : decode cX3_loadWithout 67 = .ok (.aaload, 1) := by decide +kernel
theorem dX3_loadWithout_68 : decode cX3_loadWithout 68 = .ok (.getfield 50, 3) := by decide +kernel
theorem dX3_loadWithout_71 : decode cX3_loadWithout 71 = .ok (.iadd, 1) := by decide +kernel
theorem dX3_loadWithout_72 : decode cX3_loadWithout 72 = .ok (.iastore, 1) := by decide +kernel
theorem dX3_loadWithout_73 : decode cX3_loadWithout 73 = .ok (.iinc 3 1, 3) := by decide +kernel
theorem dX3_loadWithout_76 : decode cX3_loadWithout 76 = .ok (.goto (-51), 3) := by decide +kernel
theorem dX3_loadWithout_79 : decode cX3_loadWithout 79 = .ok (.return_, 1) := by decide +kernel
theorem dX3_isReplyDue_0 : decode cX3_isReplyDue 0 = .ok (.aload_n 0, 1) := by decide +kernel
theorem dX3_isReplyDue_1 : decode cX3_isReplyDue 1 = .ok (.getfield 24, 3) := by decide +kernel
theorem dX3_isReplyDue_4 : decode cX3_isReplyDue 4 = .ok (.iload_n 1, 1) := by decide +kernel
theorem dX3_isReplyDue_5 : decode cX3_isReplyDue 5 = .ok (.iaload, 1) := by decide +kernel
theorem dX3_isReplyDue_6 : decode cX3_isReplyDue 6 = .ok (.ifCond .eq 18, 3) := by decide +kernel
theorem dX3_isReplyDue_9 : decode cX3_isReplyDue 9 = .ok (.aload_n 0, 1) := by decide +kernel
theorem dX3_isReplyDue_10 : decode cX3_isReplyDue 10 = .ok (.getfield 53, 3) := by decide +kernel
theorem dX3_isReplyDue_13 : decode cX3_isReplyDue 13 = .ok (.aload_n 0, 1) := by decide +kernel
theorem dX3_isReplyDue_14 : decode cX3_isReplyDue 14 = .ok (.getfield 30, 3) := by decide +kernel
theorem dX3_isReplyDue_17 : decode cX3_isReplyDue 17 = .ok (.iload_n 1, 1) := by decide +kernel
theorem dX3_isReplyDue_18 : decode cX3_isReplyDue 18 = .ok (.iaload, 1) := by decide +kernel
theorem dX3_isReplyDue_19 : decode cX3_isReplyDue 19 = .ok (.isub, 1) := by decide +kernel
theorem dX3_isReplyDue_20 : decode cX3_isReplyDue 20 = .ok (.iload_n 2, 1) := by decide +kernel
theorem dX3_isReplyDue_21 : decode cX3_isReplyDue 21 = .ok (.if_icmp .lt 7, 3) := by decide +kernel
theorem dX3_isReplyDue_24 : decode cX3_isReplyDue 24 = .ok (.iconst 1, 1) := by decide +kernel
theorem dX3_isReplyDue_25 : decode cX3_isReplyDue 25 = .ok (.goto 4, 3) := by decide +kernel
theorem dX3_isReplyDue_28 : decode cX3_isReplyDue 28 = .ok (.iconst 0, 1) := by decide +kernel
theorem dX3_isReplyDue_29 : decode cX3_isReplyDue 29 = .ok (.ireturn, 1) := by decide +kernel
theorem dX3_carryOut_0 : decode cX3_carryOut 0 = .ok (.aload_n 0, 1) := by decide +kernel
theorem dX3_carryOut_1 : decode cX3_carryOut 1 = .ok (.getfield 13, 3) := by decide +kernel
theorem dX3_carryOut_4 : decode cX3_carryOut 4 = .ok (.iload_n 1, 1) := by decide +kernel
theorem dX3_carryOut_5 : decode cX3_carryOut 5 = .ok (.aaload, 1) := by decide +kernel
theorem dX3_carryOut_6 : decode cX3_carryOut 6 = .ok (.astore_n 3, 1) := by decide +kernel
theorem dX3_carryOut_7 : decode cX3_carryOut 7 = .ok (.aload_n 3, 1) := by decide +kernel
theorem dX3_carryOut_8 : decode cX3_carryOut 8 = .ok (.iconst 1, 1) := by decide +kernel
theorem dX3_carryOut_9 : decode cX3_carryOut 9 = .ok (.putfield 70, 3) := by decide +kernel
theorem dX3_carryOut_12 : decode cX3_carryOut 12 = .ok (.aload_n 3, 1) := by decide +kernel
theorem dX3_carryOut_13 : decode cX3_carryOut 13 = .ok (.iconst 0, 1) := by decide +kernel
theorem dX3_carryOut_14 : decode cX3_carryOut 14 = .ok (.putfield 74, 3) := by decide +kernel
theorem dX3_carryOut_17 : decode cX3_carryOut 17 = .ok (.aload_n 3, 1) := by decide +kernel
theorem dX3_carryOut_18 : decode cX3_carryOut 18 = .ok (.aload_n 2, 1) := by decide +kernel
theorem dX3_carryOut_19 : decode cX3_carryOut 19 = .ok (.getfield 77, 3) := by decide +kernel
theorem dX3_carryOut_22 : decode cX3_carryOut 22 = .ok (.bipush 8, 2) := by decide +kernel
theorem dX3_carryOut_24 : decode cX3_carryOut 24 = .ok (.if_icmp .lt 7, 3) := by decide +kernel
theorem dX3_carryOut_27 : decode cX3_carryOut 27 = .ok (.iconst 1, 1) := by decide +kernel
theorem dX3_carryOut_28 : decode cX3_carryOut 28 = .ok (.goto 4, 3) := by decide +kernel
theorem dX3_carryOut_31 : decode cX3_carryOut 31 = .ok (.iconst 0, 1) := by decide +kernel
theorem dX3_carryOut_32 : decode cX3_carryOut 32 = .ok (.putfield 82, 3) := by decide +kernel
theorem dX3_carryOut_35 : decode cX3_carryOut 35 = .ok (.aload_n 3, 1) := by decide +kernel
theorem dX3_carryOut_36 : decode cX3_carryOut 36 = .ok (.aload_n 3, 1) := by decide +kernel
theorem dX3_carryOut_37 : decode cX3_carryOut 37 = .ok (.getfield 82, 3) := by decide +kernel
theorem dX3_carryOut_40 : decode cX3_carryOut 40 = .ok (.ifCond .eq 7, 3) := by decide +kernel
theorem dX3_carryOut_43 : decode cX3_carryOut 43 = .ok (.iconst 0, 1) := by decide +kernel
theorem dX3_carryOut_44 : decode cX3_carryOut 44 = .ok (.goto 7, 3) := by decide +kernel
theorem dX3_carryOut_47 : decode cX3_carryOut 47 = .ok (.aload_n 2, 1) := by decide +kernel
theorem dX3_carryOut_48 : decode cX3_carryOut 48 = .ok (.getfield 77, 3) := by decide +kernel
theorem dX3_carryOut_51 : decode cX3_carryOut 51 = .ok (.putfield 67, 3) := by decide +kernel
theorem dX3_carryOut_54 : decode cX3_carryOut 54 = .ok (.aload_n 3, 1) := by decide +kernel
theorem dX3_carryOut_55 : decode cX3_carryOut 55 = .ok (.aload_n 2, 1) := by decide +kernel
theorem dX3_carryOut_56 : decode cX3_carryOut 56 = .ok (.getfield 85, 3) := by decide +kernel
theorem dX3_carryOut_59 : decode cX3_carryOut 59 = .ok (.putfield 88, 3) := by decide +kernel
theorem dX3_carryOut_62 : decode cX3_carryOut 62 = .ok (.iconst 0, 1) := by decide +kernel
theorem dX3_carryOut_63 : decode cX3_carryOut 63 = .ok (.istore 4, 2) := by decide +kernel
theorem dX3_carryOut_65 : decode cX3_carryOut 65 = .ok (.iload 4, 2) := by decide +kernel
theorem dX3_carryOut_67 : decode cX3_carryOut 67 = .ok (.bipush 8, 2) := by decide +kernel
theorem dX3_carryOut_69 : decode cX3_carryOut 69 = .ok (.if_icmp .ge 26, 3) := by decide +kernel
theorem dX3_carryOut_72 : decode cX3_carryOut 72 = .ok (.aload_n 0, 1) := by decide +kernel
theorem dX3_carryOut_73 : decode cX3_carryOut 73 = .ok (.getfield 21, 3) := by decide +kernel
theorem dX3_carryOut_76 : decode cX3_carryOut 76 = .ok (.iload 4, 2) := by decide +kernel
theorem dX3_carryOut_78 : decode cX3_carryOut 78 = .ok (.dup2, 1) := by decide +kernel
theorem dX3_carryOut_79 : decode cX3_carryOut 79 = .ok (.iaload, 1) := by decide +kernel
theorem dX3_carryOut_80 : decode cX3_carryOut 80 = .ok (.aload_n 2, 1) := by decide +kernel
theorem dX3_carryOut_81 : decode cX3_carryOut 81 = .ok (.getfield 89, 3) := by decide +kernel
theorem dX3_carryOut_84 : decode cX3_carryOut 84 = .ok (.iload 4, 2) := by decide +kernel
theorem dX3_carryOut_86 : decode cX3_carryOut 86 = .ok (.iaload, 1) := by decide +kernel
theorem dX3_carryOut_87 : decode cX3_carryOut 87 = .ok (.iadd, 1) := by decide +kernel
theorem dX3_carryOut_88 : decode cX3_carryOut 88 = .ok (.iastore, 1) := by decide +kernel
theorem dX3_carryOut_89 : decode cX3_carryOut 89 = .ok (.iinc 4 1, 3) := by decide +kernel
theorem dX3_carryOut_92 : decode cX3_carryOut 92 = .ok (.goto (-27), 3) := by decide +kernel
theorem dX3_carryOut_95 : decode cX3_carryOut 95 = .ok (.iconst 0, 1) := by decide +kernel
theorem dX3_carryOut_96 : decode cX3_carryOut 96 = .ok (.istore 4, 2) := by decide +kernel
theorem dX3_carryOut_98 : decode cX3_carryOut 98 = .ok (.iload 4, 2) := by decide +kernel
theorem dX3_carryOut_100 : decode cX3_carryOut 100 = .ok (.bipush 10, 2) := by decide +kernel
theorem dX3_carryOut_102 : decode cX3_carryOut 102 = .ok (.if_icmp .ge 32, 3) := by decide +kernel
theorem dX3_carryOut_105 : decode cX3_carryOut 105 = .ok (.aload_n 2, 1) := by decide +kernel
theorem dX3_carryOut_106 : decode cX3_carryOut 106 = .ok (.getfield 92, 3) := by decide +kernel
theorem dX3_carryOut_109 : decode cX3_carryOut 109 = .ok (.iload 4, 2) := by decide +kernel
theorem dX3_carryOut_111 : decode cX3_carryOut 111 = .ok (.invokestatic 95, 3) := by decide +kernel
theorem dX3_carryOut_114 : decode cX3_carryOut 114 = .ok (.ifCond .eq 14, 3) := by decide +kernel
theorem dX3_carryOut_117 : decode cX3_carryOut 117 = .ok (.aload_n 0, 1) := by decide +kernel
theorem dX3_carryOut_118 : decode cX3_carryOut 118 = .ok (.getfield 27, 3) := by decide +kernel
theorem dX3_carryOut_121 : decode cX3_carryOut 121 = .ok (.iload 4, 2) := by decide +kernel
theorem dX3_carryOut_123 : decode cX3_carryOut 123 = .ok (.dup2, 1) := by decide +kernel
theorem dX3_carryOut_124 : decode cX3_carryOut 124 = .ok (.iaload, 1) := by decide +kernel
theorem dX3_carryOut_125 : decode cX3_carryOut 125 = .ok (.iconst 1, 1) := by decide +kernel
theorem dX3_carryOut_126 : decode cX3_carryOut 126 = .ok (.iadd, 1) := by decide +kernel
theorem dX3_carryOut_127 : decode cX3_carryOut 127 = .ok (.iastore, 1) := by decide +kernel
theorem dX3_carryOut_128 : decode cX3_carryOut 128 = .ok (.iinc 4 1, 3) := by decide +kernel
theorem dX3_carryOut_131 : decode cX3_carryOut 131 = .ok (.goto (-33), 3) := by decide +kernel
theorem dX3_carryOut_134 : decode cX3_carryOut 134 = .ok (.aload_n 2, 1) := by decide +kernel
theorem dX3_carryOut_135 : decode cX3_carryOut 135 = .ok (.getfield 99, 3) := by decide +kernel
theorem dX3_carryOut_138 : decode cX3_carryOut 138 = .ok (.ifCond .eq 29, 3) := by decide +kernel
theorem dX3_carryOut_141 : decode cX3_carryOut 141 = .ok (.aload_n 0, 1) := by decide +kernel
theorem dX3_carryOut_142 : decode cX3_carryOut 142 = .ok (.getfield 24, 3) := by decide +kernel
theorem dX3_carryOut_145 : decode cX3_carryOut 145 = .ok (.aload_n 3, 1) := by decide +kernel
theorem dX3_carryOut_146 : decode cX3_carryOut 146 = .ok (.getfield 38, 3) := by decide +kernel
theorem dX3_carryOut_149 : decode cX3_carryOut 149 = .ok (.dup2, 1) := by decide +kernel
theorem dX3_carryOut_150 : decode cX3_carryOut 150 = .ok (.iaload, 1) := by decide +kernel
theorem dX3_carryOut_151 : decode cX3_carryOut 151 = .ok (.iconst 1, 1) := by decide +kernel
theorem dX3_carryOut_152 : decode cX3_carryOut 152 = .ok (.iadd, 1) := by decide +kernel
theorem dX3_carryOut_153 : decode cX3_carryOut 153 = .ok (.iastore, 1) := by decide +kernel
theorem dX3_carryOut_154 : decode cX3_carryOut 154 = .ok (.aload_n 0, 1) := by decide +kernel
theorem dX3_carryOut_155 : decode cX3_carryOut 155 = .ok (.getfield 30, 3) := by decide +kernel
theorem dX3_carryOut_158 : decode cX3_carryOut 158 = .ok (.aload_n 3, 1) := by decide +kernel
theorem dX3_carryOut_159 : decode cX3_carryOut 159 = .ok (.getfield 38, 3) := by decide +kernel
theorem dX3_carryOut_162 : decode cX3_carryOut 162 = .ok (.aload_n 0, 1) := by decide +kernel
theorem dX3_carryOut_163 : decode cX3_carryOut 163 = .ok (.getfield 53, 3) := by decide +kernel
theorem dX3_carryOut_166 : decode cX3_carryOut 166 = .ok (.iastore, 1) := by decide +kernel
theorem dX3_carryOut_167 : decode cX3_carryOut 167 = .ok (.return_, 1) := by decide +kernel
theorem dX4_init_0 : decode cX4_init 0 = .ok (.aload_n 0, 1) := by decide +kernel
theorem dX4_init_1 : decode cX4_init 1 = .ok (.invokespecial 1, 3) := by decide +kernel
theorem dX4_init_4 : decode cX4_init 4 = .ok (.aload_n 0, 1) := by decide +kernel
theorem dX4_init_5 : decode cX4_init 5 = .ok (.new 7, 3) := by decide +kernel
theorem dX4_init_8 : decode cX4_init 8 = .ok (.dup, 1) := by decide +kernel
theorem dX4_init_9 : decode cX4_init 9 = .ok (.invokespecial 9, 3) := by decide +kernel
theorem dX4_init_12 : decode cX4_init 12 = .ok (.putfield 10, 3) := by decide +kernel
theorem dX4_init_15 : decode cX4_init 15 = .ok (.aload_n 0, 1) := by decide +kernel
theorem dX4_init_16 : decode cX4_init 16 = .ok (.bipush 60, 2) := by decide +kernel
theorem dX4_init_18 : decode cX4_init 18 = .ok (.newarray .int, 2) := by decide +kernel
theorem dX4_init_20 : decode cX4_init 20 = .ok (.putfield 18, 3) := by decide +kernel
theorem dX4_init_23 : decode cX4_init 23 = .ok (.aload_n 0, 1) := by decide +kernel
theorem dX4_init_24 : decode cX4_init 24 = .ok (.aload_n 1, 1) := by decide +kernel
theorem dX4_init_25 : decode cX4_init 25 = .ok (.putfield 22, 3) := by decide +kernel
theorem dX4_init_28 : decode cX4_init 28 = .ok (.return_, 1) := by decide +kernel
theorem dX4_isPossible_0 : decode cX4_isPossible 0 = .ok (.aload_n 0, 1) := by decide +kernel
theorem dX4_isPossible_1 : decode cX4_isPossible 1 = .ok (.lload_n 1, 1) := by decide +kernel
theorem dX4_isPossible_2 : decode cX4_isPossible 2 = .ok (.lload_n 3, 1) := by decide +kernel
theorem dX4_isPossible_3 : decode cX4_isPossible 3 = .ok (.lor, 1) := by decide +kernel
theorem dX4_isPossible_4 : decode cX4_isPossible 4 = .ok (.invokevirtual 26, 3) := by decide +kernel
theorem dX4_isPossible_7 : decode cX4_isPossible 7 = .ok (.aload_n 0, 1) := by decide +kernel
theorem dX4_isPossible_8 : decode cX4_isPossible 8 = .ok (.lload_n 1, 1) := by decide +kernel
theorem dX4_isPossible_9 : decode cX4_isPossible 9 = .ok (.lload_n 3, 1) := by decide +kernel
theorem dX4_isPossible_10 : decode cX4_isPossible 10 = .ok (.iconst 0, 1) := by decide +kernel
theorem dX4_isPossible_11 : decode cX4_isPossible 11 = .ok (.invokevirtual 30, 3) := by decide +kernel
theorem dX4_isPossible_14 : decode cX4_isPossible 14 = .ok (.ireturn, 1) := by decide +kernel
theorem dX4_gather_0 : decode cX4_gather 0 = .ok (.lload_n 1, 1) := by decide +kernel
theorem dX4_gather_1 : decode cX4_gather 1 = .ok (.lstore_n 3, 1) := by decide +kernel
theorem dX4_gather_2 : decode cX4_gather 2 = .ok (.aload_n 0, 1) := by decide +kernel
theorem dX4_gather_3 : decode cX4_gather 3 = .ok (.getfield 22, 3) := by decide +kernel
theorem dX4_gather_6 : decode cX4_gather 6 = .ok (.getfield 34, 3) := by decide +kernel
theorem dX4_gather_9 : decode cX4_gather 9 = .ok (.iconst 1, 1) := by decide +kernel
theorem dX4_gather_10 : decode cX4_gather 10 = .ok (.isub, 1) := by decide +kernel
theorem dX4_gather_11 : decode cX4_gather 11 = .ok (.istore 5, 2) := by decide +kernel
theorem dX4_gather_13 : decode cX4_gather 13 = .ok (.iload 5, 2) := by decide +kernel
theorem dX4_gather_15 : decode cX4_gather 15 = .ok (.ifCond .lt 82, 3) := by decide +kernel
theorem dX4_gather_18 : decode cX4_gather 18 = .ok (.lload_n 3, 1) := by decide +kernel
theorem dX4_gather_19 : decode cX4_gather 19 = .ok (.iload 5, 2) := by decide +kernel
theorem dX4_gather_21 : decode cX4_gather 21 = .ok (.invokestatic 38, 3) := by decide +kernel
theorem dX4_gather_24 : decode cX4_gather 24 = .ok (.ifCond .eq 67, 3) := by decide +kernel
theorem dX4_gather_27 : decode cX4_gather 27 = .ok (.aload_n 0, 1) := by decide +kernel
theorem dX4_gather_28 : decode cX4_gather 28 = .ok (.getfield 22, 3) := by decide +kernel
theorem dX4_gather_31 : decode cX4_gather 31 = .ok (.getfield 44, 3) := by decide +kernel
theorem dX4_gather_34 : decode cX4_gather 34 = .ok (.iload 5, 2) := by decide +kernel
theorem dX4_gather_36 : decode cX4_gather 36 = .ok (.caload, 1) := by decide +kernel
theorem dX4_gather_37 : decode cX4_gather 37 = .ok (.invokestatic 48, 3) := by decide +kernel
theorem dX4_gather_40 : decode cX4_gather 40 = .ok (.istore 6, 2) := by decide +kernel
theorem dX4_gather_42 : decode cX4_gather 42 = .ok (.lload_n 3, 1) := by decide +kernel
theorem dX4_gather_43 : decode cX4_gather 43 = .ok (.iload 6, 2) := by decide +kernel
theorem dX4_gather_45 : decode cX4_gather 45 = .ok (.ifCond .le 18, 3) := by decide +kernel
theorem dX4_gather_48 : decode cX4_gather 48 = .ok (.lconst 1, 1) := by decide +kernel
theorem dX4_gather_49 : decode cX4_gather 49 = .ok (.aload_n 0, 1) := by decide +kernel
theorem dX4_gather_50 : decode cX4_gather 50 = .ok (.getfield 22, 3) := by decide +kernel
theorem dX4_gather_53 : decode cX4_gather 53 = .ok (.getfield 52, 3) := by decide +kernel
theorem dX4_gather_56 : decode cX4_gather 56 = .ok (.iload 5, 2) := by decide +kernel
theorem dX4_gather_58 : decode cX4_gather 58 = .ok (.iaload, 1) := by decide +kernel
theorem dX4_gather_59 : decode cX4_gather 59 = .ok (.lshl, 1) := by decide +kernel
theorem dX4_gather_60 : decode cX4_gather 60 = .ok (.goto 4, 3) := by decide +kernel
theorem dX4_gather_63 : decode cX4_gather 63 = .ok (.lconst 0, 1) := by decide +kernel
theorem dX4_gather_64 : decode cX4_gather 64 = .ok (.lor, 1) := by decide +kernel
theorem dX4_gather_65 : decode cX4_gather 65 = .ok (.lstore_n 3, 1) := by decide +kernel
theorem dX4_gather_66 : decode cX4_gather 66 = .ok (.lload_n 3, 1) := by decide +kernel
theorem dX4_gather_67 : decode cX4_gather 67 = .ok (.iload 6, 2) := by decide +kernel
theorem dX4_gather_69 : decode cX4_gather 69 = .ok (.iconst 1, 1) := by decide +kernel
theorem dX4_gather_70 : decode cX4_gather 70 = .ok (.if_icmp .le 18, 3) := by decide +kernel
theorem dX4_gather_73 : decode cX4_gather 73 = .ok (.lconst 1, 1) := by decide +kernel
theorem dX4_gather_74 : decode cX4_gather 74 = .ok (.aload_n 0, 1) := by decide +kernel
theorem dX4_gather_75 : decode cX4_gather 75 = .ok (.getfield 22, 3) := by decide +kernel
theorem dX4_gather_78 : decode cX4_gather 78 = .ok (.getfield 55, 3) := by decide +kernel
theorem dX4_gather_81 : decode cX4_gather 81 = .ok (.iload 5, 2) := by decide +kernel
theorem dX4_gather_83 : decode cX4_gather 83 = .ok (.iaload, 1) := by decide +kernel
theorem dX4_gather_84 : decode cX4_gather 84 = .ok (.lshl, 1) := by decide +kernel
theorem dX4_gather_85 : decode cX4_gather 85 = .ok (.goto 4, 3) := by decide +kernel
theorem dX4_gather_88 : decode cX4_gather 88 = .ok (.lconst 0, 1) := by decide +kernel
theorem dX4_gather_89 : decode cX4_gather 89 = .ok (.lor, 1) := by decide +kernel
theorem dX4_gather_90 : decode cX4_gather 90 = .ok (.lstore_n 3, 1) := by decide +kernel
theorem dX4_gather_91 : decode cX4_gather 91 = .ok (.iinc 5 (-1), 3) := by decide +kernel
theorem dX4_gather_94 : decode cX4_gather 94 = .ok (.goto (-81), 3) := by decide +kernel
theorem dX4_gather_97 : decode cX4_gather 97 = .ok (.aload_n 0, 1) := by decide +kernel
theorem dX4_gather_98 : decode cX4_gather 98 = .ok (.iconst 0, 1) := by decide +kernel
theorem dX4_gather_99 : decode cX4_gather 99 = .ok (.putfield 58, 3) := by decide +kernel
theorem dX4_gather_102 : decode cX4_gather 102 = .ok (.iconst 0, 1) := by decide +kernel
theorem dX4_gather_103 : decode cX4_gather 103 = .ok (.istore 5, 2) := by decide +kernel
theorem dX4_gather_105 : decode cX4_gather 105 = .ok (.iload 5, 2) := by decide +kernel
theorem dX4_gather_107 : decode cX4_gather 107 = .ok (.aload_n 0, 1) := by decide +kernel
theorem dX4_gather_108 : decode cX4_gather 108 = .ok (.getfield 22, 3) := by decide +kernel
theorem dX4_gather_111 : decode cX4_gather 111 = .ok (.getfield 34, 3) := by decide +kernel
theorem dX4_gather_114 : decode cX4_gather 114 = .ok (.if_icmp .ge 39, 3) := by decide +kernel
theorem dX4_gather_117 : decode cX4_gather 117 = .ok (.lload_n 3, 1) := by decide +kernel
theorem dX4_gather_118 : decode cX4_gather 118 = .ok (.iload 5, 2) := by decide +kernel
theorem dX4_gather_120 : decode cX4_gather 120 = .ok (.invokestatic 38, 3) := by decide +kernel
theorem dX4_gather_123 : decode cX4_gather 123 = .ok (.ifCond .eq 24, 3) := by decide +kernel
theorem dX4_gather_126 : decode cX4_gather 126 = .ok (.aload_n 0, 1) := by decide +kernel
theorem dX4_gather_127 : decode cX4_gather 127 = .ok (.getfield 18, 3) := by decide +kernel
theorem dX4_gather_130 : decode cX4_gather 130 = .ok (.aload_n 0, 1) := by decide +kernel
theorem dX4_gather_131 : decode cX4_gather 131 = .ok (.getfield 58, 3) := by decide +kernel
theorem dX4_gather_134 : decode cX4_gather 134 = .ok (.iload 5, 2) := by decide +kernel
theorem dX4_gather_136 : decode cX4_gather 136 = .ok (.iastore, 1) := by decide +kernel
theorem dX4_gather_137 : decode cX4_gather 137 = .ok (.aload_n 0, 1) := by decide +kernel
theorem dX4_gather_138 : decode cX4_gather 138 = .ok (.dup, 1) := by decide +kernel
theorem dX4_gather_139 : decode cX4_gather 139 = .ok (.getfield 58, 3) := by decide +kernel
theorem dX4_gather_142 : decode cX4_gather 142 = .ok (.iconst 1, 1) := by decide +kernel
theorem dX4_gather_143 : decode cX4_gather 143 = .ok (.iadd, 1) := by decide +kernel
theorem dX4_gather_144 : decode cX4_gather 144 = .ok (.putfield 58, 3) := by decide +kernel
theorem dX4_gather_147 : decode cX4_gather 147 = .ok (.iinc 5 1, 3) := by decide +kernel
theorem dX4_gather_150 : decode cX4_gather 150 = .ok (.goto (-45), 3) := by decide +kernel
theorem dX4_gather_153 : decode cX4_gather 153 = .ok (.return_, 1) := by decide +kernel
theorem dX4_hasMail_0 : decode cX4_hasMail 0 = .ok (.iload 5, 2) := by decide +kernel
theorem dX4_hasMail_2 : decode cX4_hasMail 2 = .ok (.bipush 36, 2) := by decide +kernel
theorem dX4_hasMail_4 : decode cX4_hasMail 4 = .ok (.if_icmp .gt 12, 3) := by decide +kernel
theorem dX4_hasMail_7 : decode cX4_hasMail 7 = .ok (.aload_n 0, 1) := by decide +kernel
theorem dX4_hasMail_8 : decode cX4_hasMail 8 = .ok (.lload_n 1, 1) := by decide +kernel
theorem dX4_hasMail_9 : decode cX4_hasMail 9 = .ok (.lload_n 3, 1) := by decide +kernel
theorem dX4_hasMail_10 : decode cX4_hasMail 10 = .ok (.invokevirtual 61, 3) := by decide +kernel
theorem dX4_hasMail_13 : decode cX4_hasMail 13 = .ok (.ifCond .ne 5, 3) := by decide +kernel
theorem dX4_hasMail_16 : decode cX4_hasMail 16 = .ok (.iconst 0, 1) := by decide +kernel
theorem dX4_hasMail_17 : decode cX4_hasMail 17 = .ok (.ireturn, 1) := by decide +kernel
theorem dX4_hasMail_18 : decode cX4_hasMail 18 = .ok (.aload_n 0, 1) := by decide +kernel
theorem dX4_hasMail_19 : decode cX4_hasMail 19 = .ok (.invokevirtual 65, 3) := by decide +kernel
theorem dX4_hasMail_22 : decode cX4_hasMail 22 = .ok (.istore 6, 2) := by decide +kernel
theorem dX4_hasMail_24 : decode cX4_hasMail 24 = .ok (.iload 6, 2) := by decide +kernel
theorem dX4_hasMail_26 : decode cX4_hasMail 26 = .ok (.ifCond .ge 5, 3) := by decide +kernel
theorem dX4_hasMail_29 : decode cX4_hasMail 29 = .ok (.iconst 1, 1) := by decide +kernel
theorem dX4_hasMail_30 : decode cX4_hasMail 30 = .ok (.ireturn, 1) := by decide +kernel
theorem dX4_hasMail_31 : decode cX4_hasMail 31 = .ok (.aload_n 0, 1) := by decide +kernel
theorem dX4_hasMail_32 : decode cX4_hasMail 32 = .ok (.getfield 69, 3) := by decide +kernel
theorem dX4_hasMail_35 : decode cX4_hasMail 35 = .ok (.lstore 7, 2) := by decide +kernel
theorem dX4_hasMail_37 : decode cX4_hasMail 37 = .ok (.aload_n 0, 1) := by decide +kernel
theorem dX4_hasMail_38 : decode cX4_hasMail 38 = .ok (.getfield 73, 3) := by decide +kernel
theorem dX4_hasMail_41 : decode cX4_hasMail 41 = .ok (.lstore 9, 2) := by decide +kernel
theorem dX4_hasMail_43 : decode cX4_hasMail 43 = .ok (.lconst 1, 1) := by decide +kernel
theorem dX4_hasMail_44 : decode cX4_hasMail 44 = .ok (.aload_n 0, 1) := by decide +kernel
theorem dX4_hasMail_45 : decode cX4_hasMail 45 = .ok (.iload 6, 2) := by decide +kernel
theorem dX4_hasMail_47 : decode cX4_hasMail 47 = .ok (.invokevirtual 76, 3) := by decide +kernel
theorem dX4_hasMail_50 : decode cX4_hasMail 50 = .ok (.lshl, 1) := by decide +kernel
theorem dX4_hasMail_51 : decode cX4_hasMail 51 = .ok (.lstore 11, 2) := by decide +kernel
theorem dX4_hasMail_53 : decode cX4_hasMail 53 = .ok (.aload_n 0, 1) := by decide +kernel
theorem dX4_hasMail_54 : decode cX4_hasMail 54 = .ok (.getfield 80, 3) := by decide +kernel
theorem dX4_hasMail_57 : decode cX4_hasMail 57 = .ok (.ifCond .eq 45, 3) := by decide +kernel
theorem dX4_hasMail_60 : decode cX4_hasMail 60 = .ok (.aload_n 0, 1) := by decide +kernel
theorem dX4_hasMail_61 : decode cX4_hasMail 61 = .ok (.lload 7, 2) := by decide +kernel
theorem dX4_hasMail_63 : decode cX4_hasMail 63 = .ok (.lload 11, 2) := by decide +kernel
theorem dX4_hasMail_65 : decode cX4_hasMail 65 = .ok (.lor, 1) := by decide +kernel
theorem dX4_hasMail_66 : decode cX4_hasMail 66 = .ok (.lload 9, 2) := by decide +kernel
theorem dX4_hasMail_68 : decode cX4_hasMail 68 = .ok (.iload 5, 2) := by decide +kernel
theorem dX4_hasMail_70 : decode cX4_hasMail 70 = .ok (.iconst 1, 1) := by decide +kernel
theorem dX4_hasMail_71 : decode cX4_hasMail 71 = .ok (.iadd, 1) := by decide +kernel
theorem dX4_hasMail_72 : decode cX4_hasMail 72 = .ok (.invokevirtual 30, 3) := by decide +kernel
theorem dX4_hasMail_75 : decode cX4_hasMail 75 = .ok (.ifCond .ne 21, 3) := by decide +kernel
theorem dX4_hasMail_78 : decode cX4_hasMail 78 = .ok (.aload_n 0, 1) := by decide +kernel
theorem dX4_hasMail_79 : decode cX4_hasMail 79 = .ok (.lload 7, 2) := by decide +kernel
theorem dX4_hasMail_81 : decode cX4_hasMail 81 = .ok (.lload 9, 2) := by decide +kernel
theorem dX4_hasMail_83 : decode cX4_hasMail 83 = .ok (.lload 11, 2) := by decide +kernel
theorem dX4_hasMail_85 : decode cX4_hasMail 85 = .ok (.lor, 1) := by decide +kernel
theorem dX4_hasMail_86 : decode cX4_hasMail 86 = .ok (.iload 5, 2) := by decide +kernel
theorem dX4_hasMail_88 : decode cX4_hasMail 88 = .ok (.iconst 1, 1) := by decide +kernel
theorem dX4_hasMail_89 : decode cX4_hasMail 89 = .ok (.iadd, 1) := by decide +kernel
theorem dX4_hasMail_90 : decode cX4_hasMail 90 = .ok (.invokevirtual 30, 3) := by decide +kernel
theorem dX4_hasMail_93 : decode cX4_hasMail 93 = .ok (.ifCond .eq 7, 3) := by decide +kernel
theorem dX4_hasMail_96 : decode cX4_hasMail 96 = .ok (.iconst 1, 1) := by decide +kernel
theorem dX4_hasMail_97 : decode cX4_hasMail 97 = .ok (.goto 4, 3) := by decide +kernel
theorem dX4_hasMail_100 : decode cX4_hasMail 100 = .ok (.iconst 0, 1) := by decide +kernel
theorem dX4_hasMail_101 : decode cX4_hasMail 101 = .ok (.ireturn, 1) := by decide +kernel
theorem dX4_hasMail_102 : decode cX4_hasMail 102 = .ok (.aload_n 0, 1) := by decide +kernel
theorem dX4_hasMail_103 : decode cX4_hasMail 103 = .ok (.lload 7, 2) := by decide +kernel
theorem dX4_hasMail_105 : decode cX4_hasMail 105 = .ok (.lload 9, 2) := by decide +kernel
theorem dX4_hasMail_107 : decode cX4_hasMail 107 = .ok (.lload 11, 2) := by decide +kernel
theorem dX4_hasMail_109 : decode cX4_hasMail 109 = .ok (.lor, 1) := by decide +kernel
theorem dX4_hasMail_110 : decode cX4_hasMail 110 = .ok (.iload 5, 2) := by decide +kernel
theorem dX4_hasMail_112 : decode cX4_hasMail 112 = .ok (.iconst 1, 1) := by decide +kernel
theorem dX4_hasMail_113 : decode cX4_hasMail 113 = .ok (.iadd, 1) := by decide +kernel
theorem dX4_hasMail_114 : decode cX4_hasMail 114 = .ok (.invokevirtual 30, 3) := by decide +kernel
theorem dX4_hasMail_117 : decode cX4_hasMail 117 = .ok (.ifCond .ne 21, 3) := by decide +kernel
theorem dX4_hasMail_120 : decode cX4_hasMail 120 = .ok (.aload_n 0, 1) := by decide +kernel
theorem dX4_hasMail_121 : decode cX4_hasMail 121 = .ok (.lload 7, 2) := by decide +kernel
theorem dX4_hasMail_123 : decode cX4_hasMail 123 = .ok (.lload 11, 2) := by decide +kernel
theorem dX4_hasMail_125 : decode cX4_hasMail 125 = .ok (.lor, 1) := by decide +kernel
theorem dX4_hasMail_126 : decode cX4_hasMail 126 = .ok (.lload 9, 2) := by decide +kernel
theorem dX4_hasMail_128 : decode cX4_hasMail 128 = .ok (.iload 5, 2) := by decide +kernel
theorem dX4_hasMail_130 : decode cX4_hasMail 130 = .ok (.iconst 1, 1) := by decide +kernel
theorem dX4_hasMail_131 : decode cX4_hasMail 131 = .ok (.iadd, 1) := by decide +kernel
theorem dX4_hasMail_132 : decode cX4_hasMail 132 = .ok (.invokevirtual 30, 3) := by decide +kernel
theorem dX4_hasMail_135 : decode cX4_hasMail 135 = .ok (.ifCond .eq 7, 3) := by decide +kernel
theorem dX4_hasMail_138 : decode cX4_hasMail 138 = .ok (.iconst 1, 1) := by decide +kernel
theorem dX4_hasMail_139 : decode cX4_hasMail 139 = .ok (.goto 4, 3) := by decide +kernel
theorem dX4_hasMail_142 : decode cX4_hasMail 142 = .ok (.iconst 0, 1) := by decide +kernel
theorem dX4_hasMail_143 : decode cX4_hasMail 143 = .ok (.ireturn, 1) := by decide +kernel
theorem dX4_unsettledUnder_0 : decode cX4_unsettledUnder 0 = .ok (.iload_n 1, 1) := by decide +kernel
theorem dX4_unsettledUnder_1 : decode cX4_unsettledUnder 1 = .ok (.istore_n 2, 1) := by decide +kernel
theorem dX4_unsettledUnder_2 : decode cX4_unsettledUnder 2 = .ok (.aload_n 0, 1) := by decide +kernel
theorem dX4_unsettledUnder_3 : decode cX4_unsettledUnder 3 = .ok (.getfield 22, 3) := by decide +kernel
theorem dX4_unsettledUnder_6 : decode cX4_unsettledUnder 6 = .ok (.getfield 44, 3) := by decide +kernel
theorem dX4_unsettledUnder_9 : decode cX4_unsettledUnder 9 = .ok (.iload_n 1, 1) := by decide +kernel
theorem dX4_unsettledUnder_10 : decode cX4_unsettledUnder 10 = .ok (.caload, 1) := by decide +kernel
theorem dX4_unsettledUnder_11 : decode cX4_unsettledUnder 11 = .ok (.bipush 124, 2) := by decide +kernel
theorem dX4_unsettledUnder_13 : decode cX4_unsettledUnder 13 = .ok (.if_icmp .ne 7, 3) := by decide +kernel
theorem dX4_unsettledUnder_16 : decode cX4_unsettledUnder 16 = .ok (.iconst 1, 1) := by decide +kernel
theorem dX4_unsettledUnder_17 : decode cX4_unsettledUnder 17 = .ok (.goto 4, 3) := by decide +kernel
theorem dX4_unsettledUnder_20 : decode cX4_unsettledUnder 20 = .ok (.iconst 0, 1) := by decide +kernel
theorem dX4_unsettledUnder_21 : decode cX4_unsettledUnder 21 = .ok (.istore_n 3, 1) := by decide +kernel
theorem dX4_unsettledUnder_22 : decode cX4_unsettledUnder 22 = .ok (.iconst 0, 1) := by decide +kernel
theorem dX4_unsettledUnder_23 : decode cX4_unsettledUnder 23 = .ok (.istore 4, 2) := by decide +kernel
theorem dX4_unsettledUnder_25 : decode cX4_unsettledUnder 25 = .ok (.iload 4, 2) := by decide +kernel
theorem dX4_unsettledUnder_27 : decode cX4_unsettledUnder 27 = .ok (.bipush 60, 2) := by decide +kernel
theorem dX4_unsettledUnder_29 : decode cX4_unsettledUnder 29 = .ok (.if_icmp .ge 125, 3) := by decide +kernel
theorem dX4_unsettledUnder_32 : decode cX4_unsettledUnder 32 = .ok (.aload_n 0, 1) := by decide +kernel
theorem dX4_unsettledUnder_33 : decode cX4_unsettledUnder 33 = .ok (.getfield 22, 3) := by decide +kernel
theorem dX4_unsettledUnder_36 : decode cX4_unsettledUnder 36 = .ok (.getfield 44, 3) := by decide +kernel
theorem dX4_unsettledUnder_39 : decode cX4_unsettledUnder 39 = .ok (.iload_n 2, 1) := by decide +kernel
theorem dX4_unsettledUnder_40 : decode cX4_unsettledUnder 40 = .ok (.caload, 1) := by decide +kernel
theorem dX4_unsettledUnder_41 : decode cX4_unsettledUnder 41 = .ok (.invokestatic 48, 3) := by decide +kernel
theorem dX4_unsettledUnder_44 : decode cX4_unsettledUnder 44 = .ok (.ifCond .le 110, 3) := by decide +kernel
theorem dX4_unsettledUnder_47 : decode cX4_unsettledUnder 47 = .ok (.aload_n 0, 1) := by decide +kernel
theorem dX4_unsettledUnder_48 : decode cX4_unsettledUnder 48 = .ok (.getfield 22, 3) := by decide +kernel
theorem dX4_unsettledUnder_51 : decode cX4_unsettledUnder 51 = .ok (.getfield 52, 3) := by decide +kernel
theorem dX4_unsettledUnder_54 : decode cX4_unsettledUnder 54 = .ok (.iload_n 2, 1) := by decide +kernel
theorem dX4_unsettledUnder_55 : decode cX4_unsettledUnder 55 = .ok (.iaload, 1) := by decide +kernel
theorem dX4_unsettledUnder_56 : decode cX4_unsettledUnder 56 = .ok (.istore 5, 2) := by decide +kernel
theorem dX4_unsettledUnder_58 : decode cX4_unsettledUnder 58 = .ok (.iload_n 3, 1) := by decide +kernel
theorem dX4_unsettledUnder_59 : decode cX4_unsettledUnder 59 = .ok (.ifCond .eq 19, 3) := by decide +kernel
theorem dX4_unsettledUnder_62 : decode cX4_unsettledUnder 62 = .ok (.aload_n 0, 1) := by decide +kernel
theorem dX4_unsettledUnder_63 : decode cX4_unsettledUnder 63 = .ok (.getfield 84, 3) := by decide +kernel
theorem dX4_unsettledUnder_66 : decode cX4_unsettledUnder 66 = .ok (.aload_n 0, 1) := by decide +kernel
theorem dX4_unsettledUnder_67 : decode cX4_unsettledUnder 67 = .ok (.getfield 87, 3) := by decide +kernel
theorem dX4_unsettledUnder_70 : decode cX4_unsettledUnder 70 = .ok (.ldc2_w 90, 3) := by decide +kernel
theorem dX4_unsettledUnder_73 : decode cX4_unsettledUnder 73 = .ok (.lxor, 1) := by decide +kernel
theorem dX4_unsettledUnder_74 : decode cX4_unsettledUnder 74 = .ok (.land, 1) := by decide +kernel
theorem dX4_unsettledUnder_75 : decode cX4_unsettledUnder 75 = .ok (.goto 16, 3) := by decide +kernel
theorem dX4_unsettledUnder_78 : decode cX4_unsettledUnder 78 = .ok (.aload_n 0, 1) := by decide +kernel
theorem dX4_unsettledUnder_79 : decode cX4_unsettledUnder 79 = .ok (.getfield 92, 3) := by decide +kernel
theorem dX4_unsettledUnder_82 : decode cX4_unsettledUnder 82 = .ok (.aload_n 0, 1) := by decide +kernel
theorem dX4_unsettledUnder_83 : decode cX4_unsettledUnder 83 = .ok (.getfield 95, 3) := by decide +kernel
theorem dX4_unsettledUnder_86 : decode cX4_unsettledUnder 86 = .ok (.ldc2_w 90, 3) := by decide +kernel
theorem dX4_unsettledUnder_89 : decode cX4_unsettledUnder 89 = .ok (.lxor, 1) := by decide +kernel
theorem dX4_unsettledUnder_90 : decode cX4_unsettledUnder 90 = .ok (.land, 1) := by decide +kernel
theorem dX4_unsettledUnder_91 : decode cX4_unsettledUnder 91 = .ok (.lstore 6, 2) := by decide +kernel
theorem dX4_unsettledUnder_93 : decode cX4_unsettledUnder 93 = .ok (.aload_n 0, 1) := by decide +kernel
theorem dX4_unsettledUnder_94 : decode cX4_unsettledUnder 94 = .ok (.getfield 22, 3) := by decide +kernel
theorem dX4_unsettledUnder_97 : decode cX4_unsettledUnder 97 = .ok (.getfield 44, 3) := by decide +kernel
theorem dX4_unsettledUnder_100 : decode cX4_unsettledUnder 100 = .ok (.iload_n 2, 1) := by decide +kernel
theorem dX4_unsettledUnder_101 : decode cX4_unsettledUnder 101 = .ok (.caload, 1) := by decide +kernel
theorem dX4_unsettledUnder_102 : decode cX4_unsettledUnder 102 = .ok (.bipush 33, 2) := by decide +kernel
theorem dX4_unsettledUnder_104 : decode cX4_unsettledUnder 104 = .ok (.if_icmp .ne 19, 3) := by decide +kernel
theorem dX4_unsettledUnder_107 : decode cX4_unsettledUnder 107 = .ok (.iload_n 3, 1) := by decide +kernel
theorem dX4_unsettledUnder_108 : decode cX4_unsettledUnder 108 = .ok (.ifCond .ne 7, 3) := by decide +kernel
theorem dX4_unsettledUnder_111 : decode cX4_unsettledUnder 111 = .ok (.iconst 1, 1) := by decide +kernel
theorem dX4_unsettledUnder_112 : decode cX4_unsettledUnder 112 = .ok (.goto 4, 3) := by decide +kernel
theorem dX4_unsettledUnder_115 : decode cX4_unsettledUnder 115 = .ok (.iconst 0, 1) := by decide +kernel
theorem dX4_unsettledUnder_116 : decode cX4_unsettledUnder 116 = .ok (.istore_n 3, 1) := by decide +kernel
theorem dX4_unsettledUnder_117 : decode cX4_unsettledUnder 117 = .ok (.iload 5, 2) := by decide +kernel
theorem dX4_unsettledUnder_119 : decode cX4_unsettledUnder 119 = .ok (.istore_n 2, 1) := by decide +kernel
theorem dX4_unsettledUnder_120 : decode cX4_unsettledUnder 120 = .ok (.goto 28, 3) := by decide +kernel
theorem dX4_unsettledUnder_123 : decode cX4_unsettledUnder 123 = .ok (.lload 6, 2) := by decide +kernel
theorem dX4_unsettledUnder_125 : decode cX4_unsettledUnder 125 = .ok (.iload 5, 2) := by decide +kernel
theorem dX4_unsettledUnder_127 : decode cX4_unsettledUnder 127 = .ok (.invokestatic 38, 3) := by decide +kernel
theorem dX4_unsettledUnder_130 : decode cX4_unsettledUnder 130 = .ok (.ifCond .eq 8, 3) := by decide +kernel
theorem dX4_unsettledUnder_133 : decode cX4_unsettledUnder 133 = .ok (.iload 5, 2) := by decide +kernel
theorem dX4_unsettledUnder_135 : decode cX4_unsettledUnder 135 = .ok (.goto 12, 3) := by decide +kernel
theorem dX4_unsettledUnder_138 : decode cX4_unsettledUnder 138 = .ok (.aload_n 0, 1) := by decide +kernel
theorem dX4_unsettledUnder_139 : decode cX4_unsettledUnder 139 = .ok (.getfield 22, 3) := by decide +kernel
theorem dX4_unsettledUnder_142 : decode cX4_unsettledUnder 142 = .ok (.getfield 55, 3) := by decide +kernel
theorem dX4_unsettledUnder_145 : decode cX4_unsettledUnder 145 = .ok (.iload_n 2, 1) := by decide +kernel
theorem dX4_unsettledUnder_146 : decode cX4_unsettledUnder 146 = .ok (.iaload, 1) := by decide +kernel
theorem dX4_unsettledUnder_147 : decode cX4_unsettledUnder 147 = .ok (.istore_n 2, 1) := by decide +kernel
theorem dX4_unsettledUnder_148 : decode cX4_unsettledUnder 148 = .ok (.iinc 4 1, 3) := by decide +kernel
theorem dX4_unsettledUnder_151 : decode cX4_unsettledUnder 151 = .ok (.goto (-126), 3) := by decide +kernel
theorem dX4_unsettledUnder_154 : decode cX4_unsettledUnder 154 = .ok (.aload_n 0, 1) := by decide +kernel
theorem dX4_unsettledUnder_155 : decode cX4_unsettledUnder 155 = .ok (.iload_n 3, 1) := by decide +kernel
theorem dX4_unsettledUnder_156 : decode cX4_unsettledUnder 156 = .ok (.putfield 80, 3) := by decide +kernel
theorem dX4_unsettledUnder_159 : decode cX4_unsettledUnder 159 = .ok (.iload_n 2, 1) := by decide +kernel
theorem dX4_unsettledUnder_160 : decode cX4_unsettledUnder 160 = .ok (.ireturn, 1) := by decide +kernel
theorem dX4_follow_0 : decode cX4_follow 0 = .ok (.aload_n 0, 1) := by decide +kernel
theorem dX4_follow_1 : decode cX4_follow 1 = .ok (.lload_n 1, 1) := by decide +kernel
theorem dX4_follow_2 : decode cX4_follow 2 = .ok (.putfield 69, 3) := by decide +kernel
theorem dX4_follow_5 : decode cX4_follow 5 = .ok (.aload_n 0, 1) := by decide +kernel
theorem dX4_follow_6 : decode cX4_follow 6 = .ok (.lload_n 3, 1) := by decide +kernel
theorem dX4_follow_7 : decode cX4_follow 7 = .ok (.putfield 73, 3) := by decide +kernel
theorem dX4_follow_10 : decode cX4_follow 10 = .ok (.iconst 1, 1) := by decide +kernel
theorem dX4_follow_11 : decode cX4_follow 11 = .ok (.istore 5, 2) := by decide +kernel
theorem dX4_follow_13 : decode cX4_follow 13 = .ok (.iconst 0, 1) := by decide +kernel
theorem dX4_follow_14 : decode cX4_follow 14 = .ok (.istore 6, 2) := by decide +kernel
theorem dX4_follow_16 : decode cX4_follow 16 = .ok (.iload 5, 2) := by decide +kernel
theorem dX4_follow_18 : decode cX4_follow 18 = .ok (.ifCond .eq 80, 3) := by decide +kernel
theorem dX4_follow_21 : decode cX4_follow 21 = .ok (.iload 6, 2) := by decide +kernel
theorem dX4_follow_23 : decode cX4_follow 23 = .ok (.bipush 120, 2) := by decide +kernel
theorem dX4_follow_25 : decode cX4_follow 25 = .ok (.if_icmp .gt 73, 3) := by decide +kernel
theorem dX4_follow_28 : decode cX4_follow 28 = .ok (.aload_n 0, 1) := by decide +kernel
theorem dX4_follow_29 : decode cX4_follow 29 = .ok (.invokevirtual 98, 3) := by decide +kernel
theorem dX4_follow_32 : decode cX4_follow 32 = .ok (.aload_n 0, 1) := by decide +kernel
theorem dX4_follow_33 : decode cX4_follow 33 = .ok (.getfield 10, 3) := by decide +kernel
theorem dX4_follow_36 : decode cX4_follow 36 = .ok (.invokevirtual 101, 3) := by decide +kernel
theorem dX4_follow_39 : decode cX4_follow 39 = .ok (.ifCond .ne 5, 3) := by decide +kernel
theorem dX4_follow_42 : decode cX4_follow 42 = .ok (.iconst 0, 1) := by decide +kernel
theorem dX4_follow_43 : decode cX4_follow 43 = .ok (.ireturn, 1) := by decide +kernel
theorem dX4_follow_44 : decode cX4_follow 44 = .ok (.aload_n 0, 1) := by decide +kernel
theorem dX4_follow_45 : decode cX4_follow 45 = .ok (.invokevirtual 104, 3) := by decide +kernel
theorem dX4_follow_48 : decode cX4_follow 48 = .ok (.aload_n 0, 1) := by decide +kernel
theorem dX4_follow_49 : decode cX4_follow 49 = .ok (.getfield 69, 3) := by decide +kernel
theorem dX4_follow_52 : decode cX4_follow 52 = .ok (.aload_n 0, 1) := by decide +kernel
theorem dX4_follow_53 : decode cX4_follow 53 = .ok (.getfield 84, 3) := by decide +kernel
theorem dX4_follow_56 : decode cX4_follow 56 = .ok (.ldc2_w 90, 3) := by decide +kernel
theorem dX4_follow_59 : decode cX4_follow 59 = .ok (.lxor, 1) := by decide +kernel
theorem dX4_follow_60 : decode cX4_follow 60 = .ok (.land, 1) := by decide +kernel
theorem dX4_follow_61 : decode cX4_follow 61 = .ok (.lconst 0, 1) := by decide +kernel
theorem dX4_follow_62 : decode cX4_follow 62 = .ok (.lcmp, 1) := by decide +kernel
theorem dX4_follow_63 : decode cX4_follow 63 = .ok (.ifCond .ne 21, 3) := by decide +kernel
theorem dX4_follow_66 : decode cX4_follow 66 = .ok (.aload_n 0, 1) := by decide +kernel
theorem dX4_follow_67 : decode cX4_follow 67 = .ok (.getfield 73, 3) := by decide +kernel
theorem dX4_follow_70 : decode cX4_follow 70 = .ok (.aload_n 0, 1) := by decide +kernel
theorem dX4_follow_71 : decode cX4_follow 71 = .ok (.getfield 92, 3) := by decide +kernel
theorem dX4_follow_74 : decode cX4_follow 74 = .ok (.ldc2_w 90, 3) := by decide +kernel
theorem dX4_follow_77 : decode cX4_follow 77 = .ok (.lxor, 1) := by decide +kernel
theorem dX4_follow_78 : decode cX4_follow 78 = .ok (.land, 1) := by decide +kernel
theorem dX4_follow_79 : decode cX4_follow 79 = .ok (.lconst 0, 1) := by decide +kernel
theorem dX4_follow_80 : decode cX4_follow 80 = .ok (.lcmp, 1) := by decide +kernel
theorem dX4_follow_81 : decode cX4_follow 81 = .ok (.ifCond .eq 5, 3) := by decide +kernel
theorem dX4_follow_84 : decode cX4_follow 84 = .ok (.iconst 0, 1) := by decide +kernel
theorem dX4_follow_85 : decode cX4_follow 85 = .ok (.ireturn, 1) := by decide +kernel
theorem dX4_follow_86 : decode cX4_follow 86 = .ok (.aload_n 0, 1) := by decide +kernel
theorem dX4_follow_87 : decode cX4_follow 87 = .ok (.invokevirtual 107, 3) := by decide +kernel
theorem dX4_follow_90 : decode cX4_follow 90 = .ok (.istore 5, 2) := by decide +kernel
theorem dX4_follow_92 : decode cX4_follow 92 = .ok (.iinc 6 1, 3) := by decide +kernel
theorem dX4_follow_95 : decode cX4_follow 95 = .ok (.goto (-79), 3) := by decide +kernel
theorem dX4_follow_98 : decode cX4_follow 98 = .ok (.iconst 1, 1) := by decide +kernel
theorem dX4_follow_99 : decode cX4_follow 99 = .ok (.ireturn, 1) := by decide +kernel
theorem dX4_draw_0 : decode cX4_draw 0 = .ok (.aload_n 0, 1) := by decide +kernel
theorem dX4_draw_1 : decode cX4_draw 1 = .ok (.getfield 10, 3) := by decide +kernel
theorem dX4_draw_4 : decode cX4_draw 4 = .ok (.invokevirtual 110, 3) := by decide +kernel
theorem dX4_draw_7 : decode cX4_draw 7 = .ok (.iconst 0, 1) := by decide +kernel
theorem dX4_draw_8 : decode cX4_draw 8 = .ok (.istore_n 1, 1) := by decide +kernel
theorem dX4_draw_9 : decode cX4_draw 9 = .ok (.iload_n 1, 1) := by decide +kernel
theorem dX4_draw_10 : decode cX4_draw 10 = .ok (.aload_n 0, 1) := by decide +kernel
theorem dX4_draw_11 : decode cX4_draw 11 = .ok (.getfield 58, 3) := by decide +kernel
theorem dX4_draw_14 : decode cX4_draw 14 = .ok (.if_icmp .ge 88, 3) := by decide +kernel
theorem dX4_draw_17 : decode cX4_draw 17 = .ok (.aload_n 0, 1) := by decide +kernel
theorem dX4_draw_18 : decode cX4_draw 18 = .ok (.getfield 18, 3) := by decide +kernel
theorem dX4_draw_21 : decode cX4_draw 21 = .ok (.iload_n 1, 1) := by decide +kernel
theorem dX4_draw_22 : decode cX4_draw 22 = .ok (.iaload, 1) := by decide +kernel
theorem dX4_draw_23 : decode cX4_draw 23 = .ok (.istore_n 2, 1) := by decide +kernel
theorem dX4_draw_24 : decode cX4_draw 24 = .ok (.aload_n 0, 1) := by decide +kernel
theorem dX4_draw_25 : decode cX4_draw 25 = .ok (.getfield 69, 3) := by decide +kernel
theorem dX4_draw_28 : decode cX4_draw 28 = .ok (.iload_n 2, 1) := by decide +kernel
theorem dX4_draw_29 : decode cX4_draw 29 = .ok (.invokestatic 38, 3) := by decide +kernel
theorem dX4_draw_32 : decode cX4_draw 32 = .ok (.ifCond .eq 28, 3) := by decide +kernel
theorem dX4_draw_35 : decode cX4_draw 35 = .ok (.aload_n 0, 1) := by decide +kernel
theorem dX4_draw_36 : decode cX4_draw 36 = .ok (.getfield 10, 3) := by decide +kernel
theorem dX4_draw_39 : decode cX4_draw 39 = .ok (.aload_n 0, 1) := by decide +kernel
theorem dX4_draw_40 : decode cX4_draw 40 = .ok (.getfield 22, 3) := by decide +kernel
theorem dX4_draw_43 : decode cX4_draw 43 = .ok (.getfield 44, 3) := by decide +kernel
theorem dX4_draw_46 : decode cX4_draw 46 = .ok (.iload_n 2, 1) := by decide +kernel
theorem dX4_draw_47 : decode cX4_draw 47 = .ok (.caload, 1) := by decide +kernel
theorem dX4_draw_48 : decode cX4_draw 48 = .ok (.aload_n 0, 1) := by decide +kernel
theorem dX4_draw_49 : decode cX4_draw 49 = .ok (.getfield 22, 3) := by decide +kernel
theorem dX4_draw_52 : decode cX4_draw 52 = .ok (.getfield 52, 3) := by decide +kernel
theorem dX4_draw_55 : decode cX4_draw 55 = .ok (.iload_n 2, 1) := by decide +kernel
theorem dX4_draw_56 : decode cX4_draw 56 = .ok (.iaload, 1) := by decide +kernel
theorem dX4_draw_57 : decode cX4_draw 57 = .ok (.invokevirtual 113, 3) := by decide +kernel
theorem dX4_draw_60 : decode cX4_draw 60 = .ok (.aload_n 0, 1) := by decide +kernel
theorem dX4_draw_61 : decode cX4_draw 61 = .ok (.getfield 73, 3) := by decide +kernel
theorem dX4_draw_64 : decode cX4_draw 64 = .ok (.iload_n 2, 1) := by decide +kernel
theorem dX4_draw_65 : decode cX4_draw 65 = .ok (.invokestatic 38, 3) := by decide +kernel
theorem dX4_draw_68 : decode cX4_draw 68 = .ok (.ifCond .eq 28, 3) := by decide +kernel
theorem dX4_draw_71 : decode cX4_draw 71 = .ok (.aload_n 0, 1) := by decide +kernel
theorem dX4_draw_72 : decode cX4_draw 72 = .ok (.getfield 10, 3) := by decide +kernel
theorem dX4_draw_75 : decode cX4_draw 75 = .ok (.aload_n 0, 1) := by decide +kernel
theorem dX4_draw_76 : decode cX4_draw 76 = .ok (.getfield 22, 3) := by decide +kernel
theorem dX4_draw_79 : decode cX4_draw 79 = .ok (.getfield 44, 3) := by decide +kernel
theorem dX4_draw_82 : decode cX4_draw 82 = .ok (.iload_n 2, 1) := by decide +kernel
theorem dX4_draw_83 : decode cX4_draw 83 = .ok (.caload, 1) := by decide +kernel
theorem dX4_draw_84 : decode cX4_draw 84 = .ok (.aload_n 0, 1) := by decide +kernel
theorem dX4_draw_85 : decode cX4_draw 85 = .ok (.getfield 22, 3) := by decide +kernel
theorem dX4_draw_88 : decode cX4_draw 88 = .ok (.getfield 52, 3) := by decide +kernel
theorem dX4_draw_91 : decode cX4_draw 91 = .ok (.iload_n 2, 1) := by decide +kernel
theorem dX4_draw_92 : decode cX4_draw 92 = .ok (.iaload, 1) := by decide +kernel
theorem dX4_draw_93 : decode cX4_draw 93 = .ok (.invokevirtual 117, 3) := by decide +kernel
theorem dX4_draw_96 : decode cX4_draw 96 = .ok (.iinc 1 1, 3) := by decide +kernel
theorem dX4_draw_99 : decode cX4_draw 99 = .ok (.goto (-90), 3) := by decide +kernel
theorem dX4_draw_102 : decode cX4_draw 102 = .ok (.return_, 1) := by decide +kernel
theorem dX4_weigh_0 : decode cX4_weigh 0 = .ok (.aload_n 0, 1) := by decide +kernel
theorem dX4_weigh_1 : decode cX4_weigh 1 = .ok (.lconst 0, 1) := by decide +kernel
theorem dX4_weigh_2 : decode cX4_weigh 2 = .ok (.putfield 84, 3) := by decide +kernel
theorem dX4_weigh_5 : decode cX4_weigh 5 = .ok (.aload_n 0, 1) := by decide +kernel
theorem dX4_weigh_6 : decode cX4_weigh 6 = .ok (.lconst 0, 1) := by decide +kernel
theorem dX4_weigh_7 : decode cX4_weigh 7 = .ok (.putfield 92, 3) := by decide +kernel
theorem dX4_weigh_10 : decode cX4_weigh 10 = .ok (.aload_n 0, 1) := by decide +kernel
theorem dX4_weigh_11 : decode cX4_weigh 11 = .ok (.lconst 0, 1) := by decide +kernel
theorem dX4_weigh_12 : decode cX4_weigh 12 = .ok (.putfield 87, 3) := by decide +kernel
theorem dX4_weigh_15 : decode cX4_weigh 15 = .ok (.aload_n 0, 1) := by decide +kernel
theorem dX4_weigh_16 : decode cX4_weigh 16 = .ok (.lconst 0, 1) := by decide +kernel
theorem dX4_weigh_17 : decode cX4_weigh 17 = .ok (.putfield 95, 3) := by decide +kernel
theorem dX4_weigh_20 : decode cX4_weigh 20 = .ok (.iconst 0, 1) := by decide +kernel
theorem dX4_weigh_21 : decode cX4_weigh 21 = .ok (.istore_n 1, 1) := by decide +kernel
theorem dX4_weigh_22 : decode cX4_weigh 22 = .ok (.iload_n 1, 1) := by decide +kernel
theorem dX4_weigh_23 : decode cX4_weigh 23 = .ok (.aload_n 0, 1) := by decide +kernel
theorem dX4_weigh_24 : decode cX4_weigh 24 = .ok (.getfield 58, 3) := by decide +kernel
theorem dX4_weigh_27 : decode cX4_weigh 27 = .ok (.if_icmp .ge 382, 3) := by decide +kernel
theorem dX4_weigh_30 : decode cX4_weigh 30 = .ok (.aload_n 0, 1) := by decide +kernel
theorem dX4_weigh_31 : decode cX4_weigh 31 = .ok (.getfield 18, 3) := by decide +kernel
theorem dX4_weigh_34 : decode cX4_weigh 34 = .ok (.iload_n 1, 1) := by decide +kernel
theorem dX4_weigh_35 : decode cX4_weigh 35 = .ok (.iaload, 1) := by decide +kernel
theorem dX4_weigh_36 : decode cX4_weigh 36 = .ok (.istore_n 2, 1) := by decide +kernel
theorem dX4_weigh_37 : decode cX4_weigh 37 = .ok (.aload_n 0, 1) := by decide +kernel
theorem dX4_weigh_38 : decode cX4_weigh 38 = .ok (.getfield 22, 3) := by decide +kernel
theorem dX4_weigh_41 : decode cX4_weigh 41 = .ok (.getfield 44, 3) := by decide +kernel
theorem dX4_weigh_44 : decode cX4_weigh 44 = .ok (.iload_n 2, 1) := by decide +kernel
theorem dX4_weigh_45 : decode cX4_weigh 45 = .ok (.caload, 1) := by decide +kernel
theorem dX4_weigh_46 : decode cX4_weigh 46 = .ok (.istore_n 3, 1) := by decide +kernel
theorem dX4_weigh_47 : decode cX4_weigh 47 = .ok (.aload_n 0, 1) := by decide +kernel
theorem dX4_weigh_48 : decode cX4_weigh 48 = .ok (.getfield 22, 3) := by decide +kernel
theorem dX4_weigh_51 : decode cX4_weigh 51 = .ok (.getfield 52, 3) := by decide +kernel
theorem dX4_weigh_54 : decode cX4_weigh 54 = .ok (.iload_n 2, 1) := by decide +kernel
theorem dX4_weigh_55 : decode cX4_weigh 55 = .ok (.iaload, 1) := by decide +kernel
theorem dX4_weigh_56 : decode cX4_weigh 56 = .ok (.istore 4, 2) := by decide +kernel
theorem dX4_weigh_58 : decode cX4_weigh 58 = .ok (.aload_n 0, 1) := by decide +kernel
theorem dX4_weigh_59 : decode cX4_weigh 59 = .ok (.getfield 22, 3) := by decide +kernel
theorem dX4_weigh_62 : decode cX4_weigh 62 = .ok (.getfield 55, 3) := by decide +kernel
theorem dX4_weigh_65 : decode cX4_weigh 65 = .ok (.iload_n 2, 1) := by decide +kernel
theorem dX4_weigh_66 : decode cX4_weigh 66 = .ok (.iaload, 1) := by decide +kernel
theorem dX4_weigh_67 : decode cX4_weigh 67 = .ok (.istore 5, 2) := by decide +kernel
theorem dX4_weigh_69 : decode cX4_weigh 69 = .ok (.iload_n 3, 1) := by decide +kernel
theorem dX4_weigh_70 : decode cX4_weigh 70 = .ok (.bipush 33, 2) := by decide +kernel
theorem dX4_weigh_72 : decode cX4_weigh 72 = .ok (.if_icmp .ne 52, 3) := by decide +kernel
theorem dX4_weigh_75 : decode cX4_weigh 75 = .ok (.aload_n 0, 1) := by decide +kernel
theorem dX4_weigh_76 : decode cX4_weigh 76 = .ok (.iload_n 2, 1) := by decide +kernel
theorem dX4_weigh_77 : decode cX4_weigh 77 = .ok (.aload_n 0, 1) := by decide +kernel
theorem dX4_weigh_78 : decode cX4_weigh 78 = .ok (.getfield 92, 3) := by decide +kernel
theorem dX4_weigh_81 : decode cX4_weigh 81 = .ok (.iload 4, 2) := by decide +kernel
theorem dX4_weigh_83 : decode cX4_weigh 83 = .ok (.invokestatic 38, 3) := by decide +kernel
theorem dX4_weigh_86 : decode cX4_weigh 86 = .ok (.aload_n 0, 1) := by decide +kernel
theorem dX4_weigh_87 : decode cX4_weigh 87 = .ok (.getfield 84, 3) := by decide +kernel
theorem dX4_weigh_90 : decode cX4_weigh 90 = .ok (.iload 4, 2) := by decide +kernel
theorem dX4_weigh_92 : decode cX4_weigh 92 = .ok (.invokestatic 38, 3) := by decide +kernel
theorem dX4_weigh_95 : decode cX4_weigh 95 = .ok (.invokevirtual 120, 3) := by decide +kernel
theorem dX4_weigh_98 : decode cX4_weigh 98 = .ok (.aload_n 0, 1) := by decide +kernel
theorem dX4_weigh_99 : decode cX4_weigh 99 = .ok (.iload_n 2, 1) := by decide +kernel
theorem dX4_weigh_100 : decode cX4_weigh 100 = .ok (.aload_n 0, 1) := by decide +kernel
theorem dX4_weigh_101 : decode cX4_weigh 101 = .ok (.getfield 95, 3) := by decide +kernel
theorem dX4_weigh_104 : decode cX4_weigh 104 = .ok (.iload 4, 2) := by decide +kernel
theorem dX4_weigh_106 : decode cX4_weigh 106 = .ok (.invokestatic 38, 3) := by decide +kernel
theorem dX4_weigh_109 : decode cX4_weigh 109 = .ok (.aload_n 0, 1) := by decide +kernel
theorem dX4_weigh_110 : decode cX4_weigh 110 = .ok (.getfield 87, 3) := by decide +kernel
theorem dX4_weigh_113 : decode cX4_weigh 113 = .ok (.iload 4, 2) := by decide +kernel
theorem dX4_weigh_115 : decode cX4_weigh 115 = .ok (.invokestatic 38, 3) := by decide +kernel
theorem dX4_weigh_118 : decode cX4_weigh 118 = .ok (.invokevirtual 124, 3) := by decide +kernel
theorem dX4_weigh_121 : decode cX4_weigh 121 = .ok (.goto 282, 3) := by decide +kernel
theorem dX4_weigh_124 : decode cX4_weigh 124 = .ok (.iload_n 3, 1) := by decide +kernel
theorem dX4_weigh_125 : decode cX4_weigh 125 = .ok (.bipush 38, 2) := by decide +kernel
theorem dX4_weigh_127 : decode cX4_weigh 127 = .ok (.if_icmp .ne 96, 3) := by decide +kernel
theorem dX4_weigh_130 : decode cX4_weigh 130 = .ok (.aload_n 0, 1) := by decide +kernel
theorem dX4_weigh_131 : decode cX4_weigh 131 = .ok (.iload_n 2, 1) := by decide +kernel
theorem dX4_weigh_132 : decode cX4_weigh 132 = .ok (.aload_n 0, 1) := by decide +kernel
theorem dX4_weigh_133 : decode cX4_weigh 133 = .ok (.getfield 84, 3) := by decide +kernel
theorem dX4_weigh_136 : decode cX4_weigh 136 = .ok (.iload 4, 2) := by decide +kernel
theorem dX4_weigh_138 : decode cX4_weigh 138 = .ok (.invokestatic 38, 3) := by decide +kernel
theorem dX4_weigh_141 : decode cX4_weigh 141 = .ok (.ifCond .eq 19, 3) := by decide +kernel
theorem dX4_weigh_144 : decode cX4_weigh 144 = .ok (.aload_n 0, 1) := by decide +kernel
theorem dX4_weigh_145 : decode cX4_weigh 145 = .ok (.getfield 84, 3) := by decide +kernel
theorem dX4_weigh_148 : decode cX4_weigh 148 = .ok (.iload 5, 2) := by decide +kernel
theorem dX4_weigh_150 : decode cX4_weigh 150 = .ok (.invokestatic 38, 3) := by decide +kernel
theorem dX4_weigh_153 : decode cX4_weigh 153 = .ok (.ifCond .eq 7, 3) := by decide +kernel
theorem dX4_weigh_156 : decode cX4_weigh 156 = .ok (.iconst 1, 1) := by decide +kernel
theorem dX4_weigh_157 : decode cX4_weigh 157 = .ok (.goto 4, 3) := by decide +kernel
theorem dX4_weigh_160 : decode cX4_weigh 160 = .ok (.iconst 0, 1) := by decide +kernel
theorem dX4_weigh_161 : decode cX4_weigh 161 = .ok (.aload_n 0, 1) := by decide +kernel
theorem dX4_weigh_162 : decode cX4_weigh 162 = .ok (.getfield 92, 3) := by decide +kernel
theorem dX4_weigh_165 : decode cX4_weigh 165 = .ok (.iload 4, 2) := by decide +kernel
theorem dX4_weigh_167 : decode cX4_weigh 167 = .ok (.iload 5, 2) := by decide +kernel
theorem dX4_weigh_169 : decode cX4_weigh 169 = .ok (.invokestatic 127, 3) := by decide +kernel
theorem dX4_weigh_172 : decode cX4_weigh 172 = .ok (.invokevirtual 120, 3) := by decide +kernel
theorem dX4_weigh_175 : decode cX4_weigh 175 = .ok (.aload_n 0, 1) := by decide +kernel
theorem dX4_weigh_176 : decode cX4_weigh 176 = .ok (.iload_n 2, 1) := by decide +kernel
theorem dX4_weigh_177 : decode cX4_weigh 177 = .ok (.aload_n 0, 1) := by decide +kernel
theorem dX4_weigh_178 : decode cX4_weigh 178 = .ok (.getfield 87, 3) := by decide +kernel
theorem dX4_weigh_181 : decode cX4_weigh 181 = .ok (.iload 4, 2) := by decide +kernel
theorem dX4_weigh_183 : decode cX4_weigh 183 = .ok (.invokestatic 38, 3) := by decide +kernel
theorem dX4_weigh_186 : decode cX4_weigh 186 = .ok (.ifCond .eq 19, 3) := by decide +kernel
theorem dX4_weigh_189 : decode cX4_weigh 189 = .ok (.aload_n 0, 1) := by decide +kernel
theorem dX4_weigh_190 : decode cX4_weigh 190 = .ok (.getfield 87, 3) := by decide +kernel
theorem dX4_weigh_193 : decode cX4_weigh 193 = .ok (.iload 5, 2) := by decide +kernel
theorem dX4_weigh_195 : decode cX4_weigh 195 = .ok (.invokestatic 38, 3) := by decide +kernel
theorem dX4_weigh_198 : decode cX4_weigh 198 = .ok (.ifCond .eq 7, 3) := by decide +kernel
theorem dX4_weigh_201 : decode cX4_weigh 201 = .ok (.iconst 1, 1) := by decide +kernel
theorem dX4_weigh_202 : decode cX4_weigh 202 = .ok (.goto 4, 3) := by decide +kernel
theorem dX4_weigh_205 : decode cX4_weigh 205 = .ok (.iconst 0, 1) := by decide +kernel
theorem dX4_weigh_206 : decode cX4_weigh 206 = .ok (.aload_n 0, 1) := by decide +kernel
theorem dX4_weigh_207 : decode cX4_weigh 207 = .ok (.getfield 95, 3) := by decide +kernel
theorem dX4_weigh_210 : decode cX4_weigh 210 = .ok (.iload 4, 2) := by decide +kernel
theorem dX4_weigh_212 : decode cX4_weigh 212 = .ok (.iload 5, 2) := by decide +kernel
theorem dX4_weigh_214 : decode cX4_weigh 214 = .ok (.invokestatic 127, 3) := by decide +kernel
theorem dX4_weigh_217 : decode cX4_weigh 217 = .ok (.invokevirtual 124, 3) := by decide +kernel
theorem dX4_weigh_220 : decode cX4_weigh 220 = .ok (.goto 183, 3) := by decide +kernel
theorem dX4_weigh_223 : decode cX4_weigh 223 = .ok (.iload_n 3, 1) := by decide +kernel
theorem dX4_weigh_224 : decode cX4_weigh 224 = .ok (.bipush 124, 2) := by decide +kernel
theorem dX4_weigh_226 : decode cX4_weigh 226 = .ok (.if_icmp .ne 96, 3) := by decide +kernel
theorem dX4_weigh_229 : decode cX4_weigh 229 = .ok (.aload_n 0, 1) := by decide +kernel
theorem dX4_weigh_230 : decode cX4_weigh 230 = .ok (.iload_n 2, 1) := by decide +kernel
theorem dX4_weigh_231 : decode cX4_weigh 231 = .ok (.aload_n 0, 1) := by decide +kernel
theorem dX4_weigh_232 : decode cX4_weigh 232 = .ok (.getfield 84, 3) := by decide +kernel
theorem dX4_weigh_235 : decode cX4_weigh 235 = .ok (.iload 4, 2) := by decide +kernel
theorem dX4_weigh_237 : decode cX4_weigh 237 = .ok (.iload 5, 2) := by decide +kernel
theorem dX4_weigh_239 : decode cX4_weigh 239 = .ok (.invokestatic 127, 3) := by decide +kernel
theorem dX4_weigh_242 : decode cX4_weigh 242 = .ok (.aload_n 0, 1) := by decide +kernel
theorem dX4_weigh_243 : decode cX4_weigh 243 = .ok (.getfield 92, 3) := by decide +kernel
theorem dX4_weigh_246 : decode cX4_weigh 246 = .ok (.iload 4, 2) := by decide +kernel
theorem dX4_weigh_248 : decode cX4_weigh 248 = .ok (.invokestatic 38, 3) := by decide +kernel
theorem dX4_weigh_251 : decode cX4_weigh 251 = .ok (.ifCond .eq 19, 3) := by decide +kernel
theorem dX4_weigh_254 : decode cX4_weigh 254 = .ok (.aload_n 0, 1) := by decide +kernel
theorem dX4_weigh_255 : decode cX4_weigh 255 = .ok (.getfield 92, 3) := by decide +kernel
theorem dX4_weigh_258 : decode cX4_weigh 258 = .ok (.iload 5, 2) := by decide +kernel
theorem dX4_weigh_260 : decode cX4_weigh 260 = .ok (.invokestatic 38, 3) := by decide +kernel
theorem dX4_weigh_263 : decode cX4_weigh 263 = .ok (.ifCond .eq 7, 3) := by decide +kernel
theorem dX4_weigh_266 : decode cX4_weigh 266 = .ok (.iconst 1, 1) := by decide +kernel
theorem dX4_weigh_267 : decode cX4_weigh 267 = .ok (.goto 4, 3) := by decide +kernel
theorem dX4_weigh_270 : decode cX4_weigh 270 = .ok (.iconst 0, 1) := by decide +kernel
theorem dX4_weigh_271 : decode cX4_weigh 271 = .ok (.invokevirtual 120, 3) := by decide +kernel
theorem dX4_weigh_274 : decode cX4_weigh 274 = .ok (.aload_n 0, 1) := by decide +kernel
theorem dX4_weigh_275 : decode cX4_weigh 275 = .ok (.iload_n 2, 1) := by decide +kernel
theorem dX4_weigh_276 : decode cX4_weigh 276 = .ok (.aload_n 0, 1) := by decide +kernel
theorem dX4_weigh_277 : decode cX4_weigh 277 = .ok (.getfield 87, 3) := by decide +kernel
theorem dX4_weigh_280 : decode cX4_weigh 280 = .ok (.iload 4, 2) := by decide +kernel
theorem dX4_weigh_282 : decode cX4_weigh 282 = .ok (.iload 5, 2) := by decide +kernel
theorem dX4_weigh_284 : decode cX4_weigh 284 = .ok (.invokestatic 127, 3) := by decide +kernel
theorem dX4_weigh_287 : decode cX4_weigh 287 = .ok (.aload_n 0, 1) := by decide +kernel
theorem dX4_weigh_288 : decode cX4_weigh 288 = .ok (.getfield 95, 3) := by decide +kernel
theorem dX4_weigh_291 : decode cX4_weigh 291 = .ok (.iload 4, 2) := by decide +kernel
theorem dX4_weigh_293 : decode cX4_weigh 293 = .ok (.invokestatic 38, 3) := by decide +kernel
theorem dX4_weigh_296 : decode cX4_weigh 296 = .ok (.ifCond .eq 19, 3) := by decide +kernel
theorem dX4_weigh_299 : decode cX4_weigh 299 = .ok (.aload_n 0, 1) := by decide +kernel
theorem dX4_weigh_300 : decode cX4_weigh 300 = .ok (.getfield 95, 3) := by decide +kernel
theorem dX4_weigh_303 : decode cX4_weigh 303 = .ok (.iload 5, 2) := by decide +kernel
theorem dX4_weigh_305 : decode cX4_weigh 305 = .ok (.invokestatic 38, 3) := by decide +kernel
theorem dX4_weigh_308 : decode cX4_weigh 308 = .ok (.ifCond .eq 7, 3) := by decide +kernel
theorem dX4_weigh_311 : decode cX4_weigh 311 = .ok (.iconst 1, 1) := by decide +kernel
theorem dX4_weigh_312 : decode cX4_weigh 312 = .ok (.goto 4, 3) := by decide +kernel
theorem dX4_weigh_315 : decode cX4_weigh 315 = .ok (.iconst 0, 1) := by decide +kernel
theorem dX4_weigh_316 : decode cX4_weigh 316 = .ok (.invokevirtual 124, 3) := by decide +kernel
theorem dX4_weigh_319 : decode cX4_weigh 319 = .ok (.goto 84, 3) := by decide +kernel
theorem dX4_weigh_322 : decode cX4_weigh 322 = .ok (.iload_n 3, 1) := by decide +kernel
theorem dX4_weigh_323 : decode cX4_weigh 323 = .ok (.bipush 107, 2) := by decide +kernel
theorem dX4_weigh_325 : decode cX4_weigh 325 = .ok (.if_icmp .ne 20, 3) := by decide +kernel
theorem dX4_weigh_328 : decode cX4_weigh 328 = .ok (.aload_n 0, 1) := by decide +kernel
theorem dX4_weigh_329 : decode cX4_weigh 329 = .ok (.iload_n 2, 1) := by decide +kernel
theorem dX4_weigh_330 : decode cX4_weigh 330 = .ok (.iconst 1, 1) := by decide +kernel
theorem dX4_weigh_331 : decode cX4_weigh 331 = .ok (.iconst 1, 1) := by decide +kernel
theorem dX4_weigh_332 : decode cX4_weigh 332 = .ok (.invokevirtual 120, 3) := by decide +kernel
theorem dX4_weigh_335 : decode cX4_weigh 335 = .ok (.aload_n 0, 1) := by decide +kernel
theorem dX4_weigh_336 : decode cX4_weigh 336 = .ok (.iload_n 2, 1) := by decide +kernel
theorem dX4_weigh_337 : decode cX4_weigh 337 = .ok (.iconst 1, 1) := by decide +kernel
theorem dX4_weigh_338 : decode cX4_weigh 338 = .ok (.iconst 1, 1) := by decide +kernel
theorem dX4_weigh_339 : decode cX4_weigh 339 = .ok (.invokevirtual 124, 3) := by decide +kernel
theorem dX4_weigh_342 : decode cX4_weigh 342 = .ok (.goto 61, 3) := by decide +kernel
theorem dX4_weigh_345 : decode cX4_weigh 345 = .ok (.aload_n 0, 1) := by decide +kernel
theorem dX4_weigh_346 : decode cX4_weigh 346 = .ok (.getfield 10, 3) := by decide +kernel
theorem dX4_weigh_349 : decode cX4_weigh 349 = .ok (.iload_n 3, 1) := by decide +kernel
theorem dX4_weigh_350 : decode cX4_weigh 350 = .ok (.iload 4, 2) := by decide +kernel
theorem dX4_weigh_352 : decode cX4_weigh 352 = .ok (.invokevirtual 131, 3) := by decide +kernel
theorem dX4_weigh_355 : decode cX4_weigh 355 = .ok (.istore 6, 2) := by decide +kernel
theorem dX4_weigh_357 : decode cX4_weigh 357 = .ok (.aload_n 0, 1) := by decide +kernel
theorem dX4_weigh_358 : decode cX4_weigh 358 = .ok (.getfield 10, 3) := by decide +kernel
theorem dX4_weigh_361 : decode cX4_weigh 361 = .ok (.iload_n 3, 1) := by decide +kernel
theorem dX4_weigh_362 : decode cX4_weigh 362 = .ok (.iload 4, 2) := by decide +kernel
theorem dX4_weigh_364 : decode cX4_weigh 364 = .ok (.invokevirtual 134, 3) := by decide +kernel
theorem dX4_weigh_367 : decode cX4_weigh 367 = .ok (.istore 7, 2) := by decide +kernel
theorem dX4_weigh_369 : decode cX4_weigh 369 = .ok (.aload_n 0, 1) := by decide +kernel
theorem dX4_weigh_370 : decode cX4_weigh 370 = .ok (.iload_n 2, 1) := by decide +kernel
theorem dX4_weigh_371 : decode cX4_weigh 371 = .ok (.iload 6, 2) := by decide +kernel
theorem dX4_weigh_373 : decode cX4_weigh 373 = .ok (.iload 7, 2) := by decide +kernel
theorem dX4_weigh_375 : decode cX4_weigh 375 = .ok (.invokevirtual 120, 3) := by decide +kernel
theorem dX4_weigh_378 : decode cX4_weigh 378 = .ok (.aload_n 0, 1) := by decide +kernel
theorem dX4_weigh_379 : decode cX4_weigh 379 = .ok (.iload_n 2, 1) := by decide +kernel
theorem dX4_weigh_380 : decode cX4_weigh 380 = .ok (.iload 7, 2) := by decide +kernel
theorem dX4_weigh_382 : decode cX4_weigh 382 = .ok (.ifCond .ne 7, 3) := by decide +kernel
theorem dX4_weigh_385 : decode cX4_weigh 385 = .ok (.iconst 1, 1) := by decide +kernel
theorem dX4_weigh_386 : decode cX4_weigh 386 = .ok (.goto 4, 3) := by decide +kernel
theorem dX4_weigh_389 : decode cX4_weigh 389 = .ok (.iconst 0, 1) := by decide +kernel
theorem dX4_weigh_390 : decode cX4_weigh 390 = .ok (.iload 6, 2) := by decide +kernel
theorem dX4_weigh_392 : decode cX4_weigh 392 = .ok (.ifCond .ne 7, 3) := by decide +kernel
theorem dX4_weigh_395 : decode cX4_weigh 395 = .ok (.iconst 1, 1) := by decide +kernel
theorem dX4_weigh_396 : decode cX4_weigh 396 = .ok (.goto 4, 3) := by decide +kernel
theorem dX4_weigh_399 : decode cX4_weigh 399 = .ok (.iconst 0, 1) := by decide +kernel
theorem dX4_weigh_400 : decode cX4_weigh 400 = .ok (.invokevirtual 124, 3) := by decide +kernel
theorem dX4_weigh_403 : decode cX4_weigh 403 = .ok (.iinc 1 1, 3) := by decide +kernel
theorem dX4_weigh_406 : decode cX4_weigh 406 = .ok (.goto (-384), 3) := by decide +kernel
theorem dX4_weigh_409 : decode cX4_weigh 409 = .ok (.return_, 1) := by decide +kernel
theorem dX4_noteMay_0 : decode cX4_noteMay 0 = .ok (.lconst 1, 1) := by decide +kernel
theorem dX4_noteMay_1 : decode cX4_noteMay 1 = .ok (.iload_n 1, 1) := by decide +kernel
theorem dX4_noteMay_2 : decode cX4_noteMay 2 = .ok (.lshl, 1) := by decide +kernel
theorem dX4_noteMay_3 : decode cX4_noteMay 3 = .ok (.lstore 4, 2) := by decide +kernel
theorem dX4_noteMay_5 : decode cX4_noteMay 5 = .ok (.aload_n 0, 1) := by decide +kernel
theorem dX4_noteMay_6 : decode cX4_noteMay 6 = .ok (.getfield 22, 3) := by decide +kernel
theorem dX4_noteMay_9 : decode cX4_noteMay 9 = .ok (.getfield 136, 3) := by decide +kernel
theorem dX4_noteMay_12 : decode cX4_noteMay 12 = .ok (.lload 4, 2) := by decide +kernel
theorem dX4_noteMay_14 : decode cX4_noteMay 14 = .ok (.land, 1) := by decide +kernel
theorem dX4_noteMay_15 : decode cX4_noteMay 15 = .ok (.lstore 6, 2) := by decide +kernel
theorem dX4_noteMay_17 : decode cX4_noteMay 17 = .ok (.iload_n 2, 1) := by decide +kernel
theorem dX4_noteMay_18 : decode cX4_noteMay 18 = .ok (.ifCond .eq 26, 3) := by decide +kernel
theorem dX4_noteMay_21 : decode cX4_noteMay 21 = .ok (.lload 6, 2) := by decide +kernel
theorem dX4_noteMay_23 : decode cX4_noteMay 23 = .ok (.aload_n 0, 1) := by decide +kernel
theorem dX4_noteMay_24 : decode cX4_noteMay 24 = .ok (.getfield 73, 3) := by decide +kernel
theorem dX4_noteMay_27 : decode cX4_noteMay 27 = .ok (.land, 1) := by decide +kernel
theorem dX4_noteMay_28 : decode cX4_noteMay 28 = .ok (.lconst 0, 1) := by decide +kernel
theorem dX4_noteMay_29 : decode cX4_noteMay 29 = .ok (.lcmp, 1) := by decide +kernel
theorem dX4_noteMay_30 : decode cX4_noteMay 30 = .ok (.ifCond .ne 14, 3) := by decide +kernel
theorem dX4_noteMay_33 : decode cX4_noteMay 33 = .ok (.aload_n 0, 1) := by decide +kernel
theorem dX4_noteMay_34 : decode cX4_noteMay 34 = .ok (.dup, 1) := by decide +kernel
theorem dX4_noteMay_35 : decode cX4_noteMay 35 = .ok (.getfield 84, 3) := by decide +kernel
theorem dX4_noteMay_38 : decode cX4_noteMay 38 = .ok (.lload 4, 2) := by decide +kernel
theorem dX4_noteMay_40 : decode cX4_noteMay 40 = .ok (.lor, 1) := by decide +kernel
theorem dX4_noteMay_41 : decode cX4_noteMay 41 = .ok (.putfield 84, 3) := by decide +kernel
theorem dX4_noteMay_44 : decode cX4_noteMay 44 = .ok (.iload_n 3, 1) := by decide +kernel
theorem dX4_noteMay_45 : decode cX4_noteMay 45 = .ok (.ifCond .eq 26, 3) := by decide +kernel
theorem dX4_noteMay_48 : decode cX4_noteMay 48 = .ok (.lload 6, 2) := by decide +kernel
theorem dX4_noteMay_50 : decode cX4_noteMay 50 = .ok (.aload_n 0, 1) := by decide +kernel
theorem dX4_noteMay_51 : decode cX4_noteMay 51 = .ok (.getfield 69, 3) := by decide +kernel
theorem dX4_noteMay_54 : decode cX4_noteMay 54 = .ok (.land, 1) := by decide +kernel
theorem dX4_noteMay_55 : decode cX4_noteMay 55 = .ok (.lconst 0, 1) := by decide +kernel
theorem dX4_noteMay_56 : decode cX4_noteMay 56 = .ok (.lcmp, 1) := by decide +kernel
theorem dX4_noteMay_57 : decode cX4_noteMay 57 = .ok (.ifCond .ne 14, 3) := by decide +kernel
theorem dX4_noteMay_60 : decode cX4_noteMay 60 = .ok (.aload_n 0, 1) := by decide +kernel
theorem dX4_noteMay_61 : decode cX4_noteMay 61 = .ok (.dup, 1) := by decide +kernel
theorem dX4_noteMay_62 : decode cX4_noteMay 62 = .ok (.getfield 92, 3) := by decide +kernel
theorem dX4_noteMay_65 : decode cX4_noteMay 65 = .ok (.lload 4, 2) := by decide +kernel
theorem dX4_noteMay_67 : decode cX4_noteMay 67 = .ok (.lor, 1) := by decide +kernel
theorem dX4_noteMay_68 : decode cX4_noteMay 68 = .ok (.putfield 92, 3) := by decide +kernel
theorem dX4_noteMay_71 : decode cX4_noteMay 71 = .ok (.return_, 1) := by decide +kernel
theorem dX4_noteSure_0 : decode cX4_noteSure 0 = .ok (.lconst 1, 1) := by decide +kernel
theorem dX4_noteSure_1 : decode cX4_noteSure 1 = .ok (.iload_n 1, 1) := by decide +kernel
theorem dX4_noteSure_2 : decode cX4_noteSure 2 = .ok (.lshl, 1) := by decide +kernel
theorem dX4_noteSure_3 : decode cX4_noteSure 3 = .ok (.lstore 4, 2) := by decide +kernel
theorem dX4_noteSure_5 : decode cX4_noteSure 5 = .ok (.iload_n 2, 1) := by decide +kernel
theorem dX4_noteSure_6 : decode cX4_noteSure 6 = .ok (.ifCond .eq 14, 3) := by decide +kernel
theorem dX4_noteSure_9 : decode cX4_noteSure 9 = .ok (.aload_n 0, 1) := by decide +kernel
theorem dX4_noteSure_10 : decode cX4_noteSure 10 = .ok (.dup, 1) := by decide +kernel
theorem dX4_noteSure_11 : decode cX4_noteSure 11 = .ok (.getfield 87, 3) := by decide +kernel
theorem dX4_noteSure_14 : decode cX4_noteSure 14 = .ok (.lload 4, 2) := by decide +kernel
theorem dX4_noteSure_16 : decode cX4_noteSure 16 = .ok (.lor, 1) := by decide +kernel
theorem dX4_noteSure_17 : decode cX4_noteSure 17 = .ok (.putfield 87, 3) := by decide +kernel
theorem dX4_noteSure_20 : decode cX4_noteSure 20 = .ok (.iload_n 3, 1) := by decide +kernel
theorem dX4_noteSure_21 : decode cX4_noteSure 21 = .ok (.ifCond .eq 14, 3) := by decide +kernel
theorem dX4_noteSure_24 : decode cX4_noteSure 24 = .ok (.aload_n 0, 1) := by decide +kernel
theorem dX4_noteSure_25 : decode cX4_noteSure 25 = .ok (.dup, 1) := by decide +kernel
theorem dX4_noteSure_26 : decode cX4_noteSure 26 = .ok (.getfield 95, 3) := by decide +kernel
theorem dX4_noteSure_29 : decode cX4_noteSure 29 = .ok (.lload 4, 2) := by decide +kernel
theorem dX4_noteSure_31 : decode cX4_noteSure 31 = .ok (.lor, 1) := by decide +kernel
theorem dX4_noteSure_32 : decode cX4_noteSure 32 = .ok (.putfield 95, 3) := by decide +kernel
theorem dX4_noteSure_35 : decode cX4_noteSure 35 = .ok (.return_, 1) := by decide +kernel
theorem dX4_hasEither_0 : decode cX4_hasEither 0 = .ok (.lload_n 0, 1) := by decide +kernel
theorem dX4_hasEither_1 : decode cX4_hasEither 1 = .ok (.iload_n 2, 1) := by decide +kernel
theorem dX4_hasEither_2 : decode cX4_hasEither 2 = .ok (.invokestatic 38, 3) := by decide +kernel
theorem dX4_hasEither_5 : decode cX4_hasEither 5 = .ok (.ifCond .ne 11, 3) := by decide +kernel
theorem dX4_hasEither_8 : decode cX4_hasEither 8 = .ok (.lload_n 0, 1) := by decide +kernel
theorem dX4_hasEither_9 : decode cX4_hasEither 9 = .ok (.iload_n 3, 1) := by decide +kernel
theorem dX4_hasEither_10 : decode cX4_hasEither 10 = .ok (.invokestatic 38, 3) := by decide +kernel
theorem dX4_hasEither_13 : decode cX4_hasEither 13 = .ok (.ifCond .eq 7, 3) := by decide +kernel
theorem dX4_hasEither_16 : decode cX4_hasEither 16 = .ok (.iconst 1, 1) := by decide +kernel
theorem dX4_hasEither_17 : decode cX4_hasEither 17 = .ok (.goto 4, 3) := by decide +kernel
theorem dX4_hasEither_20 : decode cX4_hasEither 20 = .ok (.iconst 0, 1) := by decide +kernel
theorem dX4_hasEither_21 : decode cX4_hasEither 21 = .ok (.ireturn, 1) := by decide +kernel
theorem dX4_handDown_0 : decode cX4_handDown 0 = .ok (.aload_n 0, 1) := by decide +kernel
theorem dX4_handDown_1 : decode cX4_handDown 1 = .ok (.getfield 69, 3) := by decide +kernel
theorem dX4_handDown_4 : decode cX4_handDown 4 = .ok (.lstore_n 1, 1) := by decide +kernel
theorem dX4_handDown_5 : decode cX4_handDown 5 = .ok (.aload_n 0, 1) := by decide +kernel
theorem dX4_handDown_6 : decode cX4_handDown 6 = .ok (.getfield 73, 3) := by decide +kernel
theorem dX4_handDown_9 : decode cX4_handDown 9 = .ok (.lstore_n 3, 1) := by decide +kernel
theorem dX4_handDown_10 : decode cX4_handDown 10 = .ok (.aload_n 0, 1) := by decide +kernel
theorem dX4_handDown_11 : decode cX4_handDown 11 = .ok (.getfield 58, 3) := by decide +kernel
theorem dX4_handDown_14 : decode cX4_handDown 14 = .ok (.iconst 1, 1) := by decide +kernel
theorem dX4_handDown_15 : decode cX4_handDown 15 = .ok (.isub, 1) := by decide +kernel
theorem dX4_handDown_16 : decode cX4_handDown 16 = .ok (.istore 5, 2) := by decide +kernel
theorem dX4_handDown_18 : decode cX4_handDown 18 = .ok (.iload 5, 2) := by decide +kernel
theorem dX4_handDown_20 : decode cX4_handDown 20 = .ok (.ifCond .lt 124, 3) := by decide +kernel
theorem dX4_handDown_23 : decode cX4_handDown 23 = .ok (.aload_n 0, 1) := by decide +kernel
theorem dX4_handDown_24 : decode cX4_handDown 24 = .ok (.getfield 18, 3) := by decide +kernel
theorem dX4_handDown_27 : decode cX4_handDown 27 = .ok (.iload 5, 2) := by decide +kernel
theorem dX4_handDown_29 : decode cX4_handDown 29 = .ok (.iaload, 1) := by decide +kernel
theorem dX4_handDown_30 : decode cX4_handDown 30 = .ok (.istore 6, 2) := by decide +kernel
theorem dX4_handDown_32 : decode cX4_handDown 32 = .ok (.aload_n 0, 1) := by decide +kernel
theorem dX4_handDown_33 : decode cX4_handDown 33 = .ok (.getfield 22, 3) := by decide +kernel
theorem dX4_handDown_36 : decode cX4_handDown 36 = .ok (.getfield 44, 3) := by decide +kernel
theorem dX4_handDown_39 : decode cX4_handDown 39 = .ok (.iload 6, 2) := by decide +kernel
theorem dX4_handDown_41 : decode cX4_handDown 41 = .ok (.caload, 1) := by decide +kernel
theorem dX4_handDown_42 : decode cX4_handDown 42 = .ok (.istore 7, 2) := by decide +kernel
theorem dX4_handDown_44 : decode cX4_handDown 44 = .ok (.iload 7, 2) := by decide +kernel
theorem dX4_handDown_46 : decode cX4_handDown 46 = .ok (.invokestatic 48, 3) := by decide +kernel
theorem dX4_handDown_49 : decode cX4_handDown 49 = .ok (.ifCond .le 89, 3) := by decide +kernel
theorem dX4_handDown_52 : decode cX4_handDown 52 = .ok (.lconst 1, 1) := by decide +kernel
theorem dX4_handDown_53 : decode cX4_handDown 53 = .ok (.aload_n 0, 1) := by decide +kernel
theorem dX4_handDown_54 : decode cX4_handDown 54 = .ok (.getfield 22, 3) := by decide +kernel
theorem dX4_handDown_57 : decode cX4_handDown 57 = .ok (.getfield 52, 3) := by decide +kernel
theorem dX4_handDown_60 : decode cX4_handDown 60 = .ok (.iload 6, 2) := by decide +kernel
theorem dX4_handDown_62 : decode cX4_handDown 62 = .ok (.iaload, 1) := by decide +kernel
theorem dX4_handDown_63 : decode cX4_handDown 63 = .ok (.lshl, 1) := by decide +kernel
theorem dX4_handDown_64 : decode cX4_handDown 64 = .ok (.lstore 8, 2) := by decide +kernel
theorem dX4_handDown_66 : decode cX4_handDown 66 = .ok (.iload 7, 2) := by decide +kernel
theorem dX4_handDown_68 : decode cX4_handDown 68 = .ok (.invokestatic 48, 3) := by decide +kernel
theorem dX4_handDown_71 : decode cX4_handDown 71 = .ok (.iconst 1, 1) := by decide +kernel
theorem dX4_handDown_72 : decode cX4_handDown 72 = .ok (.if_icmp .le 18, 3) := by decide +kernel
theorem dX4_handDown_75 : decode cX4_handDown 75 = .ok (.lconst 1, 1) := by decide +kernel
theorem dX4_handDown_76 : decode cX4_handDown 76 = .ok (.aload_n 0, 1) := by decide +kernel
theorem dX4_handDown_77 : decode cX4_handDown 77 = .ok (.getfield 22, 3) := by decide +kernel
theorem dX4_handDown_80 : decode cX4_handDown 80 = .ok (.getfield 55, 3) := by decide +kernel
theorem dX4_handDown_83 : decode cX4_handDown 83 = .ok (.iload 6, 2) := by decide +kernel
theorem dX4_handDown_85 : decode cX4_handDown 85 = .ok (.iaload, 1) := by decide +kernel
theorem dX4_handDown_86 : decode cX4_handDown 86 = .ok (.lshl, 1) := by decide +kernel
theorem dX4_handDown_87 : decode cX4_handDown 87 = .ok (.goto 5, 3) := by decide +kernel
theorem dX4_handDown_90 : decode cX4_handDown 90 = .ok (.lload 8, 2) := by decide +kernel
theorem dX4_handDown_92 : decode cX4_handDown 92 = .ok (.lstore 10, 2) := by decide +kernel
theorem dX4_handDown_94 : decode cX4_handDown 94 = .ok (.aload_n 0, 1) := by decide +kernel
theorem dX4_handDown_95 : decode cX4_handDown 95 = .ok (.getfield 69, 3) := by decide +kernel
theorem dX4_handDown_98 : decode cX4_handDown 98 = .ok (.iload 6, 2) := by decide +kernel
theorem dX4_handDown_100 : decode cX4_handDown 100 = .ok (.invokestatic 38, 3) := by decide +kernel
theorem dX4_handDown_103 : decode cX4_handDown 103 = .ok (.ifCond .eq 13, 3) := by decide +kernel
theorem dX4_handDown_106 : decode cX4_handDown 106 = .ok (.aload_n 0, 1) := by decide +kernel
theorem dX4_handDown_107 : decode cX4_handDown 107 = .ok (.iload 7, 2) := by decide +kernel
theorem dX4_handDown_109 : decode cX4_handDown 109 = .ok (.lload 8, 2) := by decide +kernel
theorem dX4_handDown_111 : decode cX4_handDown 111 = .ok (.lload 10, 2) := by decide +kernel
theorem dX4_handDown_113 : decode cX4_handDown 113 = .ok (.invokevirtual 139, 3) := by decide +kernel
theorem dX4_handDown_116 : decode cX4_handDown 116 = .ok (.aload_n 0, 1) := by decide +kernel
theorem dX4_handDown_117 : decode cX4_handDown 117 = .ok (.getfield 73, 3) := by decide +kernel
theorem dX4_handDown_120 : decode cX4_handDown 120 = .ok (.iload 6, 2) := by decide +kernel
theorem dX4_handDown_122 : decode cX4_handDown 122 = .ok (.invokestatic 38, 3) := by decide +kernel
theorem dX4_handDown_125 : decode cX4_handDown 125 = .ok (.ifCond .eq 13, 3) := by decide +kernel
theorem dX4_handDown_128 : decode cX4_handDown 128 = .ok (.aload_n 0, 1) := by decide +kernel
theorem dX4_handDown_129 : decode cX4_handDown 129 = .ok (.iload 7, 2) := by decide +kernel
theorem dX4_handDown_131 : decode cX4_handDown 131 = .ok (.lload 8, 2) := by decide +kernel
theorem dX4_handDown_133 : decode cX4_handDown 133 = .ok (.lload 10, 2) := by decide +kernel
theorem dX4_handDown_135 : decode cX4_handDown 135 = .ok (.invokevirtual 143, 3) := by decide +kernel
theorem dX4_handDown_138 : decode cX4_handDown 138 = .ok (.iinc 5 (-1), 3) := by decide +kernel
theorem dX4_handDown_141 : decode cX4_handDown 141 = .ok (.goto (-123), 3) := by decide +kernel
theorem dX4_handDown_144 : decode cX4_handDown 144 = .ok (.aload_n 0, 1) := by decide +kernel
theorem dX4_handDown_145 : decode cX4_handDown 145 = .ok (.getfield 69, 3) := by decide +kernel
theorem dX4_handDown_148 : decode cX4_handDown 148 = .ok (.lload_n 1, 1) := by decide +kernel
theorem dX4_handDown_149 : decode cX4_handDown 149 = .ok (.lcmp, 1) := by decide +kernel
theorem dX4_handDown_150 : decode cX4_handDown 150 = .ok (.ifCond .ne 12, 3) := by decide +kernel
theorem dX4_handDown_153 : decode cX4_handDown 153 = .ok (.aload_n 0, 1) := by decide +kernel
theorem dX4_handDown_154 : decode cX4_handDown 154 = .ok (.getfield 73, 3) := by decide +kernel
theorem dX4_handDown_157 : decode cX4_handDown 157 = .ok (.lload_n 3, 1) := by decide +kernel
theorem dX4_handDown_158 : decode cX4_handDown 158 = .ok (.lcmp, 1) := by decide +kernel
theorem dX4_handDown_159 : decode cX4_handDown 159 = .ok (.ifCond .eq 7, 3) := by decide +kernel
theorem dX4_handDown_162 : decode cX4_handDown 162 = .ok (.iconst 1, 1) := by decide +kernel
theorem dX4_handDown_163 : decode cX4_handDown 163 = .ok (.goto 4, 3) := by decide +kernel
theorem dX4_handDown_166 : decode cX4_handDown 166 = .ok (.iconst 0, 1) := by decide +kernel
theorem dX4_handDown_167 : decode cX4_handDown 167 = .ok (.ireturn, 1) := by decide +kernel
theorem dX4_handDownHold_0 : decode cX4_handDownHold 0 = .ok (.iload_n 1, 1) := by decide +kernel
theorem dX4_handDownHold_1 : decode cX4_handDownHold 1 = .ok (.bipush 33, 2) := by decide +kernel
theorem dX4_handDownHold_3 : decode cX4_handDownHold 3 = .ok (.if_icmp .ne 16, 3) := by decide +kernel
theorem dX4_handDownHold_6 : decode cX4_handDownHold 6 = .ok (.aload_n 0, 1) := by decide +kernel
theorem dX4_handDownHold_7 : decode cX4_handDownHold 7 = .ok (.dup, 1) := by decide +kernel
theorem dX4_handDownHold_8 : decode cX4_handDownHold 8 = .ok (.getfield 73, 3) := by decide +kernel
theorem dX4_handDownHold_11 : decode cX4_handDownHold 11 = .ok (.lload_n 2, 1) := by decide +kernel
theorem dX4_handDownHold_12 : decode cX4_handDownHold 12 = .ok (.lor, 1) := by decide +kernel
theorem dX4_handDownHold_13 : decode cX4_handDownHold 13 = .ok (.putfield 73, 3) := by decide +kernel
theorem dX4_handDownHold_16 : decode cX4_handDownHold 16 = .ok (.goto 72, 3) := by decide +kernel
theorem dX4_handDownHold_19 : decode cX4_handDownHold 19 = .ok (.iload_n 1, 1) := by decide +kernel
theorem dX4_handDownHold_20 : decode cX4_handDownHold 20 = .ok (.bipush 38, 2) := by decide +kernel
theorem dX4_handDownHold_22 : decode cX4_handDownHold 22 = .ok (.if_icmp .ne 19, 3) := by decide +kernel
theorem dX4_handDownHold_25 : decode cX4_handDownHold 25 = .ok (.aload_n 0, 1) := by decide +kernel
theorem dX4_handDownHold_26 : decode cX4_handDownHold 26 = .ok (.dup, 1) := by decide +kernel
theorem dX4_handDownHold_27 : decode cX4_handDownHold 27 = .ok (.getfield 69, 3) := by decide +kernel
theorem dX4_handDownHold_30 : decode cX4_handDownHold 30 = .ok (.lload_n 2, 1) := by decide +kernel
theorem dX4_handDownHold_31 : decode cX4_handDownHold 31 = .ok (.lload 4, 2) := by decide +kernel
theorem dX4_handDownHold_33 : decode cX4_handDownHold 33 = .ok (.lor, 1) := by decide +kernel
theorem dX4_handDownHold_34 : decode cX4_handDownHold 34 = .ok (.lor, 1) := by decide +kernel
theorem dX4_handDownHold_35 : decode cX4_handDownHold 35 = .ok (.putfield 69, 3) := by decide +kernel
theorem dX4_handDownHold_38 : decode cX4_handDownHold 38 = .ok (.goto 50, 3) := by decide +kernel
theorem dX4_handDownHold_41 : decode cX4_handDownHold 41 = .ok (.aload_n 0, 1) := by decide +kernel
theorem dX4_handDownHold_42 : decode cX4_handDownHold 42 = .ok (.getfield 84, 3) := by decide +kernel
theorem dX4_handDownHold_45 : decode cX4_handDownHold 45 = .ok (.lload_n 2, 1) := by decide +kernel
theorem dX4_handDownHold_46 : decode cX4_handDownHold 46 = .ok (.land, 1) := by decide +kernel
theorem dX4_handDownHold_47 : decode cX4_handDownHold 47 = .ok (.lconst 0, 1) := by decide +kernel
theorem dX4_handDownHold_48 : decode cX4_handDownHold 48 = .ok (.lcmp, 1) := by decide +kernel
theorem dX4_handDownHold_49 : decode cX4_handDownHold 49 = .ok (.ifCond .ne 17, 3) := by decide +kernel
theorem dX4_handDownHold_52 : decode cX4_handDownHold 52 = .ok (.aload_n 0, 1) := by decide +kernel
theorem dX4_handDownHold_53 : decode cX4_handDownHold 53 = .ok (.dup, 1) := by decide +kernel
theorem dX4_handDownHold_54 : decode cX4_handDownHold 54 = .ok (.getfield 69, 3) := by decide +kernel
theorem dX4_handDownHold_57 : decode cX4_handDownHold 57 = .ok (.lload 4, 2) := by decide +kernel
theorem dX4_handDownHold_59 : decode cX4_handDownHold 59 = .ok (.lor, 1) := by decide +kernel
theorem dX4_handDownHold_60 : decode cX4_handDownHold 60 = .ok (.putfield 69, 3) := by decide +kernel
theorem dX4_handDownHold_63 : decode cX4_handDownHold 63 = .ok (.goto 25, 3) := by decide +kernel
theorem dX4_handDownHold_66 : decode cX4_handDownHold 66 = .ok (.aload_n 0, 1) := by decide +kernel
theorem dX4_handDownHold_67 : decode cX4_handDownHold 67 = .ok (.getfield 84, 3) := by decide +kernel
theorem dX4_handDownHold_70 : decode cX4_handDownHold 70 = .ok (.lload 4, 2) := by decide +kernel
theorem dX4_handDownHold_72 : decode cX4_handDownHold 72 = .ok (.land, 1) := by decide +kernel
theorem dX4_handDownHold_73 : decode cX4_handDownHold 73 = .ok (.lconst 0, 1) := by decide +kernel
theorem dX4_handDownHold_74 : decode cX4_handDownHold 74 = .ok (.lcmp, 1) := by decide +kernel
theorem dX4_handDownHold_75 : decode cX4_handDownHold 75 = .ok (.ifCond .ne 13, 3) := by decide +kernel
theorem dX4_handDownHold_78 : decode cX4_handDownHold 78 = .ok (.aload_n 0, 1) := by decide +kernel
theorem dX4_handDownHold_79 : decode cX4_handDownHold 79 = .ok (.dup, 1) := by decide +kernel
theorem dX4_handDownHold_80 : decode cX4_handDownHold 80 = .ok (.getfield 69, 3) := by decide +kernel
theorem dX4_handDownHold_83 : decode cX4_handDownHold 83 = .ok (.lload_n 2, 1) := by decide +kernel
theorem dX4_handDownHold_84 : decode cX4_handDownHold 84 = .ok (.lor, 1) := by decide +kernel
theorem dX4_handDownHold_85 : decode cX4_handDownHold 85 = .ok (.putfield 69, 3) := by decide +kernel
theorem dX4_handDownHold_88 : decode cX4_handDownHold 88 = .ok (.return_, 1) := by decide +kernel
theorem dX4_handDownFail_0 : decode cX4_handDownFail 0 = .ok (.iload_n 1, 1) := by decide +kernel
theorem dX4_handDownFail_1 : decode cX4_handDownFail 1 = .ok (.bipush 33, 2) := by decide +kernel
theorem dX4_handDownFail_3 : decode cX4_handDownFail 3 = .ok (.if_icmp .ne 16, 3) := by decide +kernel
theorem dX4_handDownFail_6 : decode cX4_handDownFail 6 = .ok (.aload_n 0, 1) := by decide +kernel
theorem dX4_handDownFail_7 : decode cX4_handDownFail 7 = .ok (.dup, 1) := by decide +kernel
theorem dX4_handDownFail_8 : decode cX4_handDownFail 8 = .ok (.getfield 69, 3) := by decide +kernel
theorem dX4_handDownFail_11 : decode cX4_handDownFail 11 = .ok (.lload_n 2, 1) := by decide +kernel
theorem dX4_handDownFail_12 : decode cX4_handDownFail 12 = .ok (.lor, 1) := by decide +kernel
theorem dX4_handDownFail_13 : decode cX4_handDownFail 13 = .ok (.putfield 69, 3) := by decide +kernel
theorem dX4_handDownFail_16 : decode cX4_handDownFail 16 = .ok (.goto 72, 3) := by decide +kernel
theorem dX4_handDownFail_19 : decode cX4_handDownFail 19 = .ok (.iload_n 1, 1) := by decide +kernel
theorem dX4_handDownFail_20 : decode cX4_handDownFail 20 = .ok (.bipush 124, 2) := by decide +kernel
theorem dX4_handDownFail_22 : decode cX4_handDownFail 22 = .ok (.if_icmp .ne 19, 3) := by decide +kernel
theorem dX4_handDownFail_25 : decode cX4_handDownFail 25 = .ok (.aload_n 0, 1) := by decide +kernel
theorem dX4_handDownFail_26 : decode cX4_handDownFail 26 = .ok (.dup, 1) := by decide +kernel
theorem dX4_handDownFail_27 : decode cX4_handDownFail 27 = .ok (.getfield 73, 3) := by decide +kernel
theorem dX4_handDownFail_30 : decode cX4_handDownFail 30 = .ok (.lload_n 2, 1) := by decide +kernel
theorem dX4_handDownFail_31 : decode cX4_handDownFail 31 = .ok (.lload 4, 2) := by decide +kernel
theorem dX4_handDownFail_33 : decode cX4_handDownFail 33 = .ok (.lor, 1) := by decide +kernel
theorem dX4_handDownFail_34 : decode cX4_handDownFail 34 = .ok (.lor, 1) := by decide +kernel
theorem dX4_handDownFail_35 : decode cX4_handDownFail 35 = .ok (.putfield 73, 3) := by decide +kernel
theorem dX4_handDownFail_38 : decode cX4_handDownFail 38 = .ok (.goto 50, 3) := by decide +kernel
theorem dX4_handDownFail_41 : decode cX4_handDownFail 41 = .ok (.aload_n 0, 1) := by decide +kernel
theorem dX4_handDownFail_42 : decode cX4_handDownFail 42 = .ok (.getfield 92, 3) := by decide +kernel
theorem dX4_handDownFail_45 : decode cX4_handDownFail 45 = .ok (.lload_n 2, 1) := by decide +kernel
theorem dX4_handDownFail_46 : decode cX4_handDownFail 46 = .ok (.land, 1) := by decide +kernel
theorem dX4_handDownFail_47 : decode cX4_handDownFail 47 = .ok (.lconst 0, 1) := by decide +kernel
theorem dX4_handDownFail_48 : decode cX4_handDownFail 48 = .ok (.lcmp, 1) := by decide +kernel
theorem dX4_handDownFail_49 : decode cX4_handDownFail 49 = .ok (.ifCond .ne 17, 3) := by decide +kernel
theorem dX4_handDownFail_52 : decode cX4_handDownFail 52 = .ok (.aload_n 0, 1) := by decide +kernel
theorem dX4_handDownFail_53 : decode cX4_handDownFail 53 = .ok (.dup, 1) := by decide +kernel
theorem dX4_handDownFail_54 : decode cX4_handDownFail 54 = .ok (.getfield 73, 3) := by decide +kernel
theorem dX4_handDownFail_57 : decode cX4_handDownFail 57 = .ok (.lload 4, 2) := by decide +kernel
theorem dX4_handDownFail_59 : decode cX4_handDownFail 59 = .ok (.lor, 1) := by decide +kernel
theorem dX4_handDownFail_60 : decode cX4_handDownFail 60 = .ok (.putfield 73, 3) := by decide +kernel
theorem dX4_handDownFail_63 : decode cX4_handDownFail 63 = .ok (.goto 25, 3) := by decide +kernel
theorem dX4_handDownFail_66 : decode cX4_handDownFail 66 = .ok (.aload_n 0, 1) := by decide +kernel
theorem dX4_handDownFail_67 : decode cX4_handDownFail 67 = .ok (.getfield 92, 3) := by decide +kernel
theorem dX4_handDownFail_70 : decode cX4_handDownFail 70 = .ok (.lload 4, 2) := by decide +kernel
theorem dX4_handDownFail_72 : decode cX4_handDownFail 72 = .ok (.land, 1) := by decide +kernel
theorem dX4_handDownFail_73 : decode cX4_handDownFail 73 = .ok (.lconst 0, 1) := by decide +kernel
theorem dX4_handDownFail_74 : decode cX4_handDownFail 74 = .ok (.lcmp, 1) := by decide +kernel
theorem dX4_handDownFail_75 : decode cX4_handDownFail 75 = .ok (.ifCond .ne 13, 3) := by decide +kernel
theorem dX4_handDownFail_78 : decode cX4_handDownFail 78 = .ok (.aload_n 0, 1) := by decide +kernel
theorem dX4_handDownFail_79 : decode cX4_handDownFail 79 = .ok (.dup, 1) := by decide +kernel
theorem dX4_handDownFail_80 : decode cX4_handDownFail 80 = .ok (.getfield 73, 3) := by decide +kernel
theorem dX4_handDownFail_83 : decode cX4_handDownFail 83 = .ok (.lload_n 2, 1) := by decide +kernel
theorem dX4_handDownFail_84 : decode cX4_handDownFail 84 = .ok (.lor, 1) := by decide +kernel
theorem dX4_handDownFail_85 : decode cX4_handDownFail 85 = .ok (.putfield 73, 3) := by decide +kernel
theorem dX4_handDownFail_88 : decode cX4_handDownFail 88 = .ok (.return_, 1) := by decide +kernel
theorem dX4_lastOpen_0 : decode cX4_lastOpen 0 = .ok (.aload_n 0, 1) := by decide +kernel
theorem dX4_lastOpen_1 : decode cX4_lastOpen 1 = .ok (.getfield 58, 3) := by decide +kernel
theorem dX4_lastOpen_4 : decode cX4_lastOpen 4 = .ok (.iconst 1, 1) := by decide +kernel
theorem dX4_lastOpen_5 : decode cX4_lastOpen 5 = .ok (.isub, 1) := by decide +kernel
theorem dX4_lastOpen_6 : decode cX4_lastOpen 6 = .ok (.istore_n 1, 1) := by decide +kernel
theorem dX4_lastOpen_7 : decode cX4_lastOpen 7 = .ok (.iload_n 1, 1) := by decide +kernel
theorem dX4_lastOpen_8 : decode cX4_lastOpen 8 = .ok (.ifCond .lt 72, 3) := by decide +kernel
theorem dX4_lastOpen_11 : decode cX4_lastOpen 11 = .ok (.aload_n 0, 1) := by decide +kernel
theorem dX4_lastOpen_12 : decode cX4_lastOpen 12 = .ok (.getfield 18, 3) := by decide +kernel
theorem dX4_lastOpen_15 : decode cX4_lastOpen 15 = .ok (.iload_n 1, 1) := by decide +kernel
theorem dX4_lastOpen_16 : decode cX4_lastOpen 16 = .ok (.iaload, 1) := by decide +kernel
theorem dX4_lastOpen_17 : decode cX4_lastOpen 17 = .ok (.istore_n 2, 1) := by decide +kernel
theorem dX4_lastOpen_18 : decode cX4_lastOpen 18 = .ok (.aload_n 0, 1) := by decide +kernel
theorem dX4_lastOpen_19 : decode cX4_lastOpen 19 = .ok (.getfield 22, 3) := by decide +kernel
theorem dX4_lastOpen_22 : decode cX4_lastOpen 22 = .ok (.getfield 44, 3) := by decide +kernel
theorem dX4_lastOpen_25 : decode cX4_lastOpen 25 = .ok (.iload_n 2, 1) := by decide +kernel
theorem dX4_lastOpen_26 : decode cX4_lastOpen 26 = .ok (.caload, 1) := by decide +kernel
theorem dX4_lastOpen_27 : decode cX4_lastOpen 27 = .ok (.istore_n 3, 1) := by decide +kernel
theorem dX4_lastOpen_28 : decode cX4_lastOpen 28 = .ok (.iload_n 3, 1) := by decide +kernel
theorem dX4_lastOpen_29 : decode cX4_lastOpen 29 = .ok (.bipush 124, 2) := by decide +kernel
theorem dX4_lastOpen_31 : decode cX4_lastOpen 31 = .ok (.if_icmp .ne 19, 3) := by decide +kernel
theorem dX4_lastOpen_34 : decode cX4_lastOpen 34 = .ok (.aload_n 0, 1) := by decide +kernel
theorem dX4_lastOpen_35 : decode cX4_lastOpen 35 = .ok (.aload_n 0, 1) := by decide +kernel
theorem dX4_lastOpen_36 : decode cX4_lastOpen 36 = .ok (.getfield 69, 3) := by decide +kernel
theorem dX4_lastOpen_39 : decode cX4_lastOpen 39 = .ok (.aload_n 0, 1) := by decide +kernel
theorem dX4_lastOpen_40 : decode cX4_lastOpen 40 = .ok (.getfield 87, 3) := by decide +kernel
theorem dX4_lastOpen_43 : decode cX4_lastOpen 43 = .ok (.iload_n 2, 1) := by decide +kernel
theorem dX4_lastOpen_44 : decode cX4_lastOpen 44 = .ok (.invokevirtual 146, 3) := by decide +kernel
theorem dX4_lastOpen_47 : decode cX4_lastOpen 47 = .ok (.ifCond .ne 25, 3) := by decide +kernel
theorem dX4_lastOpen_50 : decode cX4_lastOpen 50 = .ok (.iload_n 3, 1) := by decide +kernel
theorem dX4_lastOpen_51 : decode cX4_lastOpen 51 = .ok (.bipush 38, 2) := by decide +kernel
theorem dX4_lastOpen_53 : decode cX4_lastOpen 53 = .ok (.if_icmp .ne 21, 3) := by decide +kernel
theorem dX4_lastOpen_56 : decode cX4_lastOpen 56 = .ok (.aload_n 0, 1) := by decide +kernel
theorem dX4_lastOpen_57 : decode cX4_lastOpen 57 = .ok (.aload_n 0, 1) := by decide +kernel
theorem dX4_lastOpen_58 : decode cX4_lastOpen 58 = .ok (.getfield 73, 3) := by decide +kernel
theorem dX4_lastOpen_61 : decode cX4_lastOpen 61 = .ok (.aload_n 0, 1) := by decide +kernel
theorem dX4_lastOpen_62 : decode cX4_lastOpen 62 = .ok (.getfield 95, 3) := by decide +kernel
theorem dX4_lastOpen_65 : decode cX4_lastOpen 65 = .ok (.iload_n 2, 1) := by decide +kernel
theorem dX4_lastOpen_66 : decode cX4_lastOpen 66 = .ok (.invokevirtual 146, 3) := by decide +kernel
theorem dX4_lastOpen_69 : decode cX4_lastOpen 69 = .ok (.ifCond .eq 5, 3) := by decide +kernel
theorem dX4_lastOpen_72 : decode cX4_lastOpen 72 = .ok (.iload_n 2, 1) := by decide +kernel
theorem dX4_lastOpen_73 : decode cX4_lastOpen 73 = .ok (.ireturn, 1) := by decide +kernel
theorem dX4_lastOpen_74 : decode cX4_lastOpen 74 = .ok (.iinc 1 (-1), 3) := by decide +kernel
theorem dX4_lastOpen_77 : decode cX4_lastOpen 77 = .ok (.goto (-70), 3) := by decide +kernel
theorem dX4_lastOpen_80 : decode cX4_lastOpen 80 = .ok (.iconst (-1), 1) := by decide +kernel
theorem dX4_lastOpen_81 : decode cX4_lastOpen 81 = .ok (.ireturn, 1) := by decide +kernel
theorem dX4_isOpen_0 : decode cX4_isOpen 0 = .ok (.lload_n 1, 1) := by decide +kernel
theorem dX4_isOpen_1 : decode cX4_isOpen 1 = .ok (.lload_n 3, 1) := by decide +kernel
theorem dX4_isOpen_2 : decode cX4_isOpen 2 = .ok (.ldc2_w 90, 3) := by decide +kernel
theorem dX4_isOpen_5 : decode cX4_isOpen 5 = .ok (.lxor, 1) := by decide +kernel
theorem dX4_isOpen_6 : decode cX4_isOpen 6 = .ok (.land, 1) := by decide +kernel
theorem dX4_isOpen_7 : decode cX4_isOpen 7 = .ok (.iload 5, 2) := by decide +kernel
theorem dX4_isOpen_9 : decode cX4_isOpen 9 = .ok (.invokestatic 38, 3) := by decide +kernel
theorem dX4_isOpen_12 : decode cX4_isOpen 12 = .ok (.ifCond .eq 34, 3) := by decide +kernel
theorem dX4_isOpen_15 : decode cX4_isOpen 15 = .ok (.lload_n 1, 1) := by decide +kernel
theorem dX4_isOpen_16 : decode cX4_isOpen 16 = .ok (.aload_n 0, 1) := by decide +kernel
theorem dX4_isOpen_17 : decode cX4_isOpen 17 = .ok (.getfield 22, 3) := by decide +kernel
theorem dX4_isOpen_20 : decode cX4_isOpen 20 = .ok (.getfield 52, 3) := by decide +kernel
theorem dX4_isOpen_23 : decode cX4_isOpen 23 = .ok (.iload 5, 2) := by decide +kernel
theorem dX4_isOpen_25 : decode cX4_isOpen 25 = .ok (.iaload, 1) := by decide +kernel
theorem dX4_isOpen_26 : decode cX4_isOpen 26 = .ok (.aload_n 0, 1) := by decide +kernel
theorem dX4_isOpen_27 : decode cX4_isOpen 27 = .ok (.getfield 22, 3) := by decide +kernel
theorem dX4_isOpen_30 : decode cX4_isOpen 30 = .ok (.getfield 55, 3) := by decide +kernel
theorem dX4_isOpen_33 : decode cX4_isOpen 33 = .ok (.iload 5, 2) := by decide +kernel
theorem dX4_isOpen_35 : decode cX4_isOpen 35 = .ok (.iaload, 1) := by decide +kernel
theorem dX4_isOpen_36 : decode cX4_isOpen 36 = .ok (.invokestatic 127, 3) := by decide +kernel
theorem dX4_isOpen_39 : decode cX4_isOpen 39 = .ok (.ifCond .ne 7, 3) := by decide +kernel
theorem dX4_isOpen_42 : decode cX4_isOpen 42 = .ok (.iconst 1, 1) := by decide +kernel
theorem dX4_isOpen_43 : decode cX4_isOpen 43 = .ok (.goto 4, 3) := by decide +kernel
theorem dX4_isOpen_46 : decode cX4_isOpen 46 = .ok (.iconst 0, 1) := by decide +kernel
theorem dX4_isOpen_47 : decode cX4_isOpen 47 = .ok (.ireturn, 1) := by decide +kernel
theorem dX5_init_0 : decode cX5_init 0 = .ok (.aload_n 0, 1) := by decide +kernel
theorem dX5_init_1 : decode cX5_init 1 = .ok (.invokespecial 3, 3) := by decide +kernel
theorem dX5_init_4 : decode cX5_init 4 = .ok (.aload_n 0, 1) := by decide +kernel
theorem dX5_init_5 : decode cX5_init 5 = .ok (.sipush 200, 3) := by decide +kernel
theorem dX5_init_8 : decode cX5_init 8 = .ok (.newarray .int, 2) := by decide +kernel
theorem dX5_init_10 : decode cX5_init 10 = .ok (.putfield 11, 3) := by decide +kernel
theorem dX5_init_13 : decode cX5_init 13 = .ok (.aload_n 0, 1) := by decide +kernel
theorem dX5_init_14 : decode cX5_init 14 = .ok (.bipush 8, 2) := by decide +kernel
theorem dX5_init_16 : decode cX5_init 16 = .ok (.newarray .int, 2) := by decide +kernel
theorem dX5_init_18 : decode cX5_init 18 = .ok (.putfield 15, 3) := by decide +kernel
theorem dX5_init_21 : decode cX5_init 21 = .ok (.return_, 1) := by decide +kernel
theorem dX5_reset_0 : decode cX5_reset 0 = .ok (.aload_n 0, 1) := by decide +kernel
theorem dX5_reset_1 : decode cX5_reset 1 = .ok (.iconst (-1), 1) := by decide +kernel
theorem dX5_reset_2 : decode cX5_reset 2 = .ok (.putfield 18, 3) := by decide +kernel
theorem dX5_reset_5 : decode cX5_reset 5 = .ok (.aload_n 0, 1) := by decide +kernel
theorem dX5_reset_6 : decode cX5_reset 6 = .ok (.iconst 0, 1) := by decide +kernel
theorem dX5_reset_7 : decode cX5_reset 7 = .ok (.putfield 22, 3) := by decide +kernel
theorem dX5_reset_10 : decode cX5_reset 10 = .ok (.aload_n 0, 1) := by decide +kernel
theorem dX5_reset_11 : decode cX5_reset 11 = .ok (.iconst 0, 1) := by decide +kernel
theorem dX5_reset_12 : decode cX5_reset 12 = .ok (.putfield 25, 3) := by decide +kernel
theorem dX5_reset_15 : decode cX5_reset 15 = .ok (.aload_n 0, 1) := by decide +kernel
theorem dX5_reset_16 : decode cX5_reset 16 = .ok (.iconst 0, 1) := by decide +kernel
theorem dX5_reset_17 : decode cX5_reset 17 = .ok (.putfield 28, 3) := by decide +kernel
theorem dX5_reset_20 : decode cX5_reset 20 = .ok (.aload_n 0, 1) := by decide +kernel
theorem dX5_reset_21 : decode cX5_reset 21 = .ok (.iconst 0, 1) := by decide +kernel
theorem dX5_reset_22 : decode cX5_reset 22 = .ok (.putfield 31, 3) := by decide +kernel
theorem dX5_reset_25 : decode cX5_reset 25 = .ok (.aload_n 0, 1) := by decide +kernel
theorem dX5_reset_26 : decode cX5_reset 26 = .ok (.iconst 0, 1) := by decide +kernel
theorem dX5_reset_27 : decode cX5_reset 27 = .ok (.putfield 34, 3) := by decide +kernel
theorem dX5_reset_30 : decode cX5_reset 30 = .ok (.aload_n 0, 1) := by decide +kernel
theorem dX5_reset_31 : decode cX5_reset 31 = .ok (.iconst 0, 1) := by decide +kernel
theorem dX5_reset_32 : decode cX5_reset 32 = .ok (.putfield 37, 3) := by decide +kernel
theorem dX5_reset_35 : decode cX5_reset 35 = .ok (.aload_n 0, 1) := by decide +kernel
theorem dX5_reset_36 : decode cX5_reset 36 = .ok (.iconst 0, 1) := by decide +kernel
theorem dX5_reset_37 : decode cX5_reset 37 = .ok (.putfield 40, 3) := by decide +kernel
theorem dX5_reset_40 : decode cX5_reset 40 = .ok (.aload_n 0, 1) := by decide +kernel
theorem dX5_reset_41 : decode cX5_reset 41 = .ok (.iconst 0, 1) := by decide +kernel
theorem dX5_reset_42 : decode cX5_reset 42 = .ok (.putfield 43, 3) := by decide +kernel
theorem dX5_reset_45 : decode cX5_reset 45 = .ok (.aload_n 0, 1) := by decide +kernel
theorem dX5_reset_46 : decode cX5_reset 46 = .ok (.iconst 0, 1) := by decide +kernel
theorem dX5_reset_47 : decode cX5_reset 47 = .ok (.putfield 46, 3) := by decide +kernel
theorem dX5_reset_50 : decode cX5_reset 50 = .ok (.iconst 0, 1) := by decide +kernel
theorem dX5_reset_51 : decode cX5_reset 51 = .ok (.istore_n 1, 1) := by decide +kernel
theorem dX5_reset_52 : decode cX5_reset 52 = .ok (.iload_n 1, 1) := by decide +kernel
theorem dX5_reset_53 : decode cX5_reset 53 = .ok (.bipush 8, 2) := by decide +kernel
theorem dX5_reset_55 : decode cX5_reset 55 = .ok (.if_icmp .ge 16, 3) := by decide +kernel
theorem dX5_reset_58 : decode cX5_reset 58 = .ok (.aload_n 0, 1) := by decide +kernel
theorem dX5_reset_59 : decode cX5_reset 59 = .ok (.getfield 15, 3) := by decide +kernel
theorem dX5_reset_62 : decode cX5_reset 62 = .ok (.iload_n 1, 1) := by decide +kernel
theorem dX5_reset_63 : decode cX5_reset 63 = .ok (.iconst 0, 1) := by decide +kernel
theorem dX5_reset_64 : decode cX5_reset 64 = .ok (.iastore, 1) := by decide +kernel
theorem dX5_reset_65 : decode cX5_reset 65 = .ok (.iinc 1 1, 3) := by decide +kernel
theorem dX5_reset_68 : decode cX5_reset 68 = .ok (.goto (-16), 3) := by decide +kernel
theorem dX5_reset_71 : decode cX5_reset 71 = .ok (.return_, 1) := by decide +kernel
theorem dX5_isPlaced_0 : decode cX5_isPlaced 0 = .ok (.aload_n 0, 1) := by decide +kernel
theorem dX5_isPlaced_1 : decode cX5_isPlaced 1 = .ok (.getfield 18, 3) := by decide +kernel
theorem dX5_isPlaced_4 : decode cX5_isPlaced 4 = .ok (.iconst (-1), 1) := by decide +kernel
theorem dX5_isPlaced_5 : decode cX5_isPlaced 5 = .ok (.if_icmp .eq 7, 3) := by decide +kernel
theorem dX5_isPlaced_8 : decode cX5_isPlaced 8 = .ok (.iconst 1, 1) := by decide +kernel
theorem dX5_isPlaced_9 : decode cX5_isPlaced 9 = .ok (.goto 4, 3) := by decide +kernel
theorem dX5_isPlaced_12 : decode cX5_isPlaced 12 = .ok (.iconst 0, 1) := by decide +kernel
theorem dX5_isPlaced_13 : decode cX5_isPlaced 13 = .ok (.ireturn, 1) := by decide +kernel
theorem dX6_init_0 : decode cX6_init 0 = .ok (.aload_n 0, 1) := by decide +kernel
theorem dX6_init_1 : decode cX6_init 1 = .ok (.invokespecial 3, 3) := by decide +kernel
theorem dX6_init_4 : decode cX6_init 4 = .ok (.aload_n 0, 1) := by decide +kernel
theorem dX6_init_5 : decode cX6_init 5 = .ok (.iconst 5, 1) := by decide +kernel
theorem dX6_init_6 : decode cX6_init 6 = .ok (.newarray .char, 2) := by decide +kernel
theorem dX6_init_8 : decode cX6_init 8 = .ok (.putfield 11, 3) := by decide +kernel
theorem dX6_init_11 : decode cX6_init 11 = .ok (.aload_n 0, 1) := by decide +kernel
theorem dX6_init_12 : decode cX6_init 12 = .ok (.iconst 5, 1) := by decide +kernel
theorem dX6_init_13 : decode cX6_init 13 = .ok (.newarray .int, 2) := by decide +kernel
theorem dX6_init_15 : decode cX6_init 15 = .ok (.putfield 15, 3) := by decide +kernel
theorem dX6_init_18 : decode cX6_init 18 = .ok (.return_, 1) := by decide +kernel
theorem dX6_allows_0 : decode cX6_allows 0 = .ok (.iload_n 0, 1) := by decide +kernel
theorem dX6_allows_1 : decode cX6_allows 1 = .ok (.lookupswitch 144 #[(70, 123), (83, 107), (85, 123), (99, 109), (105, 138), (107, 107), (109, 109), (114, 107), (115, 107), (118, 130), (119, 116), (120, 107)], 107) := by decide +kernel
theorem dX6_allows_108 : decode cX6_allows 108 = .ok (.iconst 1, 1) := by decide +kernel
theorem dX6_allows_109 : decode cX6_allows 109 = .ok (.ireturn, 1) := by decide +kernel
theorem dX6_allows_110 : decode cX6_allows 110 = .ok (.iload_n 1, 1) := by decide +kernel
theorem dX6_allows_111 : decode cX6_allows 111 = .ok (.bipush 8, 2) := by decide +kernel
theorem dX6_allows_113 : decode cX6_allows 113 = .ok (.invokestatic 19, 3) := by decide +kernel
theorem dX6_allows_116 : decode cX6_allows 116 = .ok (.ireturn, 1) := by decide +kernel
theorem dX6_allows_117 : decode cX6_allows 117 = .ok (.iload_n 1, 1) := by decide +kernel
theorem dX6_allows_118 : decode cX6_allows 118 = .ok (.bipush 10, 2) := by decide +kernel
theorem dX6_allows_120 : decode cX6_allows 120 = .ok (.invokestatic 19, 3) := by decide +kernel
theorem dX6_allows_123 : decode cX6_allows 123 = .ok (.ireturn, 1) := by decide +kernel
theorem dX6_allows_124 : decode cX6_allows 124 = .ok (.iload_n 1, 1) := by decide +kernel
theorem dX6_allows_125 : decode cX6_allows 125 = .ok (.bipush 8, 2) := by decide +kernel
theorem dX6_allows_127 : decode cX6_allows 127 = .ok (.invokestatic 19, 3) := by decide +kernel
theorem dX6_allows_130 : decode cX6_allows 130 = .ok (.ireturn, 1) := by decide +kernel
theorem dX6_allows_131 : decode cX6_allows 131 = .ok (.iload_n 1, 1) := by decide +kernel
theorem dX6_allows_132 : decode cX6_allows 132 = .ok (.iconst 1, 1) := by decide +kernel
theorem dX6_allows_133 : decode cX6_allows 133 = .ok (.bipush 30, 2) := by decide +kernel
theorem dX6_allows_135 : decode cX6_allows 135 = .ok (.invokestatic 23, 3) := by decide +kernel
theorem dX6_allows_138 : decode cX6_allows 138 = .ok (.ireturn, 1) := by decide +kernel
theorem dX6_allows_139 : decode cX6_allows 139 = .ok (.iload_n 1, 1) := by decide +kernel
theorem dX6_allows_140 : decode cX6_allows 140 = .ok (.iconst 4, 1) := by decide +kernel
theorem dX6_allows_141 : decode cX6_allows 141 = .ok (.invokestatic 19, 3) := by decide +kernel
theorem dX6_allows_144 : decode cX6_allows 144 = .ok (.ireturn, 1) := by decide +kernel
theorem dX6_allows_145 : decode cX6_allows 145 = .ok (.iconst 0, 1) := by decide +kernel
theorem dX6_allows_146 : decode cX6_allows 146 = .ok (.ireturn, 1) := by decide +kernel
theorem dX6_append_0 : decode cX6_append 0 = .ok (.aload_n 0, 1) := by decide +kernel
theorem dX6_append_1 : decode cX6_append 1 = .ok (.getfield 11, 3) := by decide +kernel
theorem dX6_append_4 : decode cX6_append 4 = .ok (.aload_n 0, 1) := by decide +kernel
theorem dX6_append_5 : decode cX6_append 5 = .ok (.getfield 27, 3) := by decide +kernel
theorem dX6_append_8 : decode cX6_append 8 = .ok (.iload_n 1, 1) := by decide +kernel
theorem dX6_append_9 : decode cX6_append 9 = .ok (.castore, 1) := by decide +kernel
theorem dX6_append_10 : decode cX6_append 10 = .ok (.aload_n 0, 1) := by decide +kernel
theorem dX6_append_11 : decode cX6_append 11 = .ok (.getfield 15, 3) := by decide +kernel
theorem dX6_append_14 : decode cX6_append 14 = .ok (.aload_n 0, 1) := by decide +kernel
theorem dX6_append_15 : decode cX6_append 15 = .ok (.getfield 27, 3) := by decide +kernel
theorem dX6_append_18 : decode cX6_append 18 = .ok (.iload_n 2, 1) := by decide +kernel
theorem dX6_append_19 : decode cX6_append 19 = .ok (.iastore, 1) := by decide +kernel
theorem dX6_append_20 : decode cX6_append 20 = .ok (.aload_n 0, 1) := by decide +kernel
theorem dX6_append_21 : decode cX6_append 21 = .ok (.dup, 1) := by decide +kernel
theorem dX6_append_22 : decode cX6_append 22 = .ok (.getfield 27, 3) := by decide +kernel
theorem dX6_append_25 : decode cX6_append 25 = .ok (.iconst 1, 1) := by decide +kernel
theorem dX6_append_26 : decode cX6_append 26 = .ok (.iadd, 1) := by decide +kernel
theorem dX6_append_27 : decode cX6_append 27 = .ok (.putfield 27, 3) := by decide +kernel
theorem dX6_append_30 : decode cX6_append 30 = .ok (.aload_n 0, 1) := by decide +kernel
theorem dX6_append_31 : decode cX6_append 31 = .ok (.getfield 27, 3) := by decide +kernel
theorem dX6_append_34 : decode cX6_append 34 = .ok (.ireturn, 1) := by decide +kernel
theorem dX6_endsScript_0 : decode cX6_endsScript 0 = .ok (.iconst 0, 1) := by decide +kernel
theorem dX6_endsScript_1 : decode cX6_endsScript 1 = .ok (.istore_n 1, 1) := by decide +kernel
theorem dX6_endsScript_2 : decode cX6_endsScript 2 = .ok (.iload_n 1, 1) := by decide +kernel
theorem dX6_endsScript_3 : decode cX6_endsScript 3 = .ok (.aload_n 0, 1) := by decide +kernel
theorem dX6_endsScript_4 : decode cX6_endsScript 4 = .ok (.getfield 27, 3) := by decide +kernel
theorem dX6_endsScript_7 : decode cX6_endsScript 7 = .ok (.if_icmp .ge 33, 3) := by decide +kernel
theorem dX6_endsScript_10 : decode cX6_endsScript 10 = .ok (.aload_n 0, 1) := by decide +kernel
theorem dX6_endsScript_11 : decode cX6_endsScript 11 = .ok (.getfield 11, 3) := by decide +kernel
theorem dX6_endsScript_14 : decode cX6_endsScript 14 = .ok (.iload_n 1, 1) := by decide +kernel
theorem dX6_endsScript_15 : decode cX6_endsScript 15 = .ok (.caload, 1) := by decide +kernel
theorem dX6_endsScript_16 : decode cX6_endsScript 16 = .ok (.bipush 115, 2) := by decide +kernel
theorem dX6_endsScript_18 : decode cX6_endsScript 18 = .ok (.if_icmp .eq 14, 3) := by decide +kernel
theorem dX6_endsScript_21 : decode cX6_endsScript 21 = .ok (.aload_n 0, 1) := by decide +kernel
theorem dX6_endsScript_22 : decode cX6_endsScript 22 = .ok (.getfield 11, 3) := by decide +kernel
theorem dX6_endsScript_25 : decode cX6_endsScript 25 = .ok (.iload_n 1, 1) := by decide +kernel
theorem dX6_endsScript_26 : decode cX6_endsScript 26 = .ok (.caload, 1) := by decide +kernel
theorem dX6_endsScript_27 : decode cX6_endsScript 27 = .ok (.bipush 83, 2) := by decide +kernel
theorem dX6_endsScript_29 : decode cX6_endsScript 29 = .ok (.if_icmp .ne 5, 3) := by decide +kernel
theorem dX6_endsScript_32 : decode cX6_endsScript 32 = .ok (.iconst 1, 1) := by decide +kernel
theorem dX6_endsScript_33 : decode cX6_endsScript 33 = .ok (.ireturn, 1) := by decide +kernel
theorem dX6_endsScript_34 : decode cX6_endsScript 34 = .ok (.iinc 1 1, 3) := by decide +kernel
theorem dX6_endsScript_37 : decode cX6_endsScript 37 = .ok (.goto (-35), 3) := by decide +kernel
theorem dX6_endsScript_40 : decode cX6_endsScript 40 = .ok (.iconst 0, 1) := by decide +kernel
theorem dX6_endsScript_41 : decode cX6_endsScript 41 = .ok (.ireturn, 1) := by decide +kernel
theorem dX7_init_0 : decode cX7_init 0 = .ok (.aload_n 0, 1) := by decide +kernel
theorem dX7_init_1 : decode cX7_init 1 = .ok (.invokespecial 1, 3) := by decide +kernel
theorem dX7_init_4 : decode cX7_init 4 = .ok (.aload_n 0, 1) := by decide +kernel
theorem dX7_init_5 : decode cX7_init 5 = .ok (.bipush 12, 2) := by decide +kernel
theorem dX7_init_7 : decode cX7_init 7 = .ok (.anewarray 9, 3) := by decide +kernel
theorem dX7_init_10 : decode cX7_init 10 = .ok (.putfield 11, 3) := by decide +kernel
theorem dX7_init_13 : decode cX7_init 13 = .ok (.iconst 0, 1) := by decide +kernel
theorem dX7_init_14 : decode cX7_init 14 = .ok (.istore_n 1, 1) := by decide +kernel
theorem dX7_init_15 : decode cX7_init 15 = .ok (.iload_n 1, 1) := by decide +kernel
theorem dX7_init_16 : decode cX7_init 16 = .ok (.bipush 12, 2) := by decide +kernel
theorem dX7_init_18 : decode cX7_init 18 = .ok (.if_icmp .ge 22, 3) := by decide +kernel
theorem dX7_init_21 : decode cX7_init 21 = .ok (.aload_n 0, 1) := by decide +kernel
theorem dX7_init_22 : decode cX7_init 22 = .ok (.getfield 11, 3) := by decide +kernel
theorem dX7_init_25 : decode cX7_init 25 = .ok (.iload_n 1, 1) := by decide +kernel
theorem dX7_init_26 : decode cX7_init 26 = .ok (.new 9, 3) := by decide +kernel
theorem dX7_init_29 : decode cX7_init 29 = .ok (.dup, 1) := by decide +kernel
theorem dX7_init_30 : decode cX7_init 30 = .ok (.invokespecial 15, 3) := by decide +kernel
theorem dX7_init_33 : decode cX7_init 33 = .ok (.aastore, 1) := by decide +kernel
theorem dX7_init_34 : decode cX7_init 34 = .ok (.iinc 1 1, 3) := by decide +kernel
theorem dX7_init_37 : decode cX7_init 37 = .ok (.goto (-22), 3) := by decide +kernel
theorem dX7_init_40 : decode cX7_init 40 = .ok (.return_, 1) := by decide +kernel
theorem dX7_append_0 : decode cX7_append 0 = .ok (.aload_n 0, 1) := by decide +kernel
theorem dX7_append_1 : decode cX7_append 1 = .ok (.getfield 11, 3) := by decide +kernel
theorem dX7_append_4 : decode cX7_append 4 = .ok (.aload_n 0, 1) := by decide +kernel
theorem dX7_append_5 : decode cX7_append 5 = .ok (.getfield 16, 3) := by decide +kernel
theorem dX7_append_8 : decode cX7_append 8 = .ok (.aaload, 1) := by decide +kernel
theorem dX7_append_9 : decode cX7_append 9 = .ok (.astore_n 2, 1) := by decide +kernel
theorem dX7_append_10 : decode cX7_append 10 = .ok (.aload_n 2, 1) := by decide +kernel
theorem dX7_append_11 : decode cX7_append 11 = .ok (.iload_n 1, 1) := by decide +kernel
theorem dX7_append_12 : decode cX7_append 12 = .ok (.putfield 20, 3) := by decide +kernel
theorem dX7_append_15 : decode cX7_append 15 = .ok (.aload_n 2, 1) := by decide +kernel
theorem dX7_append_16 : decode cX7_append 16 = .ok (.iconst 0, 1) := by decide +kernel
theorem dX7_append_17 : decode cX7_append 17 = .ok (.putfield 23, 3) := by decide +kernel
theorem dX7_append_20 : decode cX7_append 20 = .ok (.aload_n 0, 1) := by decide +kernel
theorem dX7_append_21 : decode cX7_append 21 = .ok (.dup, 1) := by decide +kernel
theorem dX7_append_22 : decode cX7_append 22 = .ok (.getfield 16, 3) := by decide +kernel
theorem dX7_append_25 : decode cX7_append 25 = .ok (.iconst 1, 1) := by decide +kernel
theorem dX7_append_26 : decode cX7_append 26 = .ok (.iadd, 1) := by decide +kernel
theorem dX7_append_27 : decode cX7_append 27 = .ok (.putfield 16, 3) := by decide +kernel
theorem dX7_append_30 : decode cX7_append 30 = .ok (.aload_n 0, 1) := by decide +kernel
theorem dX7_append_31 : decode cX7_append 31 = .ok (.getfield 16, 3) := by decide +kernel
theorem dX7_append_34 : decode cX7_append 34 = .ok (.iconst 1, 1) := by decide +kernel
theorem dX7_append_35 : decode cX7_append 35 = .ok (.isub, 1) := by decide +kernel
theorem dX7_append_36 : decode cX7_append 36 = .ok (.ireturn, 1) := by decide +kernel
theorem dX7_shift_0 : decode cX7_shift 0 = .ok (.aload_n 0, 1) := by decide +kernel
theorem dX7_shift_1 : decode cX7_shift 1 = .ok (.getfield 11, 3) := by decide +kernel
theorem dX7_shift_4 : decode cX7_shift 4 = .ok (.iload_n 1, 1) := by decide +kernel
theorem dX7_shift_5 : decode cX7_shift 5 = .ok (.aaload, 1) := by decide +kernel
theorem dX7_shift_6 : decode cX7_shift 6 = .ok (.astore_n 3, 1) := by decide +kernel
theorem dX7_shift_7 : decode cX7_shift 7 = .ok (.iload_n 1, 1) := by decide +kernel
theorem dX7_shift_8 : decode cX7_shift 8 = .ok (.istore 4, 2) := by decide +kernel
theorem dX7_shift_10 : decode cX7_shift 10 = .ok (.iload 4, 2) := by decide +kernel
theorem dX7_shift_12 : decode cX7_shift 12 = .ok (.iload_n 2, 1) := by decide +kernel
theorem dX7_shift_13 : decode cX7_shift 13 = .ok (.if_icmp .ge 25, 3) := by decide +kernel
theorem dX7_shift_16 : decode cX7_shift 16 = .ok (.aload_n 0, 1) := by decide +kernel
theorem dX7_shift_17 : decode cX7_shift 17 = .ok (.getfield 11, 3) := by decide +kernel
theorem dX7_shift_20 : decode cX7_shift 20 = .ok (.iload 4, 2) := by decide +kernel
theorem dX7_shift_22 : decode cX7_shift 22 = .ok (.aload_n 0, 1) := by decide +kernel
theorem dX7_shift_23 : decode cX7_shift 23 = .ok (.getfield 11, 3) := by decide +kernel
theorem dX7_shift_26 : decode cX7_shift 26 = .ok (.iload 4, 2) := by decide +kernel
theorem dX7_shift_28 : decode cX7_shift 28 = .ok (.iconst 1, 1) := by decide +kernel
theorem dX7_shift_29 : decode cX7_shift 29 = .ok (.iadd, 1) := by decide +kernel
theorem dX7_shift_30 : decode cX7_shift 30 = .ok (.aaload, 1) := by decide +kernel
theorem dX7_shift_31 : decode cX7_shift 31 = .ok (.aastore, 1) := by decide +kernel
theorem dX7_shift_32 : decode cX7_shift 32 = .ok (.iinc 4 1, 3) := by decide +kernel
theorem dX7_shift_35 : decode cX7_shift 35 = .ok (.goto (-25), 3) := by decide +kernel
theorem dX7_shift_38 : decode cX7_shift 38 = .ok (.iload_n 1, 1) := by decide +kernel
theorem dX7_shift_39 : decode cX7_shift 39 = .ok (.istore 4, 2) := by decide +kernel
theorem dX7_shift_41 : decode cX7_shift 41 = .ok (.iload 4, 2) := by decide +kernel
theorem dX7_shift_43 : decode cX7_shift 43 = .ok (.iload_n 2, 1) := by decide +kernel
theorem dX7_shift_44 : decode cX7_shift 44 = .ok (.if_icmp .le 25, 3) := by decide +kernel
theorem dX7_shift_47 : decode cX7_shift 47 = .ok (.aload_n 0, 1) := by decide +kernel
theorem dX7_shift_48 : decode cX7_shift 48 = .ok (.getfield 11, 3) := by decide +kernel
theorem dX7_shift_51 : decode cX7_shift 51 = .ok (.iload 4, 2) := by decide +kernel
theorem dX7_shift_53 : decode cX7_shift 53 = .ok (.aload_n 0, 1) := by decide +kernel
theorem dX7_shift_54 : decode cX7_shift 54 = .ok (.getfield 11, 3) := by decide +kernel
theorem dX7_shift_57 : decode cX7_shift 57 = .ok (.iload 4, 2) := by decide +kernel
theorem dX7_shift_59 : decode cX7_shift 59 = .ok (.iconst 1, 1) := by decide +kernel
theorem dX7_shift_60 : decode cX7_shift 60 = .ok (.isub, 1) := by decide +kernel
theorem dX7_shift_61 : decode cX7_shift 61 = .ok (.aaload, 1) := by decide +kernel
theorem dX7_shift_62 : decode cX7_shift 62 = .ok (.aastore, 1) := by decide +kernel
theorem dX7_shift_63 : decode cX7_shift 63 = .ok (.iinc 4 (-1), 3) := by decide +kernel
theorem dX7_shift_66 : decode cX7_shift 66 = .ok (.goto (-25), 3) := by decide +kernel
theorem dX7_shift_69 : decode cX7_shift 69 = .ok (.aload_n 0, 1) := by decide +kernel
theorem dX7_shift_70 : decode cX7_shift 70 = .ok (.getfield 11, 3) := by decide +kernel
theorem dX7_shift_73 : decode cX7_shift 73 = .ok (.iload_n 2, 1) := by decide +kernel
theorem dX7_shift_74 : decode cX7_shift 74 = .ok (.aload_n 3, 1) := by decide +kernel
theorem dX7_shift_75 : decode cX7_shift 75 = .ok (.aastore, 1) := by decide +kernel
theorem dX7_shift_76 : decode cX7_shift 76 = .ok (.return_, 1) := by decide +kernel
theorem dX8_init_0 : decode cX8_init 0 = .ok (.aload_n 0, 1) := by decide +kernel
theorem dX8_init_1 : decode cX8_init 1 = .ok (.invokespecial 3, 3) := by decide +kernel
theorem dX8_init_4 : decode cX8_init 4 = .ok (.return_, 1) := by decide +kernel
theorem dX8_blank_0 : decode cX8_blank 0 = .ok (.aload_n 0, 1) := by decide +kernel
theorem dX8_blank_1 : decode cX8_blank 1 = .ok (.sipush 1023, 3) := by decide +kernel
theorem dX8_blank_4 : decode cX8_blank 4 = .ok (.putfield 9, 3) := by decide +kernel
theorem dX8_blank_7 : decode cX8_blank 7 = .ok (.aload_n 0, 1) := by decide +kernel
theorem dX8_blank_8 : decode cX8_blank 8 = .ok (.bipush 127, 2) := by decide +kernel
theorem dX8_blank_10 : decode cX8_blank 10 = .ok (.putfield 15, 3) := by decide +kernel
theorem dX8_blank_13 : decode cX8_blank 13 = .ok (.aload_n 0, 1) := by decide +kernel
theorem dX8_blank_14 : decode cX8_blank 14 = .ok (.iconst 1, 1) := by decide +kernel
theorem dX8_blank_15 : decode cX8_blank 15 = .ok (.putfield 18, 3) := by decide +kernel
theorem dX8_blank_18 : decode cX8_blank 18 = .ok (.aload_n 0, 1) := by decide +kernel
theorem dX8_blank_19 : decode cX8_blank 19 = .ok (.sipush 999, 3) := by decide +kernel
theorem dX8_blank_22 : decode cX8_blank 22 = .ok (.putfield 21, 3) := by decide +kernel
theorem dX8_blank_25 : decode cX8_blank 25 = .ok (.aload_n 0, 1) := by decide +kernel
theorem dX8_blank_26 : decode cX8_blank 26 = .ok (.iconst 0, 1) := by decide +kernel
theorem dX8_blank_27 : decode cX8_blank 27 = .ok (.putfield 24, 3) := by decide +kernel
theorem dX8_blank_30 : decode cX8_blank 30 = .ok (.aload_n 0, 1) := by decide +kernel
theorem dX8_blank_31 : decode cX8_blank 31 = .ok (.iconst 0, 1) := by decide +kernel
theorem dX8_blank_32 : decode cX8_blank 32 = .ok (.putfield 27, 3) := by decide +kernel
theorem dX8_blank_35 : decode cX8_blank 35 = .ok (.aload_n 0, 1) := by decide +kernel
theorem dX8_blank_36 : decode cX8_blank 36 = .ok (.iconst 1, 1) := by decide +kernel
theorem dX8_blank_37 : decode cX8_blank 37 = .ok (.putfield 30, 3) := by decide +kernel
theorem dX8_blank_40 : decode cX8_blank 40 = .ok (.aload_n 0, 1) := by decide +kernel
theorem dX8_blank_41 : decode cX8_blank 41 = .ok (.bipush 10, 2) := by decide +kernel
theorem dX8_blank_43 : decode cX8_blank 43 = .ok (.putfield 33, 3) := by decide +kernel
theorem dX8_blank_46 : decode cX8_blank 46 = .ok (.aload_n 0, 1) := by decide +kernel
theorem dX8_blank_47 : decode cX8_blank 47 = .ok (.iconst 0, 1) := by decide +kernel
theorem dX8_blank_48 : decode cX8_blank 48 = .ok (.putfield 36, 3) := by decide +kernel
theorem dX8_blank_51 : decode cX8_blank 51 = .ok (.aload_n 0, 1) := by decide +kernel
theorem dX8_blank_52 : decode cX8_blank 52 = .ok (.iconst 0, 1) := by decide +kernel
theorem dX8_blank_53 : decode cX8_blank 53 = .ok (.putfield 39, 3) := by decide +kernel
theorem dX8_blank_56 : decode cX8_blank 56 = .ok (.aload_n 0, 1) := by decide +kernel
theorem dX8_blank_57 : decode cX8_blank 57 = .ok (.iconst 0, 1) := by decide +kernel
theorem dX8_blank_58 : decode cX8_blank 58 = .ok (.putfield 42, 3) := by decide +kernel
theorem dX8_blank_61 : decode cX8_blank 61 = .ok (.aload_n 0, 1) := by decide +kernel
theorem dX8_blank_62 : decode cX8_blank 62 = .ok (.iconst 0, 1) := by decide +kernel
theorem dX8_blank_63 : decode cX8_blank 63 = .ok (.putfield 45, 3) := by decide +kernel
theorem dX8_blank_66 : decode cX8_blank 66 = .ok (.return_, 1) := by decide +kernel
theorem dX8_addHolding_0 : decode cX8_addHolding 0 = .ok (.iload_n 1, 1) := by decide +kernel
theorem dX8_addHolding_1 : decode cX8_addHolding 1 = .ok (.tableswitch 222 98 122 #[160, 222, 192, 222, 115, 222, 222, 222, 222, 222, 222, 222, 207, 222, 222, 222, 222, 145, 130, 222, 222, 222, 222, 222, 175], 115) := by decide +kernel
theorem dX8_addHolding_116 : decode cX8_addHolding 116 = .ok (.aload_n 0, 1) := by decide +kernel
theorem dX8_addHolding_117 : decode cX8_addHolding 117 = .ok (.dup, 1) := by decide +kernel
theorem dX8_addHolding_118 : decode cX8_addHolding 118 = .ok (.getfield 9, 3) := by decide +kernel
theorem dX8_addHolding_121 : decode cX8_addHolding 121 = .ok (.iconst 1, 1) := by decide +kernel
theorem dX8_addHolding_122 : decode cX8_addHolding 122 = .ok (.iload_n 2, 1) := by decide +kernel
theorem dX8_addHolding_123 : decode cX8_addHolding 123 = .ok (.ishl, 1) := by decide +kernel
theorem dX8_addHolding_124 : decode cX8_addHolding 124 = .ok (.iand, 1) := by decide +kernel
theorem dX8_addHolding_125 : decode cX8_addHolding 125 = .ok (.putfield 9, 3) := by decide +kernel
theorem dX8_addHolding_128 : decode cX8_addHolding 128 = .ok (.goto 95, 3) := by decide +kernel
theorem dX8_addHolding_131 : decode cX8_addHolding 131 = .ok (.aload_n 0, 1) := by decide +kernel
theorem dX8_addHolding_132 : decode cX8_addHolding 132 = .ok (.dup, 1) := by decide +kernel
theorem dX8_addHolding_133 : decode cX8_addHolding 133 = .ok (.getfield 24, 3) := by decide +kernel
theorem dX8_addHolding_136 : decode cX8_addHolding 136 = .ok (.iconst 1, 1) := by decide +kernel
theorem dX8_addHolding_137 : decode cX8_addHolding 137 = .ok (.iload_n 2, 1) := by decide +kernel
theorem dX8_addHolding_138 : decode cX8_addHolding 138 = .ok (.ishl, 1) := by decide +kernel
theorem dX8_addHolding_139 : decode cX8_addHolding 139 = .ok (.ior, 1) := by decide +kernel
theorem dX8_addHolding_140 : decode cX8_addHolding 140 = .ok (.putfield 24, 3) := by decide +kernel
theorem dX8_addHolding_143 : decode cX8_addHolding 143 = .ok (.goto 80, 3) := by decide +kernel
theorem dX8_addHolding_146 : decode cX8_addHolding 146 = .ok (.aload_n 0, 1) := by decide +kernel
theorem dX8_addHolding_147 : decode cX8_addHolding 147 = .ok (.dup, 1) := by decide +kernel
theorem dX8_addHolding_148 : decode cX8_addHolding 148 = .ok (.getfield 36, 3) := by decide +kernel
theorem dX8_addHolding_151 : decode cX8_addHolding 151 = .ok (.iconst 1, 1) := by decide +kernel
theorem dX8_addHolding_152 : decode cX8_addHolding 152 = .ok (.iload_n 2, 1) := by decide +kernel
theorem dX8_addHolding_153 : decode cX8_addHolding 153 = .ok (.ishl, 1) := by decide +kernel
theorem dX8_addHolding_154 : decode cX8_addHolding 154 = .ok (.ior, 1) := by decide +kernel
theorem dX8_addHolding_155 : decode cX8_addHolding 155 = .ok (.putfield 36, 3) := by decide +kernel
theorem dX8_addHolding_158 : decode cX8_addHolding 158 = .ok (.goto 65, 3) := by decide +kernel
theorem dX8_addHolding_161 : decode cX8_addHolding 161 = .ok (.aload_n 0, 1) := by decide +kernel
theorem dX8_addHolding_162 : decode cX8_addHolding 162 = .ok (.dup, 1) := by decide +kernel
theorem dX8_addHolding_163 : decode cX8_addHolding 163 = .ok (.getfield 42, 3) := by decide +kernel
theorem dX8_addHolding_166 : decode cX8_addHolding 166 = .ok (.iconst 1, 1) := by decide +kernel
theorem dX8_addHolding_167 : decode cX8_addHolding 167 = .ok (.iload_n 2, 1) := by decide +kernel
theorem dX8_addHolding_168 : decode cX8_addHolding 168 = .ok (.ishl, 1) := by decide +kernel
theorem dX8_addHolding_169 : decode cX8_addHolding 169 = .ok (.ior, 1) := by decide +kernel
theorem dX8_addHolding_170 : decode cX8_addHolding 170 = .ok (.putfield 42, 3) := by decide +kernel
theorem dX8_addHolding_173 : decode cX8_addHolding 173 = .ok (.goto 50, 3) := by decide +kernel
theorem dX8_addHolding_176 : decode cX8_addHolding 176 = .ok (.aload_n 0, 1) := by decide +kernel
theorem dX8_addHolding_177 : decode cX8_addHolding 177 = .ok (.aload_n 0, 1) := by decide +kernel
theorem dX8_addHolding_178 : decode cX8_addHolding 178 = .ok (.getfield 18, 3) := by decide +kernel
theorem dX8_addHolding_181 : decode cX8_addHolding 181 = .ok (.iload_n 2, 1) := by decide +kernel
theorem dX8_addHolding_182 : decode cX8_addHolding 182 = .ok (.iconst 1, 1) := by decide +kernel
theorem dX8_addHolding_183 : decode cX8_addHolding 183 = .ok (.iadd, 1) := by decide +kernel
theorem dX8_addHolding_184 : decode cX8_addHolding 184 = .ok (.invokestatic 48, 3) := by decide +kernel
theorem dX8_addHolding_187 : decode cX8_addHolding 187 = .ok (.putfield 18, 3) := by decide +kernel
theorem dX8_addHolding_190 : decode cX8_addHolding 190 = .ok (.goto 33, 3) := by decide +kernel
theorem dX8_addHolding_193 : decode cX8_addHolding 193 = .ok (.aload_n 0, 1) := by decide +kernel
theorem dX8_addHolding_194 : decode cX8_addHolding 194 = .ok (.dup, 1) := by decide +kernel
theorem dX8_addHolding_195 : decode cX8_addHolding 195 = .ok (.getfield 15, 3) := by decide +kernel
theorem dX8_addHolding_198 : decode cX8_addHolding 198 = .ok (.iconst 1, 1) := by decide +kernel
theorem dX8_addHolding_199 : decode cX8_addHolding 199 = .ok (.iload_n 2, 1) := by decide +kernel
theorem dX8_addHolding_200 : decode cX8_addHolding 200 = .ok (.ishl, 1) := by decide +kernel
theorem dX8_addHolding_201 : decode cX8_addHolding 201 = .ok (.iand, 1) := by decide +kernel
theorem dX8_addHolding_202 : decode cX8_addHolding 202 = .ok (.putfield 15, 3) := by decide +kernel
theorem dX8_addHolding_205 : decode cX8_addHolding 205 = .ok (.goto 18, 3) := by decide +kernel
theorem dX8_addHolding_208 : decode cX8_addHolding 208 = .ok (.aload_n 0, 1) := by decide +kernel
theorem dX8_addHolding_209 : decode cX8_addHolding 209 = .ok (.aload_n 0, 1) := by decide +kernel
theorem dX8_addHolding_210 : decode cX8_addHolding 210 = .ok (.getfield 30, 3) := by decide +kernel
theorem dX8_addHolding_213 : decode cX8_addHolding 213 = .ok (.iload_n 2, 1) := by decide +kernel
theorem dX8_addHolding_214 : decode cX8_addHolding 214 = .ok (.invokestatic 48, 3) := by decide +kernel
theorem dX8_addHolding_217 : decode cX8_addHolding 217 = .ok (.putfield 30, 3) := by decide +kernel
theorem dX8_addHolding_220 : decode cX8_addHolding 220 = .ok (.goto 3, 3) := by decide +kernel
theorem dX8_addHolding_223 : decode cX8_addHolding 223 = .ok (.return_, 1) := by decide +kernel
theorem dX8_addFailing_0 : decode cX8_addFailing 0 = .ok (.iload_n 1, 1) := by decide +kernel
theorem dX8_addFailing_1 : decode cX8_addFailing 1 = .ok (.tableswitch 226 98 122 #[162, 226, 192, 226, 115, 226, 226, 226, 226, 226, 226, 226, 209, 226, 226, 226, 226, 147, 132, 226, 226, 226, 226, 226, 177], 115) := by decide +kernel
theorem dX8_addFailing_116 : decode cX8_addFailing 116 = .ok (.aload_n 0, 1) := by decide +kernel
theorem dX8_addFailing_117 : decode cX8_addFailing 117 = .ok (.dup, 1) := by decide +kernel
theorem dX8_addFailing_118 : decode cX8_addFailing 118 = .ok (.getfield 9, 3) := by decide +kernel
theorem dX8_addFailing_121 : decode cX8_addFailing 121 = .ok (.iconst 1, 1) := by decide +kernel
theorem dX8_addFailing_122 : decode cX8_addFailing 122 = .ok (.iload_n 2, 1) := by decide +kernel
theorem dX8_addFailing_123 : decode cX8_addFailing 123 = .ok (.ishl, 1) := by decide +kernel
theorem dX8_addFailing_124 : decode cX8_addFailing 124 = .ok (.iconst (-1), 1) := by decide +kernel
theorem dX8_addFailing_125 : decode cX8_addFailing 125 = .ok (.ixor, 1) := by decide +kernel
theorem dX8_addFailing_126 : decode cX8_addFailing 126 = .ok (.iand, 1) := by decide +kernel
theorem dX8_addFailing_127 : decode cX8_addFailing 127 = .ok (.putfield 9, 3) := by decide +kernel
theorem dX8_addFailing_130 : decode cX8_addFailing 130 = .ok (.goto 97, 3) := by decide +kernel
theorem dX8_addFailing_133 : decode cX8_addFailing 133 = .ok (.aload_n 0, 1) := by decide +kernel
theorem dX8_addFailing_134 : decode cX8_addFailing 134 = .ok (.dup, 1) := by decide +kernel
theorem dX8_addFailing_135 : decode cX8_addFailing 135 = .ok (.getfield 27, 3) := by decide +kernel
theorem dX8_addFailing_138 : decode cX8_addFailing 138 = .ok (.iconst 1, 1) := by decide +kernel
theorem dX8_addFailing_139 : decode cX8_addFailing 139 = .ok (.iload_n 2, 1) := by decide +kernel
theorem dX8_addFailing_140 : decode cX8_addFailing 140 = .ok (.ishl, 1) := by decide +kernel
theorem dX8_addFailing_141 : decode cX8_addFailing 141 = .ok (.ior, 1) := by decide +kernel
theorem dX8_addFailing_142 : decode cX8_addFailing 142 = .ok (.putfield 27, 3) := by decide +kernel
theorem dX8_addFailing_145 : decode cX8_addFailing 145 = .ok (.goto 82, 3) := by decide +kernel
theorem dX8_addFailing_148 : decode cX8_addFailing 148 = .ok (.aload_n 0, 1) := by decide +kernel
theorem dX8_addFailing_149 : decode cX8_addFailing 149 = .ok (.dup, 1) := by decide +kernel
theorem dX8_addFailing_150 : decode cX8_addFailing 150 = .ok (.getfield 39, 3) := by decide +kernel
theorem dX8_addFailing_153 : decode cX8_addFailing 153 = .ok (.iconst 1, 1) := by decide +kernel
theorem dX8_addFailing_154 : decode cX8_addFailing 154 = .ok (.iload_n 2, 1) := by decide +kernel
theorem dX8_addFailing_155 : decode cX8_addFailing 155 = .ok (.ishl, 1) := by decide +kernel
theorem dX8_addFailing_156 : decode cX8_addFailing 156 = .ok (.ior, 1) := by decide +kernel
theorem dX8_addFailing_157 : decode cX8_addFailing 157 = .ok (.putfield 39, 3) := by decide +kernel
theorem dX8_addFailing_160 : decode cX8_addFailing 160 = .ok (.goto 67, 3) := by decide +kernel
theorem dX8_addFailing_163 : decode cX8_addFailing 163 = .ok (.aload_n 0, 1) := by decide +kernel
theorem dX8_addFailing_164 : decode cX8_addFailing 164 = .ok (.dup, 1) := by decide +kernel
theorem dX8_addFailing_165 : decode cX8_addFailing 165 = .ok (.getfield 45, 3) := by decide +kernel
theorem dX8_addFailing_168 : decode cX8_addFailing 168 = .ok (.iconst 1, 1) := by decide +kernel
theorem dX8_addFailing_169 : decode cX8_addFailing 169 = .ok (.iload_n 2, 1) := by decide +kernel
theorem dX8_addFailing_170 : decode cX8_addFailing 170 = .ok (.ishl, 1) := by decide +kernel
theorem dX8_addFailing_171 : decode cX8_addFailing 171 = .ok (.ior, 1) := by decide +kernel
theorem dX8_addFailing_172 : decode cX8_addFailing 172 = .ok (.putfield 45, 3) := by decide +kernel
theorem dX8_addFailing_175 : decode cX8_addFailing 175 = .ok (.goto 52, 3) := by decide +kernel
theorem dX8_addFailing_178 : decode cX8_addFailing 178 = .ok (.aload_n 0, 1) := by decide +kernel
theorem dX8_addFailing_179 : decode cX8_addFailing 179 = .ok (.aload_n 0, 1) := by decide +kernel
theorem dX8_addFailing_180 : decode cX8_addFailing 180 = .ok (.getfield 21, 3) := by decide +kernel
theorem dX8_addFailing_183 : decode cX8_addFailing 183 = .ok (.iload_n 2, 1) := by decide +kernel
theorem dX8_addFailing_184 : decode cX8_addFailing 184 = .ok (.invokestatic 54, 3) := by decide +kernel
theorem dX8_addFailing_187 : decode cX8_addFailing 187 = .ok (.putfield 21, 3) := by decide +kernel
theorem dX8_addFailing_190 : decode cX8_addFailing 190 = .ok (.goto 37, 3) := by decide +kernel
theorem dX8_addFailing_193 : decode cX8_addFailing 193 = .ok (.aload_n 0, 1) := by decide +kernel
theorem dX8_addFailing_194 : decode cX8_addFailing 194 = .ok (.dup, 1) := by decide +kernel
theorem dX8_addFailing_195 : decode cX8_addFailing 195 = .ok (.getfield 15, 3) := by decide +kernel
theorem dX8_addFailing_198 : decode cX8_addFailing 198 = .ok (.iconst 1, 1) := by decide +kernel
theorem dX8_addFailing_199 : decode cX8_addFailing 199 = .ok (.iload_n 2, 1) := by decide +kernel
theorem dX8_addFailing_200 : decode cX8_addFailing 200 = .ok (.ishl, 1) := by decide +kernel
theorem dX8_addFailing_201 : decode cX8_addFailing 201 = .ok (.iconst (-1), 1) := by decide +kernel
theorem dX8_addFailing_202 : decode cX8_addFailing 202 = .ok (.ixor, 1) := by decide +kernel
theorem dX8_addFailing_203 : decode cX8_addFailing 203 = .ok (.iand, 1) := by decide +kernel
theorem dX8_addFailing_204 : decode cX8_addFailing 204 = .ok (.putfield 15, 3) := by decide +kernel
theorem dX8_addFailing_207 : decode cX8_addFailing 207 = .ok (.goto 20, 3) := by decide +kernel
theorem dX8_addFailing_210 : decode cX8_addFailing 210 = .ok (.aload_n 0, 1) := by decide +kernel
theorem dX8_addFailing_211 : decode cX8_addFailing 211 = .ok (.aload_n 0, 1) := by decide +kernel
theorem dX8_addFailing_212 : decode cX8_addFailing 212 = .ok (.getfield 33, 3) := by decide +kernel
theorem dX8_addFailing_215 : decode cX8_addFailing 215 = .ok (.iload_n 2, 1) := by decide +kernel
theorem dX8_addFailing_216 : decode cX8_addFailing 216 = .ok (.iconst 1, 1) := by decide +kernel
theorem dX8_addFailing_217 : decode cX8_addFailing 217 = .ok (.isub, 1) := by decide +kernel
theorem dX8_addFailing_218 : decode cX8_addFailing 218 = .ok (.invokestatic 54, 3) := by decide +kernel
theorem dX8_addFailing_221 : decode cX8_addFailing 221 = .ok (.putfield 33, 3) := by decide +kernel
theorem dX8_addFailing_224 : decode cX8_addFailing 224 = .ok (.goto 3, 3) := by decide +kernel
theorem dX8_addFailing_227 : decode cX8_addFailing 227 = .ok (.return_, 1) := by decide +kernel
theorem dX8_hasMail_0 : decode cX8_hasMail 0 = .ok (.aload_n 0, 1) := by decide +kernel
theorem dX8_hasMail_1 : decode cX8_hasMail 1 = .ok (.aload_n 0, 1) := by decide +kernel
theorem dX8_hasMail_2 : decode cX8_hasMail 2 = .ok (.getfield 30, 3) := by decide +kernel
theorem dX8_hasMail_5 : decode cX8_hasMail 5 = .ok (.aload_n 0, 1) := by decide +kernel
theorem dX8_hasMail_6 : decode cX8_hasMail 6 = .ok (.getfield 24, 3) := by decide +kernel
theorem dX8_hasMail_9 : decode cX8_hasMail 9 = .ok (.invokestatic 57, 3) := by decide +kernel
theorem dX8_hasMail_12 : decode cX8_hasMail 12 = .ok (.invokestatic 48, 3) := by decide +kernel
theorem dX8_hasMail_15 : decode cX8_hasMail 15 = .ok (.putfield 63, 3) := by decide +kernel
theorem dX8_hasMail_18 : decode cX8_hasMail 18 = .ok (.aload_n 0, 1) := by decide +kernel
theorem dX8_hasMail_19 : decode cX8_hasMail 19 = .ok (.aload_n 0, 1) := by decide +kernel
theorem dX8_hasMail_20 : decode cX8_hasMail 20 = .ok (.getfield 33, 3) := by decide +kernel
theorem dX8_hasMail_23 : decode cX8_hasMail 23 = .ok (.bipush 10, 2) := by decide +kernel
theorem dX8_hasMail_25 : decode cX8_hasMail 25 = .ok (.aload_n 0, 1) := by decide +kernel
theorem dX8_hasMail_26 : decode cX8_hasMail 26 = .ok (.getfield 27, 3) := by decide +kernel
theorem dX8_hasMail_29 : decode cX8_hasMail 29 = .ok (.invokestatic 57, 3) := by decide +kernel
theorem dX8_hasMail_32 : decode cX8_hasMail 32 = .ok (.isub, 1) := by decide +kernel
theorem dX8_hasMail_33 : decode cX8_hasMail 33 = .ok (.invokestatic 54, 3) := by decide +kernel
theorem dX8_hasMail_36 : decode cX8_hasMail 36 = .ok (.putfield 66, 3) := by decide +kernel
theorem dX8_hasMail_39 : decode cX8_hasMail 39 = .ok (.aload_n 0, 1) := by decide +kernel
theorem dX8_hasMail_40 : decode cX8_hasMail 40 = .ok (.getfield 9, 3) := by decide +kernel
theorem dX8_hasMail_43 : decode cX8_hasMail 43 = .ok (.ifCond .eq 72, 3) := by decide +kernel
theorem dX8_hasMail_46 : decode cX8_hasMail 46 = .ok (.aload_n 0, 1) := by decide +kernel
theorem dX8_hasMail_47 : decode cX8_hasMail 47 = .ok (.getfield 15, 3) := by decide +kernel
theorem dX8_hasMail_50 : decode cX8_hasMail 50 = .ok (.ifCond .eq 65, 3) := by decide +kernel
theorem dX8_hasMail_53 : decode cX8_hasMail 53 = .ok (.aload_n 0, 1) := by decide +kernel
theorem dX8_hasMail_54 : decode cX8_hasMail 54 = .ok (.getfield 18, 3) := by decide +kernel
theorem dX8_hasMail_57 : decode cX8_hasMail 57 = .ok (.aload_n 0, 1) := by decide +kernel
theorem dX8_hasMail_58 : decode cX8_hasMail 58 = .ok (.getfield 21, 3) := by decide +kernel
theorem dX8_hasMail_61 : decode cX8_hasMail 61 = .ok (.if_icmp .gt 54, 3) := by decide +kernel
theorem dX8_hasMail_64 : decode cX8_hasMail 64 = .ok (.aload_n 0, 1) := by decide +kernel
theorem dX8_hasMail_65 : decode cX8_hasMail 65 = .ok (.getfield 24, 3) := by decide +kernel
theorem dX8_hasMail_68 : decode cX8_hasMail 68 = .ok (.aload_n 0, 1) := by decide +kernel
theorem dX8_hasMail_69 : decode cX8_hasMail 69 = .ok (.getfield 27, 3) := by decide +kernel
theorem dX8_hasMail_72 : decode cX8_hasMail 72 = .ok (.iand, 1) := by decide +kernel
theorem dX8_hasMail_73 : decode cX8_hasMail 73 = .ok (.ifCond .ne 42, 3) := by decide +kernel
theorem dX8_hasMail_76 : decode cX8_hasMail 76 = .ok (.aload_n 0, 1) := by decide +kernel
theorem dX8_hasMail_77 : decode cX8_hasMail 77 = .ok (.getfield 63, 3) := by decide +kernel
theorem dX8_hasMail_80 : decode cX8_hasMail 80 = .ok (.aload_n 0, 1) := by decide +kernel
theorem dX8_hasMail_81 : decode cX8_hasMail 81 = .ok (.getfield 66, 3) := by decide +kernel
theorem dX8_hasMail_84 : decode cX8_hasMail 84 = .ok (.if_icmp .gt 31, 3) := by decide +kernel
theorem dX8_hasMail_87 : decode cX8_hasMail 87 = .ok (.aload_n 0, 1) := by decide +kernel
theorem dX8_hasMail_88 : decode cX8_hasMail 88 = .ok (.getfield 36, 3) := by decide +kernel
theorem dX8_hasMail_91 : decode cX8_hasMail 91 = .ok (.aload_n 0, 1) := by decide +kernel
theorem dX8_hasMail_92 : decode cX8_hasMail 92 = .ok (.getfield 39, 3) := by decide +kernel
theorem dX8_hasMail_95 : decode cX8_hasMail 95 = .ok (.iand, 1) := by decide +kernel
theorem dX8_hasMail_96 : decode cX8_hasMail 96 = .ok (.ifCond .ne 19, 3) := by decide +kernel
theorem dX8_hasMail_99 : decode cX8_hasMail 99 = .ok (.aload_n 0, 1) := by decide +kernel
theorem dX8_hasMail_100 : decode cX8_hasMail 100 = .ok (.getfield 42, 3) := by decide +kernel
theorem dX8_hasMail_103 : decode cX8_hasMail 103 = .ok (.aload_n 0, 1) := by decide +kernel
theorem dX8_hasMail_104 : decode cX8_hasMail 104 = .ok (.getfield 45, 3) := by decide +kernel
theorem dX8_hasMail_107 : decode cX8_hasMail 107 = .ok (.iand, 1) := by decide +kernel
theorem dX8_hasMail_108 : decode cX8_hasMail 108 = .ok (.ifCond .ne 7, 3) := by decide +kernel
theorem dX8_hasMail_111 : decode cX8_hasMail 111 = .ok (.iconst 1, 1) := by decide +kernel
theorem dX8_hasMail_112 : decode cX8_hasMail 112 = .ok (.goto 4, 3) := by decide +kernel
theorem dX8_hasMail_115 : decode cX8_hasMail 115 = .ok (.iconst 0, 1) := by decide +kernel
theorem dX8_hasMail_116 : decode cX8_hasMail 116 = .ok (.ireturn, 1) := by decide +kernel
theorem dX8_mayHold_0 : decode cX8_mayHold 0 = .ok (.iload_n 1, 1) := by decide +kernel
theorem dX8_mayHold_1 : decode cX8_mayHold 1 = .ok (.tableswitch 237 98 122 #[183, 237, 214, 237, 115, 237, 237, 237, 237, 237, 237, 237, 223, 237, 237, 237, 237, 166, 124, 237, 237, 237, 237, 237, 200], 115) := by decide +kernel
theorem dX8_mayHold_116 : decode cX8_mayHold 116 = .ok (.aload_n 0, 1) := by decide +kernel
theorem dX8_mayHold_117 : decode cX8_mayHold 117 = .ok (.getfield 9, 3) := by decide +kernel
theorem dX8_mayHold_120 : decode cX8_mayHold 120 = .ok (.iload_n 2, 1) := by decide +kernel
theorem dX8_mayHold_121 : decode cX8_mayHold 121 = .ok (.invokestatic 69, 3) := by decide +kernel
theorem dX8_mayHold_124 : decode cX8_mayHold 124 = .ok (.ireturn, 1) := by decide +kernel
theorem dX8_mayHold_125 : decode cX8_mayHold 125 = .ok (.aload_n 0, 1) := by decide +kernel
theorem dX8_mayHold_126 : decode cX8_mayHold 126 = .ok (.getfield 24, 3) := by decide +kernel
theorem dX8_mayHold_129 : decode cX8_mayHold 129 = .ok (.iload_n 2, 1) := by decide +kernel
theorem dX8_mayHold_130 : decode cX8_mayHold 130 = .ok (.invokestatic 69, 3) := by decide +kernel
theorem dX8_mayHold_133 : decode cX8_mayHold 133 = .ok (.ifCond .ne 28, 3) := by decide +kernel
theorem dX8_mayHold_136 : decode cX8_mayHold 136 = .ok (.aload_n 0, 1) := by decide +kernel
theorem dX8_mayHold_137 : decode cX8_mayHold 137 = .ok (.getfield 27, 3) := by decide +kernel
theorem dX8_mayHold_140 : decode cX8_mayHold 140 = .ok (.iload_n 2, 1) := by decide +kernel
theorem dX8_mayHold_141 : decode cX8_mayHold 141 = .ok (.invokestatic 69, 3) := by decide +kernel
theorem dX8_mayHold_144 : decode cX8_mayHold 144 = .ok (.ifCond .ne 21, 3) := by decide +kernel
theorem dX8_mayHold_147 : decode cX8_mayHold 147 = .ok (.aload_n 0, 1) := by decide +kernel
theorem dX8_mayHold_148 : decode cX8_mayHold 148 = .ok (.getfield 24, 3) := by decide +kernel
theorem dX8_mayHold_151 : decode cX8_mayHold 151 = .ok (.invokestatic 57, 3) := by decide +kernel
theorem dX8_mayHold_154 : decode cX8_mayHold 154 = .ok (.aload_n 0, 1) := by decide +kernel
theorem dX8_mayHold_155 : decode cX8_mayHold 155 = .ok (.getfield 66, 3) := by decide +kernel
theorem dX8_mayHold_158 : decode cX8_mayHold 158 = .ok (.if_icmp .ge 7, 3) := by decide +kernel
theorem dX8_mayHold_161 : decode cX8_mayHold 161 = .ok (.iconst 1, 1) := by decide +kernel
theorem dX8_mayHold_162 : decode cX8_mayHold 162 = .ok (.goto 4, 3) := by decide +kernel
theorem dX8_mayHold_165 : decode cX8_mayHold 165 = .ok (.iconst 0, 1) := by decide +kernel
theorem dX8_mayHold_166 : decode cX8_mayHold 166 = .ok (.ireturn, 1) := by decide +kernel
theorem dX8_mayHold_167 : decode cX8_mayHold 167 = .ok (.aload_n 0, 1) := by decide +kernel
theorem dX8_mayHold_168 : decode cX8_mayHold 168 = .ok (.getfield 39, 3) := by decide +kernel
theorem dX8_mayHold_171 : decode cX8_mayHold 171 = .ok (.iload_n 2, 1) := by decide +kernel
theorem dX8_mayHold_172 : decode cX8_mayHold 172 = .ok (.invokestatic 69, 3) := by decide +kernel
theorem dX8_mayHold_175 : decode cX8_mayHold 175 = .ok (.ifCond .ne 7, 3) := by decide +kernel
theorem dX8_mayHold_178 : decode cX8_mayHold 178 = .ok (.iconst 1, 1) := by decide +kernel
theorem dX8_mayHold_179 : decode cX8_mayHold 179 = .ok (.goto 4, 3) := by decide +kernel
theorem dX8_mayHold_182 : decode cX8_mayHold 182 = .ok (.iconst 0, 1) := by decide +kernel
theorem dX8_mayHold_183 : decode cX8_mayHold 183 = .ok (.ireturn, 1) := by decide +kernel
theorem dX8_mayHold_184 : decode cX8_mayHold 184 = .ok (.aload_n 0, 1) := by decide +kernel
theorem dX8_mayHold_185 : decode cX8_mayHold 185 = .ok (.getfield 45, 3) := by decide +kernel
theorem dX8_mayHold_188 : decode cX8_mayHold 188 = .ok (.iload_n 2, 1) := by decide +kernel
theorem dX8_mayHold_189 : decode cX8_mayHold 189 = .ok (.invokestatic 69, 3) := by decide +kernel
theorem dX8_mayHold_192 : decode cX8_mayHold 192 = .ok (.ifCond .ne 7, 3) := by decide +kernel
theorem dX8_mayHold_195 : decode cX8_mayHold 195 = .ok (.iconst 1, 1) := by decide +kernel
theorem dX8_mayHold_196 : decode cX8_mayHold 196 = .ok (.goto 4, 3) := by decide +kernel
theorem dX8_mayHold_199 : decode cX8_mayHold 199 = .ok (.iconst 0, 1) := by decide +kernel
theorem dX8_mayHold_200 : decode cX8_mayHold 200 = .ok (.ireturn, 1) := by decide +kernel
theorem dX8_mayHold_201 : decode cX8_mayHold 201 = .ok (.aload_n 0, 1) := by decide +kernel
theorem dX8_mayHold_202 : decode cX8_mayHold 202 = .ok (.getfield 21, 3) := by decide +kernel
theorem dX8_mayHold_205 : decode cX8_mayHold 205 = .ok (.iload_n 2, 1) := by decide +kernel
theorem dX8_mayHold_206 : decode cX8_mayHold 206 = .ok (.if_icmp .le 7, 3) := by decide +kernel
theorem dX8_mayHold_209 : decode cX8_mayHold 209 = .ok (.iconst 1, 1) := by decide +kernel
theorem dX8_mayHold_210 : decode cX8_mayHold 210 = .ok (.goto 4, 3) := by decide +kernel
theorem dX8_mayHold_213 : decode cX8_mayHold 213 = .ok (.iconst 0, 1) := by decide +kernel
theorem dX8_mayHold_214 : decode cX8_mayHold 214 = .ok (.ireturn, 1) := by decide +kernel
theorem dX8_mayHold_215 : decode cX8_mayHold 215 = .ok (.aload_n 0, 1) := by decide +kernel
theorem dX8_mayHold_216 : decode cX8_mayHold 216 = .ok (.getfield 15, 3) := by decide +kernel
theorem dX8_mayHold_219 : decode cX8_mayHold 219 = .ok (.iload_n 2, 1) := by decide +kernel
theorem dX8_mayHold_220 : decode cX8_mayHold 220 = .ok (.invokestatic 69, 3) := by decide +kernel
theorem dX8_mayHold_223 : decode cX8_mayHold 223 = .ok (.ireturn, 1) := by decide +kernel
theorem dX8_mayHold_224 : decode cX8_mayHold 224 = .ok (.aload_n 0, 1) := by decide +kernel
theorem dX8_mayHold_225 : decode cX8_mayHold 225 = .ok (.getfield 66, 3) := by decide +kernel
theorem dX8_mayHold_228 : decode cX8_mayHold 228 = .ok (.iload_n 2, 1) := by decide +kernel
theorem dX8_mayHold_229 : decode cX8_mayHold 229 = .ok (.if_icmp .lt 7, 3) := by decide +kernel
theorem dX8_mayHold_232 : decode cX8_mayHold 232 = .ok (.iconst 1, 1) := by decide +kernel
theorem dX8_mayHold_233 : decode cX8_mayHold 233 = .ok (.goto 4, 3) := by decide +kernel
theorem dX8_mayHold_236 : decode cX8_mayHold 236 = .ok (.iconst 0, 1) := by decide +kernel
theorem dX8_mayHold_237 : decode cX8_mayHold 237 = .ok (.ireturn, 1) := by decide +kernel
theorem dX8_mayHold_238 : decode cX8_mayHold 238 = .ok (.iconst 1, 1) := by decide +kernel
theorem dX8_mayHold_239 : decode cX8_mayHold 239 = .ok (.ireturn, 1) := by decide +kernel
theorem dX8_mayFail_0 : decode cX8_mayFail 0 = .ok (.iload_n 1, 1) := by decide +kernel
theorem dX8_mayFail_1 : decode cX8_mayFail 1 = .ok (.tableswitch 260 98 122 #[196, 260, 227, 260, 115, 260, 260, 260, 260, 260, 260, 260, 246, 260, 260, 260, 260, 179, 134, 260, 260, 260, 260, 260, 213], 115) := by decide +kernel
theorem dX8_mayFail_116 : decode cX8_mayFail 116 = .ok (.aload_n 0, 1) := by decide +kernel
theorem dX8_mayFail_117 : decode cX8_mayFail 117 = .ok (.getfield 9, 3) := by decide +kernel
theorem dX8_mayFail_120 : decode cX8_mayFail 120 = .ok (.iconst 1, 1) := by decide +kernel
theorem dX8_mayFail_121 : decode cX8_mayFail 121 = .ok (.iload_n 2, 1) := by decide +kernel
theorem dX8_mayFail_122 : decode cX8_mayFail 122 = .ok (.ishl, 1) := by decide +kernel
theorem dX8_mayFail_123 : decode cX8_mayFail 123 = .ok (.iconst (-1), 1) := by decide +kernel
theorem dX8_mayFail_124 : decode cX8_mayFail 124 = .ok (.ixor, 1) := by decide +kernel
theorem dX8_mayFail_125 : decode cX8_mayFail 125 = .ok (.iand, 1) := by decide +kernel
theorem dX8_mayFail_126 : decode cX8_mayFail 126 = .ok (.ifCond .eq 7, 3) := by decide +kernel
theorem dX8_mayFail_129 : decode cX8_mayFail 129 = .ok (.iconst 1, 1) := by decide +kernel
theorem dX8_mayFail_130 : decode cX8_mayFail 130 = .ok (.goto 4, 3) := by decide +kernel
theorem dX8_mayFail_133 : decode cX8_mayFail 133 = .ok (.iconst 0, 1) := by decide +kernel
theorem dX8_mayFail_134 : decode cX8_mayFail 134 = .ok (.ireturn, 1) := by decide +kernel
theorem dX8_mayFail_135 : decode cX8_mayFail 135 = .ok (.aload_n 0, 1) := by decide +kernel
theorem dX8_mayFail_136 : decode cX8_mayFail 136 = .ok (.getfield 27, 3) := by decide +kernel
theorem dX8_mayFail_139 : decode cX8_mayFail 139 = .ok (.iload_n 2, 1) := by decide +kernel
theorem dX8_mayFail_140 : decode cX8_mayFail 140 = .ok (.invokestatic 69, 3) := by decide +kernel
theorem dX8_mayFail_143 : decode cX8_mayFail 143 = .ok (.ifCond .ne 31, 3) := by decide +kernel
theorem dX8_mayFail_146 : decode cX8_mayFail 146 = .ok (.aload_n 0, 1) := by decide +kernel
theorem dX8_mayFail_147 : decode cX8_mayFail 147 = .ok (.getfield 24, 3) := by decide +kernel
theorem dX8_mayFail_150 : decode cX8_mayFail 150 = .ok (.iload_n 2, 1) := by decide +kernel
theorem dX8_mayFail_151 : decode cX8_mayFail 151 = .ok (.invokestatic 69, 3) := by decide +kernel
theorem dX8_mayFail_154 : decode cX8_mayFail 154 = .ok (.ifCond .ne 24, 3) := by decide +kernel
theorem dX8_mayFail_157 : decode cX8_mayFail 157 = .ok (.bipush 10, 2) := by decide +kernel
theorem dX8_mayFail_159 : decode cX8_mayFail 159 = .ok (.aload_n 0, 1) := by decide +kernel
theorem dX8_mayFail_160 : decode cX8_mayFail 160 = .ok (.getfield 27, 3) := by decide +kernel
theorem dX8_mayFail_163 : decode cX8_mayFail 163 = .ok (.invokestatic 57, 3) := by decide +kernel
theorem dX8_mayFail_166 : decode cX8_mayFail 166 = .ok (.isub, 1) := by decide +kernel
theorem dX8_mayFail_167 : decode cX8_mayFail 167 = .ok (.aload_n 0, 1) := by decide +kernel
theorem dX8_mayFail_168 : decode cX8_mayFail 168 = .ok (.getfield 63, 3) := by decide +kernel
theorem dX8_mayFail_171 : decode cX8_mayFail 171 = .ok (.if_icmp .le 7, 3) := by decide +kernel
theorem dX8_mayFail_174 : decode cX8_mayFail 174 = .ok (.iconst 1, 1) := by decide +kernel
theorem dX8_mayFail_175 : decode cX8_mayFail 175 = .ok (.goto 4, 3) := by decide +kernel
theorem dX8_mayFail_178 : decode cX8_mayFail 178 = .ok (.iconst 0, 1) := by decide +kernel
theorem dX8_mayFail_179 : decode cX8_mayFail 179 = .ok (.ireturn, 1) := by decide +kernel
theorem dX8_mayFail_180 : decode cX8_mayFail 180 = .ok (.aload_n 0, 1) := by decide +kernel
theorem dX8_mayFail_181 : decode cX8_mayFail 181 = .ok (.getfield 36, 3) := by decide +kernel
theorem dX8_mayFail_184 : decode cX8_mayFail 184 = .ok (.iload_n 2, 1) := by decide +kernel
theorem dX8_mayFail_185 : decode cX8_mayFail 185 = .ok (.invokestatic 69, 3) := by decide +kernel
theorem dX8_mayFail_188 : decode cX8_mayFail 188 = .ok (.ifCond .ne 7, 3) := by decide +kernel
theorem dX8_mayFail_191 : decode cX8_mayFail 191 = .ok (.iconst 1, 1) := by decide +kernel
theorem dX8_mayFail_192 : decode cX8_mayFail 192 = .ok (.goto 4, 3) := by decide +kernel
theorem dX8_mayFail_195 : decode cX8_mayFail 195 = .ok (.iconst 0, 1) := by decide +kernel
theorem dX8_mayFail_196 : decode cX8_mayFail 196 = .ok (.ireturn, 1) := by decide +kernel
theorem dX8_mayFail_197 : decode cX8_mayFail 197 = .ok (.aload_n 0, 1) := by decide +kernel
theorem dX8_mayFail_198 : decode cX8_mayFail 198 = .ok (.getfield 42, 3) := by decide +kernel
theorem dX8_mayFail_201 : decode cX8_mayFail 201 = .ok (.iload_n 2, 1) := by decide +kernel
theorem dX8_mayFail_202 : decode cX8_mayFail 202 = .ok (.invokestatic 69, 3) := by decide +kernel
theorem dX8_mayFail_205 : decode cX8_mayFail 205 = .ok (.ifCond .ne 7, 3) := by decide +kernel
theorem dX8_mayFail_208 : decode cX8_mayFail 208 = .ok (.iconst 1, 1) := by decide +kernel
theorem dX8_mayFail_209 : decode cX8_mayFail 209 = .ok (.goto 4, 3) := by decide +kernel
theorem dX8_mayFail_212 : decode cX8_mayFail 212 = .ok (.iconst 0, 1) := by decide +kernel
theorem dX8_mayFail_213 : decode cX8_mayFail 213 = .ok (.ireturn, 1) := by decide +kernel
theorem dX8_mayFail_214 : decode cX8_mayFail 214 = .ok (.aload_n 0, 1) := by decide +kernel
theorem dX8_mayFail_215 : decode cX8_mayFail 215 = .ok (.getfield 18, 3) := by decide +kernel
theorem dX8_mayFail_218 : decode cX8_mayFail 218 = .ok (.iload_n 2, 1) := by decide +kernel
theorem dX8_mayFail_219 : decode cX8_mayFail 219 = .ok (.if_icmp .gt 7, 3) := by decide +kernel
theorem dX8_mayFail_222 : decode cX8_mayFail 222 = .ok (.iconst 1, 1) := by decide +kernel
theorem dX8_mayFail_223 : decode cX8_mayFail 223 = .ok (.goto 4, 3) := by decide +kernel
theorem dX8_mayFail_226 : decode cX8_mayFail 226 = .ok (.iconst 0, 1) := by decide +kernel
theorem dX8_mayFail_227 : decode cX8_mayFail 227 = .ok (.ireturn, 1) := by decide +kernel
theorem dX8_mayFail_228 : decode cX8_mayFail 228 = .ok (.aload_n 0, 1) := by decide +kernel
theorem dX8_mayFail_229 : decode cX8_mayFail 229 = .ok (.getfield 15, 3) := by decide +kernel
theorem dX8_mayFail_232 : decode cX8_mayFail 232 = .ok (.iconst 1, 1) := by decide +kernel
theorem dX8_mayFail_233 : decode cX8_mayFail 233 = .ok (.iload_n 2, 1) := by decide +kernel
theorem dX8_mayFail_234 : decode cX8_mayFail 234 = .ok (.ishl, 1) := by decide +kernel
theorem dX8_mayFail_235 : decode cX8_mayFail 235 = .ok (.iconst (-1), 1) := by decide +kernel
theorem dX8_mayFail_236 : decode cX8_mayFail 236 = .ok (.ixor, 1) := by decide +kernel
theorem dX8_mayFail_237 : decode cX8_mayFail 237 = .ok (.iand, 1) := by decide +kernel
theorem dX8_mayFail_238 : decode cX8_mayFail 238 = .ok (.ifCond .eq 7, 3) := by decide +kernel
theorem dX8_mayFail_241 : decode cX8_mayFail 241 = .ok (.iconst 1, 1) := by decide +kernel
theorem dX8_mayFail_242 : decode cX8_mayFail 242 = .ok (.goto 4, 3) := by decide +kernel
theorem dX8_mayFail_245 : decode cX8_mayFail 245 = .ok (.iconst 0, 1) := by decide +kernel
theorem dX8_mayFail_246 : decode cX8_mayFail 246 = .ok (.ireturn, 1) := by decide +kernel
theorem dX8_mayFail_247 : decode cX8_mayFail 247 = .ok (.aload_n 0, 1) := by decide +kernel
theorem dX8_mayFail_248 : decode cX8_mayFail 248 = .ok (.getfield 63, 3) := by decide +kernel
theorem dX8_mayFail_251 : decode cX8_mayFail 251 = .ok (.iload_n 2, 1) := by decide +kernel
theorem dX8_mayFail_252 : decode cX8_mayFail 252 = .ok (.if_icmp .ge 7, 3) := by decide +kernel
theorem dX8_mayFail_255 : decode cX8_mayFail 255 = .ok (.iconst 1, 1) := by decide +kernel
theorem dX8_mayFail_256 : decode cX8_mayFail 256 = .ok (.goto 4, 3) := by decide +kernel
theorem dX8_mayFail_259 : decode cX8_mayFail 259 = .ok (.iconst 0, 1) := by decide +kernel
theorem dX8_mayFail_260 : decode cX8_mayFail 260 = .ok (.ireturn, 1) := by decide +kernel
theorem dX8_mayFail_261 : decode cX8_mayFail 261 = .ok (.iconst 0, 1) := by decide +kernel
theorem dX8_mayFail_262 : decode cX8_mayFail 262 = .ok (.ireturn, 1) := by decide +kernel
theorem dX9_init_0 : decode cX9_init 0 = .ok (.aload_n 0, 1) := by decide +kernel
theorem dX9_init_1 : decode cX9_init 1 = .ok (.invokespecial 3, 3) := by decide +kernel
theorem dX9_init_4 : decode cX9_init 4 = .ok (.aload_n 0, 1) := by decide +kernel
theorem dX9_init_5 : decode cX9_init 5 = .ok (.bipush 60, 2) := by decide +kernel
theorem dX9_init_7 : decode cX9_init 7 = .ok (.newarray .char, 2) := by decide +kernel
theorem dX9_init_9 : decode cX9_init 9 = .ok (.putfield 11, 3) := by decide +kernel
theorem dX9_init_12 : decode cX9_init 12 = .ok (.aload_n 0, 1) := by decide +kernel
theorem dX9_init_13 : decode cX9_init 13 = .ok (.bipush 60, 2) := by decide +kernel
theorem dX9_init_15 : decode cX9_init 15 = .ok (.newarray .int, 2) := by decide +kernel
theorem dX9_init_17 : decode cX9_init 17 = .ok (.putfield 15, 3) := by decide +kernel
theorem dX9_init_20 : decode cX9_init 20 = .ok (.aload_n 0, 1) := by decide +kernel
theorem dX9_init_21 : decode cX9_init 21 = .ok (.bipush 60, 2) := by decide +kernel
theorem dX9_init_23 : decode cX9_init 23 = .ok (.newarray .int, 2) := by decide +kernel
theorem dX9_init_25 : decode cX9_init 25 = .ok (.putfield 19, 3) := by decide +kernel
theorem dX9_init_28 : decode cX9_init 28 = .ok (.return_, 1) := by decide +kernel
theorem dX9_partsOf_0 : decode cX9_partsOf 0 = .ok (.iload_n 0, 1) := by decide +kernel
theorem dX9_partsOf_1 : decode cX9_partsOf 1 = .ok (.bipush 38, 2) := by decide +kernel
theorem dX9_partsOf_3 : decode cX9_partsOf 3 = .ok (.if_icmp .eq 9, 3) := by decide +kernel
theorem dX9_partsOf_6 : decode cX9_partsOf 6 = .ok (.iload_n 0, 1) := by decide +kernel
theorem dX9_partsOf_7 : decode cX9_partsOf 7 = .ok (.bipush 124, 2) := by decide +kernel
theorem dX9_partsOf_9 : decode cX9_partsOf 9 = .ok (.if_icmp .ne 7, 3) := by decide +kernel
theorem dX9_partsOf_12 : decode cX9_partsOf 12 = .ok (.iconst 2, 1) := by decide +kernel
theorem dX9_partsOf_13 : decode cX9_partsOf 13 = .ok (.goto 14, 3) := by decide +kernel
theorem dX9_partsOf_16 : decode cX9_partsOf 16 = .ok (.iload_n 0, 1) := by decide +kernel
theorem dX9_partsOf_17 : decode cX9_partsOf 17 = .ok (.bipush 33, 2) := by decide +kernel
theorem dX9_partsOf_19 : decode cX9_partsOf 19 = .ok (.if_icmp .ne 7, 3) := by decide +kernel
theorem dX9_partsOf_22 : decode cX9_partsOf 22 = .ok (.iconst 1, 1) := by decide +kernel
theorem dX9_partsOf_23 : decode cX9_partsOf 23 = .ok (.goto 4, 3) := by decide +kernel
theorem dX9_partsOf_26 : decode cX9_partsOf 26 = .ok (.iconst 0, 1) := by decide +kernel
theorem dX9_partsOf_27 : decode cX9_partsOf 27 = .ok (.ireturn, 1) := by decide +kernel
theorem dX9_allows_0 : decode cX9_allows 0 = .ok (.iload_n 0, 1) := by decide +kernel
theorem dX9_allows_1 : decode cX9_allows 1 = .ok (.lookupswitch 154 #[(33, 107), (38, 107), (97, 107), (98, 116), (100, 132), (102, 109), (107, 147), (110, 139), (115, 116), (116, 109), (122, 123), (124, 107)], 107) := by decide +kernel
theorem dX9_allows_108 : decode cX9_allows 108 = .ok (.iconst 1, 1) := by decide +kernel
theorem dX9_allows_109 : decode cX9_allows 109 = .ok (.ireturn, 1) := by decide +kernel
theorem dX9_allows_110 : decode cX9_allows 110 = .ok (.iload_n 1, 1) := by decide +kernel
theorem dX9_allows_111 : decode cX9_allows 111 = .ok (.bipush 10, 2) := by decide +kernel
theorem dX9_allows_113 : decode cX9_allows 113 = .ok (.invokestatic 22, 3) := by decide +kernel
theorem dX9_allows_116 : decode cX9_allows 116 = .ok (.ireturn, 1) := by decide +kernel
theorem dX9_allows_117 : decode cX9_allows 117 = .ok (.iload_n 1, 1) := by decide +kernel
theorem dX9_allows_118 : decode cX9_allows 118 = .ok (.bipush 16, 2) := by decide +kernel
theorem dX9_allows_120 : decode cX9_allows 120 = .ok (.invokestatic 22, 3) := by decide +kernel
theorem dX9_allows_123 : decode cX9_allows 123 = .ok (.ireturn, 1) := by decide +kernel
theorem dX9_allows_124 : decode cX9_allows 124 = .ok (.iload_n 1, 1) := by decide +kernel
theorem dX9_allows_125 : decode cX9_allows 125 = .ok (.iconst 0, 1) := by decide +kernel
theorem dX9_allows_126 : decode cX9_allows 126 = .ok (.sipush 999, 3) := by decide +kernel
theorem dX9_allows_129 : decode cX9_allows 129 = .ok (.invokestatic 26, 3) := by decide +kernel
theorem dX9_allows_132 : decode cX9_allows 132 = .ok (.ireturn, 1) := by decide +kernel
theorem dX9_allows_133 : decode cX9_allows 133 = .ok (.iload_n 1, 1) := by decide +kernel
theorem dX9_allows_134 : decode cX9_allows 134 = .ok (.bipush 7, 2) := by decide +kernel
theorem dX9_allows_136 : decode cX9_allows 136 = .ok (.invokestatic 22, 3) := by decide +kernel
theorem dX9_allows_139 : decode cX9_allows 139 = .ok (.ireturn, 1) := by decide +kernel
theorem dX9_allows_140 : decode cX9_allows 140 = .ok (.iload_n 1, 1) := by decide +kernel
theorem dX9_allows_141 : decode cX9_allows 141 = .ok (.iconst 1, 1) := by decide +kernel
theorem dX9_allows_142 : decode cX9_allows 142 = .ok (.bipush 10, 2) := by decide +kernel
theorem dX9_allows_144 : decode cX9_allows 144 = .ok (.invokestatic 26, 3) := by decide +kernel
theorem dX9_allows_147 : decode cX9_allows 147 = .ok (.ireturn, 1) := by decide +kernel
theorem dX9_allows_148 : decode cX9_allows 148 = .ok (.iload_n 1, 1) := by decide +kernel
theorem dX9_allows_149 : decode cX9_allows 149 = .ok (.bipush 8, 2) := by decide +kernel
theorem dX9_allows_151 : decode cX9_allows 151 = .ok (.invokestatic 22, 3) := by decide +kernel
theorem dX9_allows_154 : decode cX9_allows 154 = .ok (.ireturn, 1) := by decide +kernel
theorem dX9_allows_155 : decode cX9_allows 155 = .ok (.iconst 0, 1) := by decide +kernel
theorem dX9_allows_156 : decode cX9_allows 156 = .ok (.ireturn, 1) := by decide +kernel
theorem dX9_append_0 : decode cX9_append 0 = .ok (.aload_n 0, 1) := by decide +kernel
theorem dX9_append_1 : decode cX9_append 1 = .ok (.getfield 30, 3) := by decide +kernel
theorem dX9_append_4 : decode cX9_append 4 = .ok (.istore 4, 2) := by decide +kernel
theorem dX9_append_6 : decode cX9_append 6 = .ok (.aload_n 0, 1) := by decide +kernel
theorem dX9_append_7 : decode cX9_append 7 = .ok (.getfield 11, 3) := by decide +kernel
theorem dX9_append_10 : decode cX9_append 10 = .ok (.iload 4, 2) := by decide +kernel
theorem dX9_append_12 : decode cX9_append 12 = .ok (.iload_n 1, 1) := by decide +kernel
theorem dX9_append_13 : decode cX9_append 13 = .ok (.castore, 1) := by decide +kernel
theorem dX9_append_14 : decode cX9_append 14 = .ok (.aload_n 0, 1) := by decide +kernel
theorem dX9_append_15 : decode cX9_append 15 = .ok (.getfield 15, 3) := by decide +kernel
theorem dX9_append_18 : decode cX9_append 18 = .ok (.iload 4, 2) := by decide +kernel
theorem dX9_append_20 : decode cX9_append 20 = .ok (.iload_n 2, 1) := by decide +kernel
theorem dX9_append_21 : decode cX9_append 21 = .ok (.iastore, 1) := by decide +kernel
theorem dX9_append_22 : decode cX9_append 22 = .ok (.aload_n 0, 1) := by decide +kernel
theorem dX9_append_23 : decode cX9_append 23 = .ok (.getfield 19, 3) := by decide +kernel
theorem dX9_append_26 : decode cX9_append 26 = .ok (.iload 4, 2) := by decide +kernel
theorem dX9_append_28 : decode cX9_append 28 = .ok (.iload_n 3, 1) := by decide +kernel
theorem dX9_append_29 : decode cX9_append 29 = .ok (.iastore, 1) := by decide +kernel
theorem dX9_append_30 : decode cX9_append 30 = .ok (.aload_n 0, 1) := by decide +kernel
theorem dX9_append_31 : decode cX9_append 31 = .ok (.dup, 1) := by decide +kernel
theorem dX9_append_32 : decode cX9_append 32 = .ok (.getfield 30, 3) := by decide +kernel
theorem dX9_append_35 : decode cX9_append 35 = .ok (.iconst 1, 1) := by decide +kernel
theorem dX9_append_36 : decode cX9_append 36 = .ok (.iadd, 1) := by decide +kernel
theorem dX9_append_37 : decode cX9_append 37 = .ok (.putfield 30, 3) := by decide +kernel
theorem dX9_append_40 : decode cX9_append 40 = .ok (.aload_n 0, 1) := by decide +kernel
theorem dX9_append_41 : decode cX9_append 41 = .ok (.iload 4, 2) := by decide +kernel
theorem dX9_append_43 : decode cX9_append 43 = .ok (.invokevirtual 34, 3) := by decide +kernel
theorem dX9_append_46 : decode cX9_append 46 = .ok (.ifCond .eq 16, 3) := by decide +kernel
theorem dX9_append_49 : decode cX9_append 49 = .ok (.aload_n 0, 1) := by decide +kernel
theorem dX9_append_50 : decode cX9_append 50 = .ok (.dup, 1) := by decide +kernel
theorem dX9_append_51 : decode cX9_append 51 = .ok (.getfield 38, 3) := by decide +kernel
theorem dX9_append_54 : decode cX9_append 54 = .ok (.lconst 1, 1) := by decide +kernel
theorem dX9_append_55 : decode cX9_append 55 = .ok (.iload 4, 2) := by decide +kernel
theorem dX9_append_57 : decode cX9_append 57 = .ok (.lshl, 1) := by decide +kernel
theorem dX9_append_58 : decode cX9_append 58 = .ok (.lor, 1) := by decide +kernel
theorem dX9_append_59 : decode cX9_append 59 = .ok (.putfield 38, 3) := by decide +kernel
theorem dX9_append_62 : decode cX9_append 62 = .ok (.iload 4, 2) := by decide +kernel
theorem dX9_append_64 : decode cX9_append 64 = .ok (.ireturn, 1) := by decide +kernel
theorem dX9_isSteady_0 : decode cX9_isSteady 0 = .ok (.aload_n 0, 1) := by decide +kernel
theorem dX9_isSteady_1 : decode cX9_isSteady 1 = .ok (.getfield 11, 3) := by decide +kernel
theorem dX9_isSteady_4 : decode cX9_isSteady 4 = .ok (.iload_n 1, 1) := by decide +kernel
theorem dX9_isSteady_5 : decode cX9_isSteady 5 = .ok (.caload, 1) := by decide +kernel
theorem dX9_isSteady_6 : decode cX9_isSteady 6 = .ok (.invokestatic 42, 3) := by decide +kernel
theorem dX9_isSteady_9 : decode cX9_isSteady 9 = .ok (.istore_n 2, 1) := by decide +kernel
theorem dX9_isSteady_10 : decode cX9_isSteady 10 = .ok (.aload_n 0, 1) := by decide +kernel
theorem dX9_isSteady_11 : decode cX9_isSteady 11 = .ok (.getfield 11, 3) := by decide +kernel
theorem dX9_isSteady_14 : decode cX9_isSteady 14 = .ok (.iload_n 1, 1) := by decide +kernel
theorem dX9_isSteady_15 : decode cX9_isSteady 15 = .ok (.caload, 1) := by decide +kernel
theorem dX9_isSteady_16 : decode cX9_isSteady 16 = .ok (.bipush 107, 2) := by decide +kernel
theorem dX9_isSteady_18 : decode cX9_isSteady 18 = .ok (.if_icmp .eq 49, 3) := by decide +kernel
theorem dX9_isSteady_21 : decode cX9_isSteady 21 = .ok (.iload_n 2, 1) := by decide +kernel
theorem dX9_isSteady_22 : decode cX9_isSteady 22 = .ok (.iconst 1, 1) := by decide +kernel
theorem dX9_isSteady_23 : decode cX9_isSteady 23 = .ok (.if_icmp .lt 19, 3) := by decide +kernel
theorem dX9_isSteady_26 : decode cX9_isSteady 26 = .ok (.aload_n 0, 1) := by decide +kernel
theorem dX9_isSteady_27 : decode cX9_isSteady 27 = .ok (.getfield 38, 3) := by decide +kernel
theorem dX9_isSteady_30 : decode cX9_isSteady 30 = .ok (.aload_n 0, 1) := by decide +kernel
theorem dX9_isSteady_31 : decode cX9_isSteady 31 = .ok (.getfield 15, 3) := by decide +kernel
theorem dX9_isSteady_34 : decode cX9_isSteady 34 = .ok (.iload_n 1, 1) := by decide +kernel
theorem dX9_isSteady_35 : decode cX9_isSteady 35 = .ok (.iaload, 1) := by decide +kernel
theorem dX9_isSteady_36 : decode cX9_isSteady 36 = .ok (.invokestatic 46, 3) := by decide +kernel
theorem dX9_isSteady_39 : decode cX9_isSteady 39 = .ok (.ifCond .eq 28, 3) := by decide +kernel
theorem dX9_isSteady_42 : decode cX9_isSteady 42 = .ok (.iload_n 2, 1) := by decide +kernel
theorem dX9_isSteady_43 : decode cX9_isSteady 43 = .ok (.iconst 2, 1) := by decide +kernel
theorem dX9_isSteady_44 : decode cX9_isSteady 44 = .ok (.if_icmp .lt 19, 3) := by decide +kernel
theorem dX9_isSteady_47 : decode cX9_isSteady 47 = .ok (.aload_n 0, 1) := by decide +kernel
theorem dX9_isSteady_48 : decode cX9_isSteady 48 = .ok (.getfield 38, 3) := by decide +kernel
theorem dX9_isSteady_51 : decode cX9_isSteady 51 = .ok (.aload_n 0, 1) := by decide +kernel
theorem dX9_isSteady_52 : decode cX9_isSteady 52 = .ok (.getfield 19, 3) := by decide +kernel
theorem dX9_isSteady_55 : decode cX9_isSteady 55 = .ok (.iload_n 1, 1) := by decide +kernel
theorem dX9_isSteady_56 : decode cX9_isSteady 56 = .ok (.iaload, 1) := by decide +kernel
theorem dX9_isSteady_57 : decode cX9_isSteady 57 = .ok (.invokestatic 46, 3) := by decide +kernel
theorem dX9_isSteady_60 : decode cX9_isSteady 60 = .ok (.ifCond .eq 7, 3) := by decide +kernel
theorem dX9_isSteady_63 : decode cX9_isSteady 63 = .ok (.iconst 1, 1) := by decide +kernel
theorem dX9_isSteady_64 : decode cX9_isSteady 64 = .ok (.goto 4, 3) := by decide +kernel
theorem dX9_isSteady_67 : decode cX9_isSteady 67 = .ok (.iconst 0, 1) := by decide +kernel
theorem dX9_isSteady_68 : decode cX9_isSteady 68 = .ok (.ireturn, 1) := by decide +kernel
theorem dX9_truthFor_0 : decode cX9_truthFor 0 = .ok (.lconst 0, 1) := by decide +kernel
theorem dX9_truthFor_1 : decode cX9_truthFor 1 = .ok (.lstore_n 3, 1) := by decide +kernel
theorem dX9_truthFor_2 : decode cX9_truthFor 2 = .ok (.iconst 0, 1) := by decide +kernel
theorem dX9_truthFor_3 : decode cX9_truthFor 3 = .ok (.istore 5, 2) := by decide +kernel
theorem dX9_truthFor_5 : decode cX9_truthFor 5 = .ok (.iload 5, 2) := by decide +kernel
theorem dX9_truthFor_7 : decode cX9_truthFor 7 = .ok (.aload_n 0, 1) := by decide +kernel
theorem dX9_truthFor_8 : decode cX9_truthFor 8 = .ok (.getfield 30, 3) := by decide +kernel
theorem dX9_truthFor_11 : decode cX9_truthFor 11 = .ok (.if_icmp .ge 28, 3) := by decide +kernel
theorem dX9_truthFor_14 : decode cX9_truthFor 14 = .ok (.aload_n 0, 1) := by decide +kernel
theorem dX9_truthFor_15 : decode cX9_truthFor 15 = .ok (.iload 5, 2) := by decide +kernel
theorem dX9_truthFor_17 : decode cX9_truthFor 17 = .ok (.lload_n 3, 1) := by decide +kernel
theorem dX9_truthFor_18 : decode cX9_truthFor 18 = .ok (.aload_n 1, 1) := by decide +kernel
theorem dX9_truthFor_19 : decode cX9_truthFor 19 = .ok (.iload_n 2, 1) := by decide +kernel
theorem dX9_truthFor_20 : decode cX9_truthFor 20 = .ok (.invokevirtual 50, 3) := by decide +kernel
theorem dX9_truthFor_23 : decode cX9_truthFor 23 = .ok (.ifCond .eq 10, 3) := by decide +kernel
theorem dX9_truthFor_26 : decode cX9_truthFor 26 = .ok (.lload_n 3, 1) := by decide +kernel
theorem dX9_truthFor_27 : decode cX9_truthFor 27 = .ok (.lconst 1, 1) := by decide +kernel
theorem dX9_truthFor_28 : decode cX9_truthFor 28 = .ok (.iload 5, 2) := by decide +kernel
theorem dX9_truthFor_30 : decode cX9_truthFor 30 = .ok (.lshl, 1) := by decide +kernel
theorem dX9_truthFor_31 : decode cX9_truthFor 31 = .ok (.lor, 1) := by decide +kernel
theorem dX9_truthFor_32 : decode cX9_truthFor 32 = .ok (.lstore_n 3, 1) := by decide +kernel
theorem dX9_truthFor_33 : decode cX9_truthFor 33 = .ok (.iinc 5 1, 3) := by decide +kernel
theorem dX9_truthFor_36 : decode cX9_truthFor 36 = .ok (.goto (-31), 3) := by decide +kernel
theorem dX9_truthFor_39 : decode cX9_truthFor 39 = .ok (.lload_n 3, 1) := by decide +kernel
theorem dX9_truthFor_40 : decode cX9_truthFor 40 = .ok (.lreturn, 1) := by decide +kernel
theorem dX9_isTrueBy_0 : decode cX9_isTrueBy 0 = .ok (.aload_n 0, 1) := by decide +kernel
theorem dX9_isTrueBy_1 : decode cX9_isTrueBy 1 = .ok (.getfield 15, 3) := by decide +kernel
theorem dX9_isTrueBy_4 : decode cX9_isTrueBy 4 = .ok (.iload_n 1, 1) := by decide +kernel
theorem dX9_isTrueBy_5 : decode cX9_isTrueBy 5 = .ok (.iaload, 1) := by decide +kernel
theorem dX9_isTrueBy_6 : decode cX9_isTrueBy 6 = .ok (.istore 6, 2) := by decide +kernel
theorem dX9_isTrueBy_8 : decode cX9_isTrueBy 8 = .ok (.aload_n 0, 1) := by decide +kernel
theorem dX9_isTrueBy_9 : decode cX9_isTrueBy 9 = .ok (.getfield 11, 3) := by decide +kernel
theorem dX9_isTrueBy_12 : decode cX9_isTrueBy 12 = .ok (.iload_n 1, 1) := by decide +kernel
theorem dX9_isTrueBy_13 : decode cX9_isTrueBy 13 = .ok (.caload, 1) := by decide +kernel
theorem dX9_isTrueBy_14 : decode cX9_isTrueBy 14 = .ok (.lookupswitch 105 #[(33, 34), (38, 49), (124, 77)], 34) := by decide +kernel
theorem dX9_isTrueBy_48 : decode cX9_isTrueBy 48 = .ok (.lload_n 2, 1) := by decide +kernel
theorem dX9_isTrueBy_49 : decode cX9_isTrueBy 49 = .ok (.iload 6, 2) := by decide +kernel
theorem dX9_isTrueBy_51 : decode cX9_isTrueBy 51 = .ok (.invokestatic 46, 3) := by decide +kernel
theorem dX9_isTrueBy_54 : decode cX9_isTrueBy 54 = .ok (.ifCond .ne 7, 3) := by decide +kernel
theorem dX9_isTrueBy_57 : decode cX9_isTrueBy 57 = .ok (.iconst 1, 1) := by decide +kernel
theorem dX9_isTrueBy_58 : decode cX9_isTrueBy 58 = .ok (.goto 4, 3) := by decide +kernel
theorem dX9_isTrueBy_61 : decode cX9_isTrueBy 61 = .ok (.iconst 0, 1) := by decide +kernel
theorem dX9_isTrueBy_62 : decode cX9_isTrueBy 62 = .ok (.ireturn, 1) := by decide +kernel
theorem dX9_isTrueBy_63 : decode cX9_isTrueBy 63 = .ok (.lload_n 2, 1) := by decide +kernel
theorem dX9_isTrueBy_64 : decode cX9_isTrueBy 64 = .ok (.iload 6, 2) := by decide +kernel
theorem dX9_isTrueBy_66 : decode cX9_isTrueBy 66 = .ok (.invokestatic 46, 3) := by decide +kernel
theorem dX9_isTrueBy_69 : decode cX9_isTrueBy 69 = .ok (.ifCond .eq 20, 3) := by decide +kernel
theorem dX9_isTrueBy_72 : decode cX9_isTrueBy 72 = .ok (.lload_n 2, 1) := by decide +kernel
theorem dX9_isTrueBy_73 : decode cX9_isTrueBy 73 = .ok (.aload_n 0, 1) := by decide +kernel
theorem dX9_isTrueBy_74 : decode cX9_isTrueBy 74 = .ok (.getfield 19, 3) := by decide +kernel
theorem dX9_isTrueBy_77 : decode cX9_isTrueBy 77 = .ok (.iload_n 1, 1) := by decide +kernel
theorem dX9_isTrueBy_78 : decode cX9_isTrueBy 78 = .ok (.iaload, 1) := by decide +kernel
theorem dX9_isTrueBy_79 : decode cX9_isTrueBy 79 = .ok (.invokestatic 46, 3) := by decide +kernel
theorem dX9_isTrueBy_82 : decode cX9_isTrueBy 82 = .ok (.ifCond .eq 7, 3) := by decide +kernel
theorem dX9_isTrueBy_85 : decode cX9_isTrueBy 85 = .ok (.iconst 1, 1) := by decide +kernel
theorem dX9_isTrueBy_86 : decode cX9_isTrueBy 86 = .ok (.goto 4, 3) := by decide +kernel
theorem dX9_isTrueBy_89 : decode cX9_isTrueBy 89 = .ok (.iconst 0, 1) := by decide +kernel
theorem dX9_isTrueBy_90 : decode cX9_isTrueBy 90 = .ok (.ireturn, 1) := by decide +kernel
theorem dX9_isTrueBy_91 : decode cX9_isTrueBy 91 = .ok (.lload_n 2, 1) := by decide +kernel
theorem dX9_isTrueBy_92 : decode cX9_isTrueBy 92 = .ok (.iload 6, 2) := by decide +kernel
theorem dX9_isTrueBy_94 : decode cX9_isTrueBy 94 = .ok (.invokestatic 46, 3) := by decide +kernel
theorem dX9_isTrueBy_97 : decode cX9_isTrueBy 97 = .ok (.ifCond .ne 16, 3) := by decide +kernel
theorem dX9_isTrueBy_100 : decode cX9_isTrueBy 100 = .ok (.lload_n 2, 1) := by decide +kernel
theorem dX9_isTrueBy_101 : decode cX9_isTrueBy 101 = .ok (.aload_n 0, 1) := by decide +kernel
theorem dX9_isTrueBy_102 : decode cX9_isTrueBy 102 = .ok (.getfield 19, 3) := by decide +kernel
theorem dX9_isTrueBy_105 : decode cX9_isTrueBy 105 = .ok (.iload_n 1, 1) := by decide +kernel
theorem dX9_isTrueBy_106 : decode cX9_isTrueBy 106 = .ok (.iaload, 1) := by decide +kernel
theorem dX9_isTrueBy_107 : decode cX9_isTrueBy 107 = .ok (.invokestatic 46, 3) := by decide +kernel
theorem dX9_isTrueBy_110 : decode cX9_isTrueBy 110 = .ok (.ifCond .eq 7, 3) := by decide +kernel
theorem dX9_isTrueBy_113 : decode cX9_isTrueBy 113 = .ok (.iconst 1, 1) := by decide +kernel
theorem dX9_isTrueBy_114 : decode cX9_isTrueBy 114 = .ok (.goto 4, 3) := by decide +kernel
theorem dX9_isTrueBy_117 : decode cX9_isTrueBy 117 = .ok (.iconst 0, 1) := by decide +kernel
theorem dX9_isTrueBy_118 : decode cX9_isTrueBy 118 = .ok (.ireturn, 1) := by decide +kernel
theorem dX9_isTrueBy_119 : decode cX9_isTrueBy 119 = .ok (.aload_n 0, 1) := by decide +kernel
theorem dX9_isTrueBy_120 : decode cX9_isTrueBy 120 = .ok (.getfield 11, 3) := by decide +kernel
theorem dX9_isTrueBy_123 : decode cX9_isTrueBy 123 = .ok (.iload_n 1, 1) := by decide +kernel
theorem dX9_isTrueBy_124 : decode cX9_isTrueBy 124 = .ok (.caload, 1) := by decide +kernel
theorem dX9_isTrueBy_125 : decode cX9_isTrueBy 125 = .ok (.iload 6, 2) := by decide +kernel
theorem dX9_isTrueBy_127 : decode cX9_isTrueBy 127 = .ok (.aload 4, 2) := by decide +kernel
theorem dX9_isTrueBy_129 : decode cX9_isTrueBy 129 = .ok (.iload 5, 2) := by decide +kernel
theorem dX9_isTrueBy_131 : decode cX9_isTrueBy 131 = .ok (.invokestatic 54, 3) := by decide +kernel
theorem dX9_isTrueBy_134 : decode cX9_isTrueBy 134 = .ok (.ireturn, 1) := by decide +kernel
theorem dX9_fits_0 : decode cX9_fits 0 = .ok (.iload_n 0, 1) := by decide +kernel
theorem dX9_fits_1 : decode cX9_fits 1 = .ok (.tableswitch 207 98 122 #[147, 207, 170, 207, 115, 207, 207, 207, 207, 201, 207, 207, 184, 207, 207, 207, 207, 138, 129, 207, 207, 207, 207, 207, 156], 115) := by decide +kernel
theorem dX9_fits_116 : decode cX9_fits 116 = .ok (.aload_n 2, 1) := by decide +kernel
theorem dX9_fits_117 : decode cX9_fits 117 = .ok (.getfield 58, 3) := by decide +kernel
theorem dX9_fits_120 : decode cX9_fits 120 = .ok (.iload_n 1, 1) := by decide +kernel
theorem dX9_fits_121 : decode cX9_fits 121 = .ok (.if_icmp .ne 7, 3) := by decide +kernel
theorem dX9_fits_124 : decode cX9_fits 124 = .ok (.iconst 1, 1) := by decide +kernel
theorem dX9_fits_125 : decode cX9_fits 125 = .ok (.goto 4, 3) := by decide +kernel
theorem dX9_fits_128 : decode cX9_fits 128 = .ok (.iconst 0, 1) := by decide +kernel
theorem dX9_fits_129 : decode cX9_fits 129 = .ok (.ireturn, 1) := by decide +kernel
theorem dX9_fits_130 : decode cX9_fits 130 = .ok (.aload_n 2, 1) := by decide +kernel
theorem dX9_fits_131 : decode cX9_fits 131 = .ok (.getfield 63, 3) := by decide +kernel
theorem dX9_fits_134 : decode cX9_fits 134 = .ok (.iload_n 1, 1) := by decide +kernel
theorem dX9_fits_135 : decode cX9_fits 135 = .ok (.invokestatic 66, 3) := by decide +kernel
theorem dX9_fits_138 : decode cX9_fits 138 = .ok (.ireturn, 1) := by decide +kernel
theorem dX9_fits_139 : decode cX9_fits 139 = .ok (.aload_n 2, 1) := by decide +kernel
theorem dX9_fits_140 : decode cX9_fits 140 = .ok (.getfield 68, 3) := by decide +kernel
theorem dX9_fits_143 : decode cX9_fits 143 = .ok (.iload_n 1, 1) := by decide +kernel
theorem dX9_fits_144 : decode cX9_fits 144 = .ok (.invokestatic 66, 3) := by decide +kernel
theorem dX9_fits_147 : decode cX9_fits 147 = .ok (.ireturn, 1) := by decide +kernel
theorem dX9_fits_148 : decode cX9_fits 148 = .ok (.aload_n 2, 1) := by decide +kernel
theorem dX9_fits_149 : decode cX9_fits 149 = .ok (.getfield 71, 3) := by decide +kernel
theorem dX9_fits_152 : decode cX9_fits 152 = .ok (.iload_n 1, 1) := by decide +kernel
theorem dX9_fits_153 : decode cX9_fits 153 = .ok (.invokestatic 66, 3) := by decide +kernel
theorem dX9_fits_156 : decode cX9_fits 156 = .ok (.ireturn, 1) := by decide +kernel
theorem dX9_fits_157 : decode cX9_fits 157 = .ok (.aload_n 2, 1) := by decide +kernel
theorem dX9_fits_158 : decode cX9_fits 158 = .ok (.getfield 74, 3) := by decide +kernel
theorem dX9_fits_161 : decode cX9_fits 161 = .ok (.iload_n 1, 1) := by decide +kernel
theorem dX9_fits_162 : decode cX9_fits 162 = .ok (.if_icmp .le 7, 3) := by decide +kernel
theorem dX9_fits_165 : decode cX9_fits 165 = .ok (.iconst 1, 1) := by decide +kernel
theorem dX9_fits_166 : decode cX9_fits 166 = .ok (.goto 4, 3) := by decide +kernel
theorem dX9_fits_169 : decode cX9_fits 169 = .ok (.iconst 0, 1) := by decide +kernel
theorem dX9_fits_170 : decode cX9_fits 170 = .ok (.ireturn, 1) := by decide +kernel
theorem dX9_fits_171 : decode cX9_fits 171 = .ok (.aload_n 2, 1) := by decide +kernel
theorem dX9_fits_172 : decode cX9_fits 172 = .ok (.getfield 77, 3) := by decide +kernel
theorem dX9_fits_175 : decode cX9_fits 175 = .ok (.iload_n 1, 1) := by decide +kernel
theorem dX9_fits_176 : decode cX9_fits 176 = .ok (.if_icmp .ne 7, 3) := by decide +kernel
theorem dX9_fits_179 : decode cX9_fits 179 = .ok (.iconst 1, 1) := by decide +kernel
theorem dX9_fits_180 : decode cX9_fits 180 = .ok (.goto 4, 3) := by decide +kernel
theorem dX9_fits_183 : decode cX9_fits 183 = .ok (.iconst 0, 1) := by decide +kernel
theorem dX9_fits_184 : decode cX9_fits 184 = .ok (.ireturn, 1) := by decide +kernel
theorem dX9_fits_185 : decode cX9_fits 185 = .ok (.aload_n 2, 1) := by decide +kernel
theorem dX9_fits_186 : decode cX9_fits 186 = .ok (.getfield 63, 3) := by decide +kernel
theorem dX9_fits_189 : decode cX9_fits 189 = .ok (.invokestatic 80, 3) := by decide +kernel
theorem dX9_fits_192 : decode cX9_fits 192 = .ok (.iload_n 1, 1) := by decide +kernel
theorem dX9_fits_193 : decode cX9_fits 193 = .ok (.if_icmp .lt 7, 3) := by decide +kernel
theorem dX9_fits_196 : decode cX9_fits 196 = .ok (.iconst 1, 1) := by decide +kernel
theorem dX9_fits_197 : decode cX9_fits 197 = .ok (.goto 4, 3) := by decide +kernel
theorem dX9_fits_200 : decode cX9_fits 200 = .ok (.iconst 0, 1) := by decide +kernel
theorem dX9_fits_201 : decode cX9_fits 201 = .ok (.ireturn, 1) := by decide +kernel
theorem dX9_fits_202 : decode cX9_fits 202 = .ok (.iload_n 3, 1) := by decide +kernel
theorem dX9_fits_203 : decode cX9_fits 203 = .ok (.iload_n 1, 1) := by decide +kernel
theorem dX9_fits_204 : decode cX9_fits 204 = .ok (.invokestatic 66, 3) := by decide +kernel
theorem dX9_fits_207 : decode cX9_fits 207 = .ok (.ireturn, 1) := by decide +kernel
theorem dX9_fits_208 : decode cX9_fits 208 = .ok (.iconst 1, 1) := by decide +kernel
theorem dX9_fits_209 : decode cX9_fits 209 = .ok (.ireturn, 1) := by decide +kernel
theorem dX10_init_0 : decode cX10_init 0 = .ok (.aload_n 0, 1) := by decide +kernel
theorem dX10_init_1 : decode cX10_init 1 = .ok (.invokespecial 1, 3) := by decide +kernel
theorem dX10_init_4 : decode cX10_init 4 = .ok (.aload_n 0, 1) := by decide +kernel
theorem dX10_init_5 : decode cX10_init 5 = .ok (.new 7, 3) := by decide +kernel
theorem dX10_init_8 : decode cX10_init 8 = .ok (.dup, 1) := by decide +kernel
theorem dX10_init_9 : decode cX10_init 9 = .ok (.invokespecial 9, 3) := by decide +kernel
theorem dX10_init_12 : decode cX10_init 12 = .ok (.putfield 10, 3) := by decide +kernel
theorem dX10_init_15 : decode cX10_init 15 = .ok (.aload_n 0, 1) := by decide +kernel
theorem dX10_init_16 : decode cX10_init 16 = .ok (.new 16, 3) := by decide +kernel
theorem dX10_init_19 : decode cX10_init 19 = .ok (.dup, 1) := by decide +kernel
theorem dX10_init_20 : decode cX10_init 20 = .ok (.invokespecial 18, 3) := by decide +kernel
theorem dX10_init_23 : decode cX10_init 23 = .ok (.putfield 19, 3) := by decide +kernel
theorem dX10_init_26 : decode cX10_init 26 = .ok (.aload_n 0, 1) := by decide +kernel
theorem dX10_init_27 : decode cX10_init 27 = .ok (.iconst 4, 1) := by decide +kernel
theorem dX10_init_28 : decode cX10_init 28 = .ok (.anewarray 23, 3) := by decide +kernel
theorem dX10_init_31 : decode cX10_init 31 = .ok (.putfield 25, 3) := by decide +kernel
theorem dX10_init_34 : decode cX10_init 34 = .ok (.iconst 0, 1) := by decide +kernel
theorem dX10_init_35 : decode cX10_init 35 = .ok (.istore_n 1, 1) := by decide +kernel
theorem dX10_init_36 : decode cX10_init 36 = .ok (.iload_n 1, 1) := by decide +kernel
theorem dX10_init_37 : decode cX10_init 37 = .ok (.iconst 4, 1) := by decide +kernel
theorem dX10_init_38 : decode cX10_init 38 = .ok (.if_icmp .ge 22, 3) := by decide +kernel
theorem dX10_init_41 : decode cX10_init 41 = .ok (.aload_n 0, 1) := by decide +kernel
theorem dX10_init_42 : decode cX10_init 42 = .ok (.getfield 25, 3) := by decide +kernel
theorem dX10_init_45 : decode cX10_init 45 = .ok (.iload_n 1, 1) := by decide +kernel
theorem dX10_init_46 : decode cX10_init 46 = .ok (.new 23, 3) := by decide +kernel
theorem dX10_init_49 : decode cX10_init 49 = .ok (.dup, 1) := by decide +kernel
theorem dX10_init_50 : decode cX10_init 50 = .ok (.invokespecial 29, 3) := by decide +kernel
theorem dX10_init_53 : decode cX10_init 53 = .ok (.aastore, 1) := by decide +kernel
theorem dX10_init_54 : decode cX10_init 54 = .ok (.iinc 1 1, 3) := by decide +kernel
theorem dX10_init_57 : decode cX10_init 57 = .ok (.goto (-21), 3) := by decide +kernel
theorem dX10_init_60 : decode cX10_init 60 = .ok (.aload_n 0, 1) := by decide +kernel
theorem dX10_init_61 : decode cX10_init 61 = .ok (.new 30, 3) := by decide +kernel
theorem dX10_init_64 : decode cX10_init 64 = .ok (.dup, 1) := by decide +kernel
theorem dX10_init_65 : decode cX10_init 65 = .ok (.aload_n 0, 1) := by decide +kernel
theorem dX10_init_66 : decode cX10_init 66 = .ok (.getfield 10, 3) := by decide +kernel
theorem dX10_init_69 : decode cX10_init 69 = .ok (.aload_n 0, 1) := by decide +kernel
theorem dX10_init_70 : decode cX10_init 70 = .ok (.getfield 25, 3) := by decide +kernel
theorem dX10_init_73 : decode cX10_init 73 = .ok (.aload_n 0, 1) := by decide +kernel
theorem dX10_init_74 : decode cX10_init 74 = .ok (.getfield 19, 3) := by decide +kernel
theorem dX10_init_77 : decode cX10_init 77 = .ok (.invokespecial 32, 3) := by decide +kernel
theorem dX10_init_80 : decode cX10_init 80 = .ok (.putfield 35, 3) := by decide +kernel
theorem dX10_init_83 : decode cX10_init 83 = .ok (.aload_n 0, 1) := by decide +kernel
theorem dX10_init_84 : decode cX10_init 84 = .ok (.new 39, 3) := by decide +kernel
theorem dX10_init_87 : decode cX10_init 87 = .ok (.dup, 1) := by decide +kernel
theorem dX10_init_88 : decode cX10_init 88 = .ok (.invokespecial 41, 3) := by decide +kernel
theorem dX10_init_91 : decode cX10_init 91 = .ok (.putfield 42, 3) := by decide +kernel
theorem dX10_init_94 : decode cX10_init 94 = .ok (.aload_n 0, 1) := by decide +kernel
theorem dX10_init_95 : decode cX10_init 95 = .ok (.new 39, 3) := by decide +kernel
theorem dX10_init_98 : decode cX10_init 98 = .ok (.dup, 1) := by decide +kernel
theorem dX10_init_99 : decode cX10_init 99 = .ok (.invokespecial 41, 3) := by decide +kernel
theorem dX10_init_102 : decode cX10_init 102 = .ok (.putfield 46, 3) := by decide +kernel
theorem dX10_init_105 : decode cX10_init 105 = .ok (.aload_n 0, 1) := by decide +kernel
theorem dX10_init_106 : decode cX10_init 106 = .ok (.new 49, 3) := by decide +kernel
theorem dX10_init_109 : decode cX10_init 109 = .ok (.dup, 1) := by decide +kernel
theorem dX10_init_110 : decode cX10_init 110 = .ok (.aload_n 0, 1) := by decide +kernel
theorem dX10_init_111 : decode cX10_init 111 = .ok (.getfield 10, 3) := by decide +kernel
theorem dX10_init_114 : decode cX10_init 114 = .ok (.invokespecial 51, 3) := by decide +kernel
theorem dX10_init_117 : decode cX10_init 117 = .ok (.putfield 54, 3) := by decide +kernel
theorem dX10_init_120 : decode cX10_init 120 = .ok (.aload_n 0, 1) := by decide +kernel
theorem dX10_init_121 : decode cX10_init 121 = .ok (.new 58, 3) := by decide +kernel
theorem dX10_init_124 : decode cX10_init 124 = .ok (.dup, 1) := by decide +kernel
theorem dX10_init_125 : decode cX10_init 125 = .ok (.aload_n 0, 1) := by decide +kernel
theorem dX10_init_126 : decode cX10_init 126 = .ok (.getfield 19, 3) := by decide +kernel
theorem dX10_init_129 : decode cX10_init 129 = .ok (.invokespecial 60, 3) := by decide +kernel
theorem dX10_init_132 : decode cX10_init 132 = .ok (.putfield 63, 3) := by decide +kernel
theorem dX10_init_135 : decode cX10_init 135 = .ok (.return_, 1) := by decide +kernel
theorem dX10_mail_0 : decode cX10_mail 0 = .ok (.iload_n 1, 1) := by decide +kernel
theorem dX10_mail_1 : decode cX10_mail 1 = .ok (.bipush 10, 2) := by decide +kernel
theorem dX10_mail_3 : decode cX10_mail 3 = .ok (.invokestatic 67, 3) := by decide +kernel
theorem dX10_mail_6 : decode cX10_mail 6 = .ok (.ifCond .eq 45, 3) := by decide +kernel
theorem dX10_mail_9 : decode cX10_mail 9 = .ok (.iload_n 2, 1) := by decide +kernel
theorem dX10_mail_10 : decode cX10_mail 10 = .ok (.iconst 1, 1) := by decide +kernel
theorem dX10_mail_11 : decode cX10_mail 11 = .ok (.sipush 1023, 3) := by decide +kernel
theorem dX10_mail_14 : decode cX10_mail 14 = .ok (.invokestatic 71, 3) := by decide +kernel
theorem dX10_mail_17 : decode cX10_mail 17 = .ok (.ifCond .eq 34, 3) := by decide +kernel
theorem dX10_mail_20 : decode cX10_mail 20 = .ok (.iload_n 3, 1) := by decide +kernel
theorem dX10_mail_21 : decode cX10_mail 21 = .ok (.ldc 75, 2) := by decide +kernel
theorem dX10_mail_23 : decode cX10_mail 23 = .ok (.invokestatic 67, 3) := by decide +kernel
theorem dX10_mail_26 : decode cX10_mail 26 = .ok (.ifCond .eq 25, 3) := by decide +kernel
theorem dX10_mail_29 : decode cX10_mail 29 = .ok (.iload 4, 2) := by decide +kernel
theorem dX10_mail_31 : decode cX10_mail 31 = .ok (.ldc 75, 2) := by decide +kernel
theorem dX10_mail_33 : decode cX10_mail 33 = .ok (.invokestatic 67, 3) := by decide +kernel
theorem dX10_mail_36 : decode cX10_mail 36 = .ok (.ifCond .eq 15, 3) := by decide +kernel
theorem dX10_mail_39 : decode cX10_mail 39 = .ok (.iload 5, 2) := by decide +kernel
theorem dX10_mail_41 : decode cX10_mail 41 = .ok (.iconst 1, 1) := by decide +kernel
theorem dX10_mail_42 : decode cX10_mail 42 = .ok (.sipush 999, 3) := by decide +kernel
theorem dX10_mail_45 : decode cX10_mail 45 = .ok (.invokestatic 71, 3) := by decide +kernel
theorem dX10_mail_48 : decode cX10_mail 48 = .ok (.ifCond .ne 13, 3) := by decide +kernel
theorem dX10_mail_51 : decode cX10_mail 51 = .ok (.new 76, 3) := by decide +kernel
theorem dX10_mail_54 : decode cX10_mail 54 = .ok (.dup, 1) := by decide +kernel
theorem dX10_mail_55 : decode cX10_mail 55 = .ok (.ldc 78, 2) := by decide +kernel
theorem dX10_mail_57 : decode cX10_mail 57 = .ok (.invokespecial 80, 3) := by decide +kernel
theorem dX10_mail_60 : decode cX10_mail 60 = .ok (.athrow, 1) := by decide +kernel
theorem dX10_mail_61 : decode cX10_mail 61 = .ok (.aload_n 0, 1) := by decide +kernel
theorem dX10_mail_62 : decode cX10_mail 62 = .ok (.getfield 19, 3) := by decide +kernel
theorem dX10_mail_65 : decode cX10_mail 65 = .ok (.getfield 83, 3) := by decide +kernel
theorem dX10_mail_68 : decode cX10_mail 68 = .ok (.bipush 40, 2) := by decide +kernel
theorem dX10_mail_70 : decode cX10_mail 70 = .ok (.if_icmp .lt 13, 3) := by decide +kernel
theorem dX10_mail_73 : decode cX10_mail 73 = .ok (.new 87, 3) := by decide +kernel
theorem dX10_mail_76 : decode cX10_mail 76 = .ok (.dup, 1) := by decide +kernel
theorem dX10_mail_77 : decode cX10_mail 77 = .ok (.ldc 89, 2) := by decide +kernel
theorem dX10_mail_79 : decode cX10_mail 79 = .ok (.invokespecial 91, 3) := by decide +kernel
theorem dX10_mail_82 : decode cX10_mail 82 = .ok (.athrow, 1) := by decide +kernel
theorem dX10_mail_83 : decode cX10_mail 83 = .ok (.aload_n 0, 1) := by decide +kernel
theorem dX10_mail_84 : decode cX10_mail 84 = .ok (.getfield 19, 3) := by decide +kernel
theorem dX10_mail_87 : decode cX10_mail 87 = .ok (.iload_n 1, 1) := by decide +kernel
theorem dX10_mail_88 : decode cX10_mail 88 = .ok (.iload_n 2, 1) := by decide +kernel
theorem dX10_mail_89 : decode cX10_mail 89 = .ok (.iload_n 3, 1) := by decide +kernel
theorem dX10_mail_90 : decode cX10_mail 90 = .ok (.iload 4, 2) := by decide +kernel
theorem dX10_mail_92 : decode cX10_mail 92 = .ok (.iload 5, 2) := by decide +kernel
theorem dX10_mail_94 : decode cX10_mail 94 = .ok (.invokevirtual 92, 3) := by decide +kernel
theorem dX10_mail_97 : decode cX10_mail 97 = .ok (.ireturn, 1) := by decide +kernel
theorem dX10_pass_0 : decode cX10_pass 0 = .ok (.iload_n 1, 1) := by decide +kernel
theorem dX10_pass_1 : decode cX10_pass 1 = .ok (.iconst 1, 1) := by decide +kernel
theorem dX10_pass_2 : decode cX10_pass 2 = .ok (.bipush 100, 2) := by decide +kernel
theorem dX10_pass_4 : decode cX10_pass 4 = .ok (.invokestatic 71, 3) := by decide +kernel
theorem dX10_pass_7 : decode cX10_pass 7 = .ok (.ifCond .ne 13, 3) := by decide +kernel
theorem dX10_pass_10 : decode cX10_pass 10 = .ok (.new 76, 3) := by decide +kernel
theorem dX10_pass_13 : decode cX10_pass 13 = .ok (.dup, 1) := by decide +kernel
theorem dX10_pass_14 : decode cX10_pass 14 = .ok (.ldc 96, 2) := by decide +kernel
theorem dX10_pass_16 : decode cX10_pass 16 = .ok (.invokespecial 80, 3) := by decide +kernel
theorem dX10_pass_19 : decode cX10_pass 19 = .ok (.athrow, 1) := by decide +kernel
theorem dX10_pass_20 : decode cX10_pass 20 = .ok (.aload_n 0, 1) := by decide +kernel
theorem dX10_pass_21 : decode cX10_pass 21 = .ok (.getfield 19, 3) := by decide +kernel
theorem dX10_pass_24 : decode cX10_pass 24 = .ok (.dup, 1) := by decide +kernel
theorem dX10_pass_25 : decode cX10_pass 25 = .ok (.getfield 98, 3) := by decide +kernel
theorem dX10_pass_28 : decode cX10_pass 28 = .ok (.iload_n 1, 1) := by decide +kernel
theorem dX10_pass_29 : decode cX10_pass 29 = .ok (.iadd, 1) := by decide +kernel
theorem dX10_pass_30 : decode cX10_pass 30 = .ok (.putfield 98, 3) := by decide +kernel
theorem dX10_pass_33 : decode cX10_pass 33 = .ok (.aload_n 0, 1) := by decide +kernel
theorem dX10_pass_34 : decode cX10_pass 34 = .ok (.getfield 19, 3) := by decide +kernel
theorem dX10_pass_37 : decode cX10_pass 37 = .ok (.getfield 98, 3) := by decide +kernel
theorem dX10_pass_40 : decode cX10_pass 40 = .ok (.ireturn, 1) := by decide +kernel
theorem dX10_setQuota_0 : decode cX10_setQuota 0 = .ok (.iload_n 1, 1) := by decide +kernel
theorem dX10_setQuota_1 : decode cX10_setQuota 1 = .ok (.iconst 1, 1) := by decide +kernel
theorem dX10_setQuota_2 : decode cX10_setQuota 2 = .ok (.bipush 7, 2) := by decide +kernel
theorem dX10_setQuota_4 : decode cX10_setQuota 4 = .ok (.invokestatic 71, 3) := by decide +kernel
theorem dX10_setQuota_7 : decode cX10_setQuota 7 = .ok (.ifCond .ne 13, 3) := by decide +kernel
theorem dX10_setQuota_10 : decode cX10_setQuota 10 = .ok (.new 101, 3) := by decide +kernel
theorem dX10_setQuota_13 : decode cX10_setQuota 13 = .ok (.dup, 1) := by decide +kernel
theorem dX10_setQuota_14 : decode cX10_setQuota 14 = .ok (.ldc 103, 2) := by decide +kernel
theorem dX10_setQuota_16 : decode cX10_setQuota 16 = .ok (.invokespecial 105, 3) := by decide +kernel
theorem dX10_setQuota_19 : decode cX10_setQuota 19 = .ok (.athrow, 1) := by decide +kernel
theorem dX10_setQuota_20 : decode cX10_setQuota 20 = .ok (.iload_n 2, 1) := by decide +kernel
theorem dX10_setQuota_21 : decode cX10_setQuota 21 = .ok (.iconst 0, 1) := by decide +kernel
theorem dX10_setQuota_22 : decode cX10_setQuota 22 = .ok (.sipush 9999, 3) := by decide +kernel
theorem dX10_setQuota_25 : decode cX10_setQuota 25 = .ok (.invokestatic 71, 3) := by decide +kernel
theorem dX10_setQuota_28 : decode cX10_setQuota 28 = .ok (.ifCond .ne 13, 3) := by decide +kernel
theorem dX10_setQuota_31 : decode cX10_setQuota 31 = .ok (.new 76, 3) := by decide +kernel
theorem dX10_setQuota_34 : decode cX10_setQuota 34 = .ok (.dup, 1) := by decide +kernel
theorem dX10_setQuota_35 : decode cX10_setQuota 35 = .ok (.ldc 106, 2) := by decide +kernel
theorem dX10_setQuota_37 : decode cX10_setQuota 37 = .ok (.invokespecial 80, 3) := by decide +kernel
theorem dX10_setQuota_40 : decode cX10_setQuota 40 = .ok (.athrow, 1) := by decide +kernel
theorem dX10_setQuota_41 : decode cX10_setQuota 41 = .ok (.aload_n 0, 1) := by decide +kernel
theorem dX10_setQuota_42 : decode cX10_setQuota 42 = .ok (.getfield 19, 3) := by decide +kernel
theorem dX10_setQuota_45 : decode cX10_setQuota 45 = .ok (.getfield 108, 3) := by decide +kernel
theorem dX10_setQuota_48 : decode cX10_setQuota 48 = .ok (.iload_n 1, 1) := by decide +kernel
theorem dX10_setQuota_49 : decode cX10_setQuota 49 = .ok (.iaload, 1) := by decide +kernel
theorem dX10_setQuota_50 : decode cX10_setQuota 50 = .ok (.istore_n 3, 1) := by decide +kernel
theorem dX10_setQuota_51 : decode cX10_setQuota 51 = .ok (.aload_n 0, 1) := by decide +kernel
theorem dX10_setQuota_52 : decode cX10_setQuota 52 = .ok (.getfield 19, 3) := by decide +kernel
theorem dX10_setQuota_55 : decode cX10_setQuota 55 = .ok (.getfield 108, 3) := by decide +kernel
theorem dX10_setQuota_58 : decode cX10_setQuota 58 = .ok (.iload_n 1, 1) := by decide +kernel
theorem dX10_setQuota_59 : decode cX10_setQuota 59 = .ok (.iload_n 2, 1) := by decide +kernel
theorem dX10_setQuota_60 : decode cX10_setQuota 60 = .ok (.iastore, 1) := by decide +kernel
theorem dX10_setQuota_61 : decode cX10_setQuota 61 = .ok (.iload_n 3, 1) := by decide +kernel
theorem dX10_setQuota_62 : decode cX10_setQuota 62 = .ok (.ireturn, 1) := by decide +kernel
theorem dX10_inBox_0 : decode cX10_inBox 0 = .ok (.iload_n 1, 1) := by decide +kernel
theorem dX10_inBox_1 : decode cX10_inBox 1 = .ok (.bipush 8, 2) := by decide +kernel
theorem dX10_inBox_3 : decode cX10_inBox 3 = .ok (.invokestatic 112, 3) := by decide +kernel
theorem dX10_inBox_6 : decode cX10_inBox 6 = .ok (.aload_n 0, 1) := by decide +kernel
theorem dX10_inBox_7 : decode cX10_inBox 7 = .ok (.getfield 19, 3) := by decide +kernel
theorem dX10_inBox_10 : decode cX10_inBox 10 = .ok (.getfield 116, 3) := by decide +kernel
theorem dX10_inBox_13 : decode cX10_inBox 13 = .ok (.iload_n 1, 1) := by decide +kernel
theorem dX10_inBox_14 : decode cX10_inBox 14 = .ok (.iaload, 1) := by decide +kernel
theorem dX10_inBox_15 : decode cX10_inBox 15 = .ok (.aload_n 0, 1) := by decide +kernel
theorem dX10_inBox_16 : decode cX10_inBox 16 = .ok (.getfield 19, 3) := by decide +kernel
theorem dX10_inBox_19 : decode cX10_inBox 19 = .ok (.iload_n 1, 1) := by decide +kernel
theorem dX10_inBox_20 : decode cX10_inBox 20 = .ok (.invokevirtual 119, 3) := by decide +kernel
theorem dX10_inBox_23 : decode cX10_inBox 23 = .ok (.iadd, 1) := by decide +kernel
theorem dX10_inBox_24 : decode cX10_inBox 24 = .ok (.ireturn, 1) := by decide +kernel
theorem dX10_boxOf_0 : decode cX10_boxOf 0 = .ok (.iload_n 1, 1) := by decide +kernel
theorem dX10_boxOf_1 : decode cX10_boxOf 1 = .ok (.aload_n 0, 1) := by decide +kernel
theorem dX10_boxOf_2 : decode cX10_boxOf 2 = .ok (.getfield 19, 3) := by decide +kernel
theorem dX10_boxOf_5 : decode cX10_boxOf 5 = .ok (.getfield 83, 3) := by decide +kernel
theorem dX10_boxOf_8 : decode cX10_boxOf 8 = .ok (.invokestatic 112, 3) := by decide +kernel
theorem dX10_boxOf_11 : decode cX10_boxOf 11 = .ok (.aload_n 0, 1) := by decide +kernel
theorem dX10_boxOf_12 : decode cX10_boxOf 12 = .ok (.iload_n 1, 1) := by decide +kernel
theorem dX10_boxOf_13 : decode cX10_boxOf 13 = .ok (.invokevirtual 123, 3) := by decide +kernel
theorem dX10_boxOf_16 : decode cX10_boxOf 16 = .ok (.aload_n 0, 1) := by decide +kernel
theorem dX10_boxOf_17 : decode cX10_boxOf 17 = .ok (.getfield 19, 3) := by decide +kernel
theorem dX10_boxOf_20 : decode cX10_boxOf 20 = .ok (.getfield 127, 3) := by decide +kernel
theorem dX10_boxOf_23 : decode cX10_boxOf 23 = .ok (.iload_n 1, 1) := by decide +kernel
theorem dX10_boxOf_24 : decode cX10_boxOf 24 = .ok (.aaload, 1) := by decide +kernel
theorem dX10_boxOf_25 : decode cX10_boxOf 25 = .ok (.getfield 131, 3) := by decide +kernel
theorem dX10_boxOf_28 : decode cX10_boxOf 28 = .ok (.ireturn, 1) := by decide +kernel
theorem dX10_hasFlag_0 : decode cX10_hasFlag 0 = .ok (.iload_n 1, 1) := by decide +kernel
theorem dX10_hasFlag_1 : decode cX10_hasFlag 1 = .ok (.aload_n 0, 1) := by decide +kernel
theorem dX10_hasFlag_2 : decode cX10_hasFlag 2 = .ok (.getfield 19, 3) := by decide +kernel
theorem dX10_hasFlag_5 : decode cX10_hasFlag 5 = .ok (.getfield 83, 3) := by decide +kernel
theorem dX10_hasFlag_8 : decode cX10_hasFlag 8 = .ok (.invokestatic 112, 3) := by decide +kernel
theorem dX10_hasFlag_11 : decode cX10_hasFlag 11 = .ok (.iload_n 2, 1) := by decide +kernel
theorem dX10_hasFlag_12 : decode cX10_hasFlag 12 = .ok (.bipush 8, 2) := by decide +kernel
theorem dX10_hasFlag_14 : decode cX10_hasFlag 14 = .ok (.invokestatic 112, 3) := by decide +kernel
theorem dX10_hasFlag_17 : decode cX10_hasFlag 17 = .ok (.aload_n 0, 1) := by decide +kernel
theorem dX10_hasFlag_18 : decode cX10_hasFlag 18 = .ok (.getfield 19, 3) := by decide +kernel
theorem dX10_hasFlag_21 : decode cX10_hasFlag 21 = .ok (.getfield 127, 3) := by decide +kernel
theorem dX10_hasFlag_24 : decode cX10_hasFlag 24 = .ok (.iload_n 1, 1) := by decide +kernel
theorem dX10_hasFlag_25 : decode cX10_hasFlag 25 = .ok (.aaload, 1) := by decide +kernel
theorem dX10_hasFlag_26 : decode cX10_hasFlag 26 = .ok (.getfield 136, 3) := by decide +kernel
theorem dX10_hasFlag_29 : decode cX10_hasFlag 29 = .ok (.iload_n 2, 1) := by decide +kernel
theorem dX10_hasFlag_30 : decode cX10_hasFlag 30 = .ok (.invokestatic 139, 3) := by decide +kernel
theorem dX10_hasFlag_33 : decode cX10_hasFlag 33 = .ok (.ireturn, 1) := by decide +kernel
theorem dX10_move_0 : decode cX10_move 0 = .ok (.iload_n 1, 1) := by decide +kernel
theorem dX10_move_1 : decode cX10_move 1 = .ok (.aload_n 0, 1) := by decide +kernel
theorem dX10_move_2 : decode cX10_move 2 = .ok (.getfield 19, 3) := by decide +kernel
theorem dX10_move_5 : decode cX10_move 5 = .ok (.getfield 83, 3) := by decide +kernel
theorem dX10_move_8 : decode cX10_move 8 = .ok (.invokestatic 112, 3) := by decide +kernel
theorem dX10_move_11 : decode cX10_move 11 = .ok (.iload_n 2, 1) := by decide +kernel
theorem dX10_move_12 : decode cX10_move 12 = .ok (.bipush 8, 2) := by decide +kernel
theorem dX10_move_14 : decode cX10_move 14 = .ok (.invokestatic 112, 3) := by decide +kernel
theorem dX10_move_17 : decode cX10_move 17 = .ok (.aload_n 0, 1) := by decide +kernel
theorem dX10_move_18 : decode cX10_move 18 = .ok (.iload_n 1, 1) := by decide +kernel
theorem dX10_move_19 : decode cX10_move 19 = .ok (.invokevirtual 123, 3) := by decide +kernel
theorem dX10_move_22 : decode cX10_move 22 = .ok (.aload_n 0, 1) := by decide +kernel
theorem dX10_move_23 : decode cX10_move 23 = .ok (.getfield 19, 3) := by decide +kernel
theorem dX10_move_26 : decode cX10_move 26 = .ok (.getfield 127, 3) := by decide +kernel
theorem dX10_move_29 : decode cX10_move 29 = .ok (.iload_n 1, 1) := by decide +kernel
theorem dX10_move_30 : decode cX10_move 30 = .ok (.aaload, 1) := by decide +kernel
theorem dX10_move_31 : decode cX10_move 31 = .ok (.astore_n 3, 1) := by decide +kernel
theorem dX10_move_32 : decode cX10_move 32 = .ok (.aload_n 3, 1) := by decide +kernel
theorem dX10_move_33 : decode cX10_move 33 = .ok (.getfield 131, 3) := by decide +kernel
theorem dX10_move_36 : decode cX10_move 36 = .ok (.istore 4, 2) := by decide +kernel
theorem dX10_move_38 : decode cX10_move 38 = .ok (.aload_n 3, 1) := by decide +kernel
theorem dX10_move_39 : decode cX10_move 39 = .ok (.iload_n 2, 1) := by decide +kernel
theorem dX10_move_40 : decode cX10_move 40 = .ok (.putfield 131, 3) := by decide +kernel
theorem dX10_move_43 : decode cX10_move 43 = .ok (.aload_n 3, 1) := by decide +kernel
theorem dX10_move_44 : decode cX10_move 44 = .ok (.iconst 1, 1) := by decide +kernel
theorem dX10_move_45 : decode cX10_move 45 = .ok (.putfield 142, 3) := by decide +kernel
theorem dX10_move_48 : decode cX10_move 48 = .ok (.iload 4, 2) := by decide +kernel
theorem dX10_move_50 : decode cX10_move 50 = .ok (.ireturn, 1) := by decide +kernel
theorem dX10_test_0 : decode cX10_test 0 = .ok (.iload_n 1, 1) := by decide +kernel
theorem dX10_test_1 : decode cX10_test 1 = .ok (.iload_n 2, 1) := by decide +kernel
theorem dX10_test_2 : decode cX10_test 2 = .ok (.invokestatic 146, 3) := by decide +kernel
theorem dX10_test_5 : decode cX10_test 5 = .ok (.ifCond .ne 13, 3) := by decide +kernel
theorem dX10_test_8 : decode cX10_test 8 = .ok (.new 76, 3) := by decide +kernel
theorem dX10_test_11 : decode cX10_test 11 = .ok (.dup, 1) := by decide +kernel
theorem dX10_test_12 : decode cX10_test 12 = .ok (.ldc 150, 2) := by decide +kernel
theorem dX10_test_14 : decode cX10_test 14 = .ok (.invokespecial 80, 3) := by decide +kernel
theorem dX10_test_17 : decode cX10_test 17 = .ok (.athrow, 1) := by decide +kernel
theorem dX10_test_18 : decode cX10_test 18 = .ok (.iload_n 1, 1) := by decide +kernel
theorem dX10_test_19 : decode cX10_test 19 = .ok (.invokestatic 152, 3) := by decide +kernel
theorem dX10_test_22 : decode cX10_test 22 = .ok (.istore 4, 2) := by decide +kernel
theorem dX10_test_24 : decode cX10_test 24 = .ok (.iload 4, 2) := by decide +kernel
theorem dX10_test_26 : decode cX10_test 26 = .ok (.ifCond .le 14, 3) := by decide +kernel
theorem dX10_test_29 : decode cX10_test 29 = .ok (.iload_n 2, 1) := by decide +kernel
theorem dX10_test_30 : decode cX10_test 30 = .ok (.aload_n 0, 1) := by decide +kernel
theorem dX10_test_31 : decode cX10_test 31 = .ok (.getfield 10, 3) := by decide +kernel
theorem dX10_test_34 : decode cX10_test 34 = .ok (.getfield 156, 3) := by decide +kernel
theorem dX10_test_37 : decode cX10_test 37 = .ok (.invokestatic 112, 3) := by decide +kernel
theorem dX10_test_40 : decode cX10_test 40 = .ok (.iload 4, 2) := by decide +kernel
theorem dX10_test_42 : decode cX10_test 42 = .ok (.iconst 1, 1) := by decide +kernel
theorem dX10_test_43 : decode cX10_test 43 = .ok (.if_icmp .le 14, 3) := by decide +kernel
theorem dX10_test_46 : decode cX10_test 46 = .ok (.iload_n 3, 1) := by decide +kernel
theorem dX10_test_47 : decode cX10_test 47 = .ok (.aload_n 0, 1) := by decide +kernel
theorem dX10_test_48 : decode cX10_test 48 = .ok (.getfield 10, 3) := by decide +kernel
theorem dX10_test_51 : decode cX10_test 51 = .ok (.getfield 156, 3) := by decide +kernel
theorem dX10_test_54 : decode cX10_test 54 = .ok (.invokestatic 112, 3) := by decide +kernel
theorem dX10_test_57 : decode cX10_test 57 = .ok (.aload_n 0, 1) := by decide +kernel
theorem dX10_test_58 : decode cX10_test 58 = .ok (.iconst 1, 1) := by decide +kernel
theorem dX10_test_59 : decode cX10_test 59 = .ok (.invokevirtual 159, 3) := by decide +kernel
theorem dX10_test_62 : decode cX10_test 62 = .ok (.aload_n 0, 1) := by decide +kernel
theorem dX10_test_63 : decode cX10_test 63 = .ok (.getfield 10, 3) := by decide +kernel
theorem dX10_test_66 : decode cX10_test 66 = .ok (.iload_n 1, 1) := by decide +kernel
theorem dX10_test_67 : decode cX10_test 67 = .ok (.iload_n 2, 1) := by decide +kernel
theorem dX10_test_68 : decode cX10_test 68 = .ok (.iload_n 3, 1) := by decide +kernel
theorem dX10_test_69 : decode cX10_test 69 = .ok (.invokevirtual 162, 3) := by decide +kernel
theorem dX10_test_72 : decode cX10_test 72 = .ok (.ireturn, 1) := by decide +kernel
theorem dX10_holds_0 : decode cX10_holds 0 = .ok (.iload_n 1, 1) := by decide +kernel
theorem dX10_holds_1 : decode cX10_holds 1 = .ok (.aload_n 0, 1) := by decide +kernel
theorem dX10_holds_2 : decode cX10_holds 2 = .ok (.getfield 10, 3) := by decide +kernel
theorem dX10_holds_5 : decode cX10_holds 5 = .ok (.getfield 156, 3) := by decide +kernel
theorem dX10_holds_8 : decode cX10_holds 8 = .ok (.invokestatic 112, 3) := by decide +kernel
theorem dX10_holds_11 : decode cX10_holds 11 = .ok (.iload_n 2, 1) := by decide +kernel
theorem dX10_holds_12 : decode cX10_holds 12 = .ok (.aload_n 0, 1) := by decide +kernel
theorem dX10_holds_13 : decode cX10_holds 13 = .ok (.getfield 19, 3) := by decide +kernel
theorem dX10_holds_16 : decode cX10_holds 16 = .ok (.getfield 83, 3) := by decide +kernel
theorem dX10_holds_19 : decode cX10_holds 19 = .ok (.invokestatic 112, 3) := by decide +kernel
theorem dX10_holds_22 : decode cX10_holds 22 = .ok (.aload_n 0, 1) := by decide +kernel
theorem dX10_holds_23 : decode cX10_holds 23 = .ok (.getfield 19, 3) := by decide +kernel
theorem dX10_holds_26 : decode cX10_holds 26 = .ok (.getfield 127, 3) := by decide +kernel
theorem dX10_holds_29 : decode cX10_holds 29 = .ok (.iload_n 2, 1) := by decide +kernel
theorem dX10_holds_30 : decode cX10_holds 30 = .ok (.aaload, 1) := by decide +kernel
theorem dX10_holds_31 : decode cX10_holds 31 = .ok (.astore_n 3, 1) := by decide +kernel
theorem dX10_holds_32 : decode cX10_holds 32 = .ok (.aload_n 0, 1) := by decide +kernel
theorem dX10_holds_33 : decode cX10_holds 33 = .ok (.getfield 10, 3) := by decide +kernel
theorem dX10_holds_36 : decode cX10_holds 36 = .ok (.aload_n 3, 1) := by decide +kernel
theorem dX10_holds_37 : decode cX10_holds 37 = .ok (.aload_n 3, 1) := by decide +kernel
theorem dX10_holds_38 : decode cX10_holds 38 = .ok (.getfield 136, 3) := by decide +kernel
theorem dX10_holds_41 : decode cX10_holds 41 = .ok (.invokevirtual 166, 3) := by decide +kernel
theorem dX10_holds_44 : decode cX10_holds 44 = .ok (.iload_n 1, 1) := by decide +kernel
theorem dX10_holds_45 : decode cX10_holds 45 = .ok (.invokestatic 170, 3) := by decide +kernel
theorem dX10_holds_48 : decode cX10_holds 48 = .ok (.ireturn, 1) := by decide +kernel
theorem dX10_rule_0 : decode cX10_rule 0 = .ok (.iload_n 1, 1) := by decide +kernel
theorem dX10_rule_1 : decode cX10_rule 1 = .ok (.iconst 4, 1) := by decide +kernel
theorem dX10_rule_2 : decode cX10_rule 2 = .ok (.invokestatic 112, 3) := by decide +kernel
theorem dX10_rule_5 : decode cX10_rule 5 = .ok (.iload_n 2, 1) := by decide +kernel
theorem dX10_rule_6 : decode cX10_rule 6 = .ok (.aload_n 0, 1) := by decide +kernel
theorem dX10_rule_7 : decode cX10_rule 7 = .ok (.getfield 10, 3) := by decide +kernel
theorem dX10_rule_10 : decode cX10_rule 10 = .ok (.getfield 156, 3) := by decide +kernel
theorem dX10_rule_13 : decode cX10_rule 13 = .ok (.invokestatic 112, 3) := by decide +kernel
theorem dX10_rule_16 : decode cX10_rule 16 = .ok (.aload_n 0, 1) := by decide +kernel
theorem dX10_rule_17 : decode cX10_rule 17 = .ok (.getfield 25, 3) := by decide +kernel
theorem dX10_rule_20 : decode cX10_rule 20 = .ok (.iload_n 1, 1) := by decide +kernel
theorem dX10_rule_21 : decode cX10_rule 21 = .ok (.aaload, 1) := by decide +kernel
theorem dX10_rule_22 : decode cX10_rule 22 = .ok (.astore_n 3, 1) := by decide +kernel
theorem dX10_rule_23 : decode cX10_rule 23 = .ok (.aload_n 3, 1) := by decide +kernel
theorem dX10_rule_24 : decode cX10_rule 24 = .ok (.getfield 173, 3) := by decide +kernel
theorem dX10_rule_27 : decode cX10_rule 27 = .ok (.bipush 12, 2) := by decide +kernel
theorem dX10_rule_29 : decode cX10_rule 29 = .ok (.if_icmp .lt 13, 3) := by decide +kernel
theorem dX10_rule_32 : decode cX10_rule 32 = .ok (.new 87, 3) := by decide +kernel
theorem dX10_rule_35 : decode cX10_rule 35 = .ok (.dup, 1) := by decide +kernel
theorem dX10_rule_36 : decode cX10_rule 36 = .ok (.ldc 174, 2) := by decide +kernel
theorem dX10_rule_38 : decode cX10_rule 38 = .ok (.invokespecial 91, 3) := by decide +kernel
theorem dX10_rule_41 : decode cX10_rule 41 = .ok (.athrow, 1) := by decide +kernel
theorem dX10_rule_42 : decode cX10_rule 42 = .ok (.aload_n 3, 1) := by decide +kernel
theorem dX10_rule_43 : decode cX10_rule 43 = .ok (.iload_n 2, 1) := by decide +kernel
theorem dX10_rule_44 : decode cX10_rule 44 = .ok (.invokevirtual 176, 3) := by decide +kernel
theorem dX10_rule_47 : decode cX10_rule 47 = .ok (.ireturn, 1) := by decide +kernel
theorem dX10_action_0 : decode cX10_action 0 = .ok (.aload_n 0, 1) := by decide +kernel
theorem dX10_action_1 : decode cX10_action 1 = .ok (.iload_n 1, 1) := by decide +kernel
theorem dX10_action_2 : decode cX10_action 2 = .ok (.iload_n 2, 1) := by decide +kernel
theorem dX10_action_3 : decode cX10_action 3 = .ok (.invokevirtual 178, 3) := by decide +kernel
theorem dX10_action_6 : decode cX10_action 6 = .ok (.iload_n 3, 1) := by decide +kernel
theorem dX10_action_7 : decode cX10_action 7 = .ok (.iload 4, 2) := by decide +kernel
theorem dX10_action_9 : decode cX10_action 9 = .ok (.invokestatic 181, 3) := by decide +kernel
theorem dX10_action_12 : decode cX10_action 12 = .ok (.ifCond .ne 13, 3) := by decide +kernel
theorem dX10_action_15 : decode cX10_action 15 = .ok (.new 76, 3) := by decide +kernel
theorem dX10_action_18 : decode cX10_action 18 = .ok (.dup, 1) := by decide +kernel
theorem dX10_action_19 : decode cX10_action 19 = .ok (.ldc 150, 2) := by decide +kernel
theorem dX10_action_21 : decode cX10_action 21 = .ok (.invokespecial 80, 3) := by decide +kernel
theorem dX10_action_24 : decode cX10_action 24 = .ok (.athrow, 1) := by decide +kernel
theorem dX10_action_25 : decode cX10_action 25 = .ok (.aload_n 0, 1) := by decide +kernel
theorem dX10_action_26 : decode cX10_action 26 = .ok (.getfield 25, 3) := by decide +kernel
theorem dX10_action_29 : decode cX10_action 29 = .ok (.iload_n 1, 1) := by decide +kernel
theorem dX10_action_30 : decode cX10_action 30 = .ok (.aaload, 1) := by decide +kernel
theorem dX10_action_31 : decode cX10_action 31 = .ok (.getfield 184, 3) := by decide +kernel
theorem dX10_action_34 : decode cX10_action 34 = .ok (.iload_n 2, 1) := by decide +kernel
theorem dX10_action_35 : decode cX10_action 35 = .ok (.aaload, 1) := by decide +kernel
theorem dX10_action_36 : decode cX10_action 36 = .ok (.astore 5, 2) := by decide +kernel
theorem dX10_action_38 : decode cX10_action 38 = .ok (.aload 5, 2) := by decide +kernel
theorem dX10_action_40 : decode cX10_action 40 = .ok (.getfield 188, 3) := by decide +kernel
theorem dX10_action_43 : decode cX10_action 43 = .ok (.iconst 5, 1) := by decide +kernel
theorem dX10_action_44 : decode cX10_action 44 = .ok (.if_icmp .lt 13, 3) := by decide +kernel
theorem dX10_action_47 : decode cX10_action 47 = .ok (.new 87, 3) := by decide +kernel
theorem dX10_action_50 : decode cX10_action 50 = .ok (.dup, 1) := by decide +kernel
theorem dX10_action_51 : decode cX10_action 51 = .ok (.ldc 189, 2) := by decide +kernel
theorem dX10_action_53 : decode cX10_action 53 = .ok (.invokespecial 91, 3) := by decide +kernel
theorem dX10_action_56 : decode cX10_action 56 = .ok (.athrow, 1) := by decide +kernel
theorem dX10_action_57 : decode cX10_action 57 = .ok (.aload 5, 2) := by decide +kernel
theorem dX10_action_59 : decode cX10_action 59 = .ok (.iload_n 3, 1) := by decide +kernel
theorem dX10_action_60 : decode cX10_action 60 = .ok (.iload 4, 2) := by decide +kernel
theorem dX10_action_62 : decode cX10_action 62 = .ok (.invokevirtual 191, 3) := by decide +kernel
theorem dX10_action_65 : decode cX10_action 65 = .ok (.ireturn, 1) := by decide +kernel
theorem dX10_clear_0 : decode cX10_clear 0 = .ok (.iload_n 1, 1) := by decide +kernel
theorem dX10_clear_1 : decode cX10_clear 1 = .ok (.iconst 4, 1) := by decide +kernel
theorem dX10_clear_2 : decode cX10_clear 2 = .ok (.invokestatic 112, 3) := by decide +kernel
theorem dX10_clear_5 : decode cX10_clear 5 = .ok (.aload_n 0, 1) := by decide +kernel
theorem dX10_clear_6 : decode cX10_clear 6 = .ok (.getfield 25, 3) := by decide +kernel
theorem dX10_clear_9 : decode cX10_clear 9 = .ok (.iload_n 1, 1) := by decide +kernel
theorem dX10_clear_10 : decode cX10_clear 10 = .ok (.aaload, 1) := by decide +kernel
theorem dX10_clear_11 : decode cX10_clear 11 = .ok (.getfield 173, 3) := by decide +kernel
theorem dX10_clear_14 : decode cX10_clear 14 = .ok (.istore_n 2, 1) := by decide +kernel
theorem dX10_clear_15 : decode cX10_clear 15 = .ok (.aload_n 0, 1) := by decide +kernel
theorem dX10_clear_16 : decode cX10_clear 16 = .ok (.getfield 25, 3) := by decide +kernel
theorem dX10_clear_19 : decode cX10_clear 19 = .ok (.iload_n 1, 1) := by decide +kernel
theorem dX10_clear_20 : decode cX10_clear 20 = .ok (.aaload, 1) := by decide +kernel
theorem dX10_clear_21 : decode cX10_clear 21 = .ok (.iconst 0, 1) := by decide +kernel
theorem dX10_clear_22 : decode cX10_clear 22 = .ok (.putfield 173, 3) := by decide +kernel
theorem dX10_clear_25 : decode cX10_clear 25 = .ok (.iload_n 2, 1) := by decide +kernel
theorem dX10_clear_26 : decode cX10_clear 26 = .ok (.ireturn, 1) := by decide +kernel
theorem dX10_reorder_0 : decode cX10_reorder 0 = .ok (.aload_n 0, 1) := by decide +kernel
theorem dX10_reorder_1 : decode cX10_reorder 1 = .ok (.iload_n 1, 1) := by decide +kernel
theorem dX10_reorder_2 : decode cX10_reorder 2 = .ok (.iload_n 2, 1) := by decide +kernel
theorem dX10_reorder_3 : decode cX10_reorder 3 = .ok (.invokevirtual 178, 3) := by decide +kernel
theorem dX10_reorder_6 : decode cX10_reorder 6 = .ok (.aload_n 0, 1) := by decide +kernel
theorem dX10_reorder_7 : decode cX10_reorder 7 = .ok (.iload_n 1, 1) := by decide +kernel
theorem dX10_reorder_8 : decode cX10_reorder 8 = .ok (.iload_n 3, 1) := by decide +kernel
theorem dX10_reorder_9 : decode cX10_reorder 9 = .ok (.invokevirtual 178, 3) := by decide +kernel
theorem dX10_reorder_12 : decode cX10_reorder 12 = .ok (.aload_n 0, 1) := by decide +kernel
theorem dX10_reorder_13 : decode cX10_reorder 13 = .ok (.getfield 25, 3) := by decide +kernel
theorem dX10_reorder_16 : decode cX10_reorder 16 = .ok (.iload_n 1, 1) := by decide +kernel
theorem dX10_reorder_17 : decode cX10_reorder 17 = .ok (.aaload, 1) := by decide +kernel
theorem dX10_reorder_18 : decode cX10_reorder 18 = .ok (.iload_n 2, 1) := by decide +kernel
theorem dX10_reorder_19 : decode cX10_reorder 19 = .ok (.iload_n 3, 1) := by decide +kernel
theorem dX10_reorder_20 : decode cX10_reorder 20 = .ok (.invokevirtual 194, 3) := by decide +kernel
theorem dX10_reorder_23 : decode cX10_reorder 23 = .ok (.aload_n 0, 1) := by decide +kernel
theorem dX10_reorder_24 : decode cX10_reorder 24 = .ok (.getfield 25, 3) := by decide +kernel
theorem dX10_reorder_27 : decode cX10_reorder 27 = .ok (.iload_n 1, 1) := by decide +kernel
theorem dX10_reorder_28 : decode cX10_reorder 28 = .ok (.aaload, 1) := by decide +kernel
theorem dX10_reorder_29 : decode cX10_reorder 29 = .ok (.getfield 173, 3) := by decide +kernel
theorem dX10_reorder_32 : decode cX10_reorder 32 = .ok (.ireturn, 1) := by decide +kernel
theorem dX10_deliver_0 : decode cX10_deliver 0 = .ok (.iload_n 1, 1) := by decide +kernel
theorem dX10_deliver_1 : decode cX10_deliver 1 = .ok (.aload_n 0, 1) := by decide +kernel
theorem dX10_deliver_2 : decode cX10_deliver 2 = .ok (.getfield 19, 3) := by decide +kernel
theorem dX10_deliver_5 : decode cX10_deliver 5 = .ok (.getfield 83, 3) := by decide +kernel
theorem dX10_deliver_8 : decode cX10_deliver 8 = .ok (.invokestatic 112, 3) := by decide +kernel
theorem dX10_deliver_11 : decode cX10_deliver 11 = .ok (.aload_n 0, 1) := by decide +kernel
theorem dX10_deliver_12 : decode cX10_deliver 12 = .ok (.getfield 35, 3) := by decide +kernel
theorem dX10_deliver_15 : decode cX10_deliver 15 = .ok (.iconst 0, 1) := by decide +kernel
theorem dX10_deliver_16 : decode cX10_deliver 16 = .ok (.iload_n 1, 1) := by decide +kernel
theorem dX10_deliver_17 : decode cX10_deliver 17 = .ok (.aload_n 0, 1) := by decide +kernel
theorem dX10_deliver_18 : decode cX10_deliver 18 = .ok (.getfield 42, 3) := by decide +kernel
theorem dX10_deliver_21 : decode cX10_deliver 21 = .ok (.invokevirtual 197, 3) := by decide +kernel
theorem dX10_deliver_24 : decode cX10_deliver 24 = .ok (.aload_n 0, 1) := by decide +kernel
theorem dX10_deliver_25 : decode cX10_deliver 25 = .ok (.getfield 19, 3) := by decide +kernel
theorem dX10_deliver_28 : decode cX10_deliver 28 = .ok (.iload_n 1, 1) := by decide +kernel
theorem dX10_deliver_29 : decode cX10_deliver 29 = .ok (.aload_n 0, 1) := by decide +kernel
theorem dX10_deliver_30 : decode cX10_deliver 30 = .ok (.getfield 42, 3) := by decide +kernel
theorem dX10_deliver_33 : decode cX10_deliver 33 = .ok (.invokevirtual 201, 3) := by decide +kernel
theorem dX10_deliver_36 : decode cX10_deliver 36 = .ok (.aload_n 0, 1) := by decide +kernel
theorem dX10_deliver_37 : decode cX10_deliver 37 = .ok (.getfield 42, 3) := by decide +kernel
theorem dX10_deliver_40 : decode cX10_deliver 40 = .ok (.getfield 205, 3) := by decide +kernel
theorem dX10_deliver_43 : decode cX10_deliver 43 = .ok (.ireturn, 1) := by decide +kernel
theorem dX10_attempt_0 : decode cX10_attempt 0 = .ok (.iload_n 1, 1) := by decide +kernel
theorem dX10_attempt_1 : decode cX10_attempt 1 = .ok (.iconst 4, 1) := by decide +kernel
theorem dX10_attempt_2 : decode cX10_attempt 2 = .ok (.invokestatic 112, 3) := by decide +kernel
theorem dX10_attempt_5 : decode cX10_attempt 5 = .ok (.iload_n 2, 1) := by decide +kernel
theorem dX10_attempt_6 : decode cX10_attempt 6 = .ok (.aload_n 0, 1) := by decide +kernel
theorem dX10_attempt_7 : decode cX10_attempt 7 = .ok (.getfield 19, 3) := by decide +kernel
theorem dX10_attempt_10 : decode cX10_attempt 10 = .ok (.getfield 83, 3) := by decide +kernel
theorem dX10_attempt_13 : decode cX10_attempt 13 = .ok (.invokestatic 112, 3) := by decide +kernel
theorem dX10_attempt_16 : decode cX10_attempt 16 = .ok (.aload_n 0, 1) := by decide +kernel
theorem dX10_attempt_17 : decode cX10_attempt 17 = .ok (.getfield 35, 3) := by decide +kernel
theorem dX10_attempt_20 : decode cX10_attempt 20 = .ok (.iload_n 1, 1) := by decide +kernel
theorem dX10_attempt_21 : decode cX10_attempt 21 = .ok (.iload_n 2, 1) := by decide +kernel
theorem dX10_attempt_22 : decode cX10_attempt 22 = .ok (.aload_n 0, 1) := by decide +kernel
theorem dX10_attempt_23 : decode cX10_attempt 23 = .ok (.getfield 42, 3) := by decide +kernel
theorem dX10_attempt_26 : decode cX10_attempt 26 = .ok (.invokevirtual 197, 3) := by decide +kernel
theorem dX10_attempt_29 : decode cX10_attempt 29 = .ok (.aload_n 0, 1) := by decide +kernel
theorem dX10_attempt_30 : decode cX10_attempt 30 = .ok (.getfield 42, 3) := by decide +kernel
theorem dX10_attempt_33 : decode cX10_attempt 33 = .ok (.getfield 205, 3) := by decide +kernel
theorem dX10_attempt_36 : decode cX10_attempt 36 = .ok (.ireturn, 1) := by decide +kernel
theorem dX10_done_0 : decode cX10_done 0 = .ok (.aload_n 0, 1) := by decide +kernel
theorem dX10_done_1 : decode cX10_done 1 = .ok (.getfield 42, 3) := by decide +kernel
theorem dX10_done_4 : decode cX10_done 4 = .ok (.getfield 208, 3) := by decide +kernel
theorem dX10_done_7 : decode cX10_done 7 = .ok (.ireturn, 1) := by decide +kernel
theorem dX10_doneAt_0 : decode cX10_doneAt 0 = .ok (.iload_n 1, 1) := by decide +kernel
theorem dX10_doneAt_1 : decode cX10_doneAt 1 = .ok (.aload_n 0, 1) := by decide +kernel
theorem dX10_doneAt_2 : decode cX10_doneAt 2 = .ok (.getfield 42, 3) := by decide +kernel
theorem dX10_doneAt_5 : decode cX10_doneAt 5 = .ok (.getfield 208, 3) := by decide +kernel
theorem dX10_doneAt_8 : decode cX10_doneAt 8 = .ok (.invokestatic 112, 3) := by decide +kernel
theorem dX10_doneAt_11 : decode cX10_doneAt 11 = .ok (.aload_n 0, 1) := by decide +kernel
theorem dX10_doneAt_12 : decode cX10_doneAt 12 = .ok (.getfield 42, 3) := by decide +kernel
theorem dX10_doneAt_15 : decode cX10_doneAt 15 = .ok (.getfield 211, 3) := by decide +kernel
theorem dX10_doneAt_18 : decode cX10_doneAt 18 = .ok (.iload_n 1, 1) := by decide +kernel
theorem dX10_doneAt_19 : decode cX10_doneAt 19 = .ok (.iaload, 1) := by decide +kernel
theorem dX10_doneAt_20 : decode cX10_doneAt 20 = .ok (.ireturn, 1) := by decide +kernel
theorem dX10_clashes_0 : decode cX10_clashes 0 = .ok (.aload_n 0, 1) := by decide +kernel
theorem dX10_clashes_1 : decode cX10_clashes 1 = .ok (.getfield 42, 3) := by decide +kernel
theorem dX10_clashes_4 : decode cX10_clashes 4 = .ok (.getfield 214, 3) := by decide +kernel
theorem dX10_clashes_7 : decode cX10_clashes 7 = .ok (.ireturn, 1) := by decide +kernel
theorem dX10_faults_0 : decode cX10_faults 0 = .ok (.iload_n 1, 1) := by decide +kernel
theorem dX10_faults_1 : decode cX10_faults 1 = .ok (.lookupswitch 59 #[(105, 35), (113, 51), (119, 43)], 35) := by decide +kernel
theorem dX10_faults_36 : decode cX10_faults 36 = .ok (.aload_n 0, 1) := by decide +kernel
theorem dX10_faults_37 : decode cX10_faults 37 = .ok (.getfield 42, 3) := by decide +kernel
theorem dX10_faults_40 : decode cX10_faults 40 = .ok (.getfield 217, 3) := by decide +kernel
theorem dX10_faults_43 : decode cX10_faults 43 = .ok (.ireturn, 1) := by decide +kernel
theorem dX10_faults_44 : decode cX10_faults 44 = .ok (.aload_n 0, 1) := by decide +kernel
theorem dX10_faults_45 : decode cX10_faults 45 = .ok (.getfield 42, 3) := by decide +kernel
theorem dX10_faults_48 : decode cX10_faults 48 = .ok (.getfield 220, 3) := by decide +kernel
theorem dX10_faults_51 : decode cX10_faults 51 = .ok (.ireturn, 1) := by decide +kernel
theorem dX10_faults_52 : decode cX10_faults 52 = .ok (.aload_n 0, 1) := by decide +kernel
theorem dX10_faults_53 : decode cX10_faults 53 = .ok (.getfield 42, 3) := by decide +kernel
theorem dX10_faults_56 : decode cX10_faults 56 = .ok (.getfield 223, 3) := by decide +kernel
theorem dX10_faults_59 : decode cX10_faults 59 = .ok (.ireturn, 1) := by decide +kernel
theorem dX10_faults_60 : decode cX10_faults 60 = .ok (.new 76, 3) := by decide +kernel
theorem dX10_faults_63 : decode cX10_faults 63 = .ok (.dup, 1) := by decide +kernel
theorem dX10_faults_64 : decode cX10_faults 64 = .ok (.ldc 226, 2) := by decide +kernel
theorem dX10_faults_66 : decode cX10_faults 66 = .ok (.invokespecial 80, 3) := by decide +kernel
theorem dX10_faults_69 : decode cX10_faults 69 = .ok (.athrow, 1) := by decide +kernel
theorem dX10_flags_0 : decode cX10_flags 0 = .ok (.aload_n 0, 1) := by decide +kernel
theorem dX10_flags_1 : decode cX10_flags 1 = .ok (.getfield 42, 3) := by decide +kernel
theorem dX10_flags_4 : decode cX10_flags 4 = .ok (.getfield 228, 3) := by decide +kernel
theorem dX10_flags_7 : decode cX10_flags 7 = .ok (.ireturn, 1) := by decide +kernel
theorem dX10_replies_0 : decode cX10_replies 0 = .ok (.iload_n 1, 1) := by decide +kernel
theorem dX10_replies_1 : decode cX10_replies 1 = .ok (.bipush 10, 2) := by decide +kernel
theorem dX10_replies_3 : decode cX10_replies 3 = .ok (.invokestatic 112, 3) := by decide +kernel
theorem dX10_replies_6 : decode cX10_replies 6 = .ok (.aload_n 0, 1) := by decide +kernel
theorem dX10_replies_7 : decode cX10_replies 7 = .ok (.getfield 19, 3) := by decide +kernel
theorem dX10_replies_10 : decode cX10_replies 10 = .ok (.getfield 229, 3) := by decide +kernel
theorem dX10_replies_13 : decode cX10_replies 13 = .ok (.iload_n 1, 1) := by decide +kernel
theorem dX10_replies_14 : decode cX10_replies 14 = .ok (.iaload, 1) := by decide +kernel
theorem dX10_replies_15 : decode cX10_replies 15 = .ok (.ireturn, 1) := by decide +kernel
theorem dX10_forwarded_0 : decode cX10_forwarded 0 = .ok (.iload_n 1, 1) := by decide +kernel
theorem dX10_forwarded_1 : decode cX10_forwarded 1 = .ok (.bipush 10, 2) := by decide +kernel
theorem dX10_forwarded_3 : decode cX10_forwarded 3 = .ok (.invokestatic 112, 3) := by decide +kernel
theorem dX10_forwarded_6 : decode cX10_forwarded 6 = .ok (.aload_n 0, 1) := by decide +kernel
theorem dX10_forwarded_7 : decode cX10_forwarded 7 = .ok (.getfield 19, 3) := by decide +kernel
theorem dX10_forwarded_10 : decode cX10_forwarded 10 = .ok (.getfield 232, 3) := by decide +kernel
theorem dX10_forwarded_13 : decode cX10_forwarded 13 = .ok (.iload_n 1, 1) := by decide +kernel
theorem dX10_forwarded_14 : decode cX10_forwarded 14 = .ok (.iaload, 1) := by decide +kernel
theorem dX10_forwarded_15 : decode cX10_forwarded 15 = .ok (.ireturn, 1) := by decide +kernel
theorem dX10_difference_0 : decode cX10_difference 0 = .ok (.iload_n 1, 1) := by decide +kernel
theorem dX10_difference_1 : decode cX10_difference 1 = .ok (.iconst 4, 1) := by decide +kernel
theorem dX10_difference_2 : decode cX10_difference 2 = .ok (.invokestatic 112, 3) := by decide +kernel
theorem dX10_difference_5 : decode cX10_difference 5 = .ok (.iload_n 2, 1) := by decide +kernel
theorem dX10_difference_6 : decode cX10_difference 6 = .ok (.iconst 4, 1) := by decide +kernel
theorem dX10_difference_7 : decode cX10_difference 7 = .ok (.invokestatic 112, 3) := by decide +kernel
theorem dX10_difference_10 : decode cX10_difference 10 = .ok (.iconst 0, 1) := by decide +kernel
theorem dX10_difference_11 : decode cX10_difference 11 = .ok (.istore_n 3, 1) := by decide +kernel
theorem dX10_difference_12 : decode cX10_difference 12 = .ok (.iconst 0, 1) := by decide +kernel
theorem dX10_difference_13 : decode cX10_difference 13 = .ok (.istore 4, 2) := by decide +kernel
theorem dX10_difference_15 : decode cX10_difference 15 = .ok (.iload 4, 2) := by decide +kernel
theorem dX10_difference_17 : decode cX10_difference 17 = .ok (.aload_n 0, 1) := by decide +kernel
theorem dX10_difference_18 : decode cX10_difference 18 = .ok (.getfield 19, 3) := by decide +kernel
theorem dX10_difference_21 : decode cX10_difference 21 = .ok (.getfield 83, 3) := by decide +kernel
theorem dX10_difference_24 : decode cX10_difference 24 = .ok (.if_icmp .ge 82, 3) := by decide +kernel
theorem dX10_difference_27 : decode cX10_difference 27 = .ok (.aload_n 0, 1) := by decide +kernel
theorem dX10_difference_28 : decode cX10_difference 28 = .ok (.getfield 35, 3) := by decide +kernel
theorem dX10_difference_31 : decode cX10_difference 31 = .ok (.iload_n 1, 1) := by decide +kernel
theorem dX10_difference_32 : decode cX10_difference 32 = .ok (.iload 4, 2) := by decide +kernel
theorem dX10_difference_34 : decode cX10_difference 34 = .ok (.aload_n 0, 1) := by decide +kernel
theorem dX10_difference_35 : decode cX10_difference 35 = .ok (.getfield 46, 3) := by decide +kernel
theorem dX10_difference_38 : decode cX10_difference 38 = .ok (.invokevirtual 197, 3) := by decide +kernel
theorem dX10_difference_41 : decode cX10_difference 41 = .ok (.aload_n 0, 1) := by decide +kernel
theorem dX10_difference_42 : decode cX10_difference 42 = .ok (.getfield 46, 3) := by decide +kernel
theorem dX10_difference_45 : decode cX10_difference 45 = .ok (.getfield 205, 3) := by decide +kernel
theorem dX10_difference_48 : decode cX10_difference 48 = .ok (.istore 5, 2) := by decide +kernel
theorem dX10_difference_50 : decode cX10_difference 50 = .ok (.aload_n 0, 1) := by decide +kernel
theorem dX10_difference_51 : decode cX10_difference 51 = .ok (.getfield 46, 3) := by decide +kernel
theorem dX10_difference_54 : decode cX10_difference 54 = .ok (.getfield 228, 3) := by decide +kernel
theorem dX10_difference_57 : decode cX10_difference 57 = .ok (.istore 6, 2) := by decide +kernel
theorem dX10_difference_59 : decode cX10_difference 59 = .ok (.aload_n 0, 1) := by decide +kernel
theorem dX10_difference_60 : decode cX10_difference 60 = .ok (.getfield 35, 3) := by decide +kernel
theorem dX10_difference_63 : decode cX10_difference 63 = .ok (.iload_n 2, 1) := by decide +kernel
theorem dX10_difference_64 : decode cX10_difference 64 = .ok (.iload 4, 2) := by decide +kernel
theorem dX10_difference_66 : decode cX10_difference 66 = .ok (.aload_n 0, 1) := by decide +kernel
theorem dX10_difference_67 : decode cX10_difference 67 = .ok (.getfield 46, 3) := by decide +kernel
theorem dX10_difference_70 : decode cX10_difference 70 = .ok (.invokevirtual 197, 3) := by decide +kernel
theorem dX10_difference_73 : decode cX10_difference 73 = .ok (.aload_n 0, 1) := by decide +kernel
theorem dX10_difference_74 : decode cX10_difference 74 = .ok (.getfield 46, 3) := by decide +kernel
theorem dX10_difference_77 : decode cX10_difference 77 = .ok (.getfield 205, 3) := by decide +kernel
theorem dX10_difference_80 : decode cX10_difference 80 = .ok (.iload 5, 2) := by decide +kernel
theorem dX10_difference_82 : decode cX10_difference 82 = .ok (.if_icmp .ne 15, 3) := by decide +kernel
theorem dX10_difference_85 : decode cX10_difference 85 = .ok (.aload_n 0, 1) := by decide +kernel
theorem dX10_difference_86 : decode cX10_difference 86 = .ok (.getfield 46, 3) := by decide +kernel
theorem dX10_difference_89 : decode cX10_difference 89 = .ok (.getfield 228, 3) := by decide +kernel
theorem dX10_difference_92 : decode cX10_difference 92 = .ok (.iload 6, 2) := by decide +kernel
theorem dX10_difference_94 : decode cX10_difference 94 = .ok (.if_icmp .eq 6, 3) := by decide +kernel
theorem dX10_difference_97 : decode cX10_difference 97 = .ok (.iinc 3 1, 3) := by decide +kernel
theorem dX10_difference_100 : decode cX10_difference 100 = .ok (.iinc 4 1, 3) := by decide +kernel
theorem dX10_difference_103 : decode cX10_difference 103 = .ok (.goto (-88), 3) := by decide +kernel
theorem dX10_difference_106 : decode cX10_difference 106 = .ok (.iload_n 3, 1) := by decide +kernel
theorem dX10_difference_107 : decode cX10_difference 107 = .ok (.ireturn, 1) := by decide +kernel
theorem dX10_isShadowed_0 : decode cX10_isShadowed 0 = .ok (.aload_n 0, 1) := by decide +kernel
theorem dX10_isShadowed_1 : decode cX10_isShadowed 1 = .ok (.iload_n 1, 1) := by decide +kernel
theorem dX10_isShadowed_2 : decode cX10_isShadowed 2 = .ok (.iload_n 2, 1) := by decide +kernel
theorem dX10_isShadowed_3 : decode cX10_isShadowed 3 = .ok (.invokevirtual 178, 3) := by decide +kernel
theorem dX10_isShadowed_6 : decode cX10_isShadowed 6 = .ok (.aload_n 0, 1) := by decide +kernel
theorem dX10_isShadowed_7 : decode cX10_isShadowed 7 = .ok (.iload_n 1, 1) := by decide +kernel
theorem dX10_isShadowed_8 : decode cX10_isShadowed 8 = .ok (.iload_n 2, 1) := by decide +kernel
theorem dX10_isShadowed_9 : decode cX10_isShadowed 9 = .ok (.invokevirtual 235, 3) := by decide +kernel
theorem dX10_isShadowed_12 : decode cX10_isShadowed 12 = .ok (.ireturn, 1) := by decide +kernel
theorem dX10_areSame_0 : decode cX10_areSame 0 = .ok (.iload_n 1, 1) := by decide +kernel
theorem dX10_areSame_1 : decode cX10_areSame 1 = .ok (.aload_n 0, 1) := by decide +kernel
theorem dX10_areSame_2 : decode cX10_areSame 2 = .ok (.getfield 10, 3) := by decide +kernel
theorem dX10_areSame_5 : decode cX10_areSame 5 = .ok (.getfield 156, 3) := by decide +kernel
theorem dX10_areSame_8 : decode cX10_areSame 8 = .ok (.invokestatic 112, 3) := by decide +kernel
theorem dX10_areSame_11 : decode cX10_areSame 11 = .ok (.iload_n 2, 1) := by decide +kernel
theorem dX10_areSame_12 : decode cX10_areSame 12 = .ok (.aload_n 0, 1) := by decide +kernel
theorem dX10_areSame_13 : decode cX10_areSame 13 = .ok (.getfield 10, 3) := by decide +kernel
theorem dX10_areSame_16 : decode cX10_areSame 16 = .ok (.getfield 156, 3) := by decide +kernel
theorem dX10_areSame_19 : decode cX10_areSame 19 = .ok (.invokestatic 112, 3) := by decide +kernel
theorem dX10_areSame_22 : decode cX10_areSame 22 = .ok (.aload_n 0, 1) := by decide +kernel
theorem dX10_areSame_23 : decode cX10_areSame 23 = .ok (.getfield 54, 3) := by decide +kernel
theorem dX10_areSame_26 : decode cX10_areSame 26 = .ok (.lconst 1, 1) := by decide +kernel
theorem dX10_areSame_27 : decode cX10_areSame 27 = .ok (.iload_n 1, 1) := by decide +kernel
theorem dX10_areSame_28 : decode cX10_areSame 28 = .ok (.lshl, 1) := by decide +kernel
theorem dX10_areSame_29 : decode cX10_areSame 29 = .ok (.lconst 1, 1) := by decide +kernel
theorem dX10_areSame_30 : decode cX10_areSame 30 = .ok (.iload_n 2, 1) := by decide +kernel
theorem dX10_areSame_31 : decode cX10_areSame 31 = .ok (.lshl, 1) := by decide +kernel
theorem dX10_areSame_32 : decode cX10_areSame 32 = .ok (.invokevirtual 238, 3) := by decide +kernel
theorem dX10_areSame_35 : decode cX10_areSame 35 = .ok (.ifCond .ne 23, 3) := by decide +kernel
theorem dX10_areSame_38 : decode cX10_areSame 38 = .ok (.aload_n 0, 1) := by decide +kernel
theorem dX10_areSame_39 : decode cX10_areSame 39 = .ok (.getfield 54, 3) := by decide +kernel
theorem dX10_areSame_42 : decode cX10_areSame 42 = .ok (.lconst 1, 1) := by decide +kernel
theorem dX10_areSame_43 : decode cX10_areSame 43 = .ok (.iload_n 2, 1) := by decide +kernel
theorem dX10_areSame_44 : decode cX10_areSame 44 = .ok (.lshl, 1) := by decide +kernel
theorem dX10_areSame_45 : decode cX10_areSame 45 = .ok (.lconst 1, 1) := by decide +kernel
theorem dX10_areSame_46 : decode cX10_areSame 46 = .ok (.iload_n 1, 1) := by decide +kernel
theorem dX10_areSame_47 : decode cX10_areSame 47 = .ok (.lshl, 1) := by decide +kernel
theorem dX10_areSame_48 : decode cX10_areSame 48 = .ok (.invokevirtual 238, 3) := by decide +kernel
theorem dX10_areSame_51 : decode cX10_areSame 51 = .ok (.ifCond .ne 7, 3) := by decide +kernel
theorem dX10_areSame_54 : decode cX10_areSame 54 = .ok (.iconst 1, 1) := by decide +kernel
theorem dX10_areSame_55 : decode cX10_areSame 55 = .ok (.goto 4, 3) := by decide +kernel
theorem dX10_areSame_58 : decode cX10_areSame 58 = .ok (.iconst 0, 1) := by decide +kernel
theorem dX10_areSame_59 : decode cX10_areSame 59 = .ok (.ireturn, 1) := by decide +kernel
theorem dX10_learn_0 : decode cX10_learn 0 = .ok (.iload_n 1, 1) := by decide +kernel
theorem dX10_learn_1 : decode cX10_learn 1 = .ok (.bipush 8, 2) := by decide +kernel
theorem dX10_learn_3 : decode cX10_learn 3 = .ok (.invokestatic 112, 3) := by decide +kernel
theorem dX10_learn_6 : decode cX10_learn 6 = .ok (.aload_n 0, 1) := by decide +kernel
theorem dX10_learn_7 : decode cX10_learn 7 = .ok (.getfield 63, 3) := by decide +kernel
theorem dX10_learn_10 : decode cX10_learn 10 = .ok (.iload_n 1, 1) := by decide +kernel
theorem dX10_learn_11 : decode cX10_learn 11 = .ok (.invokevirtual 242, 3) := by decide +kernel
theorem dX10_learn_14 : decode cX10_learn 14 = .ok (.ifCond .ne 13, 3) := by decide +kernel
theorem dX10_learn_17 : decode cX10_learn 17 = .ok (.new 246, 3) := by decide +kernel
theorem dX10_learn_20 : decode cX10_learn 20 = .ok (.dup, 1) := by decide +kernel
theorem dX10_learn_21 : decode cX10_learn 21 = .ok (.ldc 248, 2) := by decide +kernel
theorem dX10_learn_23 : decode cX10_learn 23 = .ok (.invokespecial 250, 3) := by decide +kernel
theorem dX10_learn_26 : decode cX10_learn 26 = .ok (.athrow, 1) := by decide +kernel
theorem dX10_learn_27 : decode cX10_learn 27 = .ok (.aload_n 0, 1) := by decide +kernel
theorem dX10_learn_28 : decode cX10_learn 28 = .ok (.aload_n 0, 1) := by decide +kernel
theorem dX10_learn_29 : decode cX10_learn 29 = .ok (.getfield 63, 3) := by decide +kernel
theorem dX10_learn_32 : decode cX10_learn 32 = .ok (.invokevirtual 251, 3) := by decide +kernel
theorem dX10_learn_35 : decode cX10_learn 35 = .ok (.invokevirtual 159, 3) := by decide +kernel
theorem dX10_learn_38 : decode cX10_learn 38 = .ok (.aload_n 0, 1) := by decide +kernel
theorem dX10_learn_39 : decode cX10_learn 39 = .ok (.getfield 63, 3) := by decide +kernel
theorem dX10_learn_42 : decode cX10_learn 42 = .ok (.aload_n 0, 1) := by decide +kernel
theorem dX10_learn_43 : decode cX10_learn 43 = .ok (.getfield 10, 3) := by decide +kernel
theorem dX10_learn_46 : decode cX10_learn 46 = .ok (.invokevirtual 255, 3) := by decide +kernel
theorem dX10_learn_49 : decode cX10_learn 49 = .ok (.ireturn, 1) := by decide +kernel
theorem dX10_sum_0 : decode cX10_sum 0 = .ok (.lconst 0, 1) := by decide +kernel
theorem dX10_sum_1 : decode cX10_sum 1 = .ok (.lstore_n 1, 1) := by decide +kernel
theorem dX10_sum_2 : decode cX10_sum 2 = .ok (.iconst 0, 1) := by decide +kernel
theorem dX10_sum_3 : decode cX10_sum 3 = .ok (.istore_n 3, 1) := by decide +kernel
theorem dX10_sum_4 : decode cX10_sum 4 = .ok (.iload_n 3, 1) := by decide +kernel
theorem dX10_sum_5 : decode cX10_sum 5 = .ok (.aload_n 0, 1) := by decide +kernel
theorem dX10_sum_6 : decode cX10_sum 6 = .ok (.getfield 19, 3) := by decide +kernel
theorem dX10_sum_9 : decode cX10_sum 9 = .ok (.getfield 83, 3) := by decide +kernel
theorem dX10_sum_12 : decode cX10_sum 12 = .ok (.if_icmp .ge 40, 3) := by decide +kernel
theorem dX10_sum_15 : decode cX10_sum 15 = .ok (.aload_n 0, 1) := by decide +kernel
theorem dX10_sum_16 : decode cX10_sum 16 = .ok (.getfield 19, 3) := by decide +kernel
theorem dX10_sum_19 : decode cX10_sum 19 = .ok (.getfield 127, 3) := by decide +kernel
theorem dX10_sum_22 : decode cX10_sum 22 = .ok (.iload_n 3, 1) := by decide +kernel
theorem dX10_sum_23 : decode cX10_sum 23 = .ok (.aaload, 1) := by decide +kernel
theorem dX10_sum_24 : decode cX10_sum 24 = .ok (.getfield 259, 3) := by decide +kernel
theorem dX10_sum_27 : decode cX10_sum 27 = .ok (.ifCond .ne 19, 3) := by decide +kernel
theorem dX10_sum_30 : decode cX10_sum 30 = .ok (.lload_n 1, 1) := by decide +kernel
theorem dX10_sum_31 : decode cX10_sum 31 = .ok (.aload_n 0, 1) := by decide +kernel
theorem dX10_sum_32 : decode cX10_sum 32 = .ok (.getfield 19, 3) := by decide +kernel
theorem dX10_sum_35 : decode cX10_sum 35 = .ok (.getfield 127, 3) := by decide +kernel
theorem dX10_sum_38 : decode cX10_sum 38 = .ok (.iload_n 3, 1) := by decide +kernel
theorem dX10_sum_39 : decode cX10_sum 39 = .ok (.aaload, 1) := by decide +kernel
theorem dX10_sum_40 : decode cX10_sum 40 = .ok (.getfield 262, 3) := by decide +kernel
theorem dX10_sum_43 : decode cX10_sum 43 = .ok (.i2l, 1) := by decide +kernel
theorem dX10_sum_44 : decode cX10_sum 44 = .ok (.ladd, 1) := by decide +kernel
theorem dX10_sum_45 : decode cX10_sum 45 = .ok (.lstore_n 1, 1) := by decide +kernel
theorem dX10_sum_46 : decode cX10_sum 46 = .ok (.iinc 3 1, 3) := by decide +kernel
theorem dX10_sum_49 : decode cX10_sum 49 = .ok (.goto (-45), 3) := by decide +kernel
theorem dX10_sum_52 : decode cX10_sum 52 = .ok (.lload_n 1, 1) := by decide +kernel
theorem dX10_sum_53 : decode cX10_sum 53 = .ok (.lreturn, 1) := by decide +kernel
theorem dX10_goneShare_0 : decode cX10_goneShare 0 = .ok (.iconst 0, 1) := by decide +kernel
theorem dX10_goneShare_1 : decode cX10_goneShare 1 = .ok (.istore_n 1, 1) := by decide +kernel
theorem dX10_goneShare_2 : decode cX10_goneShare 2 = .ok (.iconst 0, 1) := by decide +kernel
theorem dX10_goneShare_3 : decode cX10_goneShare 3 = .ok (.istore_n 2, 1) := by decide +kernel
theorem dX10_goneShare_4 : decode cX10_goneShare 4 = .ok (.iconst 0, 1) := by decide +kernel
theorem dX10_goneShare_5 : decode cX10_goneShare 5 = .ok (.istore_n 3, 1) := by decide +kernel
theorem dX10_goneShare_6 : decode cX10_goneShare 6 = .ok (.iload_n 3, 1) := by decide +kernel
theorem dX10_goneShare_7 : decode cX10_goneShare 7 = .ok (.aload_n 0, 1) := by decide +kernel
theorem dX10_goneShare_8 : decode cX10_goneShare 8 = .ok (.getfield 19, 3) := by decide +kernel
theorem dX10_goneShare_11 : decode cX10_goneShare 11 = .ok (.getfield 83, 3) := by decide +kernel
theorem dX10_goneShare_14 : decode cX10_goneShare 14 = .ok (.if_icmp .ge 45, 3) := by decide +kernel
theorem dX10_goneShare_17 : decode cX10_goneShare 17 = .ok (.aload_n 0, 1) := by decide +kernel
theorem dX10_goneShare_18 : decode cX10_goneShare 18 = .ok (.getfield 19, 3) := by decide +kernel
theorem dX10_goneShare_21 : decode cX10_goneShare 21 = .ok (.getfield 127, 3) := by decide +kernel
theorem dX10_goneShare_24 : decode cX10_goneShare 24 = .ok (.iload_n 3, 1) := by decide +kernel
theorem dX10_goneShare_25 : decode cX10_goneShare 25 = .ok (.aaload, 1) := by decide +kernel
theorem dX10_goneShare_26 : decode cX10_goneShare 26 = .ok (.getfield 265, 3) := by decide +kernel
theorem dX10_goneShare_29 : decode cX10_goneShare 29 = .ok (.ifCond .eq 6, 3) := by decide +kernel
theorem dX10_goneShare_32 : decode cX10_goneShare 32 = .ok (.iinc 1 1, 3) := by decide +kernel
theorem dX10_goneShare_35 : decode cX10_goneShare 35 = .ok (.aload_n 0, 1) := by decide +kernel
theorem dX10_goneShare_36 : decode cX10_goneShare 36 = .ok (.getfield 19, 3) := by decide +kernel
theorem dX10_goneShare_39 : decode cX10_goneShare 39 = .ok (.getfield 127, 3) := by decide +kernel
theorem dX10_goneShare_42 : decode cX10_goneShare 42 = .ok (.iload_n 3, 1) := by decide +kernel
theorem dX10_goneShare_43 : decode cX10_goneShare 43 = .ok (.aaload, 1) := by decide +kernel
theorem dX10_goneShare_44 : decode cX10_goneShare 44 = .ok (.getfield 259, 3) := by decide +kernel
theorem dX10_goneShare_47 : decode cX10_goneShare 47 = .ok (.ifCond .eq 6, 3) := by decide +kernel
theorem dX10_goneShare_50 : decode cX10_goneShare 50 = .ok (.iinc 2 1, 3) := by decide +kernel
theorem dX10_goneShare_53 : decode cX10_goneShare 53 = .ok (.iinc 3 1, 3) := by decide +kernel
theorem dX10_goneShare_56 : decode cX10_goneShare 56 = .ok (.goto (-50), 3) := by decide +kernel
theorem dX10_goneShare_59 : decode cX10_goneShare 59 = .ok (.iload_n 1, 1) := by decide +kernel
theorem dX10_goneShare_60 : decode cX10_goneShare 60 = .ok (.ifCond .ne 14, 3) := by decide +kernel
theorem dX10_goneShare_63 : decode cX10_goneShare 63 = .ok (.new 268, 3) := by decide +kernel
theorem dX10_goneShare_66 : decode cX10_goneShare 66 = .ok (.dup, 1) := by decide +kernel
theorem dX10_goneShare_67 : decode cX10_goneShare 67 = .ok (.ldc_w 270, 3) := by decide +kernel
theorem dX10_goneShare_70 : decode cX10_goneShare 70 = .ok (.invokespecial 272, 3) := by decide +kernel
theorem dX10_goneShare_73 : decode cX10_goneShare 73 = .ok (.athrow, 1) := by decide +kernel
theorem dX10_goneShare_74 : decode cX10_goneShare 74 = .ok (.iload_n 2, 1) := by decide +kernel
theorem dX10_goneShare_75 : decode cX10_goneShare 75 = .ok (.i2f, 1) := by decide +kernel
theorem dX10_goneShare_76 : decode cX10_goneShare 76 = .ok (.iload_n 1, 1) := by decide +kernel
theorem dX10_goneShare_77 : decode cX10_goneShare 77 = .ok (.i2f, 1) := by decide +kernel
theorem dX10_goneShare_78 : decode cX10_goneShare 78 = .ok (.fdiv, 1) := by decide +kernel
theorem dX10_goneShare_79 : decode cX10_goneShare 79 = .ok (.freturn, 1) := by decide +kernel
theorem dX10_meanSize_0 : decode cX10_meanSize 0 = .ok (.iload_n 1, 1) := by decide +kernel
theorem dX10_meanSize_1 : decode cX10_meanSize 1 = .ok (.bipush 8, 2) := by decide +kernel
theorem dX10_meanSize_3 : decode cX10_meanSize 3 = .ok (.invokestatic 112, 3) := by decide +kernel
theorem dX10_meanSize_6 : decode cX10_meanSize 6 = .ok (.iconst 0, 1) := by decide +kernel
theorem dX10_meanSize_7 : decode cX10_meanSize 7 = .ok (.istore_n 2, 1) := by decide +kernel
theorem dX10_meanSize_8 : decode cX10_meanSize 8 = .ok (.iconst 0, 1) := by decide +kernel
theorem dX10_meanSize_9 : decode cX10_meanSize 9 = .ok (.istore_n 3, 1) := by decide +kernel
theorem dX10_meanSize_10 : decode cX10_meanSize 10 = .ok (.iload_n 3, 1) := by decide +kernel
theorem dX10_meanSize_11 : decode cX10_meanSize 11 = .ok (.aload_n 0, 1) := by decide +kernel
theorem dX10_meanSize_12 : decode cX10_meanSize 12 = .ok (.getfield 19, 3) := by decide +kernel
theorem dX10_meanSize_15 : decode cX10_meanSize 15 = .ok (.getfield 83, 3) := by decide +kernel
theorem dX10_meanSize_18 : decode cX10_meanSize 18 = .ok (.if_icmp .ge 28, 3) := by decide +kernel
theorem dX10_meanSize_21 : decode cX10_meanSize 21 = .ok (.aload_n 0, 1) := by decide +kernel
theorem dX10_meanSize_22 : decode cX10_meanSize 22 = .ok (.getfield 19, 3) := by decide +kernel
theorem dX10_meanSize_25 : decode cX10_meanSize 25 = .ok (.getfield 127, 3) := by decide +kernel
theorem dX10_meanSize_28 : decode cX10_meanSize 28 = .ok (.iload_n 3, 1) := by decide +kernel
theorem dX10_meanSize_29 : decode cX10_meanSize 29 = .ok (.aaload, 1) := by decide +kernel
theorem dX10_meanSize_30 : decode cX10_meanSize 30 = .ok (.iload_n 1, 1) := by decide +kernel
theorem dX10_meanSize_31 : decode cX10_meanSize 31 = .ok (.invokevirtual 273, 3) := by decide +kernel
theorem dX10_meanSize_34 : decode cX10_meanSize 34 = .ok (.ifCond .eq 6, 3) := by decide +kernel
theorem dX10_meanSize_37 : decode cX10_meanSize 37 = .ok (.iinc 2 1, 3) := by decide +kernel
theorem dX10_meanSize_40 : decode cX10_meanSize 40 = .ok (.iinc 3 1, 3) := by decide +kernel
theorem dX10_meanSize_43 : decode cX10_meanSize 43 = .ok (.goto (-33), 3) := by decide +kernel
theorem dX10_meanSize_46 : decode cX10_meanSize 46 = .ok (.iload_n 2, 1) := by decide +kernel
theorem dX10_meanSize_47 : decode cX10_meanSize 47 = .ok (.ifCond .ne 14, 3) := by decide +kernel
theorem dX10_meanSize_50 : decode cX10_meanSize 50 = .ok (.new 268, 3) := by decide +kernel
theorem dX10_meanSize_53 : decode cX10_meanSize 53 = .ok (.dup, 1) := by decide +kernel
theorem dX10_meanSize_54 : decode cX10_meanSize 54 = .ok (.ldc_w 276, 3) := by decide +kernel
theorem dX10_meanSize_57 : decode cX10_meanSize 57 = .ok (.invokespecial 272, 3) := by decide +kernel
theorem dX10_meanSize_60 : decode cX10_meanSize 60 = .ok (.athrow, 1) := by decide +kernel
theorem dX10_meanSize_61 : decode cX10_meanSize 61 = .ok (.aload_n 0, 1) := by decide +kernel
theorem dX10_meanSize_62 : decode cX10_meanSize 62 = .ok (.getfield 19, 3) := by decide +kernel
theorem dX10_meanSize_65 : decode cX10_meanSize 65 = .ok (.iload_n 1, 1) := by decide +kernel
theorem dX10_meanSize_66 : decode cX10_meanSize 66 = .ok (.invokevirtual 119, 3) := by decide +kernel
theorem dX10_meanSize_69 : decode cX10_meanSize 69 = .ok (.i2d, 1) := by decide +kernel
theorem dX10_meanSize_70 : decode cX10_meanSize 70 = .ok (.iload_n 2, 1) := by decide +kernel
theorem dX10_meanSize_71 : decode cX10_meanSize 71 = .ok (.i2d, 1) := by decide +kernel
theorem dX10_meanSize_72 : decode cX10_meanSize 72 = .ok (.ddiv, 1) := by decide +kernel
theorem dX10_meanSize_73 : decode cX10_meanSize 73 = .ok (.dreturn, 1) := by decide +kernel
theorem dX10_isTrue_0 : decode cX10_isTrue 0 = .ok (.iconst 0, 1) := by decide +kernel
theorem dX10_isTrue_1 : decode cX10_isTrue 1 = .ok (.istore_n 1, 1) := by decide +kernel
theorem dX10_isTrue_2 : decode cX10_isTrue 2 = .ok (.iload_n 1, 1) := by decide +kernel
theorem dX10_isTrue_3 : decode cX10_isTrue 3 = .ok (.iconst 4, 1) := by decide +kernel
theorem dX10_isTrue_4 : decode cX10_isTrue 4 = .ok (.if_icmp .ge 93, 3) := by decide +kernel
theorem dX10_isTrue_7 : decode cX10_isTrue 7 = .ok (.iconst 0, 1) := by decide +kernel
theorem dX10_isTrue_8 : decode cX10_isTrue 8 = .ok (.istore_n 2, 1) := by decide +kernel
theorem dX10_isTrue_9 : decode cX10_isTrue 9 = .ok (.iconst 0, 1) := by decide +kernel
theorem dX10_isTrue_10 : decode cX10_isTrue 10 = .ok (.istore_n 3, 1) := by decide +kernel
theorem dX10_isTrue_11 : decode cX10_isTrue 11 = .ok (.iload_n 3, 1) := by decide +kernel
theorem dX10_isTrue_12 : decode cX10_isTrue 12 = .ok (.aload_n 0, 1) := by decide +kernel
theorem dX10_isTrue_13 : decode cX10_isTrue 13 = .ok (.getfield 19, 3) := by decide +kernel
theorem dX10_isTrue_16 : decode cX10_isTrue 16 = .ok (.getfield 83, 3) := by decide +kernel
theorem dX10_isTrue_19 : decode cX10_isTrue 19 = .ok (.if_icmp .ge 32, 3) := by decide +kernel
theorem dX10_isTrue_22 : decode cX10_isTrue 22 = .ok (.aload_n 0, 1) := by decide +kernel
theorem dX10_isTrue_23 : decode cX10_isTrue 23 = .ok (.getfield 35, 3) := by decide +kernel
theorem dX10_isTrue_26 : decode cX10_isTrue 26 = .ok (.iload_n 1, 1) := by decide +kernel
theorem dX10_isTrue_27 : decode cX10_isTrue 27 = .ok (.iload_n 3, 1) := by decide +kernel
theorem dX10_isTrue_28 : decode cX10_isTrue 28 = .ok (.aload_n 0, 1) := by decide +kernel
theorem dX10_isTrue_29 : decode cX10_isTrue 29 = .ok (.getfield 46, 3) := by decide +kernel
theorem dX10_isTrue_32 : decode cX10_isTrue 32 = .ok (.invokevirtual 197, 3) := by decide +kernel
theorem dX10_isTrue_35 : decode cX10_isTrue 35 = .ok (.iload_n 2, 1) := by decide +kernel
theorem dX10_isTrue_36 : decode cX10_isTrue 36 = .ok (.aload_n 0, 1) := by decide +kernel
theorem dX10_isTrue_37 : decode cX10_isTrue 37 = .ok (.getfield 46, 3) := by decide +kernel
theorem dX10_isTrue_40 : decode cX10_isTrue 40 = .ok (.getfield 278, 3) := by decide +kernel
theorem dX10_isTrue_43 : decode cX10_isTrue 43 = .ok (.ior, 1) := by decide +kernel
theorem dX10_isTrue_44 : decode cX10_isTrue 44 = .ok (.istore_n 2, 1) := by decide +kernel
theorem dX10_isTrue_45 : decode cX10_isTrue 45 = .ok (.iinc 3 1, 3) := by decide +kernel
theorem dX10_isTrue_48 : decode cX10_isTrue 48 = .ok (.goto (-37), 3) := by decide +kernel
theorem dX10_isTrue_51 : decode cX10_isTrue 51 = .ok (.iconst 0, 1) := by decide +kernel
theorem dX10_isTrue_52 : decode cX10_isTrue 52 = .ok (.istore_n 3, 1) := by decide +kernel
theorem dX10_isTrue_53 : decode cX10_isTrue 53 = .ok (.iload_n 3, 1) := by decide +kernel
theorem dX10_isTrue_54 : decode cX10_isTrue 54 = .ok (.aload_n 0, 1) := by decide +kernel
theorem dX10_isTrue_55 : decode cX10_isTrue 55 = .ok (.getfield 25, 3) := by decide +kernel
theorem dX10_isTrue_58 : decode cX10_isTrue 58 = .ok (.iload_n 1, 1) := by decide +kernel
theorem dX10_isTrue_59 : decode cX10_isTrue 59 = .ok (.aaload, 1) := by decide +kernel
theorem dX10_isTrue_60 : decode cX10_isTrue 60 = .ok (.getfield 173, 3) := by decide +kernel
theorem dX10_isTrue_63 : decode cX10_isTrue 63 = .ok (.if_icmp .ge 28, 3) := by decide +kernel
theorem dX10_isTrue_66 : decode cX10_isTrue 66 = .ok (.iload_n 2, 1) := by decide +kernel
theorem dX10_isTrue_67 : decode cX10_isTrue 67 = .ok (.iload_n 3, 1) := by decide +kernel
theorem dX10_isTrue_68 : decode cX10_isTrue 68 = .ok (.invokestatic 139, 3) := by decide +kernel
theorem dX10_isTrue_71 : decode cX10_isTrue 71 = .ok (.ifCond .eq 14, 3) := by decide +kernel
theorem dX10_isTrue_74 : decode cX10_isTrue 74 = .ok (.aload_n 0, 1) := by decide +kernel
theorem dX10_isTrue_75 : decode cX10_isTrue 75 = .ok (.iload_n 1, 1) := by decide +kernel
theorem dX10_isTrue_76 : decode cX10_isTrue 76 = .ok (.iload_n 3, 1) := by decide +kernel
theorem dX10_isTrue_77 : decode cX10_isTrue 77 = .ok (.invokevirtual 235, 3) := by decide +kernel
theorem dX10_isTrue_80 : decode cX10_isTrue 80 = .ok (.ifCond .eq 5, 3) := by decide +kernel
theorem dX10_isTrue_83 : decode cX10_isTrue 83 = .ok (.iconst 0, 1) := by decide +kernel
theorem dX10_isTrue_84 : decode cX10_isTrue 84 = .ok (.ireturn, 1) := by decide +kernel
theorem dX10_isTrue_85 : decode cX10_isTrue 85 = .ok (.iinc 3 1, 3) := by decide +kernel
theorem dX10_isTrue_88 : decode cX10_isTrue 88 = .ok (.goto (-35), 3) := by decide +kernel
theorem dX10_isTrue_91 : decode cX10_isTrue 91 = .ok (.iinc 1 1, 3) := by decide +kernel
theorem dX10_isTrue_94 : decode cX10_isTrue 94 = .ok (.goto (-92), 3) := by decide +kernel
theorem dX10_isTrue_97 : decode cX10_isTrue 97 = .ok (.iconst 1, 1) := by decide +kernel
theorem dX10_isTrue_98 : decode cX10_isTrue 98 = .ok (.ireturn, 1) := by decide +kernel
theorem dX10_isNeverDone_0 : decode cX10_isNeverDone 0 = .ok (.aload_n 0, 1) := by decide +kernel
theorem dX10_isNeverDone_1 : decode cX10_isNeverDone 1 = .ok (.getfield 25, 3) := by decide +kernel
theorem dX10_isNeverDone_4 : decode cX10_isNeverDone 4 = .ok (.iload_n 1, 1) := by decide +kernel
theorem dX10_isNeverDone_5 : decode cX10_isNeverDone 5 = .ok (.aaload, 1) := by decide +kernel
theorem dX10_isNeverDone_6 : decode cX10_isNeverDone 6 = .ok (.getfield 184, 3) := by decide +kernel
theorem dX10_isNeverDone_9 : decode cX10_isNeverDone 9 = .ok (.astore_n 3, 1) := by decide +kernel
theorem dX10_isNeverDone_10 : decode cX10_isNeverDone 10 = .ok (.lconst 0, 1) := by decide +kernel
theorem dX10_isNeverDone_11 : decode cX10_isNeverDone 11 = .ok (.lstore 4, 2) := by decide +kernel
theorem dX10_isNeverDone_13 : decode cX10_isNeverDone 13 = .ok (.iconst 0, 1) := by decide +kernel
theorem dX10_isNeverDone_14 : decode cX10_isNeverDone 14 = .ok (.istore 6, 2) := by decide +kernel
theorem dX10_isNeverDone_16 : decode cX10_isNeverDone 16 = .ok (.iload 6, 2) := by decide +kernel
theorem dX10_isNeverDone_18 : decode cX10_isNeverDone 18 = .ok (.iload_n 2, 1) := by decide +kernel
theorem dX10_isNeverDone_19 : decode cX10_isNeverDone 19 = .ok (.if_icmp .ge 33, 3) := by decide +kernel
theorem dX10_isNeverDone_22 : decode cX10_isNeverDone 22 = .ok (.aload_n 3, 1) := by decide +kernel
theorem dX10_isNeverDone_23 : decode cX10_isNeverDone 23 = .ok (.iload 6, 2) := by decide +kernel
theorem dX10_isNeverDone_25 : decode cX10_isNeverDone 25 = .ok (.aaload, 1) := by decide +kernel
theorem dX10_isNeverDone_26 : decode cX10_isNeverDone 26 = .ok (.invokevirtual 281, 3) := by decide +kernel
theorem dX10_isNeverDone_29 : decode cX10_isNeverDone 29 = .ok (.ifCond .eq 17, 3) := by decide +kernel
theorem dX10_isNeverDone_32 : decode cX10_isNeverDone 32 = .ok (.lload 4, 2) := by decide +kernel
theorem dX10_isNeverDone_34 : decode cX10_isNeverDone 34 = .ok (.lconst 1, 1) := by decide +kernel
theorem dX10_isNeverDone_35 : decode cX10_isNeverDone 35 = .ok (.aload_n 3, 1) := by decide +kernel
theorem dX10_isNeverDone_36 : decode cX10_isNeverDone 36 = .ok (.iload 6, 2) := by decide +kernel
theorem dX10_isNeverDone_38 : decode cX10_isNeverDone 38 = .ok (.aaload, 1) := by decide +kernel
theorem dX10_isNeverDone_39 : decode cX10_isNeverDone 39 = .ok (.getfield 285, 3) := by decide +kernel
theorem dX10_isNeverDone_42 : decode cX10_isNeverDone 42 = .ok (.lshl, 1) := by decide +kernel
theorem dX10_isNeverDone_43 : decode cX10_isNeverDone 43 = .ok (.lor, 1) := by decide +kernel
theorem dX10_isNeverDone_44 : decode cX10_isNeverDone 44 = .ok (.lstore 4, 2) := by decide +kernel
theorem dX10_isNeverDone_46 : decode cX10_isNeverDone 46 = .ok (.iinc 6 1, 3) := by decide +kernel
theorem dX10_isNeverDone_49 : decode cX10_isNeverDone 49 = .ok (.goto (-33), 3) := by decide +kernel
theorem dX10_isNeverDone_52 : decode cX10_isNeverDone 52 = .ok (.aload_n 0, 1) := by decide +kernel
theorem dX10_isNeverDone_53 : decode cX10_isNeverDone 53 = .ok (.getfield 54, 3) := by decide +kernel
theorem dX10_isNeverDone_56 : decode cX10_isNeverDone 56 = .ok (.lconst 1, 1) := by decide +kernel
theorem dX10_isNeverDone_57 : decode cX10_isNeverDone 57 = .ok (.aload_n 3, 1) := by decide +kernel
theorem dX10_isNeverDone_58 : decode cX10_isNeverDone 58 = .ok (.iload_n 2, 1) := by decide +kernel
theorem dX10_isNeverDone_59 : decode cX10_isNeverDone 59 = .ok (.aaload, 1) := by decide +kernel
theorem dX10_isNeverDone_60 : decode cX10_isNeverDone 60 = .ok (.getfield 285, 3) := by decide +kernel
theorem dX10_isNeverDone_63 : decode cX10_isNeverDone 63 = .ok (.lshl, 1) := by decide +kernel
theorem dX10_isNeverDone_64 : decode cX10_isNeverDone 64 = .ok (.lload 4, 2) := by decide +kernel
theorem dX10_isNeverDone_66 : decode cX10_isNeverDone 66 = .ok (.invokevirtual 238, 3) := by decide +kernel
theorem dX10_isNeverDone_69 : decode cX10_isNeverDone 69 = .ok (.ifCond .ne 7, 3) := by decide +kernel
theorem dX10_isNeverDone_72 : decode cX10_isNeverDone 72 = .ok (.iconst 1, 1) := by decide +kernel
theorem dX10_isNeverDone_73 : decode cX10_isNeverDone 73 = .ok (.goto 4, 3) := by decide +kernel
theorem dX10_isNeverDone_76 : decode cX10_isNeverDone 76 = .ok (.iconst 0, 1) := by decide +kernel
theorem dX10_isNeverDone_77 : decode cX10_isNeverDone 77 = .ok (.ireturn, 1) := by decide +kernel
theorem dX10_requireRule_0 : decode cX10_requireRule 0 = .ok (.iload_n 1, 1) := by decide +kernel
theorem dX10_requireRule_1 : decode cX10_requireRule 1 = .ok (.iconst 4, 1) := by decide +kernel
theorem dX10_requireRule_2 : decode cX10_requireRule 2 = .ok (.invokestatic 112, 3) := by decide +kernel
theorem dX10_requireRule_5 : decode cX10_requireRule 5 = .ok (.iload_n 2, 1) := by decide +kernel
theorem dX10_requireRule_6 : decode cX10_requireRule 6 = .ok (.aload_n 0, 1) := by decide +kernel
theorem dX10_requireRule_7 : decode cX10_requireRule 7 = .ok (.getfield 25, 3) := by decide +kernel
theorem dX10_requireRule_10 : decode cX10_requireRule 10 = .ok (.iload_n 1, 1) := by decide +kernel
theorem dX10_requireRule_11 : decode cX10_requireRule 11 = .ok (.aaload, 1) := by decide +kernel
theorem dX10_requireRule_12 : decode cX10_requireRule 12 = .ok (.getfield 173, 3) := by decide +kernel
theorem dX10_requireRule_15 : decode cX10_requireRule 15 = .ok (.invokestatic 112, 3) := by decide +kernel
theorem dX10_requireRule_18 : decode cX10_requireRule 18 = .ok (.return_, 1) := by decide +kernel
theorem dX10_requireInBox_0 : decode cX10_requireInBox 0 = .ok (.aload_n 0, 1) := by decide +kernel
theorem dX10_requireInBox_1 : decode cX10_requireInBox 1 = .ok (.getfield 19, 3) := by decide +kernel
theorem dX10_requireInBox_4 : decode cX10_requireInBox 4 = .ok (.getfield 127, 3) := by decide +kernel
theorem dX10_requireInBox_7 : decode cX10_requireInBox 7 = .ok (.iload_n 1, 1) := by decide +kernel
theorem dX10_requireInBox_8 : decode cX10_requireInBox 8 = .ok (.aaload, 1) := by decide +kernel
theorem dX10_requireInBox_9 : decode cX10_requireInBox 9 = .ok (.invokevirtual 288, 3) := by decide +kernel
theorem dX10_requireInBox_12 : decode cX10_requireInBox 12 = .ok (.ifCond .ne 14, 3) := by decide +kernel
theorem dX10_requireInBox_15 : decode cX10_requireInBox 15 = .ok (.new 246, 3) := by decide +kernel
theorem dX10_requireInBox_18 : decode cX10_requireInBox 18 = .ok (.dup, 1) := by decide +kernel
theorem dX10_requireInBox_19 : decode cX10_requireInBox 19 = .ok (.ldc_w 291, 3) := by decide +kernel
theorem dX10_requireInBox_22 : decode cX10_requireInBox 22 = .ok (.invokespecial 250, 3) := by decide +kernel
theorem dX10_requireInBox_25 : decode cX10_requireInBox 25 = .ok (.athrow, 1) := by decide +kernel
theorem dX10_requireInBox_26 : decode cX10_requireInBox 26 = .ok (.return_, 1) := by decide +kernel
theorem dX10_requireRoomForTests_0 : decode cX10_requireRoomForTests 0 = .ok (.aload_n 0, 1) := by decide +kernel
theorem dX10_requireRoomForTests_1 : decode cX10_requireRoomForTests 1 = .ok (.getfield 10, 3) := by decide +kernel
theorem dX10_requireRoomForTests_4 : decode cX10_requireRoomForTests 4 = .ok (.getfield 156, 3) := by decide +kernel
theorem dX10_requireRoomForTests_7 : decode cX10_requireRoomForTests 7 = .ok (.iload_n 1, 1) := by decide +kernel
theorem dX10_requireRoomForTests_8 : decode cX10_requireRoomForTests 8 = .ok (.iadd, 1) := by decide +kernel
theorem dX10_requireRoomForTests_9 : decode cX10_requireRoomForTests 9 = .ok (.bipush 60, 2) := by decide +kernel
theorem dX10_requireRoomForTests_11 : decode cX10_requireRoomForTests 11 = .ok (.if_icmp .le 14, 3) := by decide +kernel
theorem dX10_requireRoomForTests_14 : decode cX10_requireRoomForTests 14 = .ok (.new 87, 3) := by decide +kernel
theorem dX10_requireRoomForTests_17 : decode cX10_requireRoomForTests 17 = .ok (.dup, 1) := by decide +kernel
theorem dX10_requireRoomForTests_18 : decode cX10_requireRoomForTests 18 = .ok (.ldc_w 293, 3) := by decide +kernel
theorem dX10_requireRoomForTests_21 : decode cX10_requireRoomForTests 21 = .ok (.invokespecial 91, 3) := by decide +kernel
theorem dX10_requireRoomForTests_24 : decode cX10_requireRoomForTests 24 = .ok (.athrow, 1) := by decide +kernel
theorem dX10_requireRoomForTests_25 : decode cX10_requireRoomForTests 25 = .ok (.return_, 1) := by decide +kernel
theorem dX10_requireBelow_0 : decode cX10_requireBelow 0 = .ok (.iload_n 0, 1) := by decide +kernel
theorem dX10_requireBelow_1 : decode cX10_requireBelow 1 = .ok (.iload_n 1, 1) := by decide +kernel
theorem dX10_requireBelow_2 : decode cX10_requireBelow 2 = .ok (.invokestatic 67, 3) := by decide +kernel
theorem dX10_requireBelow_5 : decode cX10_requireBelow 5 = .ok (.ifCond .ne 14, 3) := by decide +kernel
theorem dX10_requireBelow_8 : decode cX10_requireBelow 8 = .ok (.new 101, 3) := by decide +kernel
theorem dX10_requireBelow_11 : decode cX10_requireBelow 11 = .ok (.dup, 1) := by decide +kernel
theorem dX10_requireBelow_12 : decode cX10_requireBelow 12 = .ok (.ldc_w 295, 3) := by decide +kernel
theorem dX10_requireBelow_15 : decode cX10_requireBelow 15 = .ok (.invokespecial 105, 3) := by decide +kernel
theorem dX10_requireBelow_18 : decode cX10_requireBelow 18 = .ok (.athrow, 1) := by decide +kernel
theorem dX10_requireBelow_19 : decode cX10_requireBelow 19 = .ok (.return_, 1) := by decide +kernel
theorem dX10_isBelow_0 : decode cX10_isBelow 0 = .ok (.iload_n 0, 1) := by decide +kernel
theorem dX10_isBelow_1 : decode cX10_isBelow 1 = .ok (.ifCond .lt 12, 3) := by decide +kernel
theorem dX10_isBelow_4 : decode cX10_isBelow 4 = .ok (.iload_n 0, 1) := by decide +kernel
theorem dX10_isBelow_5 : decode cX10_isBelow 5 = .ok (.iload_n 1, 1) := by decide +kernel
theorem dX10_isBelow_6 : decode cX10_isBelow 6 = .ok (.if_icmp .ge 7, 3) := by decide +kernel
theorem dX10_isBelow_9 : decode cX10_isBelow 9 = .ok (.iconst 1, 1) := by decide +kernel
theorem dX10_isBelow_10 : decode cX10_isBelow 10 = .ok (.goto 4, 3) := by decide +kernel
theorem dX10_isBelow_13 : decode cX10_isBelow 13 = .ok (.iconst 0, 1) := by decide +kernel
theorem dX10_isBelow_14 : decode cX10_isBelow 14 = .ok (.ireturn, 1) := by decide +kernel
theorem dX10_lies_0 : decode cX10_lies 0 = .ok (.iload_n 0, 1) := by decide +kernel
theorem dX10_lies_1 : decode cX10_lies 1 = .ok (.iload_n 1, 1) := by decide +kernel
theorem dX10_lies_2 : decode cX10_lies 2 = .ok (.if_icmp .lt 12, 3) := by decide +kernel
theorem dX10_lies_5 : decode cX10_lies 5 = .ok (.iload_n 0, 1) := by decide +kernel
theorem dX10_lies_6 : decode cX10_lies 6 = .ok (.iload_n 2, 1) := by decide +kernel
theorem dX10_lies_7 : decode cX10_lies 7 = .ok (.if_icmp .gt 7, 3) := by decide +kernel
theorem dX10_lies_10 : decode cX10_lies 10 = .ok (.iconst 1, 1) := by decide +kernel
theorem dX10_lies_11 : decode cX10_lies 11 = .ok (.goto 4, 3) := by decide +kernel
theorem dX10_lies_14 : decode cX10_lies 14 = .ok (.iconst 0, 1) := by decide +kernel
theorem dX10_lies_15 : decode cX10_lies 15 = .ok (.ireturn, 1) := by decide +kernel
theorem dX10_hasBit_0 : decode cX10_hasBit 0 = .ok (.iload_n 0, 1) := by decide +kernel
theorem dX10_hasBit_1 : decode cX10_hasBit 1 = .ok (.iload_n 1, 1) := by decide +kernel
theorem dX10_hasBit_2 : decode cX10_hasBit 2 = .ok (.ishr, 1) := by decide +kernel
theorem dX10_hasBit_3 : decode cX10_hasBit 3 = .ok (.iconst 1, 1) := by decide +kernel
theorem dX10_hasBit_4 : decode cX10_hasBit 4 = .ok (.iand, 1) := by decide +kernel
theorem dX10_hasBit_5 : decode cX10_hasBit 5 = .ok (.ifCond .eq 7, 3) := by decide +kernel
theorem dX10_hasBit_8 : decode cX10_hasBit 8 = .ok (.iconst 1, 1) := by decide +kernel
theorem dX10_hasBit_9 : decode cX10_hasBit 9 = .ok (.goto 4, 3) := by decide +kernel
theorem dX10_hasBit_12 : decode cX10_hasBit 12 = .ok (.iconst 0, 1) := by decide +kernel
theorem dX10_hasBit_13 : decode cX10_hasBit 13 = .ok (.ireturn, 1) := by decide +kernel
theorem dX10_hasBit__0 : decode cX10_hasBit_ 0 = .ok (.lload_n 0, 1) := by decide +kernel
theorem dX10_hasBit__1 : decode cX10_hasBit_ 1 = .ok (.iload_n 2, 1) := by decide +kernel
theorem dX10_hasBit__2 : decode cX10_hasBit_ 2 = .ok (.lshr, 1) := by decide +kernel
theorem dX10_hasBit__3 : decode cX10_hasBit_ 3 = .ok (.lconst 1, 1) := by decide +kernel
theorem dX10_hasBit__4 : decode cX10_hasBit_ 4 = .ok (.land, 1) := by decide +kernel
theorem dX10_hasBit__5 : decode cX10_hasBit_ 5 = .ok (.lconst 0, 1) := by decide +kernel
theorem dX10_hasBit__6 : decode cX10_hasBit_ 6 = .ok (.lcmp, 1) := by decide +kernel
theorem dX10_hasBit__7 : decode cX10_hasBit_ 7 = .ok (.ifCond .eq 7, 3) := by decide +kernel
theorem dX10_hasBit__10 : decode cX10_hasBit_ 10 = .ok (.iconst 1, 1) := by decide +kernel
theorem dX10_hasBit__11 : decode cX10_hasBit_ 11 = .ok (.goto 4, 3) := by decide +kernel
theorem dX10_hasBit__14 : decode cX10_hasBit_ 14 = .ok (.iconst 0, 1) := by decide +kernel
theorem dX10_hasBit__15 : decode cX10_hasBit_ 15 = .ok (.ireturn, 1) := by decide +kernel
theorem dX11_init_0 : decode cX11_init 0 = .ok (.aload_n 0, 1) := by decide +kernel
theorem dX11_init_1 : decode cX11_init 1 = .ok (.invokespecial 1, 3) := by decide +kernel
theorem dX11_init_4 : decode cX11_init 4 = .ok (.aload_n 0, 1) := by decide +kernel
theorem dX11_init_5 : decode cX11_init 5 = .ok (.bipush 40, 2) := by decide +kernel
theorem dX11_init_7 : decode cX11_init 7 = .ok (.newarray .int, 2) := by decide +kernel
theorem dX11_init_9 : decode cX11_init 9 = .ok (.putfield 7, 3) := by decide +kernel
theorem dX11_init_12 : decode cX11_init 12 = .ok (.aload_n 0, 1) := by decide +kernel
theorem dX11_init_13 : decode cX11_init 13 = .ok (.bipush 40, 2) := by decide +kernel
theorem dX11_init_15 : decode cX11_init 15 = .ok (.newarray .int, 2) := by decide +kernel
theorem dX11_init_17 : decode cX11_init 17 = .ok (.putfield 13, 3) := by decide +kernel
theorem dX11_init_20 : decode cX11_init 20 = .ok (.aload_n 0, 1) := by decide +kernel
theorem dX11_init_21 : decode cX11_init 21 = .ok (.bipush 40, 2) := by decide +kernel
theorem dX11_init_23 : decode cX11_init 23 = .ok (.newarray .int, 2) := by decide +kernel
theorem dX11_init_25 : decode cX11_init 25 = .ok (.putfield 16, 3) := by decide +kernel
theorem dX11_init_28 : decode cX11_init 28 = .ok (.aload_n 0, 1) := by decide +kernel
theorem dX11_init_29 : decode cX11_init 29 = .ok (.bipush 40, 2) := by decide +kernel
theorem dX11_init_31 : decode cX11_init 31 = .ok (.newarray .int, 2) := by decide +kernel
theorem dX11_init_33 : decode cX11_init 33 = .ok (.putfield 19, 3) := by decide +kernel
theorem dX11_init_36 : decode cX11_init 36 = .ok (.aload_n 0, 1) := by decide +kernel
theorem dX11_init_37 : decode cX11_init 37 = .ok (.bipush 40, 2) := by decide +kernel
theorem dX11_init_39 : decode cX11_init 39 = .ok (.newarray .int, 2) := by decide +kernel
theorem dX11_init_41 : decode cX11_init 41 = .ok (.putfield 22, 3) := by decide +kernel
theorem dX11_init_44 : decode cX11_init 44 = .ok (.aload_n 0, 1) := by decide +kernel
theorem dX11_init_45 : decode cX11_init 45 = .ok (.bipush 40, 2) := by decide +kernel
theorem dX11_init_47 : decode cX11_init 47 = .ok (.newarray .int, 2) := by decide +kernel
theorem dX11_init_49 : decode cX11_init 49 = .ok (.putfield 25, 3) := by decide +kernel
theorem dX11_init_52 : decode cX11_init 52 = .ok (.aload_n 0, 1) := by decide +kernel
theorem dX11_init_53 : decode cX11_init 53 = .ok (.bipush 40, 2) := by decide +kernel
theorem dX11_init_55 : decode cX11_init 55 = .ok (.newarray .boolean, 2) := by decide +kernel
theorem dX11_init_57 : decode cX11_init 57 = .ok (.putfield 28, 3) := by decide +kernel
theorem dX11_init_60 : decode cX11_init 60 = .ok (.aload_n 0, 1) := by decide +kernel
theorem dX11_init_61 : decode cX11_init 61 = .ok (.bipush 40, 2) := by decide +kernel
theorem dX11_init_63 : decode cX11_init 63 = .ok (.newarray .boolean, 2) := by decide +kernel
theorem dX11_init_65 : decode cX11_init 65 = .ok (.putfield 32, 3) := by decide +kernel
theorem dX11_init_68 : decode cX11_init 68 = .ok (.aload_n 0, 1) := by decide +kernel
theorem dX11_init_69 : decode cX11_init 69 = .ok (.bipush 40, 2) := by decide +kernel
theorem dX11_init_71 : decode cX11_init 71 = .ok (.newarray .int, 2) := by decide +kernel
theorem dX11_init_73 : decode cX11_init 73 = .ok (.putfield 35, 3) := by decide +kernel
theorem dX11_init_76 : decode cX11_init 76 = .ok (.aload_n 0, 1) := by decide +kernel
theorem dX11_init_77 : decode cX11_init 77 = .ok (.bipush 40, 2) := by decide +kernel
theorem dX11_init_79 : decode cX11_init 79 = .ok (.newarray .int, 2) := by decide +kernel
theorem dX11_init_81 : decode cX11_init 81 = .ok (.putfield 38, 3) := by decide +kernel
theorem dX11_init_84 : decode cX11_init 84 = .ok (.aload_n 0, 1) := by decide +kernel
theorem dX11_init_85 : decode cX11_init 85 = .ok (.bipush 40, 2) := by decide +kernel
theorem dX11_init_87 : decode cX11_init 87 = .ok (.newarray .int, 2) := by decide +kernel
theorem dX11_init_89 : decode cX11_init 89 = .ok (.putfield 41, 3) := by decide +kernel
theorem dX11_init_92 : decode cX11_init 92 = .ok (.aload_n 0, 1) := by decide +kernel
theorem dX11_init_93 : decode cX11_init 93 = .ok (.bipush 8, 2) := by decide +kernel
theorem dX11_init_95 : decode cX11_init 95 = .ok (.newarray .int, 2) := by decide +kernel
theorem dX11_init_97 : decode cX11_init 97 = .ok (.putfield 44, 3) := by decide +kernel
theorem dX11_init_100 : decode cX11_init 100 = .ok (.aload_n 0, 1) := by decide +kernel
theorem dX11_init_101 : decode cX11_init 101 = .ok (.bipush 8, 2) := by decide +kernel
theorem dX11_init_103 : decode cX11_init 103 = .ok (.newarray .int, 2) := by decide +kernel
theorem dX11_init_105 : decode cX11_init 105 = .ok (.putfield 47, 3) := by decide +kernel
theorem dX11_init_108 : decode cX11_init 108 = .ok (.aload_n 0, 1) := by decide +kernel
theorem dX11_init_109 : decode cX11_init 109 = .ok (.bipush 10, 2) := by decide +kernel
theorem dX11_init_111 : decode cX11_init 111 = .ok (.newarray .int, 2) := by decide +kernel
theorem dX11_init_113 : decode cX11_init 113 = .ok (.putfield 50, 3) := by decide +kernel
theorem dX11_init_116 : decode cX11_init 116 = .ok (.aload_n 0, 1) := by decide +kernel
theorem dX11_init_117 : decode cX11_init 117 = .ok (.bipush 10, 2) := by decide +kernel
theorem dX11_init_119 : decode cX11_init 119 = .ok (.newarray .int, 2) := by decide +kernel
theorem dX11_init_121 : decode cX11_init 121 = .ok (.putfield 53, 3) := by decide +kernel
theorem dX11_init_124 : decode cX11_init 124 = .ok (.aload_n 0, 1) := by decide +kernel
theorem dX11_init_125 : decode cX11_init 125 = .ok (.bipush 10, 2) := by decide +kernel
theorem dX11_init_127 : decode cX11_init 127 = .ok (.newarray .int, 2) := by decide +kernel
theorem dX11_init_129 : decode cX11_init 129 = .ok (.putfield 56, 3) := by decide +kernel
theorem dX11_init_132 : decode cX11_init 132 = .ok (.aload_n 0, 1) := by decide +kernel
theorem dX11_init_133 : decode cX11_init 133 = .ok (.bipush 60, 2) := by decide +kernel
theorem dX11_init_135 : decode cX11_init 135 = .ok (.newarray .char, 2) := by decide +kernel
theorem dX11_init_137 : decode cX11_init 137 = .ok (.putfield 59, 3) := by decide +kernel
theorem dX11_init_140 : decode cX11_init 140 = .ok (.aload_n 0, 1) := by decide +kernel
theorem dX11_init_141 : decode cX11_init 141 = .ok (.bipush 60, 2) := by decide +kernel
theorem dX11_init_143 : decode cX11_init 143 = .ok (.newarray .int, 2) := by decide +kernel
theorem dX11_init_145 : decode cX11_init 145 = .ok (.putfield 63, 3) := by decide +kernel
theorem dX11_init_148 : decode cX11_init 148 = .ok (.aload_n 0, 1) := by decide +kernel
theorem dX11_init_149 : decode cX11_init 149 = .ok (.bipush 60, 2) := by decide +kernel
theorem dX11_init_151 : decode cX11_init 151 = .ok (.newarray .int, 2) := by decide +kernel
theorem dX11_init_153 : decode cX11_init 153 = .ok (.putfield 66, 3) := by decide +kernel
theorem dX11_init_156 : decode cX11_init 156 = .ok (.aload_n 0, 1) := by decide +kernel
theorem dX11_init_157 : decode cX11_init 157 = .ok (.bipush 60, 2) := by decide +kernel
theorem dX11_init_159 : decode cX11_init 159 = .ok (.newarray .boolean, 2) := by decide +kernel
theorem dX11_init_161 : decode cX11_init 161 = .ok (.putfield 69, 3) := by decide +kernel
theorem dX11_init_164 : decode cX11_init 164 = .ok (.aload_n 0, 1) := by decide +kernel
theorem dX11_init_165 : decode cX11_init 165 = .ok (.iconst 4, 1) := by decide +kernel
theorem dX11_init_166 : decode cX11_init 166 = .ok (.newarray .int, 2) := by decide +kernel
theorem dX11_init_168 : decode cX11_init 168 = .ok (.putfield 72, 3) := by decide +kernel
theorem dX11_init_171 : decode cX11_init 171 = .ok (.aload_n 0, 1) := by decide +kernel
theorem dX11_init_172 : decode cX11_init 172 = .ok (.bipush 48, 2) := by decide +kernel
theorem dX11_init_174 : decode cX11_init 174 = .ok (.newarray .int, 2) := by decide +kernel
theorem dX11_init_176 : decode cX11_init 176 = .ok (.putfield 75, 3) := by decide +kernel
theorem dX11_init_179 : decode cX11_init 179 = .ok (.aload_n 0, 1) := by decide +kernel
theorem dX11_init_180 : decode cX11_init 180 = .ok (.bipush 48, 2) := by decide +kernel
theorem dX11_init_182 : decode cX11_init 182 = .ok (.newarray .int, 2) := by decide +kernel
theorem dX11_init_184 : decode cX11_init 184 = .ok (.putfield 78, 3) := by decide +kernel
theorem dX11_init_187 : decode cX11_init 187 = .ok (.aload_n 0, 1) := by decide +kernel
theorem dX11_init_188 : decode cX11_init 188 = .ok (.sipush 240, 3) := by decide +kernel
theorem dX11_init_191 : decode cX11_init 191 = .ok (.newarray .char, 2) := by decide +kernel
theorem dX11_init_193 : decode cX11_init 193 = .ok (.putfield 81, 3) := by decide +kernel
theorem dX11_init_196 : decode cX11_init 196 = .ok (.aload_n 0, 1) := by decide +kernel
theorem dX11_init_197 : decode cX11_init 197 = .ok (.sipush 240, 3) := by decide +kernel
theorem dX11_init_200 : decode cX11_init 200 = .ok (.newarray .int, 2) := by decide +kernel
theorem dX11_init_202 : decode cX11_init 202 = .ok (.putfield 84, 3) := by decide +kernel
theorem dX11_init_205 : decode cX11_init 205 = .ok (.aload_n 0, 1) := by decide +kernel
theorem dX11_init_206 : decode cX11_init 206 = .ok (.bipush 6, 2) := by decide +kernel
theorem dX11_init_208 : decode cX11_init 208 = .ok (.newarray .int, 2) := by decide +kernel
theorem dX11_init_210 : decode cX11_init 210 = .ok (.putfield 87, 3) := by decide +kernel
theorem dX11_init_213 : decode cX11_init 213 = .ok (.aload_n 0, 1) := by decide +kernel
theorem dX11_init_214 : decode cX11_init 214 = .ok (.bipush 6, 2) := by decide +kernel
theorem dX11_init_216 : decode cX11_init 216 = .ok (.newarray .int, 2) := by decide +kernel
theorem dX11_init_218 : decode cX11_init 218 = .ok (.putfield 90, 3) := by decide +kernel
theorem dX11_init_221 : decode cX11_init 221 = .ok (.aload_n 0, 1) := by decide +kernel
theorem dX11_init_222 : decode cX11_init 222 = .ok (.bipush 6, 2) := by decide +kernel
theorem dX11_init_224 : decode cX11_init 224 = .ok (.newarray .int, 2) := by decide +kernel
theorem dX11_init_226 : decode cX11_init 226 = .ok (.putfield 93, 3) := by decide +kernel
theorem dX11_init_229 : decode cX11_init 229 = .ok (.aload_n 0, 1) := by decide +kernel
theorem dX11_init_230 : decode cX11_init 230 = .ok (.bipush 8, 2) := by decide +kernel
theorem dX11_init_232 : decode cX11_init 232 = .ok (.newarray .int, 2) := by decide +kernel
theorem dX11_init_234 : decode cX11_init 234 = .ok (.putfield 96, 3) := by decide +kernel
theorem dX11_init_237 : decode cX11_init 237 = .ok (.aload_n 0, 1) := by decide +kernel
theorem dX11_init_238 : decode cX11_init 238 = .ok (.sipush 200, 3) := by decide +kernel
theorem dX11_init_241 : decode cX11_init 241 = .ok (.newarray .int, 2) := by decide +kernel
theorem dX11_init_243 : decode cX11_init 243 = .ok (.putfield 99, 3) := by decide +kernel
theorem dX11_init_246 : decode cX11_init 246 = .ok (.aload_n 0, 1) := by decide +kernel
theorem dX11_init_247 : decode cX11_init 247 = .ok (.sipush 200, 3) := by decide +kernel
theorem dX11_init_250 : decode cX11_init 250 = .ok (.newarray .int, 2) := by decide +kernel
theorem dX11_init_252 : decode cX11_init 252 = .ok (.putfield 102, 3) := by decide +kernel
theorem dX11_init_255 : decode cX11_init 255 = .ok (.aload_n 0, 1) := by decide +kernel
theorem dX11_init_256 : decode cX11_init 256 = .ok (.bipush 45, 2) := by decide +kernel
theorem dX11_init_258 : decode cX11_init 258 = .ok (.newarray .int, 2) := by decide +kernel
theorem dX11_init_260 : decode cX11_init 260 = .ok (.putfield 105, 3) := by decide +kernel
theorem dX11_init_263 : decode cX11_init 263 = .ok (.aload_n 0, 1) := by decide +kernel
theorem dX11_init_264 : decode cX11_init 264 = .ok (.bipush 45, 2) := by decide +kernel
theorem dX11_init_266 : decode cX11_init 266 = .ok (.newarray .boolean, 2) := by decide +kernel
theorem dX11_init_268 : decode cX11_init 268 = .ok (.putfield 108, 3) := by decide +kernel
theorem dX11_init_271 : decode cX11_init 271 = .ok (.aload_n 0, 1) := by decide +kernel
theorem dX11_init_272 : decode cX11_init 272 = .ok (.bipush 45, 2) := by decide +kernel
theorem dX11_init_274 : decode cX11_init 274 = .ok (.newarray .int, 2) := by decide +kernel
theorem dX11_init_276 : decode cX11_init 276 = .ok (.putfield 111, 3) := by decide +kernel
theorem dX11_init_279 : decode cX11_init 279 = .ok (.aload_n 0, 1) := by decide +kernel
theorem dX11_init_280 : decode cX11_init 280 = .ok (.bipush 45, 2) := by decide +kernel
theorem dX11_init_282 : decode cX11_init 282 = .ok (.newarray .int, 2) := by decide +kernel
theorem dX11_init_284 : decode cX11_init 284 = .ok (.putfield 114, 3) := by decide +kernel
theorem dX11_init_287 : decode cX11_init 287 = .ok (.aload_n 0, 1) := by decide +kernel
theorem dX11_init_288 : decode cX11_init 288 = .ok (.bipush 60, 2) := by decide +kernel
theorem dX11_init_290 : decode cX11_init 290 = .ok (.newarray .boolean, 2) := by decide +kernel
theorem dX11_init_292 : decode cX11_init 292 = .ok (.putfield 117, 3) := by decide +kernel
theorem dX11_init_295 : decode cX11_init 295 = .ok (.aload_n 0, 1) := by decide +kernel
theorem dX11_init_296 : decode cX11_init 296 = .ok (.bipush 60, 2) := by decide +kernel
theorem dX11_init_298 : decode cX11_init 298 = .ok (.newarray .boolean, 2) := by decide +kernel
theorem dX11_init_300 : decode cX11_init 300 = .ok (.putfield 120, 3) := by decide +kernel
theorem dX11_init_303 : decode cX11_init 303 = .ok (.aload_n 0, 1) := by decide +kernel
theorem dX11_init_304 : decode cX11_init 304 = .ok (.bipush 60, 2) := by decide +kernel
theorem dX11_init_306 : decode cX11_init 306 = .ok (.newarray .boolean, 2) := by decide +kernel
theorem dX11_init_308 : decode cX11_init 308 = .ok (.putfield 123, 3) := by decide +kernel
theorem dX11_init_311 : decode cX11_init 311 = .ok (.aload_n 0, 1) := by decide +kernel
theorem dX11_init_312 : decode cX11_init 312 = .ok (.bipush 61, 2) := by decide +kernel
theorem dX11_init_314 : decode cX11_init 314 = .ok (.newarray .int, 2) := by decide +kernel
theorem dX11_init_316 : decode cX11_init 316 = .ok (.putfield 126, 3) := by decide +kernel
theorem dX11_init_319 : decode cX11_init 319 = .ok (.aload_n 0, 1) := by decide +kernel
theorem dX11_init_320 : decode cX11_init 320 = .ok (.bipush 60, 2) := by decide +kernel
theorem dX11_init_322 : decode cX11_init 322 = .ok (.newarray .int, 2) := by decide +kernel
theorem dX11_init_324 : decode cX11_init 324 = .ok (.putfield 129, 3) := by decide +kernel
theorem dX11_init_327 : decode cX11_init 327 = .ok (.aload_n 0, 1) := by decide +kernel
theorem dX11_init_328 : decode cX11_init 328 = .ok (.sipush 200, 3) := by decide +kernel
theorem dX11_init_331 : decode cX11_init 331 = .ok (.newarray .char, 2) := by decide +kernel
theorem dX11_init_333 : decode cX11_init 333 = .ok (.putfield 132, 3) := by decide +kernel
theorem dX11_init_336 : decode cX11_init 336 = .ok (.aload_n 0, 1) := by decide +kernel
theorem dX11_init_337 : decode cX11_init 337 = .ok (.sipush 200, 3) := by decide +kernel
theorem dX11_init_340 : decode cX11_init 340 = .ok (.newarray .int, 2) := by decide +kernel
theorem dX11_init_342 : decode cX11_init 342 = .ok (.putfield 135, 3) := by decide +kernel
theorem dX11_init_345 : decode cX11_init 345 = .ok (.iconst 0, 1) := by decide +kernel
theorem dX11_init_346 : decode cX11_init 346 = .ok (.istore_n 1, 1) := by decide +kernel
theorem dX11_init_347 : decode cX11_init 347 = .ok (.iload_n 1, 1) := by decide +kernel
theorem dX11_init_348 : decode cX11_init 348 = .ok (.bipush 8, 2) := by decide +kernel
theorem dX11_init_350 : decode cX11_init 350 = .ok (.if_icmp .ge 18, 3) := by decide +kernel
theorem dX11_init_353 : decode cX11_init 353 = .ok (.aload_n 0, 1) := by decide +kernel
theorem dX11_init_354 : decode cX11_init 354 = .ok (.getfield 44, 3) := by decide +kernel
theorem dX11_init_357 : decode cX11_init 357 = .ok (.iload_n 1, 1) := by decide +kernel
theorem dX11_init_358 : decode cX11_init 358 = .ok (.sipush 2000, 3) := by decide +kernel
theorem dX11_init_361 : decode cX11_init 361 = .ok (.iastore, 1) := by decide +kernel
theorem dX11_init_362 : decode cX11_init 362 = .ok (.iinc 1 1, 3) := by decide +kernel
theorem dX11_init_365 : decode cX11_init 365 = .ok (.goto (-18), 3) := by decide +kernel
theorem dX11_init_368 : decode cX11_init 368 = .ok (.iconst 0, 1) := by decide +kernel
theorem dX11_init_369 : decode cX11_init 369 = .ok (.istore_n 1, 1) := by decide +kernel
theorem dX11_init_370 : decode cX11_init 370 = .ok (.iload_n 1, 1) := by decide +kernel
theorem dX11_init_371 : decode cX11_init 371 = .ok (.bipush 10, 2) := by decide +kernel
theorem dX11_init_373 : decode cX11_init 373 = .ok (.if_icmp .ge 16, 3) := by decide +kernel
theorem dX11_init_376 : decode cX11_init 376 = .ok (.aload_n 0, 1) := by decide +kernel
theorem dX11_init_377 : decode cX11_init 377 = .ok (.getfield 50, 3) := by decide +kernel
theorem dX11_init_380 : decode cX11_init 380 = .ok (.iload_n 1, 1) := by decide +kernel
theorem dX11_init_381 : decode cX11_init 381 = .ok (.iconst (-1), 1) := by decide +kernel
theorem dX11_init_382 : decode cX11_init 382 = .ok (.iastore, 1) := by decide +kernel
theorem dX11_init_383 : decode cX11_init 383 = .ok (.iinc 1 1, 3) := by decide +kernel
theorem dX11_init_386 : decode cX11_init 386 = .ok (.goto (-16), 3) := by decide +kernel
theorem dX11_init_389 : decode cX11_init 389 = .ok (.return_, 1) := by decide +kernel
theorem dX11_thrown_0 : decode cX11_thrown 0 = .ok (.aload_n 0, 1) := by decide +kernel
theorem dX11_thrown_1 : decode cX11_thrown 1 = .ok (.getfield 138, 3) := by decide +kernel
theorem dX11_thrown_4 : decode cX11_thrown 4 = .ok (.ireturn, 1) := by decide +kernel
theorem dX11_in_0 : decode cX11_in 0 = .ok (.iload_n 0, 1) := by decide +kernel
theorem dX11_in_1 : decode cX11_in 1 = .ok (.iload_n 1, 1) := by decide +kernel
theorem dX11_in_2 : decode cX11_in 2 = .ok (.if_icmp .lt 12, 3) := by decide +kernel
theorem dX11_in_5 : decode cX11_in 5 = .ok (.iload_n 0, 1) := by decide +kernel
theorem dX11_in_6 : decode cX11_in 6 = .ok (.iload_n 2, 1) := by decide +kernel
theorem dX11_in_7 : decode cX11_in 7 = .ok (.if_icmp .gt 7, 3) := by decide +kernel
theorem dX11_in_10 : decode cX11_in 10 = .ok (.iconst 1, 1) := by decide +kernel
theorem dX11_in_11 : decode cX11_in 11 = .ok (.goto 4, 3) := by decide +kernel
theorem dX11_in_14 : decode cX11_in 14 = .ok (.iconst 0, 1) := by decide +kernel
theorem dX11_in_15 : decode cX11_in 15 = .ok (.ireturn, 1) := by decide +kernel
theorem dX11_fails_0 : decode cX11_fails 0 = .ok (.aload_n 0, 1) := by decide +kernel
theorem dX11_fails_1 : decode cX11_fails 1 = .ok (.iload_n 1, 1) := by decide +kernel
theorem dX11_fails_2 : decode cX11_fails 2 = .ok (.putfield 138, 3) := by decide +kernel
theorem dX11_fails_5 : decode cX11_fails 5 = .ok (.iconst 0, 1) := by decide +kernel
theorem dX11_fails_6 : decode cX11_fails 6 = .ok (.ireturn, 1) := by decide +kernel
theorem dX11_mail_0 : decode cX11_mail 0 = .ok (.aload_n 0, 1) := by decide +kernel
theorem dX11_mail_1 : decode cX11_mail 1 = .ok (.iconst 0, 1) := by decide +kernel
theorem dX11_mail_2 : decode cX11_mail 2 = .ok (.putfield 138, 3) := by decide +kernel
theorem dX11_mail_5 : decode cX11_mail 5 = .ok (.iload_n 1, 1) := by decide +kernel
theorem dX11_mail_6 : decode cX11_mail 6 = .ok (.iconst 0, 1) := by decide +kernel
theorem dX11_mail_7 : decode cX11_mail 7 = .ok (.bipush 9, 2) := by decide +kernel
theorem dX11_mail_9 : decode cX11_mail 9 = .ok (.invokestatic 142, 3) := by decide +kernel
theorem dX11_mail_12 : decode cX11_mail 12 = .ok (.ifCond .eq 47, 3) := by decide +kernel
theorem dX11_mail_15 : decode cX11_mail 15 = .ok (.iload_n 2, 1) := by decide +kernel
theorem dX11_mail_16 : decode cX11_mail 16 = .ok (.iconst 1, 1) := by decide +kernel
theorem dX11_mail_17 : decode cX11_mail 17 = .ok (.sipush 1023, 3) := by decide +kernel
theorem dX11_mail_20 : decode cX11_mail 20 = .ok (.invokestatic 142, 3) := by decide +kernel
theorem dX11_mail_23 : decode cX11_mail 23 = .ok (.ifCond .eq 36, 3) := by decide +kernel
theorem dX11_mail_26 : decode cX11_mail 26 = .ok (.iload_n 3, 1) := by decide +kernel
theorem dX11_mail_27 : decode cX11_mail 27 = .ok (.iconst 0, 1) := by decide +kernel
theorem dX11_mail_28 : decode cX11_mail 28 = .ok (.ldc 146, 2) := by decide +kernel
theorem dX11_mail_30 : decode cX11_mail 30 = .ok (.invokestatic 142, 3) := by decide +kernel
theorem dX11_mail_33 : decode cX11_mail 33 = .ok (.ifCond .eq 26, 3) := by decide +kernel
theorem dX11_mail_36 : decode cX11_mail 36 = .ok (.iload 4, 2) := by decide +kernel
theorem dX11_mail_38 : decode cX11_mail 38 = .ok (.iconst 0, 1) := by decide +kernel
theorem dX11_mail_39 : decode cX11_mail 39 = .ok (.ldc 146, 2) := by decide +kernel
theorem dX11_mail_41 : decode cX11_mail 41 = .ok (.invokestatic 142, 3) := by decide +kernel
theorem dX11_mail_44 : decode cX11_mail 44 = .ok (.ifCond .eq 15, 3) := by decide +kernel
theorem dX11_mail_47 : decode cX11_mail 47 = .ok (.iload 5, 2) := by decide +kernel
theorem dX11_mail_49 : decode cX11_mail 49 = .ok (.iconst 1, 1) := by decide +kernel
theorem dX11_mail_50 : decode cX11_mail 50 = .ok (.sipush 999, 3) := by decide +kernel
theorem dX11_mail_53 : decode cX11_mail 53 = .ok (.invokestatic 142, 3) := by decide +kernel
theorem dX11_mail_56 : decode cX11_mail 56 = .ok (.ifCond .ne 9, 3) := by decide +kernel
theorem dX11_mail_59 : decode cX11_mail 59 = .ok (.aload_n 0, 1) := by decide +kernel
theorem dX11_mail_60 : decode cX11_mail 60 = .ok (.iconst 1, 1) := by decide +kernel
theorem dX11_mail_61 : decode cX11_mail 61 = .ok (.invokevirtual 147, 3) := by decide +kernel
theorem dX11_mail_64 : decode cX11_mail 64 = .ok (.ireturn, 1) := by decide +kernel
theorem dX11_mail_65 : decode cX11_mail 65 = .ok (.aload_n 0, 1) := by decide +kernel
theorem dX11_mail_66 : decode cX11_mail 66 = .ok (.getfield 151, 3) := by decide +kernel
theorem dX11_mail_69 : decode cX11_mail 69 = .ok (.bipush 40, 2) := by decide +kernel
theorem dX11_mail_71 : decode cX11_mail 71 = .ok (.if_icmp .ne 9, 3) := by decide +kernel
theorem dX11_mail_74 : decode cX11_mail 74 = .ok (.aload_n 0, 1) := by decide +kernel
theorem dX11_mail_75 : decode cX11_mail 75 = .ok (.iconst 2, 1) := by decide +kernel
theorem dX11_mail_76 : decode cX11_mail 76 = .ok (.invokevirtual 147, 3) := by decide +kernel
theorem dX11_mail_79 : decode cX11_mail 79 = .ok (.ireturn, 1) := by decide +kernel
theorem dX11_mail_80 : decode cX11_mail 80 = .ok (.aload_n 0, 1) := by decide +kernel
theorem dX11_mail_81 : decode cX11_mail 81 = .ok (.getfield 7, 3) := by decide +kernel
theorem dX11_mail_84 : decode cX11_mail 84 = .ok (.aload_n 0, 1) := by decide +kernel
theorem dX11_mail_85 : decode cX11_mail 85 = .ok (.getfield 151, 3) := by decide +kernel
theorem dX11_mail_88 : decode cX11_mail 88 = .ok (.iload_n 1, 1) := by decide +kernel
theorem dX11_mail_89 : decode cX11_mail 89 = .ok (.iastore, 1) := by decide +kernel
theorem dX11_mail_90 : decode cX11_mail 90 = .ok (.aload_n 0, 1) := by decide +kernel
theorem dX11_mail_91 : decode cX11_mail 91 = .ok (.getfield 13, 3) := by decide +kernel
theorem dX11_mail_94 : decode cX11_mail 94 = .ok (.aload_n 0, 1) := by decide +kernel
theorem dX11_mail_95 : decode cX11_mail 95 = .ok (.getfield 151, 3) := by decide +kernel
theorem dX11_mail_98 : decode cX11_mail 98 = .ok (.iload_n 2, 1) := by decide +kernel
theorem dX11_mail_99 : decode cX11_mail 99 = .ok (.iastore, 1) := by decide +kernel
theorem dX11_mail_100 : decode cX11_mail 100 = .ok (.aload_n 0, 1) := by decide +kernel
theorem dX11_mail_101 : decode cX11_mail 101 = .ok (.getfield 16, 3) := by decide +kernel
theorem dX11_mail_104 : decode cX11_mail 104 = .ok (.aload_n 0, 1) := by decide +kernel
theorem dX11_mail_105 : decode cX11_mail 105 = .ok (.getfield 151, 3) := by decide +kernel
theorem dX11_mail_108 : decode cX11_mail 108 = .ok (.iload_n 3, 1) := by decide +kernel
theorem dX11_mail_109 : decode cX11_mail 109 = .ok (.iastore, 1) := by decide +kernel
theorem dX11_mail_110 : decode cX11_mail 110 = .ok (.aload_n 0, 1) := by decide +kernel
theorem dX11_mail_111 : decode cX11_mail 111 = .ok (.getfield 19, 3) := by decide +kernel
theorem dX11_mail_114 : decode cX11_mail 114 = .ok (.aload_n 0, 1) := by decide +kernel
theorem dX11_mail_115 : decode cX11_mail 115 = .ok (.getfield 151, 3) := by decide +kernel
theorem dX11_mail_118 : decode cX11_mail 118 = .ok (.iload 4, 2) := by decide +kernel
theorem dX11_mail_120 : decode cX11_mail 120 = .ok (.iastore, 1) := by decide +kernel
theorem dX11_mail_121 : decode cX11_mail 121 = .ok (.aload_n 0, 1) := by decide +kernel
theorem dX11_mail_122 : decode cX11_mail 122 = .ok (.getfield 22, 3) := by decide +kernel
theorem dX11_mail_125 : decode cX11_mail 125 = .ok (.aload_n 0, 1) := by decide +kernel
theorem dX11_mail_126 : decode cX11_mail 126 = .ok (.getfield 151, 3) := by decide +kernel
theorem dX11_mail_129 : decode cX11_mail 129 = .ok (.iload 5, 2) := by decide +kernel
theorem dX11_mail_131 : decode cX11_mail 131 = .ok (.iastore, 1) := by decide +kernel
theorem dX11_mail_132 : decode cX11_mail 132 = .ok (.aload_n 0, 1) := by decide +kernel
theorem dX11_mail_133 : decode cX11_mail 133 = .ok (.getfield 25, 3) := by decide +kernel
theorem dX11_mail_136 : decode cX11_mail 136 = .ok (.aload_n 0, 1) := by decide +kernel
theorem dX11_mail_137 : decode cX11_mail 137 = .ok (.getfield 151, 3) := by decide +kernel
theorem dX11_mail_140 : decode cX11_mail 140 = .ok (.aload_n 0, 1) := by decide +kernel
theorem dX11_mail_141 : decode cX11_mail 141 = .ok (.getfield 154, 3) := by decide +kernel
theorem dX11_mail_144 : decode cX11_mail 144 = .ok (.iastore, 1) := by decide +kernel
theorem dX11_mail_145 : decode cX11_mail 145 = .ok (.aload_n 0, 1) := by decide +kernel
theorem dX11_mail_146 : decode cX11_mail 146 = .ok (.getfield 41, 3) := by decide +kernel
theorem dX11_mail_149 : decode cX11_mail 149 = .ok (.aload_n 0, 1) := by decide +kernel
theorem dX11_mail_150 : decode cX11_mail 150 = .ok (.getfield 151, 3) := by decide +kernel
theorem dX11_mail_153 : decode cX11_mail 153 = .ok (.iconst (-1), 1) := by decide +kernel
theorem dX11_mail_154 : decode cX11_mail 154 = .ok (.iastore, 1) := by decide +kernel
theorem dX11_mail_155 : decode cX11_mail 155 = .ok (.aload_n 0, 1) := by decide +kernel
theorem dX11_mail_156 : decode cX11_mail 156 = .ok (.dup, 1) := by decide +kernel
theorem dX11_mail_157 : decode cX11_mail 157 = .ok (.getfield 151, 3) := by decide +kernel
theorem dX11_mail_160 : decode cX11_mail 160 = .ok (.iconst 1, 1) := by decide +kernel
theorem dX11_mail_161 : decode cX11_mail 161 = .ok (.iadd, 1) := by decide +kernel
theorem dX11_mail_162 : decode cX11_mail 162 = .ok (.putfield 151, 3) := by decide +kernel
theorem dX11_mail_165 : decode cX11_mail 165 = .ok (.aload_n 0, 1) := by decide +kernel
theorem dX11_mail_166 : decode cX11_mail 166 = .ok (.getfield 151, 3) := by decide +kernel
theorem dX11_mail_169 : decode cX11_mail 169 = .ok (.iconst 1, 1) := by decide +kernel
theorem dX11_mail_170 : decode cX11_mail 170 = .ok (.isub, 1) := by decide +kernel
theorem dX11_mail_171 : decode cX11_mail 171 = .ok (.ireturn, 1) := by decide +kernel
theorem dX11_pass_0 : decode cX11_pass 0 = .ok (.aload_n 0, 1) := by decide +kernel
theorem dX11_pass_1 : decode cX11_pass 1 = .ok (.iconst 0, 1) := by decide +kernel
theorem dX11_pass_2 : decode cX11_pass 2 = .ok (.putfield 138, 3) := by decide +kernel
theorem dX11_pass_5 : decode cX11_pass 5 = .ok (.iload_n 1, 1) := by decide +kernel
theorem dX11_pass_6 : decode cX11_pass 6 = .ok (.iconst 1, 1) := by decide +kernel
theorem dX11_pass_7 : decode cX11_pass 7 = .ok (.bipush 100, 2) := by decide +kernel
theorem dX11_pass_9 : decode cX11_pass 9 = .ok (.invokestatic 142, 3) := by decide +kernel
theorem dX11_pass_12 : decode cX11_pass 12 = .ok (.ifCond .ne 9, 3) := by decide +kernel
theorem dX11_pass_15 : decode cX11_pass 15 = .ok (.aload_n 0, 1) := by decide +kernel
theorem dX11_pass_16 : decode cX11_pass 16 = .ok (.iconst 1, 1) := by decide +kernel
theorem dX11_pass_17 : decode cX11_pass 17 = .ok (.invokevirtual 147, 3) := by decide +kernel
theorem dX11_pass_20 : decode cX11_pass 20 = .ok (.ireturn, 1) := by decide +kernel
theorem dX11_pass_21 : decode cX11_pass 21 = .ok (.aload_n 0, 1) := by decide +kernel
theorem dX11_pass_22 : decode cX11_pass 22 = .ok (.dup, 1) := by decide +kernel
theorem dX11_pass_23 : decode cX11_pass 23 = .ok (.getfield 154, 3) := by decide +kernel
theorem dX11_pass_26 : decode cX11_pass 26 = .ok (.iload_n 1, 1) := by decide +kernel
theorem dX11_pass_27 : decode cX11_pass 27 = .ok (.iadd, 1) := by decide +kernel
theorem dX11_pass_28 : decode cX11_pass 28 = .ok (.putfield 154, 3) := by decide +kernel
theorem dX11_pass_31 : decode cX11_pass 31 = .ok (.aload_n 0, 1) := by decide +kernel
theorem dX11_pass_32 : decode cX11_pass 32 = .ok (.getfield 154, 3) := by decide +kernel
theorem dX11_pass_35 : decode cX11_pass 35 = .ok (.ireturn, 1) := by decide +kernel
theorem dX11_setQuota_0 : decode cX11_setQuota 0 = .ok (.aload_n 0, 1) := by decide +kernel
theorem dX11_setQuota_1 : decode cX11_setQuota 1 = .ok (.iconst 0, 1) := by decide +kernel
theorem dX11_setQuota_2 : decode cX11_setQuota 2 = .ok (.putfield 138, 3) := by decide +kernel
theorem dX11_setQuota_5 : decode cX11_setQuota 5 = .ok (.iload_n 1, 1) := by decide +kernel
theorem dX11_setQuota_6 : decode cX11_setQuota 6 = .ok (.iconst 1, 1) := by decide +kernel
theorem dX11_setQuota_7 : decode cX11_setQuota 7 = .ok (.bipush 7, 2) := by decide +kernel
theorem dX11_setQuota_9 : decode cX11_setQuota 9 = .ok (.invokestatic 142, 3) := by decide +kernel
theorem dX11_setQuota_12 : decode cX11_setQuota 12 = .ok (.ifCond .ne 9, 3) := by decide +kernel
theorem dX11_setQuota_15 : decode cX11_setQuota 15 = .ok (.aload_n 0, 1) := by decide +kernel
theorem dX11_setQuota_16 : decode cX11_setQuota 16 = .ok (.iconst 1, 1) := by decide +kernel
theorem dX11_setQuota_17 : decode cX11_setQuota 17 = .ok (.invokevirtual 147, 3) := by decide +kernel
theorem dX11_setQuota_20 : decode cX11_setQuota 20 = .ok (.ireturn, 1) := by decide +kernel
theorem dX11_setQuota_21 : decode cX11_setQuota 21 = .ok (.iload_n 2, 1) := by decide +kernel
theorem dX11_setQuota_22 : decode cX11_setQuota 22 = .ok (.iconst 0, 1) := by decide +kernel
theorem dX11_setQuota_23 : decode cX11_setQuota 23 = .ok (.sipush 9999, 3) := by decide +kernel
theorem dX11_setQuota_26 : decode cX11_setQuota 26 = .ok (.invokestatic 142, 3) := by decide +kernel
theorem dX11_setQuota_29 : decode cX11_setQuota 29 = .ok (.ifCond .ne 9, 3) := by decide +kernel
theorem dX11_setQuota_32 : decode cX11_setQuota 32 = .ok (.aload_n 0, 1) := by decide +kernel
theorem dX11_setQuota_33 : decode cX11_setQuota 33 = .ok (.iconst 2, 1) := by decide +kernel
theorem dX11_setQuota_34 : decode cX11_setQuota 34 = .ok (.invokevirtual 147, 3) := by decide +kernel
theorem dX11_setQuota_37 : decode cX11_setQuota 37 = .ok (.ireturn, 1) := by decide +kernel
theorem dX11_setQuota_38 : decode cX11_setQuota 38 = .ok (.aload_n 0, 1) := by decide +kernel
theorem dX11_setQuota_39 : decode cX11_setQuota 39 = .ok (.getfield 44, 3) := by decide +kernel
theorem dX11_setQuota_42 : decode cX11_setQuota 42 = .ok (.iload_n 1, 1) := by decide +kernel
theorem dX11_setQuota_43 : decode cX11_setQuota 43 = .ok (.iaload, 1) := by decide +kernel
theorem dX11_setQuota_44 : decode cX11_setQuota 44 = .ok (.istore_n 3, 1) := by decide +kernel
theorem dX11_setQuota_45 : decode cX11_setQuota 45 = .ok (.aload_n 0, 1) := by decide +kernel
theorem dX11_setQuota_46 : decode cX11_setQuota 46 = .ok (.getfield 44, 3) := by decide +kernel
theorem dX11_setQuota_49 : decode cX11_setQuota 49 = .ok (.iload_n 1, 1) := by decide +kernel
theorem dX11_setQuota_50 : decode cX11_setQuota 50 = .ok (.iload_n 2, 1) := by decide +kernel
theorem dX11_setQuota_51 : decode cX11_setQuota 51 = .ok (.iastore, 1) := by decide +kernel
theorem dX11_setQuota_52 : decode cX11_setQuota 52 = .ok (.iload_n 3, 1) := by decide +kernel
theorem dX11_setQuota_53 : decode cX11_setQuota 53 = .ok (.ireturn, 1) := by decide +kernel
theorem dX11_isIn_0 : decode cX11_isIn 0 = .ok (.aload_n 0, 1) := by decide +kernel
theorem dX11_isIn_1 : decode cX11_isIn 1 = .ok (.getfield 28, 3) := by decide +kernel
theorem dX11_isIn_4 : decode cX11_isIn 4 = .ok (.iload_n 1, 1) := by decide +kernel
theorem dX11_isIn_5 : decode cX11_isIn 5 = .ok (.baload, 1) := by decide +kernel
theorem dX11_isIn_6 : decode cX11_isIn 6 = .ok (.ifCond .eq 26, 3) := by decide +kernel
theorem dX11_isIn_9 : decode cX11_isIn 9 = .ok (.aload_n 0, 1) := by decide +kernel
theorem dX11_isIn_10 : decode cX11_isIn 10 = .ok (.getfield 32, 3) := by decide +kernel
theorem dX11_isIn_13 : decode cX11_isIn 13 = .ok (.iload_n 1, 1) := by decide +kernel
theorem dX11_isIn_14 : decode cX11_isIn 14 = .ok (.baload, 1) := by decide +kernel
theorem dX11_isIn_15 : decode cX11_isIn 15 = .ok (.ifCond .ne 17, 3) := by decide +kernel
theorem dX11_isIn_18 : decode cX11_isIn 18 = .ok (.aload_n 0, 1) := by decide +kernel
theorem dX11_isIn_19 : decode cX11_isIn 19 = .ok (.getfield 35, 3) := by decide +kernel
theorem dX11_isIn_22 : decode cX11_isIn 22 = .ok (.iload_n 1, 1) := by decide +kernel
theorem dX11_isIn_23 : decode cX11_isIn 23 = .ok (.iaload, 1) := by decide +kernel
theorem dX11_isIn_24 : decode cX11_isIn 24 = .ok (.iload_n 2, 1) := by decide +kernel
theorem dX11_isIn_25 : decode cX11_isIn 25 = .ok (.if_icmp .ne 7, 3) := by decide +kernel
theorem dX11_isIn_28 : decode cX11_isIn 28 = .ok (.iconst 1, 1) := by decide +kernel
theorem dX11_isIn_29 : decode cX11_isIn 29 = .ok (.goto 4, 3) := by decide +kernel
theorem dX11_isIn_32 : decode cX11_isIn 32 = .ok (.iconst 0, 1) := by decide +kernel
theorem dX11_isIn_33 : decode cX11_isIn 33 = .ok (.ireturn, 1) := by decide +kernel
theorem dX11_filled_0 : decode cX11_filled 0 = .ok (.aload_n 0, 1) := by decide +kernel
theorem dX11_filled_1 : decode cX11_filled 1 = .ok (.getfield 47, 3) := by decide +kernel
theorem dX11_filled_4 : decode cX11_filled 4 = .ok (.iload_n 1, 1) := by decide +kernel
theorem dX11_filled_5 : decode cX11_filled 5 = .ok (.iaload, 1) := by decide +kernel
theorem dX11_filled_6 : decode cX11_filled 6 = .ok (.istore_n 3, 1) := by decide +kernel
theorem dX11_filled_7 : decode cX11_filled 7 = .ok (.iconst 0, 1) := by decide +kernel
theorem dX11_filled_8 : decode cX11_filled 8 = .ok (.istore 4, 2) := by decide +kernel
theorem dX11_filled_10 : decode cX11_filled 10 = .ok (.iload 4, 2) := by decide +kernel
theorem dX11_filled_12 : decode cX11_filled 12 = .ok (.aload_n 0, 1) := by decide +kernel
theorem dX11_filled_13 : decode cX11_filled 13 = .ok (.getfield 151, 3) := by decide +kernel
theorem dX11_filled_16 : decode cX11_filled 16 = .ok (.if_icmp .ge 39, 3) := by decide +kernel
theorem dX11_filled_19 : decode cX11_filled 19 = .ok (.iload_n 3, 1) := by decide +kernel
theorem dX11_filled_20 : decode cX11_filled 20 = .ok (.iload 4, 2) := by decide +kernel
theorem dX11_filled_22 : decode cX11_filled 22 = .ok (.iload_n 2, 1) := by decide +kernel
theorem dX11_filled_23 : decode cX11_filled 23 = .ok (.if_icmp .eq 23, 3) := by decide +kernel
theorem dX11_filled_26 : decode cX11_filled 26 = .ok (.aload_n 0, 1) := by decide +kernel
theorem dX11_filled_27 : decode cX11_filled 27 = .ok (.iload 4, 2) := by decide +kernel
theorem dX11_filled_29 : decode cX11_filled 29 = .ok (.iload_n 1, 1) := by decide +kernel
theorem dX11_filled_30 : decode cX11_filled 30 = .ok (.invokevirtual 157, 3) := by decide +kernel
theorem dX11_filled_33 : decode cX11_filled 33 = .ok (.ifCond .eq 13, 3) := by decide +kernel
theorem dX11_filled_36 : decode cX11_filled 36 = .ok (.aload_n 0, 1) := by decide +kernel
theorem dX11_filled_37 : decode cX11_filled 37 = .ok (.getfield 22, 3) := by decide +kernel
theorem dX11_filled_40 : decode cX11_filled 40 = .ok (.iload 4, 2) := by decide +kernel
theorem dX11_filled_42 : decode cX11_filled 42 = .ok (.iaload, 1) := by decide +kernel
theorem dX11_filled_43 : decode cX11_filled 43 = .ok (.goto 4, 3) := by decide +kernel
theorem dX11_filled_46 : decode cX11_filled 46 = .ok (.iconst 0, 1) := by decide +kernel
theorem dX11_filled_47 : decode cX11_filled 47 = .ok (.iadd, 1) := by decide +kernel
theorem dX11_filled_48 : decode cX11_filled 48 = .ok (.istore_n 3, 1) := by decide +kernel
theorem dX11_filled_49 : decode cX11_filled 49 = .ok (.iinc 4 1, 3) := by decide +kernel
theorem dX11_filled_52 : decode cX11_filled 52 = .ok (.goto (-42), 3) := by decide +kernel
theorem dX11_filled_55 : decode cX11_filled 55 = .ok (.iload_n 3, 1) := by decide +kernel
theorem dX11_filled_56 : decode cX11_filled 56 = .ok (.ireturn, 1) := by decide +kernel
theorem dX11_inBox_0 : decode cX11_inBox 0 = .ok (.aload_n 0, 1) := by decide +kernel
theorem dX11_inBox_1 : decode cX11_inBox 1 = .ok (.iconst 0, 1) := by decide +kernel
theorem dX11_inBox_2 : decode cX11_inBox 2 = .ok (.putfield 138, 3) := by decide +kernel
theorem dX11_inBox_5 : decode cX11_inBox 5 = .ok (.iload_n 1, 1) := by decide +kernel
theorem dX11_inBox_6 : decode cX11_inBox 6 = .ok (.iconst 0, 1) := by decide +kernel
theorem dX11_inBox_7 : decode cX11_inBox 7 = .ok (.bipush 7, 2) := by decide +kernel
theorem dX11_inBox_9 : decode cX11_inBox 9 = .ok (.invokestatic 142, 3) := by decide +kernel
theorem dX11_inBox_12 : decode cX11_inBox 12 = .ok (.ifCond .eq 12, 3) := by decide +kernel
theorem dX11_inBox_15 : decode cX11_inBox 15 = .ok (.aload_n 0, 1) := by decide +kernel
theorem dX11_inBox_16 : decode cX11_inBox 16 = .ok (.iload_n 1, 1) := by decide +kernel
theorem dX11_inBox_17 : decode cX11_inBox 17 = .ok (.iconst (-1), 1) := by decide +kernel
theorem dX11_inBox_18 : decode cX11_inBox 18 = .ok (.invokevirtual 161, 3) := by decide +kernel
theorem dX11_inBox_21 : decode cX11_inBox 21 = .ok (.goto 8, 3) := by decide +kernel
theorem dX11_inBox_24 : decode cX11_inBox 24 = .ok (.aload_n 0, 1) := by decide +kernel
theorem dX11_inBox_25 : decode cX11_inBox 25 = .ok (.iconst 1, 1) := by decide +kernel
theorem dX11_inBox_26 : decode cX11_inBox 26 = .ok (.invokevirtual 147, 3) := by decide +kernel
theorem dX11_inBox_29 : decode cX11_inBox 29 = .ok (.ireturn, 1) := by decide +kernel
theorem dX11_isMail_0 : decode cX11_isMail 0 = .ok (.iload_n 1, 1) := by decide +kernel
theorem dX11_isMail_1 : decode cX11_isMail 1 = .ok (.iconst 0, 1) := by decide +kernel
theorem dX11_isMail_2 : decode cX11_isMail 2 = .ok (.aload_n 0, 1) := by decide +kernel
theorem dX11_isMail_3 : decode cX11_isMail 3 = .ok (.getfield 151, 3) := by decide +kernel
theorem dX11_isMail_6 : decode cX11_isMail 6 = .ok (.iconst 1, 1) := by decide +kernel
theorem dX11_isMail_7 : decode cX11_isMail 7 = .ok (.isub, 1) := by decide +kernel
theorem dX11_isMail_8 : decode cX11_isMail 8 = .ok (.invokestatic 142, 3) := by decide +kernel
theorem dX11_isMail_11 : decode cX11_isMail 11 = .ok (.ireturn, 1) := by decide +kernel
theorem dX11_boxOf_0 : decode cX11_boxOf 0 = .ok (.aload_n 0, 1) := by decide +kernel
theorem dX11_boxOf_1 : decode cX11_boxOf 1 = .ok (.iconst 0, 1) := by decide +kernel
theorem dX11_boxOf_2 : decode cX11_boxOf 2 = .ok (.putfield 138, 3) := by decide +kernel
theorem dX11_boxOf_5 : decode cX11_boxOf 5 = .ok (.aload_n 0, 1) := by decide +kernel
theorem dX11_boxOf_6 : decode cX11_boxOf 6 = .ok (.iload_n 1, 1) := by decide +kernel
theorem dX11_boxOf_7 : decode cX11_boxOf 7 = .ok (.invokevirtual 165, 3) := by decide +kernel
theorem dX11_boxOf_10 : decode cX11_boxOf 10 = .ok (.ifCond .ne 9, 3) := by decide +kernel
theorem dX11_boxOf_13 : decode cX11_boxOf 13 = .ok (.aload_n 0, 1) := by decide +kernel
theorem dX11_boxOf_14 : decode cX11_boxOf 14 = .ok (.iconst 1, 1) := by decide +kernel
theorem dX11_boxOf_15 : decode cX11_boxOf 15 = .ok (.invokevirtual 147, 3) := by decide +kernel
theorem dX11_boxOf_18 : decode cX11_boxOf 18 = .ok (.ireturn, 1) := by decide +kernel
theorem dX11_boxOf_19 : decode cX11_boxOf 19 = .ok (.aload_n 0, 1) := by decide +kernel
theorem dX11_boxOf_20 : decode cX11_boxOf 20 = .ok (.getfield 28, 3) := by decide +kernel
theorem dX11_boxOf_23 : decode cX11_boxOf 23 = .ok (.iload_n 1, 1) := by decide +kernel
theorem dX11_boxOf_24 : decode cX11_boxOf 24 = .ok (.baload, 1) := by decide +kernel
theorem dX11_boxOf_25 : decode cX11_boxOf 25 = .ok (.ifCond .eq 21, 3) := by decide +kernel
theorem dX11_boxOf_28 : decode cX11_boxOf 28 = .ok (.aload_n 0, 1) := by decide +kernel
theorem dX11_boxOf_29 : decode cX11_boxOf 29 = .ok (.getfield 32, 3) := by decide +kernel
theorem dX11_boxOf_32 : decode cX11_boxOf 32 = .ok (.iload_n 1, 1) := by decide +kernel
theorem dX11_boxOf_33 : decode cX11_boxOf 33 = .ok (.baload, 1) := by decide +kernel
theorem dX11_boxOf_34 : decode cX11_boxOf 34 = .ok (.ifCond .ne 12, 3) := by decide +kernel
theorem dX11_boxOf_37 : decode cX11_boxOf 37 = .ok (.aload_n 0, 1) := by decide +kernel
theorem dX11_boxOf_38 : decode cX11_boxOf 38 = .ok (.getfield 35, 3) := by decide +kernel
theorem dX11_boxOf_41 : decode cX11_boxOf 41 = .ok (.iload_n 1, 1) := by decide +kernel
theorem dX11_boxOf_42 : decode cX11_boxOf 42 = .ok (.iaload, 1) := by decide +kernel
theorem dX11_boxOf_43 : decode cX11_boxOf 43 = .ok (.goto 8, 3) := by decide +kernel
theorem dX11_boxOf_46 : decode cX11_boxOf 46 = .ok (.aload_n 0, 1) := by decide +kernel
theorem dX11_boxOf_47 : decode cX11_boxOf 47 = .ok (.iconst 2, 1) := by decide +kernel
theorem dX11_boxOf_48 : decode cX11_boxOf 48 = .ok (.invokevirtual 147, 3) := by decide +kernel
theorem dX11_boxOf_51 : decode cX11_boxOf 51 = .ok (.ireturn, 1) := by decide +kernel
theorem dX11_hasFlag_0 : decode cX11_hasFlag 0 = .ok (.aload_n 0, 1) := by decide +kernel
theorem dX11_hasFlag_1 : decode cX11_hasFlag 1 = .ok (.aload_n 0, 1) := by decide +kernel
theorem dX11_hasFlag_2 : decode cX11_hasFlag 2 = .ok (.iload_n 1, 1) := by decide +kernel
theorem dX11_hasFlag_3 : decode cX11_hasFlag 3 = .ok (.invokevirtual 165, 3) := by decide +kernel
theorem dX11_hasFlag_6 : decode cX11_hasFlag 6 = .ok (.ifCond .eq 17, 3) := by decide +kernel
theorem dX11_hasFlag_9 : decode cX11_hasFlag 9 = .ok (.iload_n 2, 1) := by decide +kernel
theorem dX11_hasFlag_10 : decode cX11_hasFlag 10 = .ok (.iconst 0, 1) := by decide +kernel
theorem dX11_hasFlag_11 : decode cX11_hasFlag 11 = .ok (.bipush 7, 2) := by decide +kernel
theorem dX11_hasFlag_13 : decode cX11_hasFlag 13 = .ok (.invokestatic 142, 3) := by decide +kernel
theorem dX11_hasFlag_16 : decode cX11_hasFlag 16 = .ok (.ifCond .eq 7, 3) := by decide +kernel
theorem dX11_hasFlag_19 : decode cX11_hasFlag 19 = .ok (.iconst 0, 1) := by decide +kernel
theorem dX11_hasFlag_20 : decode cX11_hasFlag 20 = .ok (.goto 4, 3) := by decide +kernel
theorem dX11_hasFlag_23 : decode cX11_hasFlag 23 = .ok (.iconst 1, 1) := by decide +kernel
theorem dX11_hasFlag_24 : decode cX11_hasFlag 24 = .ok (.putfield 138, 3) := by decide +kernel
theorem dX11_hasFlag_27 : decode cX11_hasFlag 27 = .ok (.aload_n 0, 1) := by decide +kernel
theorem dX11_hasFlag_28 : decode cX11_hasFlag 28 = .ok (.getfield 138, 3) := by decide +kernel
theorem dX11_hasFlag_31 : decode cX11_hasFlag 31 = .ok (.ifCond .ne 21, 3) := by decide +kernel
theorem dX11_hasFlag_34 : decode cX11_hasFlag 34 = .ok (.aload_n 0, 1) := by decide +kernel
theorem dX11_hasFlag_35 : decode cX11_hasFlag 35 = .ok (.getfield 38, 3) := by decide +kernel
theorem dX11_hasFlag_38 : decode cX11_hasFlag 38 = .ok (.iload_n 1, 1) := by decide +kernel
theorem dX11_hasFlag_39 : decode cX11_hasFlag 39 = .ok (.iaload, 1) := by decide +kernel
theorem dX11_hasFlag_40 : decode cX11_hasFlag 40 = .ok (.iload_n 2, 1) := by decide +kernel
theorem dX11_hasFlag_41 : decode cX11_hasFlag 41 = .ok (.ishr, 1) := by decide +kernel
theorem dX11_hasFlag_42 : decode cX11_hasFlag 42 = .ok (.iconst 1, 1) := by decide +kernel
theorem dX11_hasFlag_43 : decode cX11_hasFlag 43 = .ok (.iand, 1) := by decide +kernel
theorem dX11_hasFlag_44 : decode cX11_hasFlag 44 = .ok (.iconst 1, 1) := by decide +kernel
theorem dX11_hasFlag_45 : decode cX11_hasFlag 45 = .ok (.if_icmp .ne 7, 3) := by decide +kernel
theorem dX11_hasFlag_48 : decode cX11_hasFlag 48 = .ok (.iconst 1, 1) := by decide +kernel
theorem dX11_hasFlag_49 : decode cX11_hasFlag 49 = .ok (.goto 4, 3) := by decide +kernel
theorem dX11_hasFlag_52 : decode cX11_hasFlag 52 = .ok (.iconst 0, 1) := by decide +kernel
theorem dX11_hasFlag_53 : decode cX11_hasFlag 53 = .ok (.ireturn, 1) := by decide +kernel
theorem dX11_move_0 : decode cX11_move 0 = .ok (.aload_n 0, 1) := by decide +kernel
theorem dX11_move_1 : decode cX11_move 1 = .ok (.iconst 0, 1) := by decide +kernel
theorem dX11_move_2 : decode cX11_move 2 = .ok (.putfield 138, 3) := by decide +kernel
theorem dX11_move_5 : decode cX11_move 5 = .ok (.aload_n 0, 1) := by decide +kernel
theorem dX11_move_6 : decode cX11_move 6 = .ok (.iload_n 1, 1) := by decide +kernel
theorem dX11_move_7 : decode cX11_move 7 = .ok (.invokevirtual 165, 3) := by decide +kernel
theorem dX11_move_10 : decode cX11_move 10 = .ok (.ifCond .eq 13, 3) := by decide +kernel
theorem dX11_move_13 : decode cX11_move 13 = .ok (.iload_n 2, 1) := by decide +kernel
theorem dX11_move_14 : decode cX11_move 14 = .ok (.iconst 0, 1) := by decide +kernel
theorem dX11_move_15 : decode cX11_move 15 = .ok (.bipush 7, 2) := by decide +kernel
theorem dX11_move_17 : decode cX11_move 17 = .ok (.invokestatic 142, 3) := by decide +kernel
theorem dX11_move_20 : decode cX11_move 20 = .ok (.ifCond .ne 9, 3) := by decide +kernel
theorem dX11_move_23 : decode cX11_move 23 = .ok (.aload_n 0, 1) := by decide +kernel
theorem dX11_move_24 : decode cX11_move 24 = .ok (.iconst 1, 1) := by decide +kernel
theorem dX11_move_25 : decode cX11_move 25 = .ok (.invokevirtual 147, 3) := by decide +kernel
theorem dX11_move_28 : decode cX11_move 28 = .ok (.ireturn, 1) := by decide +kernel
theorem dX11_move_29 : decode cX11_move 29 = .ok (.aload_n 0, 1) := by decide +kernel
theorem dX11_move_30 : decode cX11_move 30 = .ok (.getfield 28, 3) := by decide +kernel
theorem dX11_move_33 : decode cX11_move 33 = .ok (.iload_n 1, 1) := by decide +kernel
theorem dX11_move_34 : decode cX11_move 34 = .ok (.baload, 1) := by decide +kernel
theorem dX11_move_35 : decode cX11_move 35 = .ok (.ifCond .eq 12, 3) := by decide +kernel
theorem dX11_move_38 : decode cX11_move 38 = .ok (.aload_n 0, 1) := by decide +kernel
theorem dX11_move_39 : decode cX11_move 39 = .ok (.getfield 32, 3) := by decide +kernel
theorem dX11_move_42 : decode cX11_move 42 = .ok (.iload_n 1, 1) := by decide +kernel
theorem dX11_move_43 : decode cX11_move 43 = .ok (.baload, 1) := by decide +kernel
theorem dX11_move_44 : decode cX11_move 44 = .ok (.ifCond .eq 9, 3) := by decide +kernel
theorem dX11_move_47 : decode cX11_move 47 = .ok (.aload_n 0, 1) := by decide +kernel
theorem dX11_move_48 : decode cX11_move 48 = .ok (.iconst 2, 1) := by decide +kernel
theorem dX11_move_49 : decode cX11_move 49 = .ok (.invokevirtual 147, 3) := by decide +kernel
theorem dX11_move_52 : decode cX11_move 52 = .ok (.ireturn, 1) := by decide +kernel
theorem dX11_move_53 : decode cX11_move 53 = .ok (.aload_n 0, 1) := by decide +kernel
theorem dX11_move_54 : decode cX11_move 54 = .ok (.getfield 35, 3) := by decide +kernel
theorem dX11_move_57 : decode cX11_move 57 = .ok (.iload_n 1, 1) := by decide +kernel
theorem dX11_move_58 : decode cX11_move 58 = .ok (.iaload, 1) := by decide +kernel
theorem dX11_move_59 : decode cX11_move 59 = .ok (.istore_n 3, 1) := by decide +kernel
theorem dX11_move_60 : decode cX11_move 60 = .ok (.aload_n 0, 1) := by decide +kernel
theorem dX11_move_61 : decode cX11_move 61 = .ok (.getfield 35, 3) := by decide +kernel
theorem dX11_move_64 : decode cX11_move 64 = .ok (.iload_n 1, 1) := by decide +kernel
theorem dX11_move_65 : decode cX11_move 65 = .ok (.iload_n 2, 1) := by decide +kernel
theorem dX11_move_66 : decode cX11_move 66 = .ok (.iastore, 1) := by decide +kernel
theorem dX11_move_67 : decode cX11_move 67 = .ok (.aload_n 0, 1) := by decide +kernel
theorem dX11_move_68 : decode cX11_move 68 = .ok (.getfield 41, 3) := by decide +kernel
theorem dX11_move_71 : decode cX11_move 71 = .ok (.iload_n 1, 1) := by decide +kernel
theorem dX11_move_72 : decode cX11_move 72 = .ok (.iload_n 2, 1) := by decide +kernel
theorem dX11_move_73 : decode cX11_move 73 = .ok (.iastore, 1) := by decide +kernel
theorem dX11_move_74 : decode cX11_move 74 = .ok (.iload_n 3, 1) := by decide +kernel
theorem dX11_move_75 : decode cX11_move 75 = .ok (.ireturn, 1) := by decide +kernel
theorem dX11_isPair_0 : decode cX11_isPair 0 = .ok (.iload_n 0, 1) := by decide +kernel
theorem dX11_isPair_1 : decode cX11_isPair 1 = .ok (.bipush 38, 2) := by decide +kernel
theorem dX11_isPair_3 : decode cX11_isPair 3 = .ok (.if_icmp .eq 9, 3) := by decide +kernel
theorem dX11_isPair_6 : decode cX11_isPair 6 = .ok (.iload_n 0, 1) := by decide +kernel
theorem dX11_isPair_7 : decode cX11_isPair 7 = .ok (.bipush 124, 2) := by decide +kernel
theorem dX11_isPair_9 : decode cX11_isPair 9 = .ok (.if_icmp .ne 7, 3) := by decide +kernel
theorem dX11_isPair_12 : decode cX11_isPair 12 = .ok (.iconst 1, 1) := by decide +kernel
theorem dX11_isPair_13 : decode cX11_isPair 13 = .ok (.goto 4, 3) := by decide +kernel
theorem dX11_isPair_16 : decode cX11_isPair 16 = .ok (.iconst 0, 1) := by decide +kernel
theorem dX11_isPair_17 : decode cX11_isPair 17 = .ok (.ireturn, 1) := by decide +kernel
theorem dX11_isTold_0 : decode cX11_isTold 0 = .ok (.iload_n 0, 1) := by decide +kernel
theorem dX11_isTold_1 : decode cX11_isTold 1 = .ok (.tableswitch 164 98 122 #[123, 164, 140, 164, 115, 164, 164, 164, 164, 156, 164, 164, 148, 164, 164, 164, 164, 123, 115, 164, 164, 164, 164, 164, 131], 115) := by decide +kernel
theorem dX11_isTold_116 : decode cX11_isTold 116 = .ok (.iload_n 1, 1) := by decide +kernel
theorem dX11_isTold_117 : decode cX11_isTold 117 = .ok (.iconst 0, 1) := by decide +kernel
theorem dX11_isTold_118 : decode cX11_isTold 118 = .ok (.bipush 9, 2) := by decide +kernel
theorem dX11_isTold_120 : decode cX11_isTold 120 = .ok (.invokestatic 142, 3) := by decide +kernel
theorem dX11_isTold_123 : decode cX11_isTold 123 = .ok (.ireturn, 1) := by decide +kernel
theorem dX11_isTold_124 : decode cX11_isTold 124 = .ok (.iload_n 1, 1) := by decide +kernel
theorem dX11_isTold_125 : decode cX11_isTold 125 = .ok (.iconst 0, 1) := by decide +kernel
theorem dX11_isTold_126 : decode cX11_isTold 126 = .ok (.bipush 15, 2) := by decide +kernel
theorem dX11_isTold_128 : decode cX11_isTold 128 = .ok (.invokestatic 142, 3) := by decide +kernel
theorem dX11_isTold_131 : decode cX11_isTold 131 = .ok (.ireturn, 1) := by decide +kernel
theorem dX11_isTold_132 : decode cX11_isTold 132 = .ok (.iload_n 1, 1) := by decide +kernel
theorem dX11_isTold_133 : decode cX11_isTold 133 = .ok (.iconst 0, 1) := by decide +kernel
theorem dX11_isTold_134 : decode cX11_isTold 134 = .ok (.sipush 999, 3) := by decide +kernel
theorem dX11_isTold_137 : decode cX11_isTold 137 = .ok (.invokestatic 142, 3) := by decide +kernel
theorem dX11_isTold_140 : decode cX11_isTold 140 = .ok (.ireturn, 1) := by decide +kernel
theorem dX11_isTold_141 : decode cX11_isTold 141 = .ok (.iload_n 1, 1) := by decide +kernel
theorem dX11_isTold_142 : decode cX11_isTold 142 = .ok (.iconst 0, 1) := by decide +kernel
theorem dX11_isTold_143 : decode cX11_isTold 143 = .ok (.bipush 6, 2) := by decide +kernel
theorem dX11_isTold_145 : decode cX11_isTold 145 = .ok (.invokestatic 142, 3) := by decide +kernel
theorem dX11_isTold_148 : decode cX11_isTold 148 = .ok (.ireturn, 1) := by decide +kernel
theorem dX11_isTold_149 : decode cX11_isTold 149 = .ok (.iload_n 1, 1) := by decide +kernel
theorem dX11_isTold_150 : decode cX11_isTold 150 = .ok (.iconst 1, 1) := by decide +kernel
theorem dX11_isTold_151 : decode cX11_isTold 151 = .ok (.bipush 10, 2) := by decide +kernel
theorem dX11_isTold_153 : decode cX11_isTold 153 = .ok (.invokestatic 142, 3) := by decide +kernel
theorem dX11_isTold_156 : decode cX11_isTold 156 = .ok (.ireturn, 1) := by decide +kernel
theorem dX11_isTold_157 : decode cX11_isTold 157 = .ok (.iload_n 1, 1) := by decide +kernel
theorem dX11_isTold_158 : decode cX11_isTold 158 = .ok (.iconst 0, 1) := by decide +kernel
theorem dX11_isTold_159 : decode cX11_isTold 159 = .ok (.bipush 7, 2) := by decide +kernel
theorem dX11_isTold_161 : decode cX11_isTold 161 = .ok (.invokestatic 142, 3) := by decide +kernel
theorem dX11_isTold_164 : decode cX11_isTold 164 = .ok (.ireturn, 1) := by decide +kernel
theorem dX11_isTold_165 : decode cX11_isTold 165 = .ok (.iload_n 0, 1) := by decide +kernel
theorem dX11_isTold_166 : decode cX11_isTold 166 = .ok (.bipush 97, 2) := by decide +kernel
theorem dX11_isTold_168 : decode cX11_isTold 168 = .ok (.if_icmp .eq 16, 3) := by decide +kernel
theorem dX11_isTold_171 : decode cX11_isTold 171 = .ok (.iload_n 0, 1) := by decide +kernel
theorem dX11_isTold_172 : decode cX11_isTold 172 = .ok (.bipush 33, 2) := by decide +kernel
theorem dX11_isTold_174 : decode cX11_isTold 174 = .ok (.if_icmp .eq 10, 3) := by decide +kernel
theorem dX11_isTold_177 : decode cX11_isTold 177 = .ok (.iload_n 0, 1) := by decide +kernel
theorem dX11_isTold_178 : decode cX11_isTold 178 = .ok (.invokestatic 169, 3) := by decide +kernel
theorem dX11_isTold_181 : decode cX11_isTold 181 = .ok (.ifCond .eq 7, 3) := by decide +kernel
theorem dX11_isTold_184 : decode cX11_isTold 184 = .ok (.iconst 1, 1) := by decide +kernel
theorem dX11_isTold_185 : decode cX11_isTold 185 = .ok (.goto 4, 3) := by decide +kernel
theorem dX11_isTold_188 : decode cX11_isTold 188 = .ok (.iconst 0, 1) := by decide +kernel
theorem dX11_isTold_189 : decode cX11_isTold 189 = .ok (.ireturn, 1) := by decide +kernel
theorem dX11_addsTest_0 : decode cX11_addsTest 0 = .ok (.aload_n 0, 1) := by decide +kernel
theorem dX11_addsTest_1 : decode cX11_addsTest 1 = .ok (.getfield 59, 3) := by decide +kernel
theorem dX11_addsTest_4 : decode cX11_addsTest 4 = .ok (.aload_n 0, 1) := by decide +kernel
theorem dX11_addsTest_5 : decode cX11_addsTest 5 = .ok (.getfield 173, 3) := by decide +kernel
theorem dX11_addsTest_8 : decode cX11_addsTest 8 = .ok (.iload_n 1, 1) := by decide +kernel
theorem dX11_addsTest_9 : decode cX11_addsTest 9 = .ok (.castore, 1) := by decide +kernel
theorem dX11_addsTest_10 : decode cX11_addsTest 10 = .ok (.aload_n 0, 1) := by decide +kernel
theorem dX11_addsTest_11 : decode cX11_addsTest 11 = .ok (.getfield 63, 3) := by decide +kernel
theorem dX11_addsTest_14 : decode cX11_addsTest 14 = .ok (.aload_n 0, 1) := by decide +kernel
theorem dX11_addsTest_15 : decode cX11_addsTest 15 = .ok (.getfield 173, 3) := by decide +kernel
theorem dX11_addsTest_18 : decode cX11_addsTest 18 = .ok (.iload_n 2, 1) := by decide +kernel
theorem dX11_addsTest_19 : decode cX11_addsTest 19 = .ok (.iastore, 1) := by decide +kernel
theorem dX11_addsTest_20 : decode cX11_addsTest 20 = .ok (.aload_n 0, 1) := by decide +kernel
theorem dX11_addsTest_21 : decode cX11_addsTest 21 = .ok (.getfield 66, 3) := by decide +kernel
theorem dX11_addsTest_24 : decode cX11_addsTest 24 = .ok (.aload_n 0, 1) := by decide +kernel
theorem dX11_addsTest_25 : decode cX11_addsTest 25 = .ok (.getfield 173, 3) := by decide +kernel
theorem dX11_addsTest_28 : decode cX11_addsTest 28 = .ok (.iload_n 3, 1) := by decide +kernel
theorem dX11_addsTest_29 : decode cX11_addsTest 29 = .ok (.iastore, 1) := by decide +kernel
theorem dX11_addsTest_30 : decode cX11_addsTest 30 = .ok (.aload_n 0, 1) := by decide +kernel
theorem dX11_addsTest_31 : decode cX11_addsTest 31 = .ok (.dup, 1) := by decide +kernel
theorem dX11_addsTest_32 : decode cX11_addsTest 32 = .ok (.getfield 173, 3) := by decide +kernel
theorem dX11_addsTest_35 : decode cX11_addsTest 35 = .ok (.iconst 1, 1) := by decide +kernel
theorem dX11_addsTest_36 : decode cX11_addsTest 36 = .ok (.iadd, 1) := by decide +kernel
theorem dX11_addsTest_37 : decode cX11_addsTest 37 = .ok (.putfield 173, 3) := by decide +kernel
theorem dX11_addsTest_40 : decode cX11_addsTest 40 = .ok (.aload_n 0, 1) := by decide +kernel
theorem dX11_addsTest_41 : decode cX11_addsTest 41 = .ok (.getfield 173, 3) := by decide +kernel
theorem dX11_addsTest_44 : decode cX11_addsTest 44 = .ok (.iconst 1, 1) := by decide +kernel
theorem dX11_addsTest_45 : decode cX11_addsTest 45 = .ok (.isub, 1) := by decide +kernel
theorem dX11_addsTest_46 : decode cX11_addsTest 46 = .ok (.ireturn, 1) := by decide +kernel
theorem dX11_isTest_0 : decode cX11_isTest 0 = .ok (.iload_n 1, 1) := by decide +kernel
theorem dX11_isTest_1 : decode cX11_isTest 1 = .ok (.iconst 0, 1) := by decide +kernel
theorem dX11_isTest_2 : decode cX11_isTest 2 = .ok (.aload_n 0, 1) := by decide +kernel
theorem dX11_isTest_3 : decode cX11_isTest 3 = .ok (.getfield 173, 3) := by decide +kernel
theorem dX11_isTest_6 : decode cX11_isTest 6 = .ok (.iconst 1, 1) := by decide +kernel
theorem dX11_isTest_7 : decode cX11_isTest 7 = .ok (.isub, 1) := by decide +kernel
theorem dX11_isTest_8 : decode cX11_isTest 8 = .ok (.invokestatic 142, 3) := by decide +kernel
theorem dX11_isTest_11 : decode cX11_isTest 11 = .ok (.ireturn, 1) := by decide +kernel
theorem dX11_test_0 : decode cX11_test 0 = .ok (.aload_n 0, 1) := by decide +kernel
theorem dX11_test_1 : decode cX11_test 1 = .ok (.iconst 0, 1) := by decide +kernel
theorem dX11_test_2 : decode cX11_test 2 = .ok (.putfield 138, 3) := by decide +kernel
theorem dX11_test_5 : decode cX11_test 5 = .ok (.iload_n 1, 1) := by decide +kernel
theorem dX11_test_6 : decode cX11_test 6 = .ok (.iload_n 2, 1) := by decide +kernel
theorem dX11_test_7 : decode cX11_test 7 = .ok (.invokestatic 176, 3) := by decide +kernel
theorem dX11_test_10 : decode cX11_test 10 = .ok (.ifCond .ne 9, 3) := by decide +kernel
theorem dX11_test_13 : decode cX11_test 13 = .ok (.aload_n 0, 1) := by decide +kernel
theorem dX11_test_14 : decode cX11_test 14 = .ok (.iconst 1, 1) := by decide +kernel
theorem dX11_test_15 : decode cX11_test 15 = .ok (.invokevirtual 147, 3) := by decide +kernel
theorem dX11_test_18 : decode cX11_test 18 = .ok (.ireturn, 1) := by decide +kernel
theorem dX11_test_19 : decode cX11_test 19 = .ok (.iload_n 1, 1) := by decide +kernel
theorem dX11_test_20 : decode cX11_test 20 = .ok (.bipush 33, 2) := by decide +kernel
theorem dX11_test_22 : decode cX11_test 22 = .ok (.if_icmp .eq 10, 3) := by decide +kernel
theorem dX11_test_25 : decode cX11_test 25 = .ok (.iload_n 1, 1) := by decide +kernel
theorem dX11_test_26 : decode cX11_test 26 = .ok (.invokestatic 169, 3) := by decide +kernel
theorem dX11_test_29 : decode cX11_test 29 = .ok (.ifCond .eq 11, 3) := by decide +kernel
theorem dX11_test_32 : decode cX11_test 32 = .ok (.aload_n 0, 1) := by decide +kernel
theorem dX11_test_33 : decode cX11_test 33 = .ok (.iload_n 2, 1) := by decide +kernel
theorem dX11_test_34 : decode cX11_test 34 = .ok (.invokevirtual 180, 3) := by decide +kernel
theorem dX11_test_37 : decode cX11_test 37 = .ok (.ifCond .eq 18, 3) := by decide +kernel
theorem dX11_test_40 : decode cX11_test 40 = .ok (.iload_n 1, 1) := by decide +kernel
theorem dX11_test_41 : decode cX11_test 41 = .ok (.invokestatic 169, 3) := by decide +kernel
theorem dX11_test_44 : decode cX11_test 44 = .ok (.ifCond .eq 17, 3) := by decide +kernel
theorem dX11_test_47 : decode cX11_test 47 = .ok (.aload_n 0, 1) := by decide +kernel
theorem dX11_test_48 : decode cX11_test 48 = .ok (.iload_n 3, 1) := by decide +kernel
theorem dX11_test_49 : decode cX11_test 49 = .ok (.invokevirtual 180, 3) := by decide +kernel
theorem dX11_test_52 : decode cX11_test 52 = .ok (.ifCond .ne 9, 3) := by decide +kernel
theorem dX11_test_55 : decode cX11_test 55 = .ok (.aload_n 0, 1) := by decide +kernel
theorem dX11_test_56 : decode cX11_test 56 = .ok (.iconst 2, 1) := by decide +kernel
theorem dX11_test_57 : decode cX11_test 57 = .ok (.invokevirtual 147, 3) := by decide +kernel
theorem dX11_test_60 : decode cX11_test 60 = .ok (.ireturn, 1) := by decide +kernel
theorem dX11_test_61 : decode cX11_test 61 = .ok (.aload_n 0, 1) := by decide +kernel
theorem dX11_test_62 : decode cX11_test 62 = .ok (.getfield 173, 3) := by decide +kernel
theorem dX11_test_65 : decode cX11_test 65 = .ok (.bipush 60, 2) := by decide +kernel
theorem dX11_test_67 : decode cX11_test 67 = .ok (.if_icmp .ne 11, 3) := by decide +kernel
theorem dX11_test_70 : decode cX11_test 70 = .ok (.aload_n 0, 1) := by decide +kernel
theorem dX11_test_71 : decode cX11_test 71 = .ok (.iconst 3, 1) := by decide +kernel
theorem dX11_test_72 : decode cX11_test 72 = .ok (.invokevirtual 147, 3) := by decide +kernel
theorem dX11_test_75 : decode cX11_test 75 = .ok (.goto 10, 3) := by decide +kernel
theorem dX11_test_78 : decode cX11_test 78 = .ok (.aload_n 0, 1) := by decide +kernel
theorem dX11_test_79 : decode cX11_test 79 = .ok (.iload_n 1, 1) := by decide +kernel
theorem dX11_test_80 : decode cX11_test 80 = .ok (.iload_n 2, 1) := by decide +kernel
theorem dX11_test_81 : decode cX11_test 81 = .ok (.iload_n 3, 1) := by decide +kernel
theorem dX11_test_82 : decode cX11_test 82 = .ok (.invokevirtual 183, 3) := by decide +kernel
theorem dX11_test_85 : decode cX11_test 85 = .ok (.ireturn, 1) := by decide +kernel
theorem dX11_bits_0 : decode cX11_bits 0 = .ok (.iconst 0, 1) := by decide +kernel
theorem dX11_bits_1 : decode cX11_bits 1 = .ok (.istore_n 1, 1) := by decide +kernel
