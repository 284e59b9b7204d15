theorem dX0_init_0 : decode cX0_init 0 = .ok (.aload_n 0, 1) := by decide +kernel
theorem dX0_init_1 : decode cX0_init 1 = .ok (.invokespecial 3, 3) := by decide +kernel
theorem dX0_init_4 : decode cX0_init 4 = .ok (.aload_n 0, 1) := by decide +kernel
theorem dX0_init_5 : decode cX0_init 5 = .ok (.iconst 0, 1) := by decide +kernel
theorem dX0_init_6 : decode cX0_init 6 = .ok (.putfield 9, 3) := by decide +kernel
theorem dX0_init_9 : decode cX0_init 9 = .ok (.aload_n 0, 1) := by decide +kernel
theorem dX0_init_10 : decode cX0_init 10 = .ok (.iconst 0, 1) := by decide +kernel
theorem dX0_init_11 : decode cX0_init 11 = .ok (.putfield 15, 3) := by decide +kernel
theorem dX0_init_14 : decode cX0_init 14 = .ok (.aload_n 0, 1) := by decide +kernel
theorem dX0_init_15 : decode cX0_init 15 = .ok (.iconst 0, 1) := by decide +kernel
theorem dX0_init_16 : decode cX0_init 16 = .ok (.putfield 19, 3) := by decide +kernel
theorem dX0_init_19 : decode cX0_init 19 = .ok (.aload_n 0, 1) := by decide +kernel
theorem dX0_init_20 : decode cX0_init 20 = .ok (.iconst 0, 1) := by decide +kernel
theorem dX0_init_21 : decode cX0_init 21 = .ok (.putfield 22, 3) := by decide +kernel
theorem dX0_init_24 : decode cX0_init 24 = .ok (.aload_n 0, 1) := by decide +kernel
theorem dX0_init_25 : decode cX0_init 25 = .ok (.iconst 0, 1) := by decide +kernel
theorem dX0_init_26 : decode cX0_init 26 = .ok (.putfield 25, 3) := by decide +kernel
theorem dX0_init_29 : decode cX0_init 29 = .ok (.aload_n 0, 1) := by decide +kernel
theorem dX0_init_30 : decode cX0_init 30 = .ok (.iconst 0, 1) := by decide +kernel
theorem dX0_init_31 : decode cX0_init 31 = .ok (.putfield 28, 3) := by decide +kernel
theorem dX0_init_34 : decode cX0_init 34 = .ok (.aload_n 0, 1) := by decide +kernel
theorem dX0_init_35 : decode cX0_init 35 = .ok (.iconst 0, 1) := by decide +kernel
theorem dX0_init_36 : decode cX0_init 36 = .ok (.putfield 31, 3) := by decide +kernel
theorem dX0_init_39 : decode cX0_init 39 = .ok (.aload_n 0, 1) := by decide +kernel
theorem dX0_init_40 : decode cX0_init 40 = .ok (.iconst 3, 1) := by decide +kernel
theorem dX0_init_41 : decode cX0_init 41 = .ok (.newarray .int, 2) := by decide +kernel
theorem dX0_init_43 : decode cX0_init 43 = .ok (.putfield 36, 3) := by decide +kernel
theorem dX0_init_46 : decode cX0_init 46 = .ok (.aload_n 0, 1) := by decide +kernel
theorem dX0_init_47 : decode cX0_init 47 = .ok (.iconst 3, 1) := by decide +kernel
theorem dX0_init_48 : decode cX0_init 48 = .ok (.newarray .int, 2) := by decide +kernel
theorem dX0_init_50 : decode cX0_init 50 = .ok (.putfield 40, 3) := by decide +kernel
theorem dX0_init_53 : decode cX0_init 53 = .ok (.return_, 1) := by decide +kernel
theorem dX0_doAll_0 : decode cX0_doAll 0 = .ok (.aload_n 0, 1) := by decide +kernel
theorem dX0_doAll_1 : decode cX0_doAll 1 = .ok (.iconst 1, 1) := by decide +kernel
theorem dX0_doAll_2 : decode cX0_doAll 2 = .ok (.putfield 9, 3) := by decide +kernel
theorem dX0_doAll_5 : decode cX0_doAll 5 = .ok (.aload_n 0, 1) := by decide +kernel
theorem dX0_doAll_6 : decode cX0_doAll 6 = .ok (.iconst 0, 1) := by decide +kernel
theorem dX0_doAll_7 : decode cX0_doAll 7 = .ok (.putfield 15, 3) := by decide +kernel
theorem dX0_doAll_10 : decode cX0_doAll 10 = .ok (.aload_n 0, 1) := by decide +kernel
theorem dX0_doAll_11 : decode cX0_doAll 11 = .ok (.iconst 0, 1) := by decide +kernel
theorem dX0_doAll_12 : decode cX0_doAll 12 = .ok (.putfield 19, 3) := by decide +kernel
theorem dX0_doAll_15 : decode cX0_doAll 15 = .ok (.aload_n 0, 1) := by decide +kernel
theorem dX0_doAll_16 : decode cX0_doAll 16 = .ok (.iconst 0, 1) := by decide +kernel
theorem dX0_doAll_17 : decode cX0_doAll 17 = .ok (.putfield 22, 3) := by decide +kernel
theorem dX0_doAll_20 : decode cX0_doAll 20 = .ok (.aload_n 0, 1) := by decide +kernel
theorem dX0_doAll_21 : decode cX0_doAll 21 = .ok (.iconst 0, 1) := by decide +kernel
theorem dX0_doAll_22 : decode cX0_doAll 22 = .ok (.putfield 25, 3) := by decide +kernel
theorem dX0_doAll_25 : decode cX0_doAll 25 = .ok (.aload_n 0, 1) := by decide +kernel
theorem dX0_doAll_26 : decode cX0_doAll 26 = .ok (.iconst 0, 1) := by decide +kernel
theorem dX0_doAll_27 : decode cX0_doAll 27 = .ok (.putfield 28, 3) := by decide +kernel
theorem dX0_doAll_30 : decode cX0_doAll 30 = .ok (.aload_n 0, 1) := by decide +kernel
theorem dX0_doAll_31 : decode cX0_doAll 31 = .ok (.iconst 0, 1) := by decide +kernel
theorem dX0_doAll_32 : decode cX0_doAll 32 = .ok (.putfield 31, 3) := by decide +kernel
theorem dX0_doAll_35 : decode cX0_doAll 35 = .ok (.iconst 0, 1) := by decide +kernel
theorem dX0_doAll_36 : decode cX0_doAll 36 = .ok (.istore_n 3, 1) := by decide +kernel
theorem dX0_doAll_37 : decode cX0_doAll 37 = .ok (.iload_n 3, 1) := by decide +kernel
theorem dX0_doAll_38 : decode cX0_doAll 38 = .ok (.bipush 100, 2) := by decide +kernel
theorem dX0_doAll_40 : decode cX0_doAll 40 = .ok (.if_icmp .gt 67, 3) := by decide +kernel
theorem dX0_doAll_43 : decode cX0_doAll 43 = .ok (.aload_n 0, 1) := by decide +kernel
theorem dX0_doAll_44 : decode cX0_doAll 44 = .ok (.aload_n 1, 1) := by decide +kernel
theorem dX0_doAll_45 : decode cX0_doAll 45 = .ok (.invokevirtual 43, 3) := by decide +kernel
theorem dX0_doAll_48 : decode cX0_doAll 48 = .ok (.aload_n 0, 1) := by decide +kernel
theorem dX0_doAll_49 : decode cX0_doAll 49 = .ok (.getfield 28, 3) := by decide +kernel
theorem dX0_doAll_52 : decode cX0_doAll 52 = .ok (.aload_n 1, 1) := by decide +kernel
theorem dX0_doAll_53 : decode cX0_doAll 53 = .ok (.getfield 47, 3) := by decide +kernel
theorem dX0_doAll_56 : decode cX0_doAll 56 = .ok (.if_icmp .lt 4, 3) := by decide +kernel
theorem dX0_doAll_59 : decode cX0_doAll 59 = .ok (.return_, 1) := by decide +kernel
theorem dX0_doAll_60 : decode cX0_doAll 60 = .ok (.aload_n 0, 1) := by decide +kernel
theorem dX0_doAll_61 : decode cX0_doAll 61 = .ok (.getfield 15, 3) := by decide +kernel
theorem dX0_doAll_64 : decode cX0_doAll 64 = .ok (.bipush 100, 2) := by decide +kernel
theorem dX0_doAll_66 : decode cX0_doAll 66 = .ok (.if_icmp .ge 13, 3) := by decide +kernel
theorem dX0_doAll_69 : decode cX0_doAll 69 = .ok (.aload_n 0, 1) := by decide +kernel
theorem dX0_doAll_70 : decode cX0_doAll 70 = .ok (.getfield 19, 3) := by decide +kernel
theorem dX0_doAll_73 : decode cX0_doAll 73 = .ok (.sipush 1000, 3) := by decide +kernel
theorem dX0_doAll_76 : decode cX0_doAll 76 = .ok (.if_icmp .lt 9, 3) := by decide +kernel
theorem dX0_doAll_79 : decode cX0_doAll 79 = .ok (.aload_n 0, 1) := by decide +kernel
theorem dX0_doAll_80 : decode cX0_doAll 80 = .ok (.iconst 1, 1) := by decide +kernel
theorem dX0_doAll_81 : decode cX0_doAll 81 = .ok (.putfield 25, 3) := by decide +kernel
theorem dX0_doAll_84 : decode cX0_doAll 84 = .ok (.return_, 1) := by decide +kernel
theorem dX0_doAll_85 : decode cX0_doAll 85 = .ok (.aload_n 0, 1) := by decide +kernel
theorem dX0_doAll_86 : decode cX0_doAll 86 = .ok (.dup, 1) := by decide +kernel
theorem dX0_doAll_87 : decode cX0_doAll 87 = .ok (.getfield 15, 3) := by decide +kernel
theorem dX0_doAll_90 : decode cX0_doAll 90 = .ok (.iconst 1, 1) := by decide +kernel
theorem dX0_doAll_91 : decode cX0_doAll 91 = .ok (.iadd, 1) := by decide +kernel
theorem dX0_doAll_92 : decode cX0_doAll 92 = .ok (.putfield 15, 3) := by decide +kernel
theorem dX0_doAll_95 : decode cX0_doAll 95 = .ok (.aload_n 0, 1) := by decide +kernel
theorem dX0_doAll_96 : decode cX0_doAll 96 = .ok (.aload_n 1, 1) := by decide +kernel
theorem dX0_doAll_97 : decode cX0_doAll 97 = .ok (.aload_n 2, 1) := by decide +kernel
theorem dX0_doAll_98 : decode cX0_doAll 98 = .ok (.invokevirtual 50, 3) := by decide +kernel
theorem dX0_doAll_101 : decode cX0_doAll 101 = .ok (.iinc 3 1, 3) := by decide +kernel
theorem dX0_doAll_104 : decode cX0_doAll 104 = .ok (.goto (-67), 3) := by decide +kernel
theorem dX0_doAll_107 : decode cX0_doAll 107 = .ok (.return_, 1) := by decide +kernel
theorem dX0_doStep_0 : decode cX0_doStep 0 = .ok (.aload_n 0, 1) := by decide +kernel
theorem dX0_doStep_1 : decode cX0_doStep 1 = .ok (.getfield 28, 3) := by decide +kernel
theorem dX0_doStep_4 : decode cX0_doStep 4 = .ok (.istore_n 3, 1) := by decide +kernel
theorem dX0_doStep_5 : decode cX0_doStep 5 = .ok (.aload_n 0, 1) := by decide +kernel
theorem dX0_doStep_6 : decode cX0_doStep 6 = .ok (.dup, 1) := by decide +kernel
theorem dX0_doStep_7 : decode cX0_doStep 7 = .ok (.getfield 28, 3) := by decide +kernel
theorem dX0_doStep_10 : decode cX0_doStep 10 = .ok (.iconst 1, 1) := by decide +kernel
theorem dX0_doStep_11 : decode cX0_doStep 11 = .ok (.iadd, 1) := by decide +kernel
theorem dX0_doStep_12 : decode cX0_doStep 12 = .ok (.putfield 28, 3) := by decide +kernel
theorem dX0_doStep_15 : decode cX0_doStep 15 = .ok (.aload_n 1, 1) := by decide +kernel
theorem dX0_doStep_16 : decode cX0_doStep 16 = .ok (.getfield 54, 3) := by decide +kernel
theorem dX0_doStep_19 : decode cX0_doStep 19 = .ok (.iload_n 3, 1) := by decide +kernel
theorem dX0_doStep_20 : decode cX0_doStep 20 = .ok (.iaload, 1) := by decide +kernel
theorem dX0_doStep_21 : decode cX0_doStep 21 = .ok (.lookupswitch 90 #[(0, 35), (4, 52), (5, 67)], 35) := by decide +kernel
theorem dX0_doStep_56 : decode cX0_doStep 56 = .ok (.aload_n 0, 1) := by decide +kernel
theorem dX0_doStep_57 : decode cX0_doStep 57 = .ok (.aload_n 2, 1) := by decide +kernel
theorem dX0_doStep_58 : decode cX0_doStep 58 = .ok (.getfield 57, 3) := by decide +kernel
theorem dX0_doStep_61 : decode cX0_doStep 61 = .ok (.aload_n 1, 1) := by decide +kernel
theorem dX0_doStep_62 : decode cX0_doStep 62 = .ok (.getfield 63, 3) := by decide +kernel
theorem dX0_doStep_65 : decode cX0_doStep 65 = .ok (.iload_n 3, 1) := by decide +kernel
theorem dX0_doStep_66 : decode cX0_doStep 66 = .ok (.iaload, 1) := by decide +kernel
theorem dX0_doStep_67 : decode cX0_doStep 67 = .ok (.invokevirtual 66, 3) := by decide +kernel
theorem dX0_doStep_70 : decode cX0_doStep 70 = .ok (.goto 47, 3) := by decide +kernel
theorem dX0_doStep_73 : decode cX0_doStep 73 = .ok (.aload_n 0, 1) := by decide +kernel
theorem dX0_doStep_74 : decode cX0_doStep 74 = .ok (.aload_n 1, 1) := by decide +kernel
theorem dX0_doStep_75 : decode cX0_doStep 75 = .ok (.iload_n 3, 1) := by decide +kernel
theorem dX0_doStep_76 : decode cX0_doStep 76 = .ok (.aload_n 1, 1) := by decide +kernel
theorem dX0_doStep_77 : decode cX0_doStep 77 = .ok (.getfield 63, 3) := by decide +kernel
theorem dX0_doStep_80 : decode cX0_doStep 80 = .ok (.iload_n 3, 1) := by decide +kernel
theorem dX0_doStep_81 : decode cX0_doStep 81 = .ok (.iaload, 1) := by decide +kernel
theorem dX0_doStep_82 : decode cX0_doStep 82 = .ok (.invokevirtual 70, 3) := by decide +kernel
theorem dX0_doStep_85 : decode cX0_doStep 85 = .ok (.goto 32, 3) := by decide +kernel
theorem dX0_doStep_88 : decode cX0_doStep 88 = .ok (.aload_n 0, 1) := by decide +kernel
theorem dX0_doStep_89 : decode cX0_doStep 89 = .ok (.aload_n 1, 1) := by decide +kernel
theorem dX0_doStep_90 : decode cX0_doStep 90 = .ok (.iload_n 3, 1) := by decide +kernel
theorem dX0_doStep_91 : decode cX0_doStep 91 = .ok (.aload_n 1, 1) := by decide +kernel
theorem dX0_doStep_92 : decode cX0_doStep 92 = .ok (.iload_n 3, 1) := by decide +kernel
theorem dX0_doStep_93 : decode cX0_doStep 93 = .ok (.aload_n 2, 1) := by decide +kernel
theorem dX0_doStep_94 : decode cX0_doStep 94 = .ok (.invokestatic 74, 3) := by decide +kernel
theorem dX0_doStep_97 : decode cX0_doStep 97 = .ok (.ifCond .eq 7, 3) := by decide +kernel
theorem dX0_doStep_100 : decode cX0_doStep 100 = .ok (.iconst 1, 1) := by decide +kernel
theorem dX0_doStep_101 : decode cX0_doStep 101 = .ok (.goto 4, 3) := by decide +kernel
theorem dX0_doStep_104 : decode cX0_doStep 104 = .ok (.iconst 0, 1) := by decide +kernel
theorem dX0_doStep_105 : decode cX0_doStep 105 = .ok (.invokevirtual 70, 3) := by decide +kernel
theorem dX0_doStep_108 : decode cX0_doStep 108 = .ok (.goto 9, 3) := by decide +kernel
theorem dX0_doStep_111 : decode cX0_doStep 111 = .ok (.aload_n 1, 1) := by decide +kernel
theorem dX0_doStep_112 : decode cX0_doStep 112 = .ok (.iload_n 3, 1) := by decide +kernel
theorem dX0_doStep_113 : decode cX0_doStep 113 = .ok (.aload_n 2, 1) := by decide +kernel
theorem dX0_doStep_114 : decode cX0_doStep 114 = .ok (.invokestatic 78, 3) := by decide +kernel
theorem dX0_doStep_117 : decode cX0_doStep 117 = .ok (.return_, 1) := by decide +kernel
theorem dX0_doRun_0 : decode cX0_doRun 0 = .ok (.iload_n 2, 1) := by decide +kernel
theorem dX0_doRun_1 : decode cX0_doRun 1 = .ok (.sipush 1000, 3) := by decide +kernel
theorem dX0_doRun_4 : decode cX0_doRun 4 = .ok (.aload_n 0, 1) := by decide +kernel
theorem dX0_doRun_5 : decode cX0_doRun 5 = .ok (.getfield 19, 3) := by decide +kernel
theorem dX0_doRun_8 : decode cX0_doRun 8 = .ok (.isub, 1) := by decide +kernel
theorem dX0_doRun_9 : decode cX0_doRun 9 = .ok (.invokestatic 82, 3) := by decide +kernel
theorem dX0_doRun_12 : decode cX0_doRun 12 = .ok (.istore_n 3, 1) := by decide +kernel
theorem dX0_doRun_13 : decode cX0_doRun 13 = .ok (.aload_n 0, 1) := by decide +kernel
theorem dX0_doRun_14 : decode cX0_doRun 14 = .ok (.dup, 1) := by decide +kernel
theorem dX0_doRun_15 : decode cX0_doRun 15 = .ok (.getfield 22, 3) := by decide +kernel
theorem dX0_doRun_18 : decode cX0_doRun 18 = .ok (.aload_n 1, 1) := by decide +kernel
theorem dX0_doRun_19 : decode cX0_doRun 19 = .ok (.iload_n 3, 1) := by decide +kernel
theorem dX0_doRun_20 : decode cX0_doRun 20 = .ok (.invokevirtual 88, 3) := by decide +kernel
theorem dX0_doRun_23 : decode cX0_doRun 23 = .ok (.iadd, 1) := by decide +kernel
theorem dX0_doRun_24 : decode cX0_doRun 24 = .ok (.putfield 22, 3) := by decide +kernel
theorem dX0_doRun_27 : decode cX0_doRun 27 = .ok (.aload_n 0, 1) := by decide +kernel
theorem dX0_doRun_28 : decode cX0_doRun 28 = .ok (.dup, 1) := by decide +kernel
theorem dX0_doRun_29 : decode cX0_doRun 29 = .ok (.getfield 19, 3) := by decide +kernel
theorem dX0_doRun_32 : decode cX0_doRun 32 = .ok (.iload_n 3, 1) := by decide +kernel
theorem dX0_doRun_33 : decode cX0_doRun 33 = .ok (.iadd, 1) := by decide +kernel
theorem dX0_doRun_34 : decode cX0_doRun 34 = .ok (.putfield 19, 3) := by decide +kernel
theorem dX0_doRun_37 : decode cX0_doRun 37 = .ok (.iload_n 3, 1) := by decide +kernel
theorem dX0_doRun_38 : decode cX0_doRun 38 = .ok (.iload_n 2, 1) := by decide +kernel
theorem dX0_doRun_39 : decode cX0_doRun 39 = .ok (.if_icmp .ge 8, 3) := by decide +kernel
theorem dX0_doRun_42 : decode cX0_doRun 42 = .ok (.aload_n 0, 1) := by decide +kernel
theorem dX0_doRun_43 : decode cX0_doRun 43 = .ok (.iconst 1, 1) := by decide +kernel
theorem dX0_doRun_44 : decode cX0_doRun 44 = .ok (.putfield 25, 3) := by decide +kernel
theorem dX0_doRun_47 : decode cX0_doRun 47 = .ok (.return_, 1) := by decide +kernel
theorem dX0_wasSo_0 : decode cX0_wasSo 0 = .ok (.aload_n 2, 1) := by decide +kernel
theorem dX0_wasSo_1 : decode cX0_wasSo 1 = .ok (.aload_n 0, 1) := by decide +kernel
theorem dX0_wasSo_2 : decode cX0_wasSo 2 = .ok (.getfield 94, 3) := by decide +kernel
theorem dX0_wasSo_5 : decode cX0_wasSo 5 = .ok (.iload_n 1, 1) := by decide +kernel
theorem dX0_wasSo_6 : decode cX0_wasSo 6 = .ok (.laload, 1) := by decide +kernel
theorem dX0_wasSo_7 : decode cX0_wasSo 7 = .ok (.invokevirtual 98, 3) := by decide +kernel
theorem dX0_wasSo_10 : decode cX0_wasSo 10 = .ok (.istore_n 3, 1) := by decide +kernel
theorem dX0_wasSo_11 : decode cX0_wasSo 11 = .ok (.iload_n 3, 1) := by decide +kernel
theorem dX0_wasSo_12 : decode cX0_wasSo 12 = .ok (.iconst (-1), 1) := by decide +kernel
theorem dX0_wasSo_13 : decode cX0_wasSo 13 = .ok (.if_icmp .eq 25, 3) := by decide +kernel
theorem dX0_wasSo_16 : decode cX0_wasSo 16 = .ok (.aload_n 2, 1) := by decide +kernel
theorem dX0_wasSo_17 : decode cX0_wasSo 17 = .ok (.getfield 57, 3) := by decide +kernel
theorem dX0_wasSo_20 : decode cX0_wasSo 20 = .ok (.getfield 102, 3) := by decide +kernel
theorem dX0_wasSo_23 : decode cX0_wasSo 23 = .ok (.iload_n 3, 1) := by decide +kernel
theorem dX0_wasSo_24 : decode cX0_wasSo 24 = .ok (.iaload, 1) := by decide +kernel
theorem dX0_wasSo_25 : decode cX0_wasSo 25 = .ok (.aload_n 0, 1) := by decide +kernel
theorem dX0_wasSo_26 : decode cX0_wasSo 26 = .ok (.getfield 63, 3) := by decide +kernel
theorem dX0_wasSo_29 : decode cX0_wasSo 29 = .ok (.iload_n 1, 1) := by decide +kernel
theorem dX0_wasSo_30 : decode cX0_wasSo 30 = .ok (.iaload, 1) := by decide +kernel
theorem dX0_wasSo_31 : decode cX0_wasSo 31 = .ok (.if_icmp .ne 7, 3) := by decide +kernel
theorem dX0_wasSo_34 : decode cX0_wasSo 34 = .ok (.iconst 1, 1) := by decide +kernel
theorem dX0_wasSo_35 : decode cX0_wasSo 35 = .ok (.goto 4, 3) := by decide +kernel
theorem dX0_wasSo_38 : decode cX0_wasSo 38 = .ok (.iconst 0, 1) := by decide +kernel
theorem dX0_wasSo_39 : decode cX0_wasSo 39 = .ok (.ireturn, 1) := by decide +kernel
theorem dX0_handle_0 : decode cX0_handle 0 = .ok (.aload_n 2, 1) := by decide +kernel
theorem dX0_handle_1 : decode cX0_handle 1 = .ok (.aload_n 0, 1) := by decide +kernel
theorem dX0_handle_2 : decode cX0_handle 2 = .ok (.getfield 94, 3) := by decide +kernel
theorem dX0_handle_5 : decode cX0_handle 5 = .ok (.iload_n 1, 1) := by decide +kernel
theorem dX0_handle_6 : decode cX0_handle 6 = .ok (.laload, 1) := by decide +kernel
theorem dX0_handle_7 : decode cX0_handle 7 = .ok (.invokevirtual 98, 3) := by decide +kernel
theorem dX0_handle_10 : decode cX0_handle 10 = .ok (.istore_n 3, 1) := by decide +kernel
theorem dX0_handle_11 : decode cX0_handle 11 = .ok (.iload_n 3, 1) := by decide +kernel
theorem dX0_handle_12 : decode cX0_handle 12 = .ok (.iconst (-1), 1) := by decide +kernel
theorem dX0_handle_13 : decode cX0_handle 13 = .ok (.if_icmp .ne 4, 3) := by decide +kernel
theorem dX0_handle_16 : decode cX0_handle 16 = .ok (.return_, 1) := by decide +kernel
theorem dX0_handle_17 : decode cX0_handle 17 = .ok (.aload_n 0, 1) := by decide +kernel
theorem dX0_handle_18 : decode cX0_handle 18 = .ok (.getfield 54, 3) := by decide +kernel
theorem dX0_handle_21 : decode cX0_handle 21 = .ok (.iload_n 1, 1) := by decide +kernel
theorem dX0_handle_22 : decode cX0_handle 22 = .ok (.iaload, 1) := by decide +kernel
theorem dX0_handle_23 : decode cX0_handle 23 = .ok (.iconst 1, 1) := by decide +kernel
theorem dX0_handle_24 : decode cX0_handle 24 = .ok (.if_icmp .ne 21, 3) := by decide +kernel
theorem dX0_handle_27 : decode cX0_handle 27 = .ok (.aload_n 2, 1) := by decide +kernel
theorem dX0_handle_28 : decode cX0_handle 28 = .ok (.getfield 57, 3) := by decide +kernel
theorem dX0_handle_31 : decode cX0_handle 31 = .ok (.getfield 105, 3) := by decide +kernel
theorem dX0_handle_34 : decode cX0_handle 34 = .ok (.iload_n 3, 1) := by decide +kernel
theorem dX0_handle_35 : decode cX0_handle 35 = .ok (.aload_n 0, 1) := by decide +kernel
theorem dX0_handle_36 : decode cX0_handle 36 = .ok (.getfield 63, 3) := by decide +kernel
theorem dX0_handle_39 : decode cX0_handle 39 = .ok (.iload_n 1, 1) := by decide +kernel
theorem dX0_handle_40 : decode cX0_handle 40 = .ok (.iaload, 1) := by decide +kernel
theorem dX0_handle_41 : decode cX0_handle 41 = .ok (.iastore, 1) := by decide +kernel
theorem dX0_handle_42 : decode cX0_handle 42 = .ok (.goto 32, 3) := by decide +kernel
theorem dX0_handle_45 : decode cX0_handle 45 = .ok (.aload_n 2, 1) := by decide +kernel
theorem dX0_handle_46 : decode cX0_handle 46 = .ok (.getfield 57, 3) := by decide +kernel
theorem dX0_handle_49 : decode cX0_handle 49 = .ok (.getfield 108, 3) := by decide +kernel
theorem dX0_handle_52 : decode cX0_handle 52 = .ok (.iload_n 3, 1) := by decide +kernel
theorem dX0_handle_53 : decode cX0_handle 53 = .ok (.aload_n 0, 1) := by decide +kernel
theorem dX0_handle_54 : decode cX0_handle 54 = .ok (.getfield 54, 3) := by decide +kernel
theorem dX0_handle_57 : decode cX0_handle 57 = .ok (.iload_n 1, 1) := by decide +kernel
theorem dX0_handle_58 : decode cX0_handle 58 = .ok (.iaload, 1) := by decide +kernel
theorem dX0_handle_59 : decode cX0_handle 59 = .ok (.iconst 2, 1) := by decide +kernel
theorem dX0_handle_60 : decode cX0_handle 60 = .ok (.if_icmp .ne 12, 3) := by decide +kernel
theorem dX0_handle_63 : decode cX0_handle 63 = .ok (.aload_n 0, 1) := by decide +kernel
theorem dX0_handle_64 : decode cX0_handle 64 = .ok (.getfield 63, 3) := by decide +kernel
theorem dX0_handle_67 : decode cX0_handle 67 = .ok (.iload_n 1, 1) := by decide +kernel
theorem dX0_handle_68 : decode cX0_handle 68 = .ok (.iaload, 1) := by decide +kernel
theorem dX0_handle_69 : decode cX0_handle 69 = .ok (.goto 4, 3) := by decide +kernel
theorem dX0_handle_72 : decode cX0_handle 72 = .ok (.iconst 0, 1) := by decide +kernel
theorem dX0_handle_73 : decode cX0_handle 73 = .ok (.iastore, 1) := by decide +kernel
theorem dX0_handle_74 : decode cX0_handle 74 = .ok (.return_, 1) := by decide +kernel
theorem dX0_enterBlock_0 : decode cX0_enterBlock 0 = .ok (.iload_n 3, 1) := by decide +kernel
theorem dX0_enterBlock_1 : decode cX0_enterBlock 1 = .ok (.ifCond .eq 23, 3) := by decide +kernel
theorem dX0_enterBlock_4 : decode cX0_enterBlock 4 = .ok (.aload_n 1, 1) := by decide +kernel
theorem dX0_enterBlock_5 : decode cX0_enterBlock 5 = .ok (.getfield 111, 3) := by decide +kernel
theorem dX0_enterBlock_8 : decode cX0_enterBlock 8 = .ok (.iload_n 2, 1) := by decide +kernel
theorem dX0_enterBlock_9 : decode cX0_enterBlock 9 = .ok (.iaload, 1) := by decide +kernel
theorem dX0_enterBlock_10 : decode cX0_enterBlock 10 = .ok (.iload_n 2, 1) := by decide +kernel
theorem dX0_enterBlock_11 : decode cX0_enterBlock 11 = .ok (.iconst 1, 1) := by decide +kernel
theorem dX0_enterBlock_12 : decode cX0_enterBlock 12 = .ok (.iadd, 1) := by decide +kernel
theorem dX0_enterBlock_13 : decode cX0_enterBlock 13 = .ok (.if_icmp .eq 11, 3) := by decide +kernel
theorem dX0_enterBlock_16 : decode cX0_enterBlock 16 = .ok (.aload_n 0, 1) := by decide +kernel
theorem dX0_enterBlock_17 : decode cX0_enterBlock 17 = .ok (.getfield 31, 3) := by decide +kernel
theorem dX0_enterBlock_20 : decode cX0_enterBlock 20 = .ok (.iconst 3, 1) := by decide +kernel
theorem dX0_enterBlock_21 : decode cX0_enterBlock 21 = .ok (.if_icmp .lt 14, 3) := by decide +kernel
theorem dX0_enterBlock_24 : decode cX0_enterBlock 24 = .ok (.aload_n 0, 1) := by decide +kernel
theorem dX0_enterBlock_25 : decode cX0_enterBlock 25 = .ok (.aload_n 1, 1) := by decide +kernel
theorem dX0_enterBlock_26 : decode cX0_enterBlock 26 = .ok (.getfield 111, 3) := by decide +kernel
theorem dX0_enterBlock_29 : decode cX0_enterBlock 29 = .ok (.iload_n 2, 1) := by decide +kernel
theorem dX0_enterBlock_30 : decode cX0_enterBlock 30 = .ok (.iaload, 1) := by decide +kernel
theorem dX0_enterBlock_31 : decode cX0_enterBlock 31 = .ok (.putfield 28, 3) := by decide +kernel
theorem dX0_enterBlock_34 : decode cX0_enterBlock 34 = .ok (.return_, 1) := by decide +kernel
theorem dX0_enterBlock_35 : decode cX0_enterBlock 35 = .ok (.aload_n 0, 1) := by decide +kernel
theorem dX0_enterBlock_36 : decode cX0_enterBlock 36 = .ok (.getfield 36, 3) := by decide +kernel
theorem dX0_enterBlock_39 : decode cX0_enterBlock 39 = .ok (.aload_n 0, 1) := by decide +kernel
theorem dX0_enterBlock_40 : decode cX0_enterBlock 40 = .ok (.getfield 31, 3) := by decide +kernel
theorem dX0_enterBlock_43 : decode cX0_enterBlock 43 = .ok (.iload_n 2, 1) := by decide +kernel
theorem dX0_enterBlock_44 : decode cX0_enterBlock 44 = .ok (.iastore, 1) := by decide +kernel
theorem dX0_enterBlock_45 : decode cX0_enterBlock 45 = .ok (.aload_n 0, 1) := by decide +kernel
theorem dX0_enterBlock_46 : decode cX0_enterBlock 46 = .ok (.getfield 40, 3) := by decide +kernel
theorem dX0_enterBlock_49 : decode cX0_enterBlock 49 = .ok (.aload_n 0, 1) := by decide +kernel
theorem dX0_enterBlock_50 : decode cX0_enterBlock 50 = .ok (.getfield 31, 3) := by decide +kernel
theorem dX0_enterBlock_53 : decode cX0_enterBlock 53 = .ok (.iload_n 3, 1) := by decide +kernel
theorem dX0_enterBlock_54 : decode cX0_enterBlock 54 = .ok (.iastore, 1) := by decide +kernel
theorem dX0_enterBlock_55 : decode cX0_enterBlock 55 = .ok (.aload_n 0, 1) := by decide +kernel
theorem dX0_enterBlock_56 : decode cX0_enterBlock 56 = .ok (.dup, 1) := by decide +kernel
theorem dX0_enterBlock_57 : decode cX0_enterBlock 57 = .ok (.getfield 31, 3) := by decide +kernel
theorem dX0_enterBlock_60 : decode cX0_enterBlock 60 = .ok (.iconst 1, 1) := by decide +kernel
theorem dX0_enterBlock_61 : decode cX0_enterBlock 61 = .ok (.iadd, 1) := by decide +kernel
theorem dX0_enterBlock_62 : decode cX0_enterBlock 62 = .ok (.putfield 31, 3) := by decide +kernel
theorem dX0_enterBlock_65 : decode cX0_enterBlock 65 = .ok (.return_, 1) := by decide +kernel
theorem dX0_leaveBlocks_0 : decode cX0_leaveBlocks 0 = .ok (.aload_n 0, 1) := by decide +kernel
theorem dX0_leaveBlocks_1 : decode cX0_leaveBlocks 1 = .ok (.getfield 31, 3) := by decide +kernel
theorem dX0_leaveBlocks_4 : decode cX0_leaveBlocks 4 = .ok (.ifCond .le 86, 3) := by decide +kernel
theorem dX0_leaveBlocks_7 : decode cX0_leaveBlocks 7 = .ok (.aload_n 0, 1) := by decide +kernel
theorem dX0_leaveBlocks_8 : decode cX0_leaveBlocks 8 = .ok (.getfield 28, 3) := by decide +kernel
theorem dX0_leaveBlocks_11 : decode cX0_leaveBlocks 11 = .ok (.aload_n 1, 1) := by decide +kernel
theorem dX0_leaveBlocks_12 : decode cX0_leaveBlocks 12 = .ok (.getfield 111, 3) := by decide +kernel
theorem dX0_leaveBlocks_15 : decode cX0_leaveBlocks 15 = .ok (.aload_n 0, 1) := by decide +kernel
theorem dX0_leaveBlocks_16 : decode cX0_leaveBlocks 16 = .ok (.getfield 36, 3) := by decide +kernel
theorem dX0_leaveBlocks_19 : decode cX0_leaveBlocks 19 = .ok (.aload_n 0, 1) := by decide +kernel
theorem dX0_leaveBlocks_20 : decode cX0_leaveBlocks 20 = .ok (.getfield 31, 3) := by decide +kernel
theorem dX0_leaveBlocks_23 : decode cX0_leaveBlocks 23 = .ok (.iconst 1, 1) := by decide +kernel
theorem dX0_leaveBlocks_24 : decode cX0_leaveBlocks 24 = .ok (.isub, 1) := by decide +kernel
theorem dX0_leaveBlocks_25 : decode cX0_leaveBlocks 25 = .ok (.iaload, 1) := by decide +kernel
theorem dX0_leaveBlocks_26 : decode cX0_leaveBlocks 26 = .ok (.iaload, 1) := by decide +kernel
theorem dX0_leaveBlocks_27 : decode cX0_leaveBlocks 27 = .ok (.if_icmp .lt 63, 3) := by decide +kernel
theorem dX0_leaveBlocks_30 : decode cX0_leaveBlocks 30 = .ok (.aload_n 0, 1) := by decide +kernel
theorem dX0_leaveBlocks_31 : decode cX0_leaveBlocks 31 = .ok (.getfield 40, 3) := by decide +kernel
theorem dX0_leaveBlocks_34 : decode cX0_leaveBlocks 34 = .ok (.aload_n 0, 1) := by decide +kernel
theorem dX0_leaveBlocks_35 : decode cX0_leaveBlocks 35 = .ok (.getfield 31, 3) := by decide +kernel
theorem dX0_leaveBlocks_38 : decode cX0_leaveBlocks 38 = .ok (.iconst 1, 1) := by decide +kernel
theorem dX0_leaveBlocks_39 : decode cX0_leaveBlocks 39 = .ok (.isub, 1) := by decide +kernel
theorem dX0_leaveBlocks_40 : decode cX0_leaveBlocks 40 = .ok (.dup2, 1) := by decide +kernel
theorem dX0_leaveBlocks_41 : decode cX0_leaveBlocks 41 = .ok (.iaload, 1) := by decide +kernel
theorem dX0_leaveBlocks_42 : decode cX0_leaveBlocks 42 = .ok (.iconst 1, 1) := by decide +kernel
theorem dX0_leaveBlocks_43 : decode cX0_leaveBlocks 43 = .ok (.isub, 1) := by decide +kernel
theorem dX0_leaveBlocks_44 : decode cX0_leaveBlocks 44 = .ok (.iastore, 1) := by decide +kernel
theorem dX0_leaveBlocks_45 : decode cX0_leaveBlocks 45 = .ok (.aload_n 0, 1) := by decide +kernel
theorem dX0_leaveBlocks_46 : decode cX0_leaveBlocks 46 = .ok (.getfield 40, 3) := by decide +kernel
theorem dX0_leaveBlocks_49 : decode cX0_leaveBlocks 49 = .ok (.aload_n 0, 1) := by decide +kernel
theorem dX0_leaveBlocks_50 : decode cX0_leaveBlocks 50 = .ok (.getfield 31, 3) := by decide +kernel
theorem dX0_leaveBlocks_53 : decode cX0_leaveBlocks 53 = .ok (.iconst 1, 1) := by decide +kernel
theorem dX0_leaveBlocks_54 : decode cX0_leaveBlocks 54 = .ok (.isub, 1) := by decide +kernel
theorem dX0_leaveBlocks_55 : decode cX0_leaveBlocks 55 = .ok (.iaload, 1) := by decide +kernel
theorem dX0_leaveBlocks_56 : decode cX0_leaveBlocks 56 = .ok (.ifCond .le 21, 3) := by decide +kernel
theorem dX0_leaveBlocks_59 : decode cX0_leaveBlocks 59 = .ok (.aload_n 0, 1) := by decide +kernel
theorem dX0_leaveBlocks_60 : decode cX0_leaveBlocks 60 = .ok (.aload_n 0, 1) := by decide +kernel
theorem dX0_leaveBlocks_61 : decode cX0_leaveBlocks 61 = .ok (.getfield 36, 3) := by decide +kernel
theorem dX0_leaveBlocks_64 : decode cX0_leaveBlocks 64 = .ok (.aload_n 0, 1) := by decide +kernel
theorem dX0_leaveBlocks_65 : decode cX0_leaveBlocks 65 = .ok (.getfield 31, 3) := by decide +kernel
theorem dX0_leaveBlocks_68 : decode cX0_leaveBlocks 68 = .ok (.iconst 1, 1) := by decide +kernel
theorem dX0_leaveBlocks_69 : decode cX0_leaveBlocks 69 = .ok (.isub, 1) := by decide +kernel
theorem dX0_leaveBlocks_70 : decode cX0_leaveBlocks 70 = .ok (.iaload, 1) := by decide +kernel
theorem dX0_leaveBlocks_71 : decode cX0_leaveBlocks 71 = .ok (.iconst 1, 1) := by decide +kernel
theorem dX0_leaveBlocks_72 : decode cX0_leaveBlocks 72 = .ok (.iadd, 1) := by decide +kernel
theorem dX0_leaveBlocks_73 : decode cX0_leaveBlocks 73 = .ok (.putfield 28, 3) := by decide +kernel
theorem dX0_leaveBlocks_76 : decode cX0_leaveBlocks 76 = .ok (.return_, 1) := by decide +kernel
theorem dX0_leaveBlocks_77 : decode cX0_leaveBlocks 77 = .ok (.aload_n 0, 1) := by decide +kernel
theorem dX0_leaveBlocks_78 : decode cX0_leaveBlocks 78 = .ok (.dup, 1) := by decide +kernel
theorem dX0_leaveBlocks_79 : decode cX0_leaveBlocks 79 = .ok (.getfield 31, 3) := by decide +kernel
theorem dX0_leaveBlocks_82 : decode cX0_leaveBlocks 82 = .ok (.iconst 1, 1) := by decide +kernel
theorem dX0_leaveBlocks_83 : decode cX0_leaveBlocks 83 = .ok (.isub, 1) := by decide +kernel
theorem dX0_leaveBlocks_84 : decode cX0_leaveBlocks 84 = .ok (.putfield 31, 3) := by decide +kernel
theorem dX0_leaveBlocks_87 : decode cX0_leaveBlocks 87 = .ok (.goto (-87), 3) := by decide +kernel
theorem dX0_leaveBlocks_90 : decode cX0_leaveBlocks 90 = .ok (.return_, 1) := by decide +kernel
theorem dX1_init_0 : decode cX1_init 0 = .ok (.aload_n 0, 1) := by decide +kernel
theorem dX1_init_1 : decode cX1_init 1 = .ok (.invokespecial 3, 3) := by decide +kernel
theorem dX1_init_4 : decode cX1_init 4 = .ok (.aload_n 0, 1) := by decide +kernel
theorem dX1_init_5 : decode cX1_init 5 = .ok (.iconst 0, 1) := by decide +kernel
theorem dX1_init_6 : decode cX1_init 6 = .ok (.putfield 9, 3) := by decide +kernel
theorem dX1_init_9 : decode cX1_init 9 = .ok (.aload_n 0, 1) := by decide +kernel
theorem dX1_init_10 : decode cX1_init 10 = .ok (.bipush 6, 2) := by decide +kernel
theorem dX1_init_12 : decode cX1_init 12 = .ok (.newarray .int, 2) := by decide +kernel
theorem dX1_init_14 : decode cX1_init 14 = .ok (.putfield 15, 3) := by decide +kernel
theorem dX1_init_17 : decode cX1_init 17 = .ok (.aload_n 0, 1) := by decide +kernel
theorem dX1_init_18 : decode cX1_init 18 = .ok (.bipush 6, 2) := by decide +kernel
theorem dX1_init_20 : decode cX1_init 20 = .ok (.newarray .int, 2) := by decide +kernel
theorem dX1_init_22 : decode cX1_init 22 = .ok (.putfield 19, 3) := by decide +kernel
theorem dX1_init_25 : decode cX1_init 25 = .ok (.aload_n 0, 1) := by decide +kernel
theorem dX1_init_26 : decode cX1_init 26 = .ok (.bipush 6, 2) := by decide +kernel
theorem dX1_init_28 : decode cX1_init 28 = .ok (.newarray .int, 2) := by decide +kernel
theorem dX1_init_30 : decode cX1_init 30 = .ok (.putfield 22, 3) := by decide +kernel
theorem dX1_init_33 : decode cX1_init 33 = .ok (.aload_n 0, 1) := by decide +kernel
theorem dX1_init_34 : decode cX1_init 34 = .ok (.bipush 6, 2) := by decide +kernel
theorem dX1_init_36 : decode cX1_init 36 = .ok (.newarray .int, 2) := by decide +kernel
theorem dX1_init_38 : decode cX1_init 38 = .ok (.putfield 25, 3) := by decide +kernel
theorem dX1_init_41 : decode cX1_init 41 = .ok (.aload_n 0, 1) := by decide +kernel
theorem dX1_init_42 : decode cX1_init 42 = .ok (.iconst 0, 1) := by decide +kernel
theorem dX1_init_43 : decode cX1_init 43 = .ok (.putfield 28, 3) := by decide +kernel
theorem dX1_init_46 : decode cX1_init 46 = .ok (.aload_n 0, 1) := by decide +kernel
theorem dX1_init_47 : decode cX1_init 47 = .ok (.iconst 0, 1) := by decide +kernel
theorem dX1_init_48 : decode cX1_init 48 = .ok (.putfield 31, 3) := by decide +kernel
theorem dX1_init_51 : decode cX1_init 51 = .ok (.aload_n 0, 1) := by decide +kernel
theorem dX1_init_52 : decode cX1_init 52 = .ok (.iconst 0, 1) := by decide +kernel
theorem dX1_init_53 : decode cX1_init 53 = .ok (.putfield 34, 3) := by decide +kernel
theorem dX1_init_56 : decode cX1_init 56 = .ok (.aload_n 0, 1) := by decide +kernel
theorem dX1_init_57 : decode cX1_init 57 = .ok (.bipush 6, 2) := by decide +kernel
theorem dX1_init_59 : decode cX1_init 59 = .ok (.newarray .int, 2) := by decide +kernel
theorem dX1_init_61 : decode cX1_init 61 = .ok (.putfield 37, 3) := by decide +kernel
theorem dX1_init_64 : decode cX1_init 64 = .ok (.aload_n 0, 1) := by decide +kernel
theorem dX1_init_65 : decode cX1_init 65 = .ok (.bipush 6, 2) := by decide +kernel
theorem dX1_init_67 : decode cX1_init 67 = .ok (.newarray .int, 2) := by decide +kernel
theorem dX1_init_69 : decode cX1_init 69 = .ok (.putfield 40, 3) := by decide +kernel
theorem dX1_init_72 : decode cX1_init 72 = .ok (.aload_n 0, 1) := by decide +kernel
theorem dX1_init_73 : decode cX1_init 73 = .ok (.bipush 6, 2) := by decide +kernel
theorem dX1_init_75 : decode cX1_init 75 = .ok (.newarray .int, 2) := by decide +kernel
theorem dX1_init_77 : decode cX1_init 77 = .ok (.putfield 43, 3) := by decide +kernel
theorem dX1_init_80 : decode cX1_init 80 = .ok (.aload_n 0, 1) := by decide +kernel
theorem dX1_init_81 : decode cX1_init 81 = .ok (.bipush 6, 2) := by decide +kernel
theorem dX1_init_83 : decode cX1_init 83 = .ok (.newarray .int, 2) := by decide +kernel
theorem dX1_init_85 : decode cX1_init 85 = .ok (.putfield 46, 3) := by decide +kernel
theorem dX1_init_88 : decode cX1_init 88 = .ok (.aload_n 0, 1) := by decide +kernel
theorem dX1_init_89 : decode cX1_init 89 = .ok (.bipush 24, 2) := by decide +kernel
theorem dX1_init_91 : decode cX1_init 91 = .ok (.newarray .int, 2) := by decide +kernel
theorem dX1_init_93 : decode cX1_init 93 = .ok (.putfield 49, 3) := by decide +kernel
theorem dX1_init_96 : decode cX1_init 96 = .ok (.aload_n 0, 1) := by decide +kernel
theorem dX1_init_97 : decode cX1_init 97 = .ok (.bipush 36, 2) := by decide +kernel
theorem dX1_init_99 : decode cX1_init 99 = .ok (.newarray .int, 2) := by decide +kernel
theorem dX1_init_101 : decode cX1_init 101 = .ok (.putfield 52, 3) := by decide +kernel
theorem dX1_init_104 : decode cX1_init 104 = .ok (.return_, 1) := by decide +kernel
theorem dX1_start_0 : decode cX1_start 0 = .ok (.aload_n 0, 1) := by decide +kernel
theorem dX1_start_1 : decode cX1_start 1 = .ok (.iload_n 1, 1) := by decide +kernel
theorem dX1_start_2 : decode cX1_start 2 = .ok (.putfield 28, 3) := by decide +kernel
theorem dX1_start_5 : decode cX1_start 5 = .ok (.aload_n 0, 1) := by decide +kernel
theorem dX1_start_6 : decode cX1_start 6 = .ok (.iload_n 1, 1) := by decide +kernel
theorem dX1_start_7 : decode cX1_start 7 = .ok (.putfield 31, 3) := by decide +kernel
theorem dX1_start_10 : decode cX1_start 10 = .ok (.aload_n 0, 1) := by decide +kernel
theorem dX1_start_11 : decode cX1_start 11 = .ok (.iconst 0, 1) := by decide +kernel
theorem dX1_start_12 : decode cX1_start 12 = .ok (.putfield 34, 3) := by decide +kernel
theorem dX1_start_15 : decode cX1_start 15 = .ok (.aload_n 0, 1) := by decide +kernel
theorem dX1_start_16 : decode cX1_start 16 = .ok (.getfield 37, 3) := by decide +kernel
theorem dX1_start_19 : decode cX1_start 19 = .ok (.iconst 0, 1) := by decide +kernel
theorem dX1_start_20 : decode cX1_start 20 = .ok (.invokestatic 55, 3) := by decide +kernel
theorem dX1_start_23 : decode cX1_start 23 = .ok (.aload_n 0, 1) := by decide +kernel
theorem dX1_start_24 : decode cX1_start 24 = .ok (.getfield 40, 3) := by decide +kernel
theorem dX1_start_27 : decode cX1_start 27 = .ok (.iconst (-1), 1) := by decide +kernel
theorem dX1_start_28 : decode cX1_start 28 = .ok (.invokestatic 55, 3) := by decide +kernel
theorem dX1_start_31 : decode cX1_start 31 = .ok (.aload_n 0, 1) := by decide +kernel
theorem dX1_start_32 : decode cX1_start 32 = .ok (.getfield 43, 3) := by decide +kernel
theorem dX1_start_35 : decode cX1_start 35 = .ok (.iconst 0, 1) := by decide +kernel
theorem dX1_start_36 : decode cX1_start 36 = .ok (.invokestatic 55, 3) := by decide +kernel
theorem dX1_start_39 : decode cX1_start 39 = .ok (.aload_n 0, 1) := by decide +kernel
theorem dX1_start_40 : decode cX1_start 40 = .ok (.getfield 46, 3) := by decide +kernel
theorem dX1_start_43 : decode cX1_start 43 = .ok (.iconst 0, 1) := by decide +kernel
theorem dX1_start_44 : decode cX1_start 44 = .ok (.invokestatic 55, 3) := by decide +kernel
theorem dX1_start_47 : decode cX1_start 47 = .ok (.aload_n 0, 1) := by decide +kernel
theorem dX1_start_48 : decode cX1_start 48 = .ok (.getfield 49, 3) := by decide +kernel
theorem dX1_start_51 : decode cX1_start 51 = .ok (.iconst 0, 1) := by decide +kernel
theorem dX1_start_52 : decode cX1_start 52 = .ok (.invokestatic 55, 3) := by decide +kernel
theorem dX1_start_55 : decode cX1_start 55 = .ok (.aload_n 0, 1) := by decide +kernel
theorem dX1_start_56 : decode cX1_start 56 = .ok (.getfield 52, 3) := by decide +kernel
theorem dX1_start_59 : decode cX1_start 59 = .ok (.iconst 0, 1) := by decide +kernel
theorem dX1_start_60 : decode cX1_start 60 = .ok (.invokestatic 55, 3) := by decide +kernel
theorem dX1_start_63 : decode cX1_start 63 = .ok (.return_, 1) := by decide +kernel
theorem dX1_copy_0 : decode cX1_copy 0 = .ok (.aload_n 0, 1) := by decide +kernel
theorem dX1_copy_1 : decode cX1_copy 1 = .ok (.aload_n 1, 1) := by decide +kernel
theorem dX1_copy_2 : decode cX1_copy 2 = .ok (.getfield 9, 3) := by decide +kernel
theorem dX1_copy_5 : decode cX1_copy 5 = .ok (.putfield 9, 3) := by decide +kernel
theorem dX1_copy_8 : decode cX1_copy 8 = .ok (.aload_n 0, 1) := by decide +kernel
theorem dX1_copy_9 : decode cX1_copy 9 = .ok (.aload_n 1, 1) := by decide +kernel
theorem dX1_copy_10 : decode cX1_copy 10 = .ok (.getfield 28, 3) := by decide +kernel
theorem dX1_copy_13 : decode cX1_copy 13 = .ok (.putfield 28, 3) := by decide +kernel
theorem dX1_copy_16 : decode cX1_copy 16 = .ok (.aload_n 0, 1) := by decide +kernel
theorem dX1_copy_17 : decode cX1_copy 17 = .ok (.aload_n 1, 1) := by decide +kernel
theorem dX1_copy_18 : decode cX1_copy 18 = .ok (.getfield 31, 3) := by decide +kernel
theorem dX1_copy_21 : decode cX1_copy 21 = .ok (.putfield 31, 3) := by decide +kernel
theorem dX1_copy_24 : decode cX1_copy 24 = .ok (.aload_n 0, 1) := by decide +kernel
theorem dX1_copy_25 : decode cX1_copy 25 = .ok (.aload_n 1, 1) := by decide +kernel
theorem dX1_copy_26 : decode cX1_copy 26 = .ok (.getfield 34, 3) := by decide +kernel
theorem dX1_copy_29 : decode cX1_copy 29 = .ok (.putfield 34, 3) := by decide +kernel
theorem dX1_copy_32 : decode cX1_copy 32 = .ok (.aload_n 1, 1) := by decide +kernel
theorem dX1_copy_33 : decode cX1_copy 33 = .ok (.getfield 15, 3) := by decide +kernel
theorem dX1_copy_36 : decode cX1_copy 36 = .ok (.iconst 0, 1) := by decide +kernel
theorem dX1_copy_37 : decode cX1_copy 37 = .ok (.aload_n 0, 1) := by decide +kernel
theorem dX1_copy_38 : decode cX1_copy 38 = .ok (.getfield 15, 3) := by decide +kernel
theorem dX1_copy_41 : decode cX1_copy 41 = .ok (.iconst 0, 1) := by decide +kernel
theorem dX1_copy_42 : decode cX1_copy 42 = .ok (.bipush 6, 2) := by decide +kernel
theorem dX1_copy_44 : decode cX1_copy 44 = .ok (.invokestatic 61, 3) := by decide +kernel
theorem dX1_copy_47 : decode cX1_copy 47 = .ok (.aload_n 1, 1) := by decide +kernel
theorem dX1_copy_48 : decode cX1_copy 48 = .ok (.getfield 19, 3) := by decide +kernel
theorem dX1_copy_51 : decode cX1_copy 51 = .ok (.iconst 0, 1) := by decide +kernel
theorem dX1_copy_52 : decode cX1_copy 52 = .ok (.aload_n 0, 1) := by decide +kernel
theorem dX1_copy_53 : decode cX1_copy 53 = .ok (.getfield 19, 3) := by decide +kernel
theorem dX1_copy_56 : decode cX1_copy 56 = .ok (.iconst 0, 1) := by decide +kernel
theorem dX1_copy_57 : decode cX1_copy 57 = .ok (.bipush 6, 2) := by decide +kernel
theorem dX1_copy_59 : decode cX1_copy 59 = .ok (.invokestatic 61, 3) := by decide +kernel
theorem dX1_copy_62 : decode cX1_copy 62 = .ok (.aload_n 1, 1) := by decide +kernel
theorem dX1_copy_63 : decode cX1_copy 63 = .ok (.getfield 22, 3) := by decide +kernel
theorem dX1_copy_66 : decode cX1_copy 66 = .ok (.iconst 0, 1) := by decide +kernel
theorem dX1_copy_67 : decode cX1_copy 67 = .ok (.aload_n 0, 1) := by decide +kernel
theorem dX1_copy_68 : decode cX1_copy 68 = .ok (.getfield 22, 3) := by decide +kernel
theorem dX1_copy_71 : decode cX1_copy 71 = .ok (.iconst 0, 1) := by decide +kernel
theorem dX1_copy_72 : decode cX1_copy 72 = .ok (.bipush 6, 2) := by decide +kernel
theorem dX1_copy_74 : decode cX1_copy 74 = .ok (.invokestatic 61, 3) := by decide +kernel
theorem dX1_copy_77 : decode cX1_copy 77 = .ok (.aload_n 1, 1) := by decide +kernel
theorem dX1_copy_78 : decode cX1_copy 78 = .ok (.getfield 25, 3) := by decide +kernel
theorem dX1_copy_81 : decode cX1_copy 81 = .ok (.iconst 0, 1) := by decide +kernel
theorem dX1_copy_82 : decode cX1_copy 82 = .ok (.aload_n 0, 1) := by decide +kernel
theorem dX1_copy_83 : decode cX1_copy 83 = .ok (.getfield 25, 3) := by decide +kernel
theorem dX1_copy_86 : decode cX1_copy 86 = .ok (.iconst 0, 1) := by decide +kernel
theorem dX1_copy_87 : decode cX1_copy 87 = .ok (.bipush 6, 2) := by decide +kernel
theorem dX1_copy_89 : decode cX1_copy 89 = .ok (.invokestatic 61, 3) := by decide +kernel
theorem dX1_copy_92 : decode cX1_copy 92 = .ok (.aload_n 1, 1) := by decide +kernel
theorem dX1_copy_93 : decode cX1_copy 93 = .ok (.getfield 37, 3) := by decide +kernel
theorem dX1_copy_96 : decode cX1_copy 96 = .ok (.iconst 0, 1) := by decide +kernel
theorem dX1_copy_97 : decode cX1_copy 97 = .ok (.aload_n 0, 1) := by decide +kernel
theorem dX1_copy_98 : decode cX1_copy 98 = .ok (.getfield 37, 3) := by decide +kernel
theorem dX1_copy_101 : decode cX1_copy 101 = .ok (.iconst 0, 1) := by decide +kernel
theorem dX1_copy_102 : decode cX1_copy 102 = .ok (.bipush 6, 2) := by decide +kernel
theorem dX1_copy_104 : decode cX1_copy 104 = .ok (.invokestatic 61, 3) := by decide +kernel
theorem dX1_copy_107 : decode cX1_copy 107 = .ok (.aload_n 1, 1) := by decide +kernel
theorem dX1_copy_108 : decode cX1_copy 108 = .ok (.getfield 40, 3) := by decide +kernel
theorem dX1_copy_111 : decode cX1_copy 111 = .ok (.iconst 0, 1) := by decide +kernel
theorem dX1_copy_112 : decode cX1_copy 112 = .ok (.aload_n 0, 1) := by decide +kernel
theorem dX1_copy_113 : decode cX1_copy 113 = .ok (.getfield 40, 3) := by decide +kernel
theorem dX1_copy_116 : decode cX1_copy 116 = .ok (.iconst 0, 1) := by decide +kernel
theorem dX1_copy_117 : decode cX1_copy 117 = .ok (.bipush 6, 2) := by decide +kernel
theorem dX1_copy_119 : decode cX1_copy 119 = .ok (.invokestatic 61, 3) := by decide +kernel
theorem dX1_copy_122 : decode cX1_copy 122 = .ok (.aload_n 1, 1) := by decide +kernel
theorem dX1_copy_123 : decode cX1_copy 123 = .ok (.getfield 43, 3) := by decide +kernel
theorem dX1_copy_126 : decode cX1_copy 126 = .ok (.iconst 0, 1) := by decide +kernel
theorem dX1_copy_127 : decode cX1_copy 127 = .ok (.aload_n 0, 1) := by decide +kernel
theorem dX1_copy_128 : decode cX1_copy 128 = .ok (.getfield 43, 3) := by decide +kernel
theorem dX1_copy_131 : decode cX1_copy 131 = .ok (.iconst 0, 1) := by decide +kernel
theorem dX1_copy_132 : decode cX1_copy 132 = .ok (.bipush 6, 2) := by decide +kernel
theorem dX1_copy_134 : decode cX1_copy 134 = .ok (.invokestatic 61, 3) := by decide +kernel
theorem dX1_copy_137 : decode cX1_copy 137 = .ok (.aload_n 1, 1) := by decide +kernel
theorem dX1_copy_138 : decode cX1_copy 138 = .ok (.getfield 46, 3) := by decide +kernel
theorem dX1_copy_141 : decode cX1_copy 141 = .ok (.iconst 0, 1) := by decide +kernel
theorem dX1_copy_142 : decode cX1_copy 142 = .ok (.aload_n 0, 1) := by decide +kernel
theorem dX1_copy_143 : decode cX1_copy 143 = .ok (.getfield 46, 3) := by decide +kernel
theorem dX1_copy_146 : decode cX1_copy 146 = .ok (.iconst 0, 1) := by decide +kernel
theorem dX1_copy_147 : decode cX1_copy 147 = .ok (.bipush 6, 2) := by decide +kernel
theorem dX1_copy_149 : decode cX1_copy 149 = .ok (.invokestatic 61, 3) := by decide +kernel
theorem dX1_copy_152 : decode cX1_copy 152 = .ok (.aload_n 1, 1) := by decide +kernel
theorem dX1_copy_153 : decode cX1_copy 153 = .ok (.getfield 49, 3) := by decide +kernel
theorem dX1_copy_156 : decode cX1_copy 156 = .ok (.iconst 0, 1) := by decide +kernel
theorem dX1_copy_157 : decode cX1_copy 157 = .ok (.aload_n 0, 1) := by decide +kernel
theorem dX1_copy_158 : decode cX1_copy 158 = .ok (.getfield 49, 3) := by decide +kernel
theorem dX1_copy_161 : decode cX1_copy 161 = .ok (.iconst 0, 1) := by decide +kernel
theorem dX1_copy_162 : decode cX1_copy 162 = .ok (.bipush 24, 2) := by decide +kernel
theorem dX1_copy_164 : decode cX1_copy 164 = .ok (.invokestatic 61, 3) := by decide +kernel
theorem dX1_copy_167 : decode cX1_copy 167 = .ok (.aload_n 1, 1) := by decide +kernel
theorem dX1_copy_168 : decode cX1_copy 168 = .ok (.getfield 52, 3) := by decide +kernel
theorem dX1_copy_171 : decode cX1_copy 171 = .ok (.iconst 0, 1) := by decide +kernel
theorem dX1_copy_172 : decode cX1_copy 172 = .ok (.aload_n 0, 1) := by decide +kernel
theorem dX1_copy_173 : decode cX1_copy 173 = .ok (.getfield 52, 3) := by decide +kernel
theorem dX1_copy_176 : decode cX1_copy 176 = .ok (.iconst 0, 1) := by decide +kernel
theorem dX1_copy_177 : decode cX1_copy 177 = .ok (.bipush 36, 2) := by decide +kernel
theorem dX1_copy_179 : decode cX1_copy 179 = .ok (.invokestatic 61, 3) := by decide +kernel
theorem dX1_copy_182 : decode cX1_copy 182 = .ok (.return_, 1) := by decide +kernel
theorem dX1_tables_0 : decode cX1_tables 0 = .ok (.iconst 0, 1) := by decide +kernel
theorem dX1_tables_1 : decode cX1_tables 1 = .ok (.aload_n 0, 1) := by decide +kernel
theorem dX1_tables_2 : decode cX1_tables 2 = .ok (.getfield 9, 3) := by decide +kernel
theorem dX1_tables_5 : decode cX1_tables 5 = .ok (.iconst 1, 1) := by decide +kernel
theorem dX1_tables_6 : decode cX1_tables 6 = .ok (.isub, 1) := by decide +kernel
theorem dX1_tables_7 : decode cX1_tables 7 = .ok (.invokestatic 67, 3) := by decide +kernel
theorem dX1_tables_10 : decode cX1_tables 10 = .ok (.ireturn, 1) := by decide +kernel
theorem dX1_made_0 : decode cX1_made 0 = .ok (.aload_n 0, 1) := by decide +kernel
theorem dX1_made_1 : decode cX1_made 1 = .ok (.getfield 9, 3) := by decide +kernel
theorem dX1_made_4 : decode cX1_made 4 = .ok (.ifCond .ne 7, 3) := by decide +kernel
theorem dX1_made_7 : decode cX1_made 7 = .ok (.iconst 0, 1) := by decide +kernel
theorem dX1_made_8 : decode cX1_made 8 = .ok (.goto 14, 3) := by decide +kernel
theorem dX1_made_11 : decode cX1_made 11 = .ok (.aload_n 0, 1) := by decide +kernel
theorem dX1_made_12 : decode cX1_made 12 = .ok (.getfield 43, 3) := by decide +kernel
theorem dX1_made_15 : decode cX1_made 15 = .ok (.aload_n 0, 1) := by decide +kernel
theorem dX1_made_16 : decode cX1_made 16 = .ok (.getfield 9, 3) := by decide +kernel
theorem dX1_made_19 : decode cX1_made 19 = .ok (.iconst 1, 1) := by decide +kernel
theorem dX1_made_20 : decode cX1_made 20 = .ok (.isub, 1) := by decide +kernel
theorem dX1_made_21 : decode cX1_made 21 = .ok (.iaload, 1) := by decide +kernel
theorem dX1_made_22 : decode cX1_made 22 = .ok (.ireturn, 1) := by decide +kernel
theorem dX1_spend_0 : decode cX1_spend 0 = .ok (.aload_n 0, 1) := by decide +kernel
theorem dX1_spend_1 : decode cX1_spend 1 = .ok (.invokevirtual 73, 3) := by decide +kernel
theorem dX1_spend_4 : decode cX1_spend 4 = .ok (.istore_n 2, 1) := by decide +kernel
theorem dX1_spend_5 : decode cX1_spend 5 = .ok (.iconst 0, 1) := by decide +kernel
theorem dX1_spend_6 : decode cX1_spend 6 = .ok (.istore_n 3, 1) := by decide +kernel
theorem dX1_spend_7 : decode cX1_spend 7 = .ok (.iload_n 3, 1) := by decide +kernel
theorem dX1_spend_8 : decode cX1_spend 8 = .ok (.iload_n 1, 1) := by decide +kernel
theorem dX1_spend_9 : decode cX1_spend 9 = .ok (.if_icmp .ge 17, 3) := by decide +kernel
theorem dX1_spend_12 : decode cX1_spend 12 = .ok (.aload_n 0, 1) := by decide +kernel
theorem dX1_spend_13 : decode cX1_spend 13 = .ok (.invokevirtual 77, 3) := by decide +kernel
theorem dX1_spend_16 : decode cX1_spend 16 = .ok (.aload_n 0, 1) := by decide +kernel
theorem dX1_spend_17 : decode cX1_spend 17 = .ok (.invokevirtual 80, 3) := by decide +kernel
theorem dX1_spend_20 : decode cX1_spend 20 = .ok (.iinc 3 1, 3) := by decide +kernel
theorem dX1_spend_23 : decode cX1_spend 23 = .ok (.goto (-16), 3) := by decide +kernel
theorem dX1_spend_26 : decode cX1_spend 26 = .ok (.aload_n 0, 1) := by decide +kernel
theorem dX1_spend_27 : decode cX1_spend 27 = .ok (.invokevirtual 73, 3) := by decide +kernel
theorem dX1_spend_30 : decode cX1_spend 30 = .ok (.iload_n 2, 1) := by decide +kernel
theorem dX1_spend_31 : decode cX1_spend 31 = .ok (.isub, 1) := by decide +kernel
theorem dX1_spend_32 : decode cX1_spend 32 = .ok (.ireturn, 1) := by decide +kernel
theorem dX1_wouldMake_0 : decode cX1_wouldMake 0 = .ok (.aload_n 0, 1) := by decide +kernel
theorem dX1_wouldMake_1 : decode cX1_wouldMake 1 = .ok (.invokevirtual 73, 3) := by decide +kernel
theorem dX1_wouldMake_4 : decode cX1_wouldMake 4 = .ok (.istore_n 2, 1) := by decide +kernel
theorem dX1_wouldMake_5 : decode cX1_wouldMake 5 = .ok (.iconst 0, 1) := by decide +kernel
theorem dX1_wouldMake_6 : decode cX1_wouldMake 6 = .ok (.istore_n 3, 1) := by decide +kernel
theorem dX1_wouldMake_7 : decode cX1_wouldMake 7 = .ok (.iload_n 3, 1) := by decide +kernel
theorem dX1_wouldMake_8 : decode cX1_wouldMake 8 = .ok (.iload_n 1, 1) := by decide +kernel
theorem dX1_wouldMake_9 : decode cX1_wouldMake 9 = .ok (.if_icmp .ge 13, 3) := by decide +kernel
theorem dX1_wouldMake_12 : decode cX1_wouldMake 12 = .ok (.aload_n 0, 1) := by decide +kernel
theorem dX1_wouldMake_13 : decode cX1_wouldMake 13 = .ok (.invokevirtual 77, 3) := by decide +kernel
theorem dX1_wouldMake_16 : decode cX1_wouldMake 16 = .ok (.iinc 3 1, 3) := by decide +kernel
theorem dX1_wouldMake_19 : decode cX1_wouldMake 19 = .ok (.goto (-12), 3) := by decide +kernel
theorem dX1_wouldMake_22 : decode cX1_wouldMake 22 = .ok (.aload_n 0, 1) := by decide +kernel
theorem dX1_wouldMake_23 : decode cX1_wouldMake 23 = .ok (.invokevirtual 73, 3) := by decide +kernel
theorem dX1_wouldMake_26 : decode cX1_wouldMake 26 = .ok (.iload_n 2, 1) := by decide +kernel
theorem dX1_wouldMake_27 : decode cX1_wouldMake 27 = .ok (.isub, 1) := by decide +kernel
theorem dX1_wouldMake_28 : decode cX1_wouldMake 28 = .ok (.ireturn, 1) := by decide +kernel
theorem dX1_goOn_0 : decode cX1_goOn 0 = .ok (.iconst 0, 1) := by decide +kernel
theorem dX1_goOn_1 : decode cX1_goOn 1 = .ok (.istore_n 1, 1) := by decide +kernel
theorem dX1_goOn_2 : decode cX1_goOn 2 = .ok (.iload_n 1, 1) := by decide +kernel
theorem dX1_goOn_3 : decode cX1_goOn 3 = .ok (.aload_n 0, 1) := by decide +kernel
theorem dX1_goOn_4 : decode cX1_goOn 4 = .ok (.getfield 9, 3) := by decide +kernel
theorem dX1_goOn_7 : decode cX1_goOn 7 = .ok (.if_icmp .ge 28, 3) := by decide +kernel
theorem dX1_goOn_10 : decode cX1_goOn 10 = .ok (.aload_n 0, 1) := by decide +kernel
theorem dX1_goOn_11 : decode cX1_goOn 11 = .ok (.getfield 40, 3) := by decide +kernel
theorem dX1_goOn_14 : decode cX1_goOn 14 = .ok (.iload_n 1, 1) := by decide +kernel
theorem dX1_goOn_15 : decode cX1_goOn 15 = .ok (.aload_n 0, 1) := by decide +kernel
theorem dX1_goOn_16 : decode cX1_goOn 16 = .ok (.iload_n 1, 1) := by decide +kernel
theorem dX1_goOn_17 : decode cX1_goOn 17 = .ok (.invokevirtual 83, 3) := by decide +kernel
theorem dX1_goOn_20 : decode cX1_goOn 20 = .ok (.ifCond .eq 7, 3) := by decide +kernel
theorem dX1_goOn_23 : decode cX1_goOn 23 = .ok (.iconst 3, 1) := by decide +kernel
theorem dX1_goOn_24 : decode cX1_goOn 24 = .ok (.goto 4, 3) := by decide +kernel
theorem dX1_goOn_27 : decode cX1_goOn 27 = .ok (.iconst 0, 1) := by decide +kernel
theorem dX1_goOn_28 : decode cX1_goOn 28 = .ok (.iastore, 1) := by decide +kernel
theorem dX1_goOn_29 : decode cX1_goOn 29 = .ok (.iinc 1 1, 3) := by decide +kernel
theorem dX1_goOn_32 : decode cX1_goOn 32 = .ok (.goto (-30), 3) := by decide +kernel
theorem dX1_goOn_35 : decode cX1_goOn 35 = .ok (.aload_n 0, 1) := by decide +kernel
theorem dX1_goOn_36 : decode cX1_goOn 36 = .ok (.getfield 9, 3) := by decide +kernel
theorem dX1_goOn_39 : decode cX1_goOn 39 = .ok (.iconst 1, 1) := by decide +kernel
theorem dX1_goOn_40 : decode cX1_goOn 40 = .ok (.isub, 1) := by decide +kernel
theorem dX1_goOn_41 : decode cX1_goOn 41 = .ok (.istore_n 1, 1) := by decide +kernel
theorem dX1_goOn_42 : decode cX1_goOn 42 = .ok (.iload_n 1, 1) := by decide +kernel
theorem dX1_goOn_43 : decode cX1_goOn 43 = .ok (.ifCond .lt 30, 3) := by decide +kernel
theorem dX1_goOn_46 : decode cX1_goOn 46 = .ok (.aload_n 0, 1) := by decide +kernel
theorem dX1_goOn_47 : decode cX1_goOn 47 = .ok (.getfield 40, 3) := by decide +kernel
theorem dX1_goOn_50 : decode cX1_goOn 50 = .ok (.iload_n 1, 1) := by decide +kernel
theorem dX1_goOn_51 : decode cX1_goOn 51 = .ok (.iaload, 1) := by decide +kernel
theorem dX1_goOn_52 : decode cX1_goOn 52 = .ok (.iconst 3, 1) := by decide +kernel
theorem dX1_goOn_53 : decode cX1_goOn 53 = .ok (.if_icmp .eq 14, 3) := by decide +kernel
theorem dX1_goOn_56 : decode cX1_goOn 56 = .ok (.aload_n 0, 1) := by decide +kernel
theorem dX1_goOn_57 : decode cX1_goOn 57 = .ok (.getfield 40, 3) := by decide +kernel
theorem dX1_goOn_60 : decode cX1_goOn 60 = .ok (.iload_n 1, 1) := by decide +kernel
theorem dX1_goOn_61 : decode cX1_goOn 61 = .ok (.aload_n 0, 1) := by decide +kernel
theorem dX1_goOn_62 : decode cX1_goOn 62 = .ok (.iload_n 1, 1) := by decide +kernel
theorem dX1_goOn_63 : decode cX1_goOn 63 = .ok (.invokevirtual 87, 3) := by decide +kernel
theorem dX1_goOn_66 : decode cX1_goOn 66 = .ok (.iastore, 1) := by decide +kernel
theorem dX1_goOn_67 : decode cX1_goOn 67 = .ok (.iinc 1 (-1), 3) := by decide +kernel
theorem dX1_goOn_70 : decode cX1_goOn 70 = .ok (.goto (-28), 3) := by decide +kernel
theorem dX1_goOn_73 : decode cX1_goOn 73 = .ok (.aload_n 0, 1) := by decide +kernel
theorem dX1_goOn_74 : decode cX1_goOn 74 = .ok (.dup, 1) := by decide +kernel
theorem dX1_goOn_75 : decode cX1_goOn 75 = .ok (.getfield 34, 3) := by decide +kernel
theorem dX1_goOn_78 : decode cX1_goOn 78 = .ok (.iconst 1, 1) := by decide +kernel
theorem dX1_goOn_79 : decode cX1_goOn 79 = .ok (.iadd, 1) := by decide +kernel
theorem dX1_goOn_80 : decode cX1_goOn 80 = .ok (.putfield 34, 3) := by decide +kernel
theorem dX1_goOn_83 : decode cX1_goOn 83 = .ok (.return_, 1) := by decide +kernel
theorem dX1_standsStill_0 : decode cX1_standsStill 0 = .ok (.aload_n 0, 1) := by decide +kernel
theorem dX1_standsStill_1 : decode cX1_standsStill 1 = .ok (.getfield 37, 3) := by decide +kernel
theorem dX1_standsStill_4 : decode cX1_standsStill 4 = .ok (.iload_n 1, 1) := by decide +kernel
theorem dX1_standsStill_5 : decode cX1_standsStill 5 = .ok (.iaload, 1) := by decide +kernel
theorem dX1_standsStill_6 : decode cX1_standsStill 6 = .ok (.ifCond .le 15, 3) := by decide +kernel
theorem dX1_standsStill_9 : decode cX1_standsStill 9 = .ok (.aload_n 0, 1) := by decide +kernel
theorem dX1_standsStill_10 : decode cX1_standsStill 10 = .ok (.getfield 37, 3) := by decide +kernel
theorem dX1_standsStill_13 : decode cX1_standsStill 13 = .ok (.iload_n 1, 1) := by decide +kernel
theorem dX1_standsStill_14 : decode cX1_standsStill 14 = .ok (.dup2, 1) := by decide +kernel
theorem dX1_standsStill_15 : decode cX1_standsStill 15 = .ok (.iaload, 1) := by decide +kernel
theorem dX1_standsStill_16 : decode cX1_standsStill 16 = .ok (.iconst 1, 1) := by decide +kernel
theorem dX1_standsStill_17 : decode cX1_standsStill 17 = .ok (.isub, 1) := by decide +kernel
theorem dX1_standsStill_18 : decode cX1_standsStill 18 = .ok (.iastore, 1) := by decide +kernel
theorem dX1_standsStill_19 : decode cX1_standsStill 19 = .ok (.iconst 1, 1) := by decide +kernel
theorem dX1_standsStill_20 : decode cX1_standsStill 20 = .ok (.ireturn, 1) := by decide +kernel
theorem dX1_standsStill_21 : decode cX1_standsStill 21 = .ok (.aload_n 0, 1) := by decide +kernel
theorem dX1_standsStill_22 : decode cX1_standsStill 22 = .ok (.getfield 19, 3) := by decide +kernel
theorem dX1_standsStill_25 : decode cX1_standsStill 25 = .ok (.iload_n 1, 1) := by decide +kernel
theorem dX1_standsStill_26 : decode cX1_standsStill 26 = .ok (.iaload, 1) := by decide +kernel
theorem dX1_standsStill_27 : decode cX1_standsStill 27 = .ok (.ifCond .eq 16, 3) := by decide +kernel
theorem dX1_standsStill_30 : decode cX1_standsStill 30 = .ok (.aload_n 0, 1) := by decide +kernel
theorem dX1_standsStill_31 : decode cX1_standsStill 31 = .ok (.invokevirtual 91, 3) := by decide +kernel
theorem dX1_standsStill_34 : decode cX1_standsStill 34 = .ok (.aload_n 0, 1) := by decide +kernel
theorem dX1_standsStill_35 : decode cX1_standsStill 35 = .ok (.getfield 19, 3) := by decide +kernel
theorem dX1_standsStill_38 : decode cX1_standsStill 38 = .ok (.iload_n 1, 1) := by decide +kernel
theorem dX1_standsStill_39 : decode cX1_standsStill 39 = .ok (.iaload, 1) := by decide +kernel
theorem dX1_standsStill_40 : decode cX1_standsStill 40 = .ok (.if_icmp .lt 5, 3) := by decide +kernel
theorem dX1_standsStill_43 : decode cX1_standsStill 43 = .ok (.iconst 0, 1) := by decide +kernel
theorem dX1_standsStill_44 : decode cX1_standsStill 44 = .ok (.ireturn, 1) := by decide +kernel
theorem dX1_standsStill_45 : decode cX1_standsStill 45 = .ok (.aload_n 0, 1) := by decide +kernel
theorem dX1_standsStill_46 : decode cX1_standsStill 46 = .ok (.getfield 37, 3) := by decide +kernel
theorem dX1_standsStill_49 : decode cX1_standsStill 49 = .ok (.iload_n 1, 1) := by decide +kernel
theorem dX1_standsStill_50 : decode cX1_standsStill 50 = .ok (.aload_n 0, 1) := by decide +kernel
theorem dX1_standsStill_51 : decode cX1_standsStill 51 = .ok (.getfield 22, 3) := by decide +kernel
theorem dX1_standsStill_54 : decode cX1_standsStill 54 = .ok (.iload_n 1, 1) := by decide +kernel
theorem dX1_standsStill_55 : decode cX1_standsStill 55 = .ok (.iaload, 1) := by decide +kernel
theorem dX1_standsStill_56 : decode cX1_standsStill 56 = .ok (.iconst 1, 1) := by decide +kernel
theorem dX1_standsStill_57 : decode cX1_standsStill 57 = .ok (.isub, 1) := by decide +kernel
theorem dX1_standsStill_58 : decode cX1_standsStill 58 = .ok (.iastore, 1) := by decide +kernel
theorem dX1_standsStill_59 : decode cX1_standsStill 59 = .ok (.iconst 1, 1) := by decide +kernel
theorem dX1_standsStill_60 : decode cX1_standsStill 60 = .ok (.ireturn, 1) := by decide +kernel
theorem dX1_draw_0 : decode cX1_draw 0 = .ok (.aload_n 0, 1) := by decide +kernel
theorem dX1_draw_1 : decode cX1_draw 1 = .ok (.aload_n 0, 1) := by decide +kernel
theorem dX1_draw_2 : decode cX1_draw 2 = .ok (.getfield 31, 3) := by decide +kernel
theorem dX1_draw_5 : decode cX1_draw 5 = .ok (.sipush 3373, 3) := by decide +kernel
theorem dX1_draw_8 : decode cX1_draw 8 = .ok (.imul, 1) := by decide +kernel
theorem dX1_draw_9 : decode cX1_draw 9 = .ok (.sipush 12289, 3) := by decide +kernel
theorem dX1_draw_12 : decode cX1_draw 12 = .ok (.iadd, 1) := by decide +kernel
theorem dX1_draw_13 : decode cX1_draw 13 = .ok (.ldc 94, 2) := by decide +kernel
theorem dX1_draw_15 : decode cX1_draw 15 = .ok (.irem, 1) := by decide +kernel
theorem dX1_draw_16 : decode cX1_draw 16 = .ok (.putfield 31, 3) := by decide +kernel
theorem dX1_draw_19 : decode cX1_draw 19 = .ok (.aload_n 0, 1) := by decide +kernel
theorem dX1_draw_20 : decode cX1_draw 20 = .ok (.getfield 31, 3) := by decide +kernel
theorem dX1_draw_23 : decode cX1_draw 23 = .ok (.bipush 8, 2) := by decide +kernel
theorem dX1_draw_25 : decode cX1_draw 25 = .ok (.idiv, 1) := by decide +kernel
theorem dX1_draw_26 : decode cX1_draw 26 = .ok (.bipush 64, 2) := by decide +kernel
theorem dX1_draw_28 : decode cX1_draw 28 = .ok (.irem, 1) := by decide +kernel
theorem dX1_draw_29 : decode cX1_draw 29 = .ok (.ireturn, 1) := by decide +kernel
theorem dX1_moveBottles_0 : decode cX1_moveBottles 0 = .ok (.iload_n 1, 1) := by decide +kernel
theorem dX1_moveBottles_1 : decode cX1_moveBottles 1 = .ok (.ifCond .ne 8, 3) := by decide +kernel
theorem dX1_moveBottles_4 : decode cX1_moveBottles 4 = .ok (.ldc 95, 2) := by decide +kernel
theorem dX1_moveBottles_6 : decode cX1_moveBottles 6 = .ok (.goto 11, 3) := by decide +kernel
theorem dX1_moveBottles_9 : decode cX1_moveBottles 9 = .ok (.aload_n 0, 1) := by decide +kernel
theorem dX1_moveBottles_10 : decode cX1_moveBottles 10 = .ok (.getfield 46, 3) := by decide +kernel
theorem dX1_moveBottles_13 : decode cX1_moveBottles 13 = .ok (.iload_n 1, 1) := by decide +kernel
theorem dX1_moveBottles_14 : decode cX1_moveBottles 14 = .ok (.iconst 1, 1) := by decide +kernel
theorem dX1_moveBottles_15 : decode cX1_moveBottles 15 = .ok (.isub, 1) := by decide +kernel
theorem dX1_moveBottles_16 : decode cX1_moveBottles 16 = .ok (.iaload, 1) := by decide +kernel
theorem dX1_moveBottles_17 : decode cX1_moveBottles 17 = .ok (.istore_n 2, 1) := by decide +kernel
theorem dX1_moveBottles_18 : decode cX1_moveBottles 18 = .ok (.iload_n 1, 1) := by decide +kernel
theorem dX1_moveBottles_19 : decode cX1_moveBottles 19 = .ok (.aload_n 0, 1) := by decide +kernel
theorem dX1_moveBottles_20 : decode cX1_moveBottles 20 = .ok (.getfield 9, 3) := by decide +kernel
theorem dX1_moveBottles_23 : decode cX1_moveBottles 23 = .ok (.iconst 1, 1) := by decide +kernel
theorem dX1_moveBottles_24 : decode cX1_moveBottles 24 = .ok (.isub, 1) := by decide +kernel
theorem dX1_moveBottles_25 : decode cX1_moveBottles 25 = .ok (.if_icmp .ne 8, 3) := by decide +kernel
theorem dX1_moveBottles_28 : decode cX1_moveBottles 28 = .ok (.ldc 95, 2) := by decide +kernel
theorem dX1_moveBottles_30 : decode cX1_moveBottles 30 = .ok (.goto 16, 3) := by decide +kernel
theorem dX1_moveBottles_33 : decode cX1_moveBottles 33 = .ok (.aload_n 0, 1) := by decide +kernel
theorem dX1_moveBottles_34 : decode cX1_moveBottles 34 = .ok (.getfield 25, 3) := by decide +kernel
theorem dX1_moveBottles_37 : decode cX1_moveBottles 37 = .ok (.iload_n 1, 1) := by decide +kernel
theorem dX1_moveBottles_38 : decode cX1_moveBottles 38 = .ok (.iaload, 1) := by decide +kernel
theorem dX1_moveBottles_39 : decode cX1_moveBottles 39 = .ok (.aload_n 0, 1) := by decide +kernel
theorem dX1_moveBottles_40 : decode cX1_moveBottles 40 = .ok (.getfield 46, 3) := by decide +kernel
theorem dX1_moveBottles_43 : decode cX1_moveBottles 43 = .ok (.iload_n 1, 1) := by decide +kernel
theorem dX1_moveBottles_44 : decode cX1_moveBottles 44 = .ok (.iaload, 1) := by decide +kernel
theorem dX1_moveBottles_45 : decode cX1_moveBottles 45 = .ok (.isub, 1) := by decide +kernel
theorem dX1_moveBottles_46 : decode cX1_moveBottles 46 = .ok (.istore_n 3, 1) := by decide +kernel
theorem dX1_moveBottles_47 : decode cX1_moveBottles 47 = .ok (.aload_n 0, 1) := by decide +kernel
theorem dX1_moveBottles_48 : decode cX1_moveBottles 48 = .ok (.getfield 15, 3) := by decide +kernel
theorem dX1_moveBottles_51 : decode cX1_moveBottles 51 = .ok (.iload_n 1, 1) := by decide +kernel
theorem dX1_moveBottles_52 : decode cX1_moveBottles 52 = .ok (.iaload, 1) := by decide +kernel
theorem dX1_moveBottles_53 : decode cX1_moveBottles 53 = .ok (.iload_n 2, 1) := by decide +kernel
theorem dX1_moveBottles_54 : decode cX1_moveBottles 54 = .ok (.iload_n 3, 1) := by decide +kernel
theorem dX1_moveBottles_55 : decode cX1_moveBottles 55 = .ok (.invokestatic 96, 3) := by decide +kernel
theorem dX1_moveBottles_58 : decode cX1_moveBottles 58 = .ok (.invokestatic 96, 3) := by decide +kernel
theorem dX1_moveBottles_61 : decode cX1_moveBottles 61 = .ok (.istore 4, 2) := by decide +kernel
theorem dX1_moveBottles_63 : decode cX1_moveBottles 63 = .ok (.iload_n 1, 1) := by decide +kernel
theorem dX1_moveBottles_64 : decode cX1_moveBottles 64 = .ok (.ifCond .le 16, 3) := by decide +kernel
theorem dX1_moveBottles_67 : decode cX1_moveBottles 67 = .ok (.aload_n 0, 1) := by decide +kernel
theorem dX1_moveBottles_68 : decode cX1_moveBottles 68 = .ok (.getfield 46, 3) := by decide +kernel
theorem dX1_moveBottles_71 : decode cX1_moveBottles 71 = .ok (.iload_n 1, 1) := by decide +kernel
theorem dX1_moveBottles_72 : decode cX1_moveBottles 72 = .ok (.iconst 1, 1) := by decide +kernel
theorem dX1_moveBottles_73 : decode cX1_moveBottles 73 = .ok (.isub, 1) := by decide +kernel
theorem dX1_moveBottles_74 : decode cX1_moveBottles 74 = .ok (.dup2, 1) := by decide +kernel
theorem dX1_moveBottles_75 : decode cX1_moveBottles 75 = .ok (.iaload, 1) := by decide +kernel
theorem dX1_moveBottles_76 : decode cX1_moveBottles 76 = .ok (.iload 4, 2) := by decide +kernel
theorem dX1_moveBottles_78 : decode cX1_moveBottles 78 = .ok (.isub, 1) := by decide +kernel
theorem dX1_moveBottles_79 : decode cX1_moveBottles 79 = .ok (.iastore, 1) := by decide +kernel
theorem dX1_moveBottles_80 : decode cX1_moveBottles 80 = .ok (.iload_n 1, 1) := by decide +kernel
theorem dX1_moveBottles_81 : decode cX1_moveBottles 81 = .ok (.aload_n 0, 1) := by decide +kernel
theorem dX1_moveBottles_82 : decode cX1_moveBottles 82 = .ok (.getfield 9, 3) := by decide +kernel
theorem dX1_moveBottles_85 : decode cX1_moveBottles 85 = .ok (.iconst 1, 1) := by decide +kernel
theorem dX1_moveBottles_86 : decode cX1_moveBottles 86 = .ok (.isub, 1) := by decide +kernel
theorem dX1_moveBottles_87 : decode cX1_moveBottles 87 = .ok (.if_icmp .ge 14, 3) := by decide +kernel
theorem dX1_moveBottles_90 : decode cX1_moveBottles 90 = .ok (.aload_n 0, 1) := by decide +kernel
theorem dX1_moveBottles_91 : decode cX1_moveBottles 91 = .ok (.getfield 46, 3) := by decide +kernel
theorem dX1_moveBottles_94 : decode cX1_moveBottles 94 = .ok (.iload_n 1, 1) := by decide +kernel
theorem dX1_moveBottles_95 : decode cX1_moveBottles 95 = .ok (.dup2, 1) := by decide +kernel
theorem dX1_moveBottles_96 : decode cX1_moveBottles 96 = .ok (.iaload, 1) := by decide +kernel
theorem dX1_moveBottles_97 : decode cX1_moveBottles 97 = .ok (.iload 4, 2) := by decide +kernel
theorem dX1_moveBottles_99 : decode cX1_moveBottles 99 = .ok (.iadd, 1) := by decide +kernel
theorem dX1_moveBottles_100 : decode cX1_moveBottles 100 = .ok (.iastore, 1) := by decide +kernel
theorem dX1_moveBottles_101 : decode cX1_moveBottles 101 = .ok (.aload_n 0, 1) := by decide +kernel
theorem dX1_moveBottles_102 : decode cX1_moveBottles 102 = .ok (.getfield 43, 3) := by decide +kernel
theorem dX1_moveBottles_105 : decode cX1_moveBottles 105 = .ok (.iload_n 1, 1) := by decide +kernel
theorem dX1_moveBottles_106 : decode cX1_moveBottles 106 = .ok (.dup2, 1) := by decide +kernel
theorem dX1_moveBottles_107 : decode cX1_moveBottles 107 = .ok (.iaload, 1) := by decide +kernel
theorem dX1_moveBottles_108 : decode cX1_moveBottles 108 = .ok (.iload 4, 2) := by decide +kernel
theorem dX1_moveBottles_110 : decode cX1_moveBottles 110 = .ok (.iadd, 1) := by decide +kernel
theorem dX1_moveBottles_111 : decode cX1_moveBottles 111 = .ok (.iastore, 1) := by decide +kernel
theorem dX1_moveBottles_112 : decode cX1_moveBottles 112 = .ok (.iload 4, 2) := by decide +kernel
theorem dX1_moveBottles_114 : decode cX1_moveBottles 114 = .ok (.aload_n 0, 1) := by decide +kernel
theorem dX1_moveBottles_115 : decode cX1_moveBottles 115 = .ok (.getfield 15, 3) := by decide +kernel
theorem dX1_moveBottles_118 : decode cX1_moveBottles 118 = .ok (.iload_n 1, 1) := by decide +kernel
theorem dX1_moveBottles_119 : decode cX1_moveBottles 119 = .ok (.iaload, 1) := by decide +kernel
theorem dX1_moveBottles_120 : decode cX1_moveBottles 120 = .ok (.if_icmp .ne 5, 3) := by decide +kernel
theorem dX1_moveBottles_123 : decode cX1_moveBottles 123 = .ok (.iconst 0, 1) := by decide +kernel
theorem dX1_moveBottles_124 : decode cX1_moveBottles 124 = .ok (.ireturn, 1) := by decide +kernel
theorem dX1_moveBottles_125 : decode cX1_moveBottles 125 = .ok (.iload_n 2, 1) := by decide +kernel
theorem dX1_moveBottles_126 : decode cX1_moveBottles 126 = .ok (.aload_n 0, 1) := by decide +kernel
theorem dX1_moveBottles_127 : decode cX1_moveBottles 127 = .ok (.getfield 15, 3) := by decide +kernel
theorem dX1_moveBottles_130 : decode cX1_moveBottles 130 = .ok (.iload_n 1, 1) := by decide +kernel
theorem dX1_moveBottles_131 : decode cX1_moveBottles 131 = .ok (.iaload, 1) := by decide +kernel
theorem dX1_moveBottles_132 : decode cX1_moveBottles 132 = .ok (.if_icmp .ge 12, 3) := by decide +kernel
theorem dX1_moveBottles_135 : decode cX1_moveBottles 135 = .ok (.iload_n 2, 1) := by decide +kernel
theorem dX1_moveBottles_136 : decode cX1_moveBottles 136 = .ok (.iload_n 3, 1) := by decide +kernel
theorem dX1_moveBottles_137 : decode cX1_moveBottles 137 = .ok (.if_icmp .gt 7, 3) := by decide +kernel
theorem dX1_moveBottles_140 : decode cX1_moveBottles 140 = .ok (.iconst 1, 1) := by decide +kernel
theorem dX1_moveBottles_141 : decode cX1_moveBottles 141 = .ok (.goto 4, 3) := by decide +kernel
theorem dX1_moveBottles_144 : decode cX1_moveBottles 144 = .ok (.iconst 2, 1) := by decide +kernel
theorem dX1_moveBottles_145 : decode cX1_moveBottles 145 = .ok (.ireturn, 1) := by decide +kernel
theorem dX1_countStates_0 : decode cX1_countStates 0 = .ok (.iconst 0, 1) := by decide +kernel
theorem dX1_countStates_1 : decode cX1_countStates 1 = .ok (.istore_n 1, 1) := by decide +kernel
theorem dX1_countStates_2 : decode cX1_countStates 2 = .ok (.iload_n 1, 1) := by decide +kernel
theorem dX1_countStates_3 : decode cX1_countStates 3 = .ok (.aload_n 0, 1) := by decide +kernel
theorem dX1_countStates_4 : decode cX1_countStates 4 = .ok (.getfield 9, 3) := by decide +kernel
theorem dX1_countStates_7 : decode cX1_countStates 7 = .ok (.if_icmp .ge 89, 3) := by decide +kernel
theorem dX1_countStates_10 : decode cX1_countStates 10 = .ok (.aload_n 0, 1) := by decide +kernel
theorem dX1_countStates_11 : decode cX1_countStates 11 = .ok (.getfield 49, 3) := by decide +kernel
theorem dX1_countStates_14 : decode cX1_countStates 14 = .ok (.iload_n 1, 1) := by decide +kernel
theorem dX1_countStates_15 : decode cX1_countStates 15 = .ok (.iconst 4, 1) := by decide +kernel
theorem dX1_countStates_16 : decode cX1_countStates 16 = .ok (.imul, 1) := by decide +kernel
theorem dX1_countStates_17 : decode cX1_countStates 17 = .ok (.aload_n 0, 1) := by decide +kernel
theorem dX1_countStates_18 : decode cX1_countStates 18 = .ok (.getfield 40, 3) := by decide +kernel
theorem dX1_countStates_21 : decode cX1_countStates 21 = .ok (.iload_n 1, 1) := by decide +kernel
theorem dX1_countStates_22 : decode cX1_countStates 22 = .ok (.iaload, 1) := by decide +kernel
theorem dX1_countStates_23 : decode cX1_countStates 23 = .ok (.iadd, 1) := by decide +kernel
theorem dX1_countStates_24 : decode cX1_countStates 24 = .ok (.dup2, 1) := by decide +kernel
theorem dX1_countStates_25 : decode cX1_countStates 25 = .ok (.iaload, 1) := by decide +kernel
theorem dX1_countStates_26 : decode cX1_countStates 26 = .ok (.iconst 1, 1) := by decide +kernel
theorem dX1_countStates_27 : decode cX1_countStates 27 = .ok (.iadd, 1) := by decide +kernel
theorem dX1_countStates_28 : decode cX1_countStates 28 = .ok (.iastore, 1) := by decide +kernel
theorem dX1_countStates_29 : decode cX1_countStates 29 = .ok (.aload_n 0, 1) := by decide +kernel
theorem dX1_countStates_30 : decode cX1_countStates 30 = .ok (.getfield 40, 3) := by decide +kernel
theorem dX1_countStates_33 : decode cX1_countStates 33 = .ok (.iload_n 1, 1) := by decide +kernel
theorem dX1_countStates_34 : decode cX1_countStates 34 = .ok (.iaload, 1) := by decide +kernel
theorem dX1_countStates_35 : decode cX1_countStates 35 = .ok (.iconst 1, 1) := by decide +kernel
theorem dX1_countStates_36 : decode cX1_countStates 36 = .ok (.if_icmp .ne 25, 3) := by decide +kernel
theorem dX1_countStates_39 : decode cX1_countStates 39 = .ok (.aload_n 0, 1) := by decide +kernel
theorem dX1_countStates_40 : decode cX1_countStates 40 = .ok (.getfield 52, 3) := by decide +kernel
theorem dX1_countStates_43 : decode cX1_countStates 43 = .ok (.iload_n 1, 1) := by decide +kernel
theorem dX1_countStates_44 : decode cX1_countStates 44 = .ok (.bipush 6, 2) := by decide +kernel
theorem dX1_countStates_46 : decode cX1_countStates 46 = .ok (.imul, 1) := by decide +kernel
theorem dX1_countStates_47 : decode cX1_countStates 47 = .ok (.aload_n 0, 1) := by decide +kernel
theorem dX1_countStates_48 : decode cX1_countStates 48 = .ok (.iload_n 1, 1) := by decide +kernel
theorem dX1_countStates_49 : decode cX1_countStates 49 = .ok (.invokevirtual 99, 3) := by decide +kernel
theorem dX1_countStates_52 : decode cX1_countStates 52 = .ok (.iadd, 1) := by decide +kernel
theorem dX1_countStates_53 : decode cX1_countStates 53 = .ok (.dup2, 1) := by decide +kernel
theorem dX1_countStates_54 : decode cX1_countStates 54 = .ok (.iaload, 1) := by decide +kernel
theorem dX1_countStates_55 : decode cX1_countStates 55 = .ok (.iconst 1, 1) := by decide +kernel
theorem dX1_countStates_56 : decode cX1_countStates 56 = .ok (.iadd, 1) := by decide +kernel
theorem dX1_countStates_57 : decode cX1_countStates 57 = .ok (.iastore, 1) := by decide +kernel
theorem dX1_countStates_58 : decode cX1_countStates 58 = .ok (.goto 32, 3) := by decide +kernel
theorem dX1_countStates_61 : decode cX1_countStates 61 = .ok (.aload_n 0, 1) := by decide +kernel
theorem dX1_countStates_62 : decode cX1_countStates 62 = .ok (.getfield 40, 3) := by decide +kernel
theorem dX1_countStates_65 : decode cX1_countStates 65 = .ok (.iload_n 1, 1) := by decide +kernel
theorem dX1_countStates_66 : decode cX1_countStates 66 = .ok (.iaload, 1) := by decide +kernel
theorem dX1_countStates_67 : decode cX1_countStates 67 = .ok (.iconst 2, 1) := by decide +kernel
theorem dX1_countStates_68 : decode cX1_countStates 68 = .ok (.if_icmp .ne 22, 3) := by decide +kernel
theorem dX1_countStates_71 : decode cX1_countStates 71 = .ok (.aload_n 0, 1) := by decide +kernel
theorem dX1_countStates_72 : decode cX1_countStates 72 = .ok (.getfield 52, 3) := by decide +kernel
theorem dX1_countStates_75 : decode cX1_countStates 75 = .ok (.iload_n 1, 1) := by decide +kernel
theorem dX1_countStates_76 : decode cX1_countStates 76 = .ok (.bipush 6, 2) := by decide +kernel
theorem dX1_countStates_78 : decode cX1_countStates 78 = .ok (.imul, 1) := by decide +kernel
theorem dX1_countStates_79 : decode cX1_countStates 79 = .ok (.aload_n 0, 1) := by decide +kernel
theorem dX1_countStates_80 : decode cX1_countStates 80 = .ok (.iload_n 1, 1) := by decide +kernel
theorem dX1_countStates_81 : decode cX1_countStates 81 = .ok (.invokevirtual 102, 3) := by decide +kernel
theorem dX1_countStates_84 : decode cX1_countStates 84 = .ok (.iadd, 1) := by decide +kernel
theorem dX1_countStates_85 : decode cX1_countStates 85 = .ok (.dup2, 1) := by decide +kernel
theorem dX1_countStates_86 : decode cX1_countStates 86 = .ok (.iaload, 1) := by decide +kernel
theorem dX1_countStates_87 : decode cX1_countStates 87 = .ok (.iconst 1, 1) := by decide +kernel
theorem dX1_countStates_88 : decode cX1_countStates 88 = .ok (.iadd, 1) := by decide +kernel
theorem dX1_countStates_89 : decode cX1_countStates 89 = .ok (.iastore, 1) := by decide +kernel
theorem dX1_countStates_90 : decode cX1_countStates 90 = .ok (.iinc 1 1, 3) := by decide +kernel
theorem dX1_countStates_93 : decode cX1_countStates 93 = .ok (.goto (-91), 3) := by decide +kernel
theorem dX1_countStates_96 : decode cX1_countStates 96 = .ok (.return_, 1) := by decide +kernel
theorem dX1_starverOf_0 : decode cX1_starverOf 0 = .ok (.iload_n 1, 1) := by decide +kernel
theorem dX1_starverOf_1 : decode cX1_starverOf 1 = .ok (.iconst 1, 1) := by decide +kernel
theorem dX1_starverOf_2 : decode cX1_starverOf 2 = .ok (.isub, 1) := by decide +kernel
theorem dX1_starverOf_3 : decode cX1_starverOf 3 = .ok (.istore_n 2, 1) := by decide +kernel
theorem dX1_starverOf_4 : decode cX1_starverOf 4 = .ok (.iload_n 2, 1) := by decide +kernel
theorem dX1_starverOf_5 : decode cX1_starverOf 5 = .ok (.ifCond .le 21, 3) := by decide +kernel
theorem dX1_starverOf_8 : decode cX1_starverOf 8 = .ok (.aload_n 0, 1) := by decide +kernel
theorem dX1_starverOf_9 : decode cX1_starverOf 9 = .ok (.getfield 40, 3) := by decide +kernel
theorem dX1_starverOf_12 : decode cX1_starverOf 12 = .ok (.iload_n 2, 1) := by decide +kernel
theorem dX1_starverOf_13 : decode cX1_starverOf 13 = .ok (.iaload, 1) := by decide +kernel
theorem dX1_starverOf_14 : decode cX1_starverOf 14 = .ok (.iconst 1, 1) := by decide +kernel
theorem dX1_starverOf_15 : decode cX1_starverOf 15 = .ok (.if_icmp .eq 5, 3) := by decide +kernel
theorem dX1_starverOf_18 : decode cX1_starverOf 18 = .ok (.iload_n 2, 1) := by decide +kernel
theorem dX1_starverOf_19 : decode cX1_starverOf 19 = .ok (.ireturn, 1) := by decide +kernel
theorem dX1_starverOf_20 : decode cX1_starverOf 20 = .ok (.iinc 2 (-1), 3) := by decide +kernel
theorem dX1_starverOf_23 : decode cX1_starverOf 23 = .ok (.goto (-19), 3) := by decide +kernel
theorem dX1_starverOf_26 : decode cX1_starverOf 26 = .ok (.iconst 0, 1) := by decide +kernel
theorem dX1_starverOf_27 : decode cX1_starverOf 27 = .ok (.ireturn, 1) := by decide +kernel
theorem dX1_blockerOf_0 : decode cX1_blockerOf 0 = .ok (.iload_n 1, 1) := by decide +kernel
theorem dX1_blockerOf_1 : decode cX1_blockerOf 1 = .ok (.iconst 1, 1) := by decide +kernel
theorem dX1_blockerOf_2 : decode cX1_blockerOf 2 = .ok (.iadd, 1) := by decide +kernel
theorem dX1_blockerOf_3 : decode cX1_blockerOf 3 = .ok (.istore_n 2, 1) := by decide +kernel
theorem dX1_blockerOf_4 : decode cX1_blockerOf 4 = .ok (.iload_n 2, 1) := by decide +kernel
theorem dX1_blockerOf_5 : decode cX1_blockerOf 5 = .ok (.aload_n 0, 1) := by decide +kernel
theorem dX1_blockerOf_6 : decode cX1_blockerOf 6 = .ok (.getfield 9, 3) := by decide +kernel
theorem dX1_blockerOf_9 : decode cX1_blockerOf 9 = .ok (.iconst 1, 1) := by decide +kernel
theorem dX1_blockerOf_10 : decode cX1_blockerOf 10 = .ok (.isub, 1) := by decide +kernel
theorem dX1_blockerOf_11 : decode cX1_blockerOf 11 = .ok (.if_icmp .ge 21, 3) := by decide +kernel
theorem dX1_blockerOf_14 : decode cX1_blockerOf 14 = .ok (.aload_n 0, 1) := by decide +kernel
theorem dX1_blockerOf_15 : decode cX1_blockerOf 15 = .ok (.getfield 40, 3) := by decide +kernel
theorem dX1_blockerOf_18 : decode cX1_blockerOf 18 = .ok (.iload_n 2, 1) := by decide +kernel
theorem dX1_blockerOf_19 : decode cX1_blockerOf 19 = .ok (.iaload, 1) := by decide +kernel
theorem dX1_blockerOf_20 : decode cX1_blockerOf 20 = .ok (.iconst 2, 1) := by decide +kernel
theorem dX1_blockerOf_21 : decode cX1_blockerOf 21 = .ok (.if_icmp .eq 5, 3) := by decide +kernel
theorem dX1_blockerOf_24 : decode cX1_blockerOf 24 = .ok (.iload_n 2, 1) := by decide +kernel
theorem dX1_blockerOf_25 : decode cX1_blockerOf 25 = .ok (.ireturn, 1) := by decide +kernel
theorem dX1_blockerOf_26 : decode cX1_blockerOf 26 = .ok (.iinc 2 1, 3) := by decide +kernel
theorem dX1_blockerOf_29 : decode cX1_blockerOf 29 = .ok (.goto (-25), 3) := by decide +kernel
theorem dX1_blockerOf_32 : decode cX1_blockerOf 32 = .ok (.aload_n 0, 1) := by decide +kernel
theorem dX1_blockerOf_33 : decode cX1_blockerOf 33 = .ok (.getfield 9, 3) := by decide +kernel
theorem dX1_blockerOf_36 : decode cX1_blockerOf 36 = .ok (.iconst 1, 1) := by decide +kernel
theorem dX1_blockerOf_37 : decode cX1_blockerOf 37 = .ok (.isub, 1) := by decide +kernel
theorem dX1_blockerOf_38 : decode cX1_blockerOf 38 = .ok (.ireturn, 1) := by decide +kernel
theorem dX2_init_0 : decode cX2_init 0 = .ok (.aload_n 0, 1) := by decide +kernel
theorem dX2_init_1 : decode cX2_init 1 = .ok (.invokespecial 3, 3) := by decide +kernel
theorem dX2_init_4 : decode cX2_init 4 = .ok (.aload_n 0, 1) := by decide +kernel
theorem dX2_init_5 : decode cX2_init 5 = .ok (.sipush 144, 3) := by decide +kernel
theorem dX2_init_8 : decode cX2_init 8 = .ok (.newarray .long, 2) := by decide +kernel
theorem dX2_init_10 : decode cX2_init 10 = .ok (.putfield 11, 3) := by decide +kernel
theorem dX2_init_13 : decode cX2_init 13 = .ok (.aload_n 0, 1) := by decide +kernel
theorem dX2_init_14 : decode cX2_init 14 = .ok (.iconst 0, 1) := by decide +kernel
theorem dX2_init_15 : decode cX2_init 15 = .ok (.putfield 15, 3) := by decide +kernel
theorem dX2_init_18 : decode cX2_init 18 = .ok (.aload_n 0, 1) := by decide +kernel
theorem dX2_init_19 : decode cX2_init 19 = .ok (.iconst 0, 1) := by decide +kernel
theorem dX2_init_20 : decode cX2_init 20 = .ok (.putfield 19, 3) := by decide +kernel
theorem dX2_init_23 : decode cX2_init 23 = .ok (.aload_n 0, 1) := by decide +kernel
theorem dX2_init_24 : decode cX2_init 24 = .ok (.iconst 0, 1) := by decide +kernel
theorem dX2_init_25 : decode cX2_init 25 = .ok (.putfield 22, 3) := by decide +kernel
theorem dX2_init_28 : decode cX2_init 28 = .ok (.aload_n 0, 1) := by decide +kernel
theorem dX2_init_29 : decode cX2_init 29 = .ok (.iconst 0, 1) := by decide +kernel
theorem dX2_init_30 : decode cX2_init 30 = .ok (.putfield 25, 3) := by decide +kernel
theorem dX2_init_33 : decode cX2_init 33 = .ok (.return_, 1) := by decide +kernel
theorem dX2_finds_0 : decode cX2_finds 0 = .ok (.iload_n 3, 1) := by decide +kernel
theorem dX2_finds_1 : decode cX2_finds 1 = .ok (.ifCond .ne 15, 3) := by decide +kernel
theorem dX2_finds_4 : decode cX2_finds 4 = .ok (.aload_n 0, 1) := by decide +kernel
theorem dX2_finds_5 : decode cX2_finds 5 = .ok (.iconst 0, 1) := by decide +kernel
theorem dX2_finds_6 : decode cX2_finds 6 = .ok (.putfield 15, 3) := by decide +kernel
theorem dX2_finds_9 : decode cX2_finds 9 = .ok (.aload_n 0, 1) := by decide +kernel
theorem dX2_finds_10 : decode cX2_finds 10 = .ok (.iconst 1, 1) := by decide +kernel
theorem dX2_finds_11 : decode cX2_finds 11 = .ok (.putfield 19, 3) := by decide +kernel
theorem dX2_finds_14 : decode cX2_finds 14 = .ok (.iconst 1, 1) := by decide +kernel
theorem dX2_finds_15 : decode cX2_finds 15 = .ok (.ireturn, 1) := by decide +kernel
theorem dX2_finds_16 : decode cX2_finds 16 = .ok (.iconst 0, 1) := by decide +kernel
theorem dX2_finds_17 : decode cX2_finds 17 = .ok (.istore 5, 2) := by decide +kernel
theorem dX2_finds_19 : decode cX2_finds 19 = .ok (.iload 5, 2) := by decide +kernel
theorem dX2_finds_21 : decode cX2_finds 21 = .ok (.sipush 144, 3) := by decide +kernel
theorem dX2_finds_24 : decode cX2_finds 24 = .ok (.if_icmp .ge 37, 3) := by decide +kernel
theorem dX2_finds_27 : decode cX2_finds 27 = .ok (.aload_n 0, 1) := by decide +kernel
theorem dX2_finds_28 : decode cX2_finds 28 = .ok (.getfield 11, 3) := by decide +kernel
theorem dX2_finds_31 : decode cX2_finds 31 = .ok (.iload 5, 2) := by decide +kernel
theorem dX2_finds_33 : decode cX2_finds 33 = .ok (.iload 5, 2) := by decide +kernel
theorem dX2_finds_35 : decode cX2_finds 35 = .ok (.bipush 24, 2) := by decide +kernel
theorem dX2_finds_37 : decode cX2_finds 37 = .ok (.irem, 1) := by decide +kernel
theorem dX2_finds_38 : decode cX2_finds 38 = .ok (.aload_n 1, 1) := by decide +kernel
theorem dX2_finds_39 : decode cX2_finds 39 = .ok (.iload 5, 2) := by decide +kernel
theorem dX2_finds_41 : decode cX2_finds 41 = .ok (.bipush 24, 2) := by decide +kernel
theorem dX2_finds_43 : decode cX2_finds 43 = .ok (.idiv, 1) := by decide +kernel
theorem dX2_finds_44 : decode cX2_finds 44 = .ok (.invokestatic 28, 3) := by decide +kernel
theorem dX2_finds_47 : decode cX2_finds 47 = .ok (.aload_n 2, 1) := by decide +kernel
theorem dX2_finds_48 : decode cX2_finds 48 = .ok (.iload_n 3, 1) := by decide +kernel
theorem dX2_finds_49 : decode cX2_finds 49 = .ok (.iload 4, 2) := by decide +kernel
theorem dX2_finds_51 : decode cX2_finds 51 = .ok (.invokestatic 32, 3) := by decide +kernel
theorem dX2_finds_54 : decode cX2_finds 54 = .ok (.lastore, 1) := by decide +kernel
theorem dX2_finds_55 : decode cX2_finds 55 = .ok (.iinc 5 1, 3) := by decide +kernel
theorem dX2_finds_58 : decode cX2_finds 58 = .ok (.goto (-39), 3) := by decide +kernel
theorem dX2_finds_61 : decode cX2_finds 61 = .ok (.lconst 1, 1) := by decide +kernel
theorem dX2_finds_62 : decode cX2_finds 62 = .ok (.iload_n 3, 1) := by decide +kernel
theorem dX2_finds_63 : decode cX2_finds 63 = .ok (.lshl, 1) := by decide +kernel
theorem dX2_finds_64 : decode cX2_finds 64 = .ok (.lconst 1, 1) := by decide +kernel
theorem dX2_finds_65 : decode cX2_finds 65 = .ok (.lsub, 1) := by decide +kernel
theorem dX2_finds_66 : decode cX2_finds 66 = .ok (.lstore 5, 2) := by decide +kernel
theorem dX2_finds_68 : decode cX2_finds 68 = .ok (.aload_n 0, 1) := by decide +kernel
theorem dX2_finds_69 : decode cX2_finds 69 = .ok (.lload 5, 2) := by decide +kernel
theorem dX2_finds_71 : decode cX2_finds 71 = .ok (.invokevirtual 36, 3) := by decide +kernel
theorem dX2_finds_74 : decode cX2_finds 74 = .ok (.ifCond .ne 12, 3) := by decide +kernel
theorem dX2_finds_77 : decode cX2_finds 77 = .ok (.aload_n 0, 1) := by decide +kernel
theorem dX2_finds_78 : decode cX2_finds 78 = .ok (.lload 5, 2) := by decide +kernel
theorem dX2_finds_80 : decode cX2_finds 80 = .ok (.invokevirtual 40, 3) := by decide +kernel
theorem dX2_finds_83 : decode cX2_finds 83 = .ok (.ifCond .eq 7, 3) := by decide +kernel
theorem dX2_finds_86 : decode cX2_finds 86 = .ok (.iconst 1, 1) := by decide +kernel
theorem dX2_finds_87 : decode cX2_finds 87 = .ok (.goto 4, 3) := by decide +kernel
theorem dX2_finds_90 : decode cX2_finds 90 = .ok (.iconst 0, 1) := by decide +kernel
theorem dX2_finds_91 : decode cX2_finds 91 = .ok (.ireturn, 1) := by decide +kernel
theorem dX2_headsAt_0 : decode cX2_headsAt 0 = .ok (.iload_n 1, 1) := by decide +kernel
theorem dX2_headsAt_1 : decode cX2_headsAt 1 = .ok (.aload_n 0, 1) := by decide +kernel
theorem dX2_headsAt_2 : decode cX2_headsAt 2 = .ok (.getfield 43, 3) := by decide +kernel
theorem dX2_headsAt_5 : decode cX2_headsAt 5 = .ok (.getfield 49, 3) := by decide +kernel
theorem dX2_headsAt_8 : decode cX2_headsAt 8 = .ok (.if_icmp .ge 12, 3) := by decide +kernel
theorem dX2_headsAt_11 : decode cX2_headsAt 11 = .ok (.aload_n 0, 1) := by decide +kernel
theorem dX2_headsAt_12 : decode cX2_headsAt 12 = .ok (.getfield 54, 3) := by decide +kernel
theorem dX2_headsAt_15 : decode cX2_headsAt 15 = .ok (.iload_n 1, 1) := by decide +kernel
theorem dX2_headsAt_16 : decode cX2_headsAt 16 = .ok (.iaload, 1) := by decide +kernel
theorem dX2_headsAt_17 : decode cX2_headsAt 17 = .ok (.goto 4, 3) := by decide +kernel
theorem dX2_headsAt_20 : decode cX2_headsAt 20 = .ok (.iconst 0, 1) := by decide +kernel
theorem dX2_headsAt_21 : decode cX2_headsAt 21 = .ok (.ireturn, 1) := by decide +kernel
theorem dX2_coveredBy_0 : decode cX2_coveredBy 0 = .ok (.iload_n 1, 1) := by decide +kernel
theorem dX2_coveredBy_1 : decode cX2_coveredBy 1 = .ok (.iconst 1, 1) := by decide +kernel
theorem dX2_coveredBy_2 : decode cX2_coveredBy 2 = .ok (.if_icmp .le 8, 3) := by decide +kernel
theorem dX2_coveredBy_5 : decode cX2_coveredBy 5 = .ok (.iload_n 0, 1) := by decide +kernel
theorem dX2_coveredBy_6 : decode cX2_coveredBy 6 = .ok (.iload_n 1, 1) := by decide +kernel
theorem dX2_coveredBy_7 : decode cX2_coveredBy 7 = .ok (.if_icmp .lt 7, 3) := by decide +kernel
theorem dX2_coveredBy_10 : decode cX2_coveredBy 10 = .ok (.ldc2_w 58, 3) := by decide +kernel
theorem dX2_coveredBy_13 : decode cX2_coveredBy 13 = .ok (.lreturn, 1) := by decide +kernel
theorem dX2_coveredBy_14 : decode cX2_coveredBy 14 = .ok (.lconst 0, 1) := by decide +kernel
theorem dX2_coveredBy_15 : decode cX2_coveredBy 15 = .ok (.lstore 5, 2) := by decide +kernel
theorem dX2_coveredBy_17 : decode cX2_coveredBy 17 = .ok (.iconst 0, 1) := by decide +kernel
theorem dX2_coveredBy_18 : decode cX2_coveredBy 18 = .ok (.istore 7, 2) := by decide +kernel
theorem dX2_coveredBy_20 : decode cX2_coveredBy 20 = .ok (.iload 7, 2) := by decide +kernel
theorem dX2_coveredBy_22 : decode cX2_coveredBy 22 = .ok (.iload_n 3, 1) := by decide +kernel
theorem dX2_coveredBy_23 : decode cX2_coveredBy 23 = .ok (.if_icmp .ge 31, 3) := by decide +kernel
theorem dX2_coveredBy_26 : decode cX2_coveredBy 26 = .ok (.aload_n 2, 1) := by decide +kernel
theorem dX2_coveredBy_27 : decode cX2_coveredBy 27 = .ok (.iload 7, 2) := by decide +kernel
theorem dX2_coveredBy_29 : decode cX2_coveredBy 29 = .ok (.laload, 1) := by decide +kernel
theorem dX2_coveredBy_30 : decode cX2_coveredBy 30 = .ok (.iload_n 1, 1) := by decide +kernel
theorem dX2_coveredBy_31 : decode cX2_coveredBy 31 = .ok (.i2l, 1) := by decide +kernel
theorem dX2_coveredBy_32 : decode cX2_coveredBy 32 = .ok (.lrem, 1) := by decide +kernel
theorem dX2_coveredBy_33 : decode cX2_coveredBy 33 = .ok (.iload_n 0, 1) := by decide +kernel
theorem dX2_coveredBy_34 : decode cX2_coveredBy 34 = .ok (.i2l, 1) := by decide +kernel
theorem dX2_coveredBy_35 : decode cX2_coveredBy 35 = .ok (.lcmp, 1) := by decide +kernel
theorem dX2_coveredBy_36 : decode cX2_coveredBy 36 = .ok (.ifCond .ne 12, 3) := by decide +kernel
theorem dX2_coveredBy_39 : decode cX2_coveredBy 39 = .ok (.lload 5, 2) := by decide +kernel
theorem dX2_coveredBy_41 : decode cX2_coveredBy 41 = .ok (.lconst 1, 1) := by decide +kernel
theorem dX2_coveredBy_42 : decode cX2_coveredBy 42 = .ok (.iload 7, 2) := by decide +kernel
theorem dX2_coveredBy_44 : decode cX2_coveredBy 44 = .ok (.lshl, 1) := by decide +kernel
theorem dX2_coveredBy_45 : decode cX2_coveredBy 45 = .ok (.lor, 1) := by decide +kernel
theorem dX2_coveredBy_46 : decode cX2_coveredBy 46 = .ok (.lstore 5, 2) := by decide +kernel
theorem dX2_coveredBy_48 : decode cX2_coveredBy 48 = .ok (.iinc 7 1, 3) := by decide +kernel
theorem dX2_coveredBy_51 : decode cX2_coveredBy 51 = .ok (.goto (-31), 3) := by decide +kernel
theorem dX2_coveredBy_54 : decode cX2_coveredBy 54 = .ok (.iload 4, 2) := by decide +kernel
theorem dX2_coveredBy_56 : decode cX2_coveredBy 56 = .ok (.iconst 1, 1) := by decide +kernel
theorem dX2_coveredBy_57 : decode cX2_coveredBy 57 = .ok (.isub, 1) := by decide +kernel
theorem dX2_coveredBy_58 : decode cX2_coveredBy 58 = .ok (.iload_n 0, 1) := by decide +kernel
theorem dX2_coveredBy_59 : decode cX2_coveredBy 59 = .ok (.isub, 1) := by decide +kernel
theorem dX2_coveredBy_60 : decode cX2_coveredBy 60 = .ok (.iload_n 1, 1) := by decide +kernel
theorem dX2_coveredBy_61 : decode cX2_coveredBy 61 = .ok (.iadd, 1) := by decide +kernel
theorem dX2_coveredBy_62 : decode cX2_coveredBy 62 = .ok (.iload_n 1, 1) := by decide +kernel
theorem dX2_coveredBy_63 : decode cX2_coveredBy 63 = .ok (.idiv, 1) := by decide +kernel
theorem dX2_coveredBy_64 : decode cX2_coveredBy 64 = .ok (.istore 7, 2) := by decide +kernel
theorem dX2_coveredBy_66 : decode cX2_coveredBy 66 = .ok (.lload 5, 2) := by decide +kernel
theorem dX2_coveredBy_68 : decode cX2_coveredBy 68 = .ok (.invokestatic 60, 3) := by decide +kernel
theorem dX2_coveredBy_71 : decode cX2_coveredBy 71 = .ok (.iload 7, 2) := by decide +kernel
theorem dX2_coveredBy_73 : decode cX2_coveredBy 73 = .ok (.if_icmp .ne 8, 3) := by decide +kernel
theorem dX2_coveredBy_76 : decode cX2_coveredBy 76 = .ok (.lload 5, 2) := by decide +kernel
theorem dX2_coveredBy_78 : decode cX2_coveredBy 78 = .ok (.goto 6, 3) := by decide +kernel
theorem dX2_coveredBy_81 : decode cX2_coveredBy 81 = .ok (.ldc2_w 58, 3) := by decide +kernel
theorem dX2_coveredBy_84 : decode cX2_coveredBy 84 = .ok (.lreturn, 1) := by decide +kernel
theorem dX2_findsOne_0 : decode cX2_findsOne 0 = .ok (.iconst 0, 1) := by decide +kernel
theorem dX2_findsOne_1 : decode cX2_findsOne 1 = .ok (.istore_n 3, 1) := by decide +kernel
theorem dX2_findsOne_2 : decode cX2_findsOne 2 = .ok (.iconst 0, 1) := by decide +kernel
theorem dX2_findsOne_3 : decode cX2_findsOne 3 = .ok (.istore 4, 2) := by decide +kernel
theorem dX2_findsOne_5 : decode cX2_findsOne 5 = .ok (.iload 4, 2) := by decide +kernel
theorem dX2_findsOne_7 : decode cX2_findsOne 7 = .ok (.sipush 144, 3) := by decide +kernel
theorem dX2_findsOne_10 : decode cX2_findsOne 10 = .ok (.if_icmp .ge 41, 3) := by decide +kernel
theorem dX2_findsOne_13 : decode cX2_findsOne 13 = .ok (.aload_n 0, 1) := by decide +kernel
theorem dX2_findsOne_14 : decode cX2_findsOne 14 = .ok (.getfield 11, 3) := by decide +kernel
theorem dX2_findsOne_17 : decode cX2_findsOne 17 = .ok (.iload 4, 2) := by decide +kernel
theorem dX2_findsOne_19 : decode cX2_findsOne 19 = .ok (.laload, 1) := by decide +kernel
theorem dX2_findsOne_20 : decode cX2_findsOne 20 = .ok (.lload_n 1, 1) := by decide +kernel
theorem dX2_findsOne_21 : decode cX2_findsOne 21 = .ok (.lcmp, 1) := by decide +kernel
theorem dX2_findsOne_22 : decode cX2_findsOne 22 = .ok (.ifCond .ne 23, 3) := by decide +kernel
theorem dX2_findsOne_25 : decode cX2_findsOne 25 = .ok (.aload_n 0, 1) := by decide +kernel
theorem dX2_findsOne_26 : decode cX2_findsOne 26 = .ok (.iload_n 3, 1) := by decide +kernel
theorem dX2_findsOne_27 : decode cX2_findsOne 27 = .ok (.ifCond .ne 8, 3) := by decide +kernel
theorem dX2_findsOne_30 : decode cX2_findsOne 30 = .ok (.iload 4, 2) := by decide +kernel
theorem dX2_findsOne_32 : decode cX2_findsOne 32 = .ok (.goto 7, 3) := by decide +kernel
theorem dX2_findsOne_35 : decode cX2_findsOne 35 = .ok (.aload_n 0, 1) := by decide +kernel
theorem dX2_findsOne_36 : decode cX2_findsOne 36 = .ok (.getfield 22, 3) := by decide +kernel
theorem dX2_findsOne_39 : decode cX2_findsOne 39 = .ok (.putfield 22, 3) := by decide +kernel
theorem dX2_findsOne_42 : decode cX2_findsOne 42 = .ok (.iinc 3 1, 3) := by decide +kernel
theorem dX2_findsOne_45 : decode cX2_findsOne 45 = .ok (.iinc 4 1, 3) := by decide +kernel
theorem dX2_findsOne_48 : decode cX2_findsOne 48 = .ok (.goto (-43), 3) := by decide +kernel
theorem dX2_findsOne_51 : decode cX2_findsOne 51 = .ok (.aload_n 0, 1) := by decide +kernel
theorem dX2_findsOne_52 : decode cX2_findsOne 52 = .ok (.iconst 1, 1) := by decide +kernel
theorem dX2_findsOne_53 : decode cX2_findsOne 53 = .ok (.iload_n 3, 1) := by decide +kernel
theorem dX2_findsOne_54 : decode cX2_findsOne 54 = .ok (.invokevirtual 66, 3) := by decide +kernel
theorem dX2_findsOne_57 : decode cX2_findsOne 57 = .ok (.ireturn, 1) := by decide +kernel
theorem dX2_findsTwo_0 : decode cX2_findsTwo 0 = .ok (.iconst 0, 1) := by decide +kernel
theorem dX2_findsTwo_1 : decode cX2_findsTwo 1 = .ok (.istore_n 3, 1) := by decide +kernel
theorem dX2_findsTwo_2 : decode cX2_findsTwo 2 = .ok (.iconst 0, 1) := by decide +kernel
theorem dX2_findsTwo_3 : decode cX2_findsTwo 3 = .ok (.istore 4, 2) := by decide +kernel
theorem dX2_findsTwo_5 : decode cX2_findsTwo 5 = .ok (.iload 4, 2) := by decide +kernel
theorem dX2_findsTwo_7 : decode cX2_findsTwo 7 = .ok (.sipush 144, 3) := by decide +kernel
theorem dX2_findsTwo_10 : decode cX2_findsTwo 10 = .ok (.if_icmp .ge 114, 3) := by decide +kernel
theorem dX2_findsTwo_13 : decode cX2_findsTwo 13 = .ok (.iload 4, 2) := by decide +kernel
theorem dX2_findsTwo_15 : decode cX2_findsTwo 15 = .ok (.iconst 1, 1) := by decide +kernel
theorem dX2_findsTwo_16 : decode cX2_findsTwo 16 = .ok (.iadd, 1) := by decide +kernel
theorem dX2_findsTwo_17 : decode cX2_findsTwo 17 = .ok (.istore 5, 2) := by decide +kernel
theorem dX2_findsTwo_19 : decode cX2_findsTwo 19 = .ok (.aload_n 0, 1) := by decide +kernel
theorem dX2_findsTwo_20 : decode cX2_findsTwo 20 = .ok (.getfield 11, 3) := by decide +kernel
theorem dX2_findsTwo_23 : decode cX2_findsTwo 23 = .ok (.iload 4, 2) := by decide +kernel
theorem dX2_findsTwo_25 : decode cX2_findsTwo 25 = .ok (.laload, 1) := by decide +kernel
theorem dX2_findsTwo_26 : decode cX2_findsTwo 26 = .ok (.ldc2_w 58, 3) := by decide +kernel
theorem dX2_findsTwo_29 : decode cX2_findsTwo 29 = .ok (.lcmp, 1) := by decide +kernel
theorem dX2_findsTwo_30 : decode cX2_findsTwo 30 = .ok (.ifCond .eq 88, 3) := by decide +kernel
theorem dX2_findsTwo_33 : decode cX2_findsTwo 33 = .ok (.iload 5, 2) := by decide +kernel
theorem dX2_findsTwo_35 : decode cX2_findsTwo 35 = .ok (.sipush 144, 3) := by decide +kernel
theorem dX2_findsTwo_38 : decode cX2_findsTwo 38 = .ok (.if_icmp .ge 80, 3) := by decide +kernel
theorem dX2_findsTwo_41 : decode cX2_findsTwo 41 = .ok (.aload_n 0, 1) := by decide +kernel
theorem dX2_findsTwo_42 : decode cX2_findsTwo 42 = .ok (.getfield 11, 3) := by decide +kernel
theorem dX2_findsTwo_45 : decode cX2_findsTwo 45 = .ok (.iload 5, 2) := by decide +kernel
theorem dX2_findsTwo_47 : decode cX2_findsTwo 47 = .ok (.laload, 1) := by decide +kernel
theorem dX2_findsTwo_48 : decode cX2_findsTwo 48 = .ok (.ldc2_w 58, 3) := by decide +kernel
theorem dX2_findsTwo_51 : decode cX2_findsTwo 51 = .ok (.lcmp, 1) := by decide +kernel
theorem dX2_findsTwo_52 : decode cX2_findsTwo 52 = .ok (.ifCond .eq 60, 3) := by decide +kernel
theorem dX2_findsTwo_55 : decode cX2_findsTwo 55 = .ok (.aload_n 0, 1) := by decide +kernel
theorem dX2_findsTwo_56 : decode cX2_findsTwo 56 = .ok (.getfield 11, 3) := by decide +kernel
theorem dX2_findsTwo_59 : decode cX2_findsTwo 59 = .ok (.iload 4, 2) := by decide +kernel
theorem dX2_findsTwo_61 : decode cX2_findsTwo 61 = .ok (.laload, 1) := by decide +kernel
theorem dX2_findsTwo_62 : decode cX2_findsTwo 62 = .ok (.aload_n 0, 1) := by decide +kernel
theorem dX2_findsTwo_63 : decode cX2_findsTwo 63 = .ok (.getfield 11, 3) := by decide +kernel
theorem dX2_findsTwo_66 : decode cX2_findsTwo 66 = .ok (.iload 5, 2) := by decide +kernel
theorem dX2_findsTwo_68 : decode cX2_findsTwo 68 = .ok (.laload, 1) := by decide +kernel
theorem dX2_findsTwo_69 : decode cX2_findsTwo 69 = .ok (.lor, 1) := by decide +kernel
theorem dX2_findsTwo_70 : decode cX2_findsTwo 70 = .ok (.lload_n 1, 1) := by decide +kernel
theorem dX2_findsTwo_71 : decode cX2_findsTwo 71 = .ok (.lcmp, 1) := by decide +kernel
theorem dX2_findsTwo_72 : decode cX2_findsTwo 72 = .ok (.ifCond .ne 40, 3) := by decide +kernel
theorem dX2_findsTwo_75 : decode cX2_findsTwo 75 = .ok (.aload_n 0, 1) := by decide +kernel
theorem dX2_findsTwo_76 : decode cX2_findsTwo 76 = .ok (.iload_n 3, 1) := by decide +kernel
theorem dX2_findsTwo_77 : decode cX2_findsTwo 77 = .ok (.ifCond .ne 8, 3) := by decide +kernel
theorem dX2_findsTwo_80 : decode cX2_findsTwo 80 = .ok (.iload 4, 2) := by decide +kernel
theorem dX2_findsTwo_82 : decode cX2_findsTwo 82 = .ok (.goto 7, 3) := by decide +kernel
theorem dX2_findsTwo_85 : decode cX2_findsTwo 85 = .ok (.aload_n 0, 1) := by decide +kernel
theorem dX2_findsTwo_86 : decode cX2_findsTwo 86 = .ok (.getfield 22, 3) := by decide +kernel
theorem dX2_findsTwo_89 : decode cX2_findsTwo 89 = .ok (.putfield 22, 3) := by decide +kernel
theorem dX2_findsTwo_92 : decode cX2_findsTwo 92 = .ok (.aload_n 0, 1) := by decide +kernel
theorem dX2_findsTwo_93 : decode cX2_findsTwo 93 = .ok (.iload_n 3, 1) := by decide +kernel
theorem dX2_findsTwo_94 : decode cX2_findsTwo 94 = .ok (.ifCond .ne 8, 3) := by decide +kernel
theorem dX2_findsTwo_97 : decode cX2_findsTwo 97 = .ok (.iload 5, 2) := by decide +kernel
theorem dX2_findsTwo_99 : decode cX2_findsTwo 99 = .ok (.goto 7, 3) := by decide +kernel
theorem dX2_findsTwo_102 : decode cX2_findsTwo 102 = .ok (.aload_n 0, 1) := by decide +kernel
theorem dX2_findsTwo_103 : decode cX2_findsTwo 103 = .ok (.getfield 25, 3) := by decide +kernel
theorem dX2_findsTwo_106 : decode cX2_findsTwo 106 = .ok (.putfield 25, 3) := by decide +kernel
theorem dX2_findsTwo_109 : decode cX2_findsTwo 109 = .ok (.iinc 3 1, 3) := by decide +kernel
theorem dX2_findsTwo_112 : decode cX2_findsTwo 112 = .ok (.iinc 5 1, 3) := by decide +kernel
theorem dX2_findsTwo_115 : decode cX2_findsTwo 115 = .ok (.goto (-96), 3) := by decide +kernel
theorem dX2_findsTwo_118 : decode cX2_findsTwo 118 = .ok (.iinc 4 1, 3) := by decide +kernel
theorem dX2_findsTwo_121 : decode cX2_findsTwo 121 = .ok (.goto (-116), 3) := by decide +kernel
theorem dX2_findsTwo_124 : decode cX2_findsTwo 124 = .ok (.aload_n 0, 1) := by decide +kernel
theorem dX2_findsTwo_125 : decode cX2_findsTwo 125 = .ok (.iconst 2, 1) := by decide +kernel
theorem dX2_findsTwo_126 : decode cX2_findsTwo 126 = .ok (.iload_n 3, 1) := by decide +kernel
theorem dX2_findsTwo_127 : decode cX2_findsTwo 127 = .ok (.invokevirtual 66, 3) := by decide +kernel
theorem dX2_findsTwo_130 : decode cX2_findsTwo 130 = .ok (.ireturn, 1) := by decide +kernel
theorem dX2_keeps_0 : decode cX2_keeps 0 = .ok (.iload_n 2, 1) := by decide +kernel
theorem dX2_keeps_1 : decode cX2_keeps 1 = .ok (.ifCond .ne 5, 3) := by decide +kernel
theorem dX2_keeps_4 : decode cX2_keeps 4 = .ok (.iconst 0, 1) := by decide +kernel
theorem dX2_keeps_5 : decode cX2_keeps 5 = .ok (.ireturn, 1) := by decide +kernel
theorem dX2_keeps_6 : decode cX2_keeps 6 = .ok (.aload_n 0, 1) := by decide +kernel
theorem dX2_keeps_7 : decode cX2_keeps 7 = .ok (.iload_n 1, 1) := by decide +kernel
theorem dX2_keeps_8 : decode cX2_keeps 8 = .ok (.putfield 15, 3) := by decide +kernel
theorem dX2_keeps_11 : decode cX2_keeps 11 = .ok (.aload_n 0, 1) := by decide +kernel
theorem dX2_keeps_12 : decode cX2_keeps 12 = .ok (.iload_n 2, 1) := by decide +kernel
theorem dX2_keeps_13 : decode cX2_keeps 13 = .ok (.putfield 19, 3) := by decide +kernel
theorem dX2_keeps_16 : decode cX2_keeps 16 = .ok (.iconst 1, 1) := by decide +kernel
theorem dX2_keeps_17 : decode cX2_keeps 17 = .ok (.ireturn, 1) := by decide +kernel
theorem dX3_init_0 : decode cX3_init 0 = .ok (.aload_n 0, 1) := by decide +kernel
theorem dX3_init_1 : decode cX3_init 1 = .ok (.invokespecial 3, 3) := by decide +kernel
theorem dX3_init_4 : decode cX3_init 4 = .ok (.aload_n 0, 1) := by decide +kernel
theorem dX3_init_5 : decode cX3_init 5 = .ok (.new 9, 3) := by decide +kernel
theorem dX3_init_8 : decode cX3_init 8 = .ok (.dup, 1) := by decide +kernel
theorem dX3_init_9 : decode cX3_init 9 = .ok (.invokespecial 11, 3) := by decide +kernel
theorem dX3_init_12 : decode cX3_init 12 = .ok (.putfield 12, 3) := by decide +kernel
theorem dX3_init_15 : decode cX3_init 15 = .ok (.aload_n 0, 1) := by decide +kernel
theorem dX3_init_16 : decode cX3_init 16 = .ok (.bipush 7, 2) := by decide +kernel
theorem dX3_init_18 : decode cX3_init 18 = .ok (.newarray .long, 2) := by decide +kernel
theorem dX3_init_20 : decode cX3_init 20 = .ok (.putfield 18, 3) := by decide +kernel
theorem dX3_init_23 : decode cX3_init 23 = .ok (.aload_n 0, 1) := by decide +kernel
theorem dX3_init_24 : decode cX3_init 24 = .ok (.iconst 0, 1) := by decide +kernel
theorem dX3_init_25 : decode cX3_init 25 = .ok (.putfield 22, 3) := by decide +kernel
theorem dX3_init_28 : decode cX3_init 28 = .ok (.aload_n 0, 1) := by decide +kernel
theorem dX3_init_29 : decode cX3_init 29 = .ok (.iconst 0, 1) := by decide +kernel
theorem dX3_init_30 : decode cX3_init 30 = .ok (.putfield 26, 3) := by decide +kernel
theorem dX3_init_33 : decode cX3_init 33 = .ok (.aload_n 0, 1) := by decide +kernel
theorem dX3_init_34 : decode cX3_init 34 = .ok (.iconst 0, 1) := by decide +kernel
theorem dX3_init_35 : decode cX3_init 35 = .ok (.putfield 29, 3) := by decide +kernel
theorem dX3_init_38 : decode cX3_init 38 = .ok (.aload_n 0, 1) := by decide +kernel
theorem dX3_init_39 : decode cX3_init 39 = .ok (.aload_n 1, 1) := by decide +kernel
theorem dX3_init_40 : decode cX3_init 40 = .ok (.putfield 32, 3) := by decide +kernel
theorem dX3_init_43 : decode cX3_init 43 = .ok (.return_, 1) := by decide +kernel
theorem dX3_takesAll_0 : decode cX3_takesAll 0 = .ok (.aload_n 0, 1) := by decide +kernel
theorem dX3_takesAll_1 : decode cX3_takesAll 1 = .ok (.getfield 12, 3) := by decide +kernel
theorem dX3_takesAll_4 : decode cX3_takesAll 4 = .ok (.invokevirtual 36, 3) := by decide +kernel
theorem dX3_takesAll_7 : decode cX3_takesAll 7 = .ok (.aload_n 0, 1) := by decide +kernel
theorem dX3_takesAll_8 : decode cX3_takesAll 8 = .ok (.getfield 32, 3) := by decide +kernel
theorem dX3_takesAll_11 : decode cX3_takesAll 11 = .ok (.iload_n 1, 1) := by decide +kernel
theorem dX3_takesAll_12 : decode cX3_takesAll 12 = .ok (.invokevirtual 39, 3) := by decide +kernel
theorem dX3_takesAll_15 : decode cX3_takesAll 15 = .ok (.iconst 0, 1) := by decide +kernel
theorem dX3_takesAll_16 : decode cX3_takesAll 16 = .ok (.istore_n 2, 1) := by decide +kernel
theorem dX3_takesAll_17 : decode cX3_takesAll 17 = .ok (.iload_n 2, 1) := by decide +kernel
theorem dX3_takesAll_18 : decode cX3_takesAll 18 = .ok (.sipush 700, 3) := by decide +kernel
theorem dX3_takesAll_21 : decode cX3_takesAll 21 = .ok (.if_icmp .gt 30, 3) := by decide +kernel
theorem dX3_takesAll_24 : decode cX3_takesAll 24 = .ok (.aload_n 0, 1) := by decide +kernel
theorem dX3_takesAll_25 : decode cX3_takesAll 25 = .ok (.getfield 32, 3) := by decide +kernel
theorem dX3_takesAll_28 : decode cX3_takesAll 28 = .ok (.getfield 45, 3) := by decide +kernel
theorem dX3_takesAll_31 : decode cX3_takesAll 31 = .ok (.ifCond .ne 5, 3) := by decide +kernel
theorem dX3_takesAll_34 : decode cX3_takesAll 34 = .ok (.iconst 1, 1) := by decide +kernel
theorem dX3_takesAll_35 : decode cX3_takesAll 35 = .ok (.ireturn, 1) := by decide +kernel
theorem dX3_takesAll_36 : decode cX3_takesAll 36 = .ok (.aload_n 0, 1) := by decide +kernel
theorem dX3_takesAll_37 : decode cX3_takesAll 37 = .ok (.invokevirtual 49, 3) := by decide +kernel
theorem dX3_takesAll_40 : decode cX3_takesAll 40 = .ok (.ifCond .ne 5, 3) := by decide +kernel
theorem dX3_takesAll_43 : decode cX3_takesAll 43 = .ok (.iconst 0, 1) := by decide +kernel
theorem dX3_takesAll_44 : decode cX3_takesAll 44 = .ok (.ireturn, 1) := by decide +kernel
theorem dX3_takesAll_45 : decode cX3_takesAll 45 = .ok (.iinc 2 1, 3) := by decide +kernel
theorem dX3_takesAll_48 : decode cX3_takesAll 48 = .ok (.goto (-31), 3) := by decide +kernel
theorem dX3_takesAll_51 : decode cX3_takesAll 51 = .ok (.iconst 0, 1) := by decide +kernel
theorem dX3_takesAll_52 : decode cX3_takesAll 52 = .ok (.ireturn, 1) := by decide +kernel
theorem dX3_takePart_0 : decode cX3_takePart 0 = .ok (.aload_n 0, 1) := by decide +kernel
theorem dX3_takePart_1 : decode cX3_takePart 1 = .ok (.getfield 32, 3) := by decide +kernel
theorem dX3_takePart_4 : decode cX3_takePart 4 = .ok (.ldc 53, 2) := by decide +kernel
theorem dX3_takePart_6 : decode cX3_takePart 6 = .ok (.invokevirtual 55, 3) := by decide +kernel
theorem dX3_takePart_9 : decode cX3_takePart 9 = .ok (.ifCond .eq 8, 3) := by decide +kernel
theorem dX3_takePart_12 : decode cX3_takePart 12 = .ok (.aload_n 0, 1) := by decide +kernel
theorem dX3_takePart_13 : decode cX3_takePart 13 = .ok (.invokevirtual 59, 3) := by decide +kernel
theorem dX3_takePart_16 : decode cX3_takePart 16 = .ok (.ireturn, 1) := by decide +kernel
theorem dX3_takePart_17 : decode cX3_takePart 17 = .ok (.aload_n 0, 1) := by decide +kernel
theorem dX3_takePart_18 : decode cX3_takePart 18 = .ok (.getfield 32, 3) := by decide +kernel
theorem dX3_takePart_21 : decode cX3_takePart 21 = .ok (.ldc 62, 2) := by decide +kernel
theorem dX3_takePart_23 : decode cX3_takePart 23 = .ok (.invokevirtual 55, 3) := by decide +kernel
theorem dX3_takePart_26 : decode cX3_takePart 26 = .ok (.ifCond .eq 8, 3) := by decide +kernel
theorem dX3_takePart_29 : decode cX3_takePart 29 = .ok (.aload_n 0, 1) := by decide +kernel
theorem dX3_takePart_30 : decode cX3_takePart 30 = .ok (.invokevirtual 64, 3) := by decide +kernel
theorem dX3_takePart_33 : decode cX3_takePart 33 = .ok (.ireturn, 1) := by decide +kernel
theorem dX3_takePart_34 : decode cX3_takePart 34 = .ok (.aload_n 0, 1) := by decide +kernel
theorem dX3_takePart_35 : decode cX3_takePart 35 = .ok (.getfield 32, 3) := by decide +kernel
theorem dX3_takePart_38 : decode cX3_takePart 38 = .ok (.ldc 67, 2) := by decide +kernel
theorem dX3_takePart_40 : decode cX3_takePart 40 = .ok (.invokevirtual 55, 3) := by decide +kernel
theorem dX3_takePart_43 : decode cX3_takePart 43 = .ok (.ifCond .eq 8, 3) := by decide +kernel
theorem dX3_takePart_46 : decode cX3_takePart 46 = .ok (.aload_n 0, 1) := by decide +kernel
theorem dX3_takePart_47 : decode cX3_takePart 47 = .ok (.invokevirtual 69, 3) := by decide +kernel
theorem dX3_takePart_50 : decode cX3_takePart 50 = .ok (.ireturn, 1) := by decide +kernel
theorem dX3_takePart_51 : decode cX3_takePart 51 = .ok (.aload_n 0, 1) := by decide +kernel
theorem dX3_takePart_52 : decode cX3_takePart 52 = .ok (.getfield 32, 3) := by decide +kernel
theorem dX3_takePart_55 : decode cX3_takePart 55 = .ok (.ldc 72, 2) := by decide +kernel
theorem dX3_takePart_57 : decode cX3_takePart 57 = .ok (.invokevirtual 55, 3) := by decide +kernel
theorem dX3_takePart_60 : decode cX3_takePart 60 = .ok (.ifCond .eq 10, 3) := by decide +kernel
theorem dX3_takePart_63 : decode cX3_takePart 63 = .ok (.aload_n 0, 1) := by decide +kernel
theorem dX3_takePart_64 : decode cX3_takePart 64 = .ok (.invokevirtual 74, 3) := by decide +kernel
theorem dX3_takePart_67 : decode cX3_takePart 67 = .ok (.goto 10, 3) := by decide +kernel
theorem dX3_takePart_70 : decode cX3_takePart 70 = .ok (.aload_n 0, 1) := by decide +kernel
theorem dX3_takePart_71 : decode cX3_takePart 71 = .ok (.getfield 32, 3) := by decide +kernel
theorem dX3_takePart_74 : decode cX3_takePart 74 = .ok (.invokevirtual 77, 3) := by decide +kernel
theorem dX3_takePart_77 : decode cX3_takePart 77 = .ok (.ireturn, 1) := by decide +kernel
theorem dX3_isName_0 : decode cX3_isName 0 = .ok (.aload_n 0, 1) := by decide +kernel
theorem dX3_isName_1 : decode cX3_isName 1 = .ok (.getfield 32, 3) := by decide +kernel
theorem dX3_isName_4 : decode cX3_isName 4 = .ok (.invokevirtual 80, 3) := by decide +kernel
theorem dX3_isName_7 : decode cX3_isName 7 = .ok (.ifCond .eq 103, 3) := by decide +kernel
theorem dX3_isName_10 : decode cX3_isName 10 = .ok (.aload_n 0, 1) := by decide +kernel
theorem dX3_isName_11 : decode cX3_isName 11 = .ok (.getfield 32, 3) := by decide +kernel
theorem dX3_isName_14 : decode cX3_isName 14 = .ok (.ldc 53, 2) := by decide +kernel
theorem dX3_isName_16 : decode cX3_isName 16 = .ok (.invokevirtual 55, 3) := by decide +kernel
theorem dX3_isName_19 : decode cX3_isName 19 = .ok (.ifCond .ne 91, 3) := by decide +kernel
theorem dX3_isName_22 : decode cX3_isName 22 = .ok (.aload_n 0, 1) := by decide +kernel
theorem dX3_isName_23 : decode cX3_isName 23 = .ok (.getfield 32, 3) := by decide +kernel
theorem dX3_isName_26 : decode cX3_isName 26 = .ok (.ldc 83, 2) := by decide +kernel
theorem dX3_isName_28 : decode cX3_isName 28 = .ok (.invokevirtual 55, 3) := by decide +kernel
theorem dX3_isName_31 : decode cX3_isName 31 = .ok (.ifCond .ne 79, 3) := by decide +kernel
theorem dX3_isName_34 : decode cX3_isName 34 = .ok (.aload_n 0, 1) := by decide +kernel
theorem dX3_isName_35 : decode cX3_isName 35 = .ok (.getfield 32, 3) := by decide +kernel
theorem dX3_isName_38 : decode cX3_isName 38 = .ok (.ldc 85, 2) := by decide +kernel
theorem dX3_isName_40 : decode cX3_isName 40 = .ok (.invokevirtual 55, 3) := by decide +kernel
theorem dX3_isName_43 : decode cX3_isName 43 = .ok (.ifCond .ne 67, 3) := by decide +kernel
theorem dX3_isName_46 : decode cX3_isName 46 = .ok (.aload_n 0, 1) := by decide +kernel
theorem dX3_isName_47 : decode cX3_isName 47 = .ok (.getfield 32, 3) := by decide +kernel
theorem dX3_isName_50 : decode cX3_isName 50 = .ok (.ldc 87, 2) := by decide +kernel
theorem dX3_isName_52 : decode cX3_isName 52 = .ok (.invokevirtual 55, 3) := by decide +kernel
theorem dX3_isName_55 : decode cX3_isName 55 = .ok (.ifCond .ne 55, 3) := by decide +kernel
theorem dX3_isName_58 : decode cX3_isName 58 = .ok (.aload_n 0, 1) := by decide +kernel
theorem dX3_isName_59 : decode cX3_isName 59 = .ok (.getfield 32, 3) := by decide +kernel
theorem dX3_isName_62 : decode cX3_isName 62 = .ok (.ldc 89, 2) := by decide +kernel
theorem dX3_isName_64 : decode cX3_isName 64 = .ok (.invokevirtual 55, 3) := by decide +kernel
theorem dX3_isName_67 : decode cX3_isName 67 = .ok (.ifCond .ne 43, 3) := by decide +kernel
theorem dX3_isName_70 : decode cX3_isName 70 = .ok (.aload_n 0, 1) := by decide +kernel
theorem dX3_isName_71 : decode cX3_isName 71 = .ok (.getfield 32, 3) := by decide +kernel
theorem dX3_isName_74 : decode cX3_isName 74 = .ok (.ldc 62, 2) := by decide +kernel
theorem dX3_isName_76 : decode cX3_isName 76 = .ok (.invokevirtual 55, 3) := by decide +kernel
theorem dX3_isName_79 : decode cX3_isName 79 = .ok (.ifCond .ne 31, 3) := by decide +kernel
theorem dX3_isName_82 : decode cX3_isName 82 = .ok (.aload_n 0, 1) := by decide +kernel
theorem dX3_isName_83 : decode cX3_isName 83 = .ok (.getfield 32, 3) := by decide +kernel
theorem dX3_isName_86 : decode cX3_isName 86 = .ok (.ldc 67, 2) := by decide +kernel
theorem dX3_isName_88 : decode cX3_isName 88 = .ok (.invokevirtual 55, 3) := by decide +kernel
theorem dX3_isName_91 : decode cX3_isName 91 = .ok (.ifCond .ne 19, 3) := by decide +kernel
theorem dX3_isName_94 : decode cX3_isName 94 = .ok (.aload_n 0, 1) := by decide +kernel
theorem dX3_isName_95 : decode cX3_isName 95 = .ok (.getfield 32, 3) := by decide +kernel
theorem dX3_isName_98 : decode cX3_isName 98 = .ok (.ldc 72, 2) := by decide +kernel
theorem dX3_isName_100 : decode cX3_isName 100 = .ok (.invokevirtual 55, 3) := by decide +kernel
theorem dX3_isName_103 : decode cX3_isName 103 = .ok (.ifCond .ne 7, 3) := by decide +kernel
theorem dX3_isName_106 : decode cX3_isName 106 = .ok (.iconst 1, 1) := by decide +kernel
theorem dX3_isName_107 : decode cX3_isName 107 = .ok (.goto 4, 3) := by decide +kernel
theorem dX3_isName_110 : decode cX3_isName 110 = .ok (.iconst 0, 1) := by decide +kernel
theorem dX3_isName_111 : decode cX3_isName 111 = .ok (.ireturn, 1) := by decide +kernel
theorem dX3_takeMachine_0 : decode cX3_takeMachine 0 = .ok (.aload_n 0, 1) := by decide +kernel
theorem dX3_takeMachine_1 : decode cX3_takeMachine 1 = .ok (.getfield 12, 3) := by decide +kernel
theorem dX3_takeMachine_4 : decode cX3_takeMachine 4 = .ok (.getfield 91, 3) := by decide +kernel
theorem dX3_takeMachine_7 : decode cX3_takeMachine 7 = .ok (.getfield 95, 3) := by decide +kernel
theorem dX3_takeMachine_10 : decode cX3_takeMachine 10 = .ok (.istore_n 1, 1) := by decide +kernel
theorem dX3_takeMachine_11 : decode cX3_takeMachine 11 = .ok (.iload_n 1, 1) := by decide +kernel
theorem dX3_takeMachine_12 : decode cX3_takeMachine 12 = .ok (.bipush 6, 2) := by decide +kernel
theorem dX3_takeMachine_14 : decode cX3_takeMachine 14 = .ok (.if_icmp .lt 13, 3) := by decide +kernel
theorem dX3_takeMachine_17 : decode cX3_takeMachine 17 = .ok (.aload_n 0, 1) := by decide +kernel
theorem dX3_takeMachine_18 : decode cX3_takeMachine 18 = .ok (.getfield 32, 3) := by decide +kernel
theorem dX3_takeMachine_21 : decode cX3_takeMachine 21 = .ok (.bipush 6, 2) := by decide +kernel
theorem dX3_takeMachine_23 : decode cX3_takeMachine 23 = .ok (.invokevirtual 100, 3) := by decide +kernel
theorem dX3_takeMachine_26 : decode cX3_takeMachine 26 = .ok (.ireturn, 1) := by decide +kernel
theorem dX3_takeMachine_27 : decode cX3_takeMachine 27 = .ok (.aload_n 0, 1) := by decide +kernel
theorem dX3_takeMachine_28 : decode cX3_takeMachine 28 = .ok (.getfield 32, 3) := by decide +kernel
theorem dX3_takeMachine_31 : decode cX3_takeMachine 31 = .ok (.invokevirtual 104, 3) := by decide +kernel
theorem dX3_takeMachine_34 : decode cX3_takeMachine 34 = .ok (.aload_n 0, 1) := by decide +kernel
theorem dX3_takeMachine_35 : decode cX3_takeMachine 35 = .ok (.invokevirtual 107, 3) := by decide +kernel
theorem dX3_takeMachine_38 : decode cX3_takeMachine 38 = .ok (.ifCond .ne 11, 3) := by decide +kernel
theorem dX3_takeMachine_41 : decode cX3_takeMachine 41 = .ok (.aload_n 0, 1) := by decide +kernel
theorem dX3_takeMachine_42 : decode cX3_takeMachine 42 = .ok (.getfield 32, 3) := by decide +kernel
theorem dX3_takeMachine_45 : decode cX3_takeMachine 45 = .ok (.invokevirtual 77, 3) := by decide +kernel
theorem dX3_takeMachine_48 : decode cX3_takeMachine 48 = .ok (.ireturn, 1) := by decide +kernel
theorem dX3_takeMachine_49 : decode cX3_takeMachine 49 = .ok (.aload_n 0, 1) := by decide +kernel
theorem dX3_takeMachine_50 : decode cX3_takeMachine 50 = .ok (.getfield 12, 3) := by decide +kernel
theorem dX3_takeMachine_53 : decode cX3_takeMachine 53 = .ok (.aload_n 0, 1) := by decide +kernel
theorem dX3_takeMachine_54 : decode cX3_takeMachine 54 = .ok (.getfield 32, 3) := by decide +kernel
theorem dX3_takeMachine_57 : decode cX3_takeMachine 57 = .ok (.getfield 110, 3) := by decide +kernel
theorem dX3_takeMachine_60 : decode cX3_takeMachine 60 = .ok (.invokevirtual 114, 3) := by decide +kernel
theorem dX3_takeMachine_63 : decode cX3_takeMachine 63 = .ok (.iconst (-1), 1) := by decide +kernel
theorem dX3_takeMachine_64 : decode cX3_takeMachine 64 = .ok (.if_icmp .eq 12, 3) := by decide +kernel
theorem dX3_takeMachine_67 : decode cX3_takeMachine 67 = .ok (.aload_n 0, 1) := by decide +kernel
theorem dX3_takeMachine_68 : decode cX3_takeMachine 68 = .ok (.getfield 32, 3) := by decide +kernel
theorem dX3_takeMachine_71 : decode cX3_takeMachine 71 = .ok (.iconst 3, 1) := by decide +kernel
theorem dX3_takeMachine_72 : decode cX3_takeMachine 72 = .ok (.invokevirtual 100, 3) := by decide +kernel
theorem dX3_takeMachine_75 : decode cX3_takeMachine 75 = .ok (.ireturn, 1) := by decide +kernel
theorem dX3_takeMachine_76 : decode cX3_takeMachine 76 = .ok (.aload_n 0, 1) := by decide +kernel
theorem dX3_takeMachine_77 : decode cX3_takeMachine 77 = .ok (.iload_n 1, 1) := by decide +kernel
theorem dX3_takeMachine_78 : decode cX3_takeMachine 78 = .ok (.aload_n 0, 1) := by decide +kernel
theorem dX3_takeMachine_79 : decode cX3_takeMachine 79 = .ok (.getfield 32, 3) := by decide +kernel
theorem dX3_takeMachine_82 : decode cX3_takeMachine 82 = .ok (.getfield 110, 3) := by decide +kernel
theorem dX3_takeMachine_85 : decode cX3_takeMachine 85 = .ok (.invokevirtual 118, 3) := by decide +kernel
theorem dX3_takeMachine_88 : decode cX3_takeMachine 88 = .ok (.aload_n 0, 1) := by decide +kernel
theorem dX3_takeMachine_89 : decode cX3_takeMachine 89 = .ok (.getfield 32, 3) := by decide +kernel
theorem dX3_takeMachine_92 : decode cX3_takeMachine 92 = .ok (.invokevirtual 104, 3) := by decide +kernel
theorem dX3_takeMachine_95 : decode cX3_takeMachine 95 = .ok (.aload_n 0, 1) := by decide +kernel
theorem dX3_takeMachine_96 : decode cX3_takeMachine 96 = .ok (.getfield 32, 3) := by decide +kernel
theorem dX3_takeMachine_99 : decode cX3_takeMachine 99 = .ok (.ldc 83, 2) := by decide +kernel
theorem dX3_takeMachine_101 : decode cX3_takeMachine 101 = .ok (.invokevirtual 122, 3) := by decide +kernel
theorem dX3_takeMachine_104 : decode cX3_takeMachine 104 = .ok (.ifCond .eq 16, 3) := by decide +kernel
theorem dX3_takeMachine_107 : decode cX3_takeMachine 107 = .ok (.aload_n 0, 1) := by decide +kernel
theorem dX3_takeMachine_108 : decode cX3_takeMachine 108 = .ok (.getfield 32, 3) := by decide +kernel
theorem dX3_takeMachine_111 : decode cX3_takeMachine 111 = .ok (.iconst 1, 1) := by decide +kernel
theorem dX3_takeMachine_112 : decode cX3_takeMachine 112 = .ok (.bipush 99, 2) := by decide +kernel
theorem dX3_takeMachine_114 : decode cX3_takeMachine 114 = .ok (.invokevirtual 125, 3) := by decide +kernel
theorem dX3_takeMachine_117 : decode cX3_takeMachine 117 = .ok (.ifCond .ne 5, 3) := by decide +kernel
theorem dX3_takeMachine_120 : decode cX3_takeMachine 120 = .ok (.iconst 0, 1) := by decide +kernel
theorem dX3_takeMachine_121 : decode cX3_takeMachine 121 = .ok (.ireturn, 1) := by decide +kernel
theorem dX3_takeMachine_122 : decode cX3_takeMachine 122 = .ok (.aload_n 0, 1) := by decide +kernel
theorem dX3_takeMachine_123 : decode cX3_takeMachine 123 = .ok (.getfield 12, 3) := by decide +kernel
theorem dX3_takeMachine_126 : decode cX3_takeMachine 126 = .ok (.getfield 91, 3) := by decide +kernel
theorem dX3_takeMachine_129 : decode cX3_takeMachine 129 = .ok (.getfield 129, 3) := by decide +kernel
theorem dX3_takeMachine_132 : decode cX3_takeMachine 132 = .ok (.iload_n 1, 1) := by decide +kernel
theorem dX3_takeMachine_133 : decode cX3_takeMachine 133 = .ok (.aload_n 0, 1) := by decide +kernel
theorem dX3_takeMachine_134 : decode cX3_takeMachine 134 = .ok (.getfield 32, 3) := by decide +kernel
theorem dX3_takeMachine_137 : decode cX3_takeMachine 137 = .ok (.getfield 132, 3) := by decide +kernel
theorem dX3_takeMachine_140 : decode cX3_takeMachine 140 = .ok (.iastore, 1) := by decide +kernel
theorem dX3_takeMachine_141 : decode cX3_takeMachine 141 = .ok (.iconst 0, 1) := by decide +kernel
theorem dX3_takeMachine_142 : decode cX3_takeMachine 142 = .ok (.istore_n 2, 1) := by decide +kernel
theorem dX3_takeMachine_143 : decode cX3_takeMachine 143 = .ok (.iload_n 2, 1) := by decide +kernel
theorem dX3_takeMachine_144 : decode cX3_takeMachine 144 = .ok (.iconst 3, 1) := by decide +kernel
theorem dX3_takeMachine_145 : decode cX3_takeMachine 145 = .ok (.if_icmp .ge 66, 3) := by decide +kernel
theorem dX3_takeMachine_148 : decode cX3_takeMachine 148 = .ok (.aload_n 0, 1) := by decide +kernel
theorem dX3_takeMachine_149 : decode cX3_takeMachine 149 = .ok (.getfield 32, 3) := by decide +kernel
theorem dX3_takeMachine_152 : decode cX3_takeMachine 152 = .ok (.ldc 85, 2) := by decide +kernel
theorem dX3_takeMachine_154 : decode cX3_takeMachine 154 = .ok (.invokevirtual 55, 3) := by decide +kernel
theorem dX3_takeMachine_157 : decode cX3_takeMachine 157 = .ok (.ifCond .ne 15, 3) := by decide +kernel
theorem dX3_takeMachine_160 : decode cX3_takeMachine 160 = .ok (.aload_n 0, 1) := by decide +kernel
theorem dX3_takeMachine_161 : decode cX3_takeMachine 161 = .ok (.getfield 32, 3) := by decide +kernel
theorem dX3_takeMachine_164 : decode cX3_takeMachine 164 = .ok (.ldc 87, 2) := by decide +kernel
theorem dX3_takeMachine_166 : decode cX3_takeMachine 166 = .ok (.invokevirtual 55, 3) := by decide +kernel
theorem dX3_takeMachine_169 : decode cX3_takeMachine 169 = .ok (.ifCond .eq 42, 3) := by decide +kernel
theorem dX3_takeMachine_172 : decode cX3_takeMachine 172 = .ok (.aload_n 0, 1) := by decide +kernel
theorem dX3_takeMachine_173 : decode cX3_takeMachine 173 = .ok (.getfield 32, 3) := by decide +kernel
theorem dX3_takeMachine_176 : decode cX3_takeMachine 176 = .ok (.ldc 85, 2) := by decide +kernel
theorem dX3_takeMachine_178 : decode cX3_takeMachine 178 = .ok (.invokevirtual 55, 3) := by decide +kernel
theorem dX3_takeMachine_181 : decode cX3_takeMachine 181 = .ok (.ifCond .eq 14, 3) := by decide +kernel
theorem dX3_takeMachine_184 : decode cX3_takeMachine 184 = .ok (.aload_n 0, 1) := by decide +kernel
theorem dX3_takeMachine_185 : decode cX3_takeMachine 185 = .ok (.iload_n 1, 1) := by decide +kernel
theorem dX3_takeMachine_186 : decode cX3_takeMachine 186 = .ok (.invokevirtual 135, 3) := by decide +kernel
theorem dX3_takeMachine_189 : decode cX3_takeMachine 189 = .ok (.ifCond .eq 14, 3) := by decide +kernel
theorem dX3_takeMachine_192 : decode cX3_takeMachine 192 = .ok (.goto 13, 3) := by decide +kernel
theorem dX3_takeMachine_195 : decode cX3_takeMachine 195 = .ok (.aload_n 0, 1) := by decide +kernel
theorem dX3_takeMachine_196 : decode cX3_takeMachine 196 = .ok (.iload_n 1, 1) := by decide +kernel
theorem dX3_takeMachine_197 : decode cX3_takeMachine 197 = .ok (.invokevirtual 138, 3) := by decide +kernel
theorem dX3_takeMachine_200 : decode cX3_takeMachine 200 = .ok (.ifCond .ne 5, 3) := by decide +kernel
theorem dX3_takeMachine_203 : decode cX3_takeMachine 203 = .ok (.iconst 0, 1) := by decide +kernel
theorem dX3_takeMachine_204 : decode cX3_takeMachine 204 = .ok (.ireturn, 1) := by decide +kernel
theorem dX3_takeMachine_205 : decode cX3_takeMachine 205 = .ok (.iinc 2 1, 3) := by decide +kernel
theorem dX3_takeMachine_208 : decode cX3_takeMachine 208 = .ok (.goto (-65), 3) := by decide +kernel
theorem dX3_takeMachine_211 : decode cX3_takeMachine 211 = .ok (.aload_n 0, 1) := by decide +kernel
theorem dX3_takeMachine_212 : decode cX3_takeMachine 212 = .ok (.getfield 32, 3) := by decide +kernel
theorem dX3_takeMachine_215 : decode cX3_takeMachine 215 = .ok (.invokevirtual 141, 3) := by decide +kernel
theorem dX3_takeMachine_218 : decode cX3_takeMachine 218 = .ok (.ireturn, 1) := by decide +kernel
theorem dX3_addMachine_0 : decode cX3_addMachine 0 = .ok (.aload_n 0, 1) := by decide +kernel
theorem dX3_addMachine_1 : decode cX3_addMachine 1 = .ok (.getfield 12, 3) := by decide +kernel
theorem dX3_addMachine_4 : decode cX3_addMachine 4 = .ok (.getfield 144, 3) := by decide +kernel
theorem dX3_addMachine_7 : decode cX3_addMachine 7 = .ok (.iload_n 1, 1) := by decide +kernel
theorem dX3_addMachine_8 : decode cX3_addMachine 8 = .ok (.lload_n 2, 1) := by decide +kernel
theorem dX3_addMachine_9 : decode cX3_addMachine 9 = .ok (.lastore, 1) := by decide +kernel
theorem dX3_addMachine_10 : decode cX3_addMachine 10 = .ok (.aload_n 0, 1) := by decide +kernel
theorem dX3_addMachine_11 : decode cX3_addMachine 11 = .ok (.getfield 12, 3) := by decide +kernel
theorem dX3_addMachine_14 : decode cX3_addMachine 14 = .ok (.getfield 147, 3) := by decide +kernel
theorem dX3_addMachine_17 : decode cX3_addMachine 17 = .ok (.iload_n 1, 1) := by decide +kernel
theorem dX3_addMachine_18 : decode cX3_addMachine 18 = .ok (.iconst 1, 1) := by decide +kernel
theorem dX3_addMachine_19 : decode cX3_addMachine 19 = .ok (.iastore, 1) := by decide +kernel
theorem dX3_addMachine_20 : decode cX3_addMachine 20 = .ok (.aload_n 0, 1) := by decide +kernel
theorem dX3_addMachine_21 : decode cX3_addMachine 21 = .ok (.getfield 12, 3) := by decide +kernel
theorem dX3_addMachine_24 : decode cX3_addMachine 24 = .ok (.getfield 91, 3) := by decide +kernel
theorem dX3_addMachine_27 : decode cX3_addMachine 27 = .ok (.getfield 150, 3) := by decide +kernel
theorem dX3_addMachine_30 : decode cX3_addMachine 30 = .ok (.iload_n 1, 1) := by decide +kernel
theorem dX3_addMachine_31 : decode cX3_addMachine 31 = .ok (.iconst 0, 1) := by decide +kernel
theorem dX3_addMachine_32 : decode cX3_addMachine 32 = .ok (.iastore, 1) := by decide +kernel
theorem dX3_addMachine_33 : decode cX3_addMachine 33 = .ok (.aload_n 0, 1) := by decide +kernel
theorem dX3_addMachine_34 : decode cX3_addMachine 34 = .ok (.getfield 12, 3) := by decide +kernel
theorem dX3_addMachine_37 : decode cX3_addMachine 37 = .ok (.getfield 91, 3) := by decide +kernel
theorem dX3_addMachine_40 : decode cX3_addMachine 40 = .ok (.getfield 152, 3) := by decide +kernel
theorem dX3_addMachine_43 : decode cX3_addMachine 43 = .ok (.iload_n 1, 1) := by decide +kernel
theorem dX3_addMachine_44 : decode cX3_addMachine 44 = .ok (.iconst 0, 1) := by decide +kernel
theorem dX3_addMachine_45 : decode cX3_addMachine 45 = .ok (.iastore, 1) := by decide +kernel
theorem dX3_addMachine_46 : decode cX3_addMachine 46 = .ok (.aload_n 0, 1) := by decide +kernel
theorem dX3_addMachine_47 : decode cX3_addMachine 47 = .ok (.getfield 12, 3) := by decide +kernel
theorem dX3_addMachine_50 : decode cX3_addMachine 50 = .ok (.getfield 91, 3) := by decide +kernel
theorem dX3_addMachine_53 : decode cX3_addMachine 53 = .ok (.getfield 154, 3) := by decide +kernel
theorem dX3_addMachine_56 : decode cX3_addMachine 56 = .ok (.iload_n 1, 1) := by decide +kernel
theorem dX3_addMachine_57 : decode cX3_addMachine 57 = .ok (.bipush 20, 2) := by decide +kernel
theorem dX3_addMachine_59 : decode cX3_addMachine 59 = .ok (.iastore, 1) := by decide +kernel
theorem dX3_addMachine_60 : decode cX3_addMachine 60 = .ok (.aload_n 0, 1) := by decide +kernel
theorem dX3_addMachine_61 : decode cX3_addMachine 61 = .ok (.getfield 12, 3) := by decide +kernel
theorem dX3_addMachine_64 : decode cX3_addMachine 64 = .ok (.getfield 91, 3) := by decide +kernel
theorem dX3_addMachine_67 : decode cX3_addMachine 67 = .ok (.iload_n 1, 1) := by decide +kernel
theorem dX3_addMachine_68 : decode cX3_addMachine 68 = .ok (.iconst 1, 1) := by decide +kernel
theorem dX3_addMachine_69 : decode cX3_addMachine 69 = .ok (.iadd, 1) := by decide +kernel
theorem dX3_addMachine_70 : decode cX3_addMachine 70 = .ok (.putfield 95, 3) := by decide +kernel
theorem dX3_addMachine_73 : decode cX3_addMachine 73 = .ok (.aload_n 0, 1) := by decide +kernel
theorem dX3_addMachine_74 : decode cX3_addMachine 74 = .ok (.iconst 0, 1) := by decide +kernel
theorem dX3_addMachine_75 : decode cX3_addMachine 75 = .ok (.putfield 22, 3) := by decide +kernel
theorem dX3_addMachine_78 : decode cX3_addMachine 78 = .ok (.aload_n 0, 1) := by decide +kernel
theorem dX3_addMachine_79 : decode cX3_addMachine 79 = .ok (.iconst 0, 1) := by decide +kernel
theorem dX3_addMachine_80 : decode cX3_addMachine 80 = .ok (.putfield 26, 3) := by decide +kernel
theorem dX3_addMachine_83 : decode cX3_addMachine 83 = .ok (.aload_n 0, 1) := by decide +kernel
theorem dX3_addMachine_84 : decode cX3_addMachine 84 = .ok (.iconst 0, 1) := by decide +kernel
theorem dX3_addMachine_85 : decode cX3_addMachine 85 = .ok (.putfield 29, 3) := by decide +kernel
theorem dX3_addMachine_88 : decode cX3_addMachine 88 = .ok (.return_, 1) := by decide +kernel
theorem dX3_takeHeads_0 : decode cX3_takeHeads 0 = .ok (.aload_n 0, 1) := by decide +kernel
theorem dX3_takeHeads_1 : decode cX3_takeHeads 1 = .ok (.getfield 22, 3) := by decide +kernel
theorem dX3_takeHeads_4 : decode cX3_takeHeads 4 = .ok (.ifCond .eq 12, 3) := by decide +kernel
theorem dX3_takeHeads_7 : decode cX3_takeHeads 7 = .ok (.aload_n 0, 1) := by decide +kernel
theorem dX3_takeHeads_8 : decode cX3_takeHeads 8 = .ok (.getfield 32, 3) := by decide +kernel
theorem dX3_takeHeads_11 : decode cX3_takeHeads 11 = .ok (.iconst 5, 1) := by decide +kernel
theorem dX3_takeHeads_12 : decode cX3_takeHeads 12 = .ok (.invokevirtual 100, 3) := by decide +kernel
theorem dX3_takeHeads_15 : decode cX3_takeHeads 15 = .ok (.ireturn, 1) := by decide +kernel
theorem dX3_takeHeads_16 : decode cX3_takeHeads 16 = .ok (.aload_n 0, 1) := by decide +kernel
theorem dX3_takeHeads_17 : decode cX3_takeHeads 17 = .ok (.iconst 1, 1) := by decide +kernel
theorem dX3_takeHeads_18 : decode cX3_takeHeads 18 = .ok (.putfield 22, 3) := by decide +kernel
theorem dX3_takeHeads_21 : decode cX3_takeHeads 21 = .ok (.aload_n 0, 1) := by decide +kernel
theorem dX3_takeHeads_22 : decode cX3_takeHeads 22 = .ok (.getfield 32, 3) := by decide +kernel
theorem dX3_takeHeads_25 : decode cX3_takeHeads 25 = .ok (.invokevirtual 104, 3) := by decide +kernel
theorem dX3_takeHeads_28 : decode cX3_takeHeads 28 = .ok (.aload_n 0, 1) := by decide +kernel
theorem dX3_takeHeads_29 : decode cX3_takeHeads 29 = .ok (.getfield 32, 3) := by decide +kernel
theorem dX3_takeHeads_32 : decode cX3_takeHeads 32 = .ok (.iconst 1, 1) := by decide +kernel
theorem dX3_takeHeads_33 : decode cX3_takeHeads 33 = .ok (.bipush 24, 2) := by decide +kernel
theorem dX3_takeHeads_35 : decode cX3_takeHeads 35 = .ok (.invokevirtual 125, 3) := by decide +kernel
theorem dX3_takeHeads_38 : decode cX3_takeHeads 38 = .ok (.ifCond .ne 5, 3) := by decide +kernel
theorem dX3_takeHeads_41 : decode cX3_takeHeads 41 = .ok (.iconst 0, 1) := by decide +kernel
theorem dX3_takeHeads_42 : decode cX3_takeHeads 42 = .ok (.ireturn, 1) := by decide +kernel
theorem dX3_takeHeads_43 : decode cX3_takeHeads 43 = .ok (.aload_n 0, 1) := by decide +kernel
theorem dX3_takeHeads_44 : decode cX3_takeHeads 44 = .ok (.getfield 12, 3) := by decide +kernel
theorem dX3_takeHeads_47 : decode cX3_takeHeads 47 = .ok (.getfield 147, 3) := by decide +kernel
theorem dX3_takeHeads_50 : decode cX3_takeHeads 50 = .ok (.iload_n 1, 1) := by decide +kernel
theorem dX3_takeHeads_51 : decode cX3_takeHeads 51 = .ok (.aload_n 0, 1) := by decide +kernel
theorem dX3_takeHeads_52 : decode cX3_takeHeads 52 = .ok (.getfield 32, 3) := by decide +kernel
theorem dX3_takeHeads_55 : decode cX3_takeHeads 55 = .ok (.getfield 132, 3) := by decide +kernel
theorem dX3_takeHeads_58 : decode cX3_takeHeads 58 = .ok (.iastore, 1) := by decide +kernel
theorem dX3_takeHeads_59 : decode cX3_takeHeads 59 = .ok (.iconst 1, 1) := by decide +kernel
theorem dX3_takeHeads_60 : decode cX3_takeHeads 60 = .ok (.ireturn, 1) := by decide +kernel
theorem dX3_takeStops_0 : decode cX3_takeStops 0 = .ok (.aload_n 0, 1) := by decide +kernel
theorem dX3_takeStops_1 : decode cX3_takeStops 1 = .ok (.getfield 26, 3) := by decide +kernel
theorem dX3_takeStops_4 : decode cX3_takeStops 4 = .ok (.ifCond .eq 12, 3) := by decide +kernel
theorem dX3_takeStops_7 : decode cX3_takeStops 7 = .ok (.aload_n 0, 1) := by decide +kernel
theorem dX3_takeStops_8 : decode cX3_takeStops 8 = .ok (.getfield 32, 3) := by decide +kernel
theorem dX3_takeStops_11 : decode cX3_takeStops 11 = .ok (.iconst 5, 1) := by decide +kernel
theorem dX3_takeStops_12 : decode cX3_takeStops 12 = .ok (.invokevirtual 100, 3) := by decide +kernel
theorem dX3_takeStops_15 : decode cX3_takeStops 15 = .ok (.ireturn, 1) := by decide +kernel
theorem dX3_takeStops_16 : decode cX3_takeStops 16 = .ok (.aload_n 0, 1) := by decide +kernel
theorem dX3_takeStops_17 : decode cX3_takeStops 17 = .ok (.iconst 1, 1) := by decide +kernel
theorem dX3_takeStops_18 : decode cX3_takeStops 18 = .ok (.putfield 26, 3) := by decide +kernel
theorem dX3_takeStops_21 : decode cX3_takeStops 21 = .ok (.aload_n 0, 1) := by decide +kernel
theorem dX3_takeStops_22 : decode cX3_takeStops 22 = .ok (.getfield 32, 3) := by decide +kernel
theorem dX3_takeStops_25 : decode cX3_takeStops 25 = .ok (.invokevirtual 104, 3) := by decide +kernel
theorem dX3_takeStops_28 : decode cX3_takeStops 28 = .ok (.aload_n 0, 1) := by decide +kernel
theorem dX3_takeStops_29 : decode cX3_takeStops 29 = .ok (.getfield 32, 3) := by decide +kernel
theorem dX3_takeStops_32 : decode cX3_takeStops 32 = .ok (.iconst 0, 1) := by decide +kernel
theorem dX3_takeStops_33 : decode cX3_takeStops 33 = .ok (.bipush 64, 2) := by decide +kernel
theorem dX3_takeStops_35 : decode cX3_takeStops 35 = .ok (.invokevirtual 125, 3) := by decide +kernel
theorem dX3_takeStops_38 : decode cX3_takeStops 38 = .ok (.ifCond .ne 5, 3) := by decide +kernel
theorem dX3_takeStops_41 : decode cX3_takeStops 41 = .ok (.iconst 0, 1) := by decide +kernel
theorem dX3_takeStops_42 : decode cX3_takeStops 42 = .ok (.ireturn, 1) := by decide +kernel
theorem dX3_takeStops_43 : decode cX3_takeStops 43 = .ok (.aload_n 0, 1) := by decide +kernel
theorem dX3_takeStops_44 : decode cX3_takeStops 44 = .ok (.getfield 12, 3) := by decide +kernel
theorem dX3_takeStops_47 : decode cX3_takeStops 47 = .ok (.getfield 91, 3) := by decide +kernel
theorem dX3_takeStops_50 : decode cX3_takeStops 50 = .ok (.getfield 150, 3) := by decide +kernel
theorem dX3_takeStops_53 : decode cX3_takeStops 53 = .ok (.iload_n 1, 1) := by decide +kernel
theorem dX3_takeStops_54 : decode cX3_takeStops 54 = .ok (.aload_n 0, 1) := by decide +kernel
theorem dX3_takeStops_55 : decode cX3_takeStops 55 = .ok (.getfield 32, 3) := by decide +kernel
theorem dX3_takeStops_58 : decode cX3_takeStops 58 = .ok (.getfield 132, 3) := by decide +kernel
theorem dX3_takeStops_61 : decode cX3_takeStops 61 = .ok (.iastore, 1) := by decide +kernel
theorem dX3_takeStops_62 : decode cX3_takeStops 62 = .ok (.aload_n 0, 1) := by decide +kernel
theorem dX3_takeStops_63 : decode cX3_takeStops 63 = .ok (.getfield 32, 3) := by decide +kernel
theorem dX3_takeStops_66 : decode cX3_takeStops 66 = .ok (.ldc 89, 2) := by decide +kernel
theorem dX3_takeStops_68 : decode cX3_takeStops 68 = .ok (.invokevirtual 122, 3) := by decide +kernel
theorem dX3_takeStops_71 : decode cX3_takeStops 71 = .ok (.ifCond .eq 16, 3) := by decide +kernel
theorem dX3_takeStops_74 : decode cX3_takeStops 74 = .ok (.aload_n 0, 1) := by decide +kernel
theorem dX3_takeStops_75 : decode cX3_takeStops 75 = .ok (.getfield 32, 3) := by decide +kernel
theorem dX3_takeStops_78 : decode cX3_takeStops 78 = .ok (.iconst 1, 1) := by decide +kernel
theorem dX3_takeStops_79 : decode cX3_takeStops 79 = .ok (.bipush 99, 2) := by decide +kernel
theorem dX3_takeStops_81 : decode cX3_takeStops 81 = .ok (.invokevirtual 125, 3) := by decide +kernel
theorem dX3_takeStops_84 : decode cX3_takeStops 84 = .ok (.ifCond .ne 5, 3) := by decide +kernel
theorem dX3_takeStops_87 : decode cX3_takeStops 87 = .ok (.iconst 0, 1) := by decide +kernel
theorem dX3_takeStops_88 : decode cX3_takeStops 88 = .ok (.ireturn, 1) := by decide +kernel
theorem dX3_takeStops_89 : decode cX3_takeStops 89 = .ok (.aload_n 0, 1) := by decide +kernel
theorem dX3_takeStops_90 : decode cX3_takeStops 90 = .ok (.getfield 12, 3) := by decide +kernel
theorem dX3_takeStops_93 : decode cX3_takeStops 93 = .ok (.getfield 91, 3) := by decide +kernel
theorem dX3_takeStops_96 : decode cX3_takeStops 96 = .ok (.getfield 152, 3) := by decide +kernel
theorem dX3_takeStops_99 : decode cX3_takeStops 99 = .ok (.iload_n 1, 1) := by decide +kernel
theorem dX3_takeStops_100 : decode cX3_takeStops 100 = .ok (.aload_n 0, 1) := by decide +kernel
theorem dX3_takeStops_101 : decode cX3_takeStops 101 = .ok (.getfield 32, 3) := by decide +kernel
theorem dX3_takeStops_104 : decode cX3_takeStops 104 = .ok (.getfield 132, 3) := by decide +kernel
theorem dX3_takeStops_107 : decode cX3_takeStops 107 = .ok (.iastore, 1) := by decide +kernel
theorem dX3_takeStops_108 : decode cX3_takeStops 108 = .ok (.iconst 1, 1) := by decide +kernel
theorem dX3_takeStops_109 : decode cX3_takeStops 109 = .ok (.ireturn, 1) := by decide +kernel
theorem dX3_takeTable_0 : decode cX3_takeTable 0 = .ok (.aload_n 0, 1) := by decide +kernel
theorem dX3_takeTable_1 : decode cX3_takeTable 1 = .ok (.getfield 12, 3) := by decide +kernel
theorem dX3_takeTable_4 : decode cX3_takeTable 4 = .ok (.getfield 91, 3) := by decide +kernel
theorem dX3_takeTable_7 : decode cX3_takeTable 7 = .ok (.getfield 95, 3) := by decide +kernel
theorem dX3_takeTable_10 : decode cX3_takeTable 10 = .ok (.iconst 1, 1) := by decide +kernel
theorem dX3_takeTable_11 : decode cX3_takeTable 11 = .ok (.isub, 1) := by decide +kernel
theorem dX3_takeTable_12 : decode cX3_takeTable 12 = .ok (.istore_n 1, 1) := by decide +kernel
theorem dX3_takeTable_13 : decode cX3_takeTable 13 = .ok (.iload_n 1, 1) := by decide +kernel
theorem dX3_takeTable_14 : decode cX3_takeTable 14 = .ok (.ifCond .lt 10, 3) := by decide +kernel
theorem dX3_takeTable_17 : decode cX3_takeTable 17 = .ok (.aload_n 0, 1) := by decide +kernel
theorem dX3_takeTable_18 : decode cX3_takeTable 18 = .ok (.getfield 29, 3) := by decide +kernel
theorem dX3_takeTable_21 : decode cX3_takeTable 21 = .ok (.ifCond .eq 12, 3) := by decide +kernel
theorem dX3_takeTable_24 : decode cX3_takeTable 24 = .ok (.aload_n 0, 1) := by decide +kernel
theorem dX3_takeTable_25 : decode cX3_takeTable 25 = .ok (.getfield 32, 3) := by decide +kernel
theorem dX3_takeTable_28 : decode cX3_takeTable 28 = .ok (.iconst 5, 1) := by decide +kernel
theorem dX3_takeTable_29 : decode cX3_takeTable 29 = .ok (.invokevirtual 100, 3) := by decide +kernel
theorem dX3_takeTable_32 : decode cX3_takeTable 32 = .ok (.ireturn, 1) := by decide +kernel
theorem dX3_takeTable_33 : decode cX3_takeTable 33 = .ok (.aload_n 0, 1) := by decide +kernel
theorem dX3_takeTable_34 : decode cX3_takeTable 34 = .ok (.iconst 1, 1) := by decide +kernel
theorem dX3_takeTable_35 : decode cX3_takeTable 35 = .ok (.putfield 29, 3) := by decide +kernel
theorem dX3_takeTable_38 : decode cX3_takeTable 38 = .ok (.aload_n 0, 1) := by decide +kernel
theorem dX3_takeTable_39 : decode cX3_takeTable 39 = .ok (.getfield 32, 3) := by decide +kernel
theorem dX3_takeTable_42 : decode cX3_takeTable 42 = .ok (.invokevirtual 104, 3) := by decide +kernel
theorem dX3_takeTable_45 : decode cX3_takeTable 45 = .ok (.aload_n 0, 1) := by decide +kernel
theorem dX3_takeTable_46 : decode cX3_takeTable 46 = .ok (.getfield 32, 3) := by decide +kernel
theorem dX3_takeTable_49 : decode cX3_takeTable 49 = .ok (.iconst 0, 1) := by decide +kernel
theorem dX3_takeTable_50 : decode cX3_takeTable 50 = .ok (.sipush 999, 3) := by decide +kernel
theorem dX3_takeTable_53 : decode cX3_takeTable 53 = .ok (.invokevirtual 125, 3) := by decide +kernel
theorem dX3_takeTable_56 : decode cX3_takeTable 56 = .ok (.ifCond .ne 5, 3) := by decide +kernel
theorem dX3_takeTable_59 : decode cX3_takeTable 59 = .ok (.iconst 0, 1) := by decide +kernel
theorem dX3_takeTable_60 : decode cX3_takeTable 60 = .ok (.ireturn, 1) := by decide +kernel
theorem dX3_takeTable_61 : decode cX3_takeTable 61 = .ok (.aload_n 0, 1) := by decide +kernel
theorem dX3_takeTable_62 : decode cX3_takeTable 62 = .ok (.getfield 12, 3) := by decide +kernel
theorem dX3_takeTable_65 : decode cX3_takeTable 65 = .ok (.getfield 91, 3) := by decide +kernel
theorem dX3_takeTable_68 : decode cX3_takeTable 68 = .ok (.getfield 154, 3) := by decide +kernel
theorem dX3_takeTable_71 : decode cX3_takeTable 71 = .ok (.iload_n 1, 1) := by decide +kernel
theorem dX3_takeTable_72 : decode cX3_takeTable 72 = .ok (.aload_n 0, 1) := by decide +kernel
theorem dX3_takeTable_73 : decode cX3_takeTable 73 = .ok (.getfield 32, 3) := by decide +kernel
theorem dX3_takeTable_76 : decode cX3_takeTable 76 = .ok (.getfield 132, 3) := by decide +kernel
theorem dX3_takeTable_79 : decode cX3_takeTable 79 = .ok (.iastore, 1) := by decide +kernel
theorem dX3_takeTable_80 : decode cX3_takeTable 80 = .ok (.aload_n 0, 1) := by decide +kernel
theorem dX3_takeTable_81 : decode cX3_takeTable 81 = .ok (.getfield 32, 3) := by decide +kernel
theorem dX3_takeTable_84 : decode cX3_takeTable 84 = .ok (.invokevirtual 141, 3) := by decide +kernel
theorem dX3_takeTable_87 : decode cX3_takeTable 87 = .ok (.ireturn, 1) := by decide +kernel
theorem dX3_takeSort_0 : decode cX3_takeSort 0 = .ok (.aload_n 0, 1) := by decide +kernel
theorem dX3_takeSort_1 : decode cX3_takeSort 1 = .ok (.getfield 12, 3) := by decide +kernel
theorem dX3_takeSort_4 : decode cX3_takeSort 4 = .ok (.getfield 157, 3) := by decide +kernel
theorem dX3_takeSort_7 : decode cX3_takeSort 7 = .ok (.bipush 7, 2) := by decide +kernel
theorem dX3_takeSort_9 : decode cX3_takeSort 9 = .ok (.if_icmp .lt 13, 3) := by decide +kernel
theorem dX3_takeSort_12 : decode cX3_takeSort 12 = .ok (.aload_n 0, 1) := by decide +kernel
theorem dX3_takeSort_13 : decode cX3_takeSort 13 = .ok (.getfield 32, 3) := by decide +kernel
theorem dX3_takeSort_16 : decode cX3_takeSort 16 = .ok (.bipush 6, 2) := by decide +kernel
theorem dX3_takeSort_18 : decode cX3_takeSort 18 = .ok (.invokevirtual 100, 3) := by decide +kernel
theorem dX3_takeSort_21 : decode cX3_takeSort 21 = .ok (.ireturn, 1) := by decide +kernel
theorem dX3_takeSort_22 : decode cX3_takeSort 22 = .ok (.aload_n 0, 1) := by decide +kernel
theorem dX3_takeSort_23 : decode cX3_takeSort 23 = .ok (.getfield 32, 3) := by decide +kernel
theorem dX3_takeSort_26 : decode cX3_takeSort 26 = .ok (.invokevirtual 104, 3) := by decide +kernel
theorem dX3_takeSort_29 : decode cX3_takeSort 29 = .ok (.aload_n 0, 1) := by decide +kernel
theorem dX3_takeSort_30 : decode cX3_takeSort 30 = .ok (.invokevirtual 107, 3) := by decide +kernel
theorem dX3_takeSort_33 : decode cX3_takeSort 33 = .ok (.ifCond .ne 11, 3) := by decide +kernel
theorem dX3_takeSort_36 : decode cX3_takeSort 36 = .ok (.aload_n 0, 1) := by decide +kernel
theorem dX3_takeSort_37 : decode cX3_takeSort 37 = .ok (.getfield 32, 3) := by decide +kernel
theorem dX3_takeSort_40 : decode cX3_takeSort 40 = .ok (.invokevirtual 77, 3) := by decide +kernel
theorem dX3_takeSort_43 : decode cX3_takeSort 43 = .ok (.ireturn, 1) := by decide +kernel
theorem dX3_takeSort_44 : decode cX3_takeSort 44 = .ok (.aload_n 0, 1) := by decide +kernel
theorem dX3_takeSort_45 : decode cX3_takeSort 45 = .ok (.aload_n 0, 1) := by decide +kernel
theorem dX3_takeSort_46 : decode cX3_takeSort 46 = .ok (.getfield 32, 3) := by decide +kernel
theorem dX3_takeSort_49 : decode cX3_takeSort 49 = .ok (.getfield 110, 3) := by decide +kernel
theorem dX3_takeSort_52 : decode cX3_takeSort 52 = .ok (.invokevirtual 160, 3) := by decide +kernel
theorem dX3_takeSort_55 : decode cX3_takeSort 55 = .ok (.iconst (-1), 1) := by decide +kernel
theorem dX3_takeSort_56 : decode cX3_takeSort 56 = .ok (.if_icmp .eq 12, 3) := by decide +kernel
theorem dX3_takeSort_59 : decode cX3_takeSort 59 = .ok (.aload_n 0, 1) := by decide +kernel
theorem dX3_takeSort_60 : decode cX3_takeSort 60 = .ok (.getfield 32, 3) := by decide +kernel
theorem dX3_takeSort_63 : decode cX3_takeSort 63 = .ok (.iconst 3, 1) := by decide +kernel
theorem dX3_takeSort_64 : decode cX3_takeSort 64 = .ok (.invokevirtual 100, 3) := by decide +kernel
theorem dX3_takeSort_67 : decode cX3_takeSort 67 = .ok (.ireturn, 1) := by decide +kernel
theorem dX3_takeSort_68 : decode cX3_takeSort 68 = .ok (.aload_n 0, 1) := by decide +kernel
theorem dX3_takeSort_69 : decode cX3_takeSort 69 = .ok (.getfield 18, 3) := by decide +kernel
theorem dX3_takeSort_72 : decode cX3_takeSort 72 = .ok (.aload_n 0, 1) := by decide +kernel
theorem dX3_takeSort_73 : decode cX3_takeSort 73 = .ok (.getfield 12, 3) := by decide +kernel
theorem dX3_takeSort_76 : decode cX3_takeSort 76 = .ok (.getfield 157, 3) := by decide +kernel
theorem dX3_takeSort_79 : decode cX3_takeSort 79 = .ok (.aload_n 0, 1) := by decide +kernel
theorem dX3_takeSort_80 : decode cX3_takeSort 80 = .ok (.getfield 32, 3) := by decide +kernel
theorem dX3_takeSort_83 : decode cX3_takeSort 83 = .ok (.getfield 110, 3) := by decide +kernel
theorem dX3_takeSort_86 : decode cX3_takeSort 86 = .ok (.lastore, 1) := by decide +kernel
theorem dX3_takeSort_87 : decode cX3_takeSort 87 = .ok (.aload_n 0, 1) := by decide +kernel
theorem dX3_takeSort_88 : decode cX3_takeSort 88 = .ok (.getfield 12, 3) := by decide +kernel
theorem dX3_takeSort_91 : decode cX3_takeSort 91 = .ok (.dup, 1) := by decide +kernel
theorem dX3_takeSort_92 : decode cX3_takeSort 92 = .ok (.getfield 157, 3) := by decide +kernel
theorem dX3_takeSort_95 : decode cX3_takeSort 95 = .ok (.iconst 1, 1) := by decide +kernel
theorem dX3_takeSort_96 : decode cX3_takeSort 96 = .ok (.iadd, 1) := by decide +kernel
theorem dX3_takeSort_97 : decode cX3_takeSort 97 = .ok (.putfield 157, 3) := by decide +kernel
theorem dX3_takeSort_100 : decode cX3_takeSort 100 = .ok (.aload_n 0, 1) := by decide +kernel
theorem dX3_takeSort_101 : decode cX3_takeSort 101 = .ok (.getfield 32, 3) := by decide +kernel
theorem dX3_takeSort_104 : decode cX3_takeSort 104 = .ok (.invokevirtual 104, 3) := by decide +kernel
theorem dX3_takeSort_107 : decode cX3_takeSort 107 = .ok (.aload_n 0, 1) := by decide +kernel
theorem dX3_takeSort_108 : decode cX3_takeSort 108 = .ok (.getfield 32, 3) := by decide +kernel
theorem dX3_takeSort_111 : decode cX3_takeSort 111 = .ok (.invokevirtual 141, 3) := by decide +kernel
theorem dX3_takeSort_114 : decode cX3_takeSort 114 = .ok (.ireturn, 1) := by decide +kernel
theorem dX3_takeWash_0 : decode cX3_takeWash 0 = .ok (.aload_n 0, 1) := by decide +kernel
theorem dX3_takeWash_1 : decode cX3_takeWash 1 = .ok (.getfield 32, 3) := by decide +kernel
theorem dX3_takeWash_4 : decode cX3_takeWash 4 = .ok (.invokevirtual 104, 3) := by decide +kernel
theorem dX3_takeWash_7 : decode cX3_takeWash 7 = .ok (.aload_n 0, 1) := by decide +kernel
theorem dX3_takeWash_8 : decode cX3_takeWash 8 = .ok (.invokevirtual 163, 3) := by decide +kernel
theorem dX3_takeWash_11 : decode cX3_takeWash 11 = .ok (.istore_n 1, 1) := by decide +kernel
theorem dX3_takeWash_12 : decode cX3_takeWash 12 = .ok (.iload_n 1, 1) := by decide +kernel
theorem dX3_takeWash_13 : decode cX3_takeWash 13 = .ok (.iconst (-1), 1) := by decide +kernel
theorem dX3_takeWash_14 : decode cX3_takeWash 14 = .ok (.if_icmp .ne 5, 3) := by decide +kernel
theorem dX3_takeWash_17 : decode cX3_takeWash 17 = .ok (.iconst 0, 1) := by decide +kernel
theorem dX3_takeWash_18 : decode cX3_takeWash 18 = .ok (.ireturn, 1) := by decide +kernel
theorem dX3_takeWash_19 : decode cX3_takeWash 19 = .ok (.aload_n 0, 1) := by decide +kernel
theorem dX3_takeWash_20 : decode cX3_takeWash 20 = .ok (.getfield 32, 3) := by decide +kernel
theorem dX3_takeWash_23 : decode cX3_takeWash 23 = .ok (.invokevirtual 104, 3) := by decide +kernel
theorem dX3_takeWash_26 : decode cX3_takeWash 26 = .ok (.aload_n 0, 1) := by decide +kernel
theorem dX3_takeWash_27 : decode cX3_takeWash 27 = .ok (.invokevirtual 163, 3) := by decide +kernel
theorem dX3_takeWash_30 : decode cX3_takeWash 30 = .ok (.istore_n 2, 1) := by decide +kernel
theorem dX3_takeWash_31 : decode cX3_takeWash 31 = .ok (.iload_n 2, 1) := by decide +kernel
theorem dX3_takeWash_32 : decode cX3_takeWash 32 = .ok (.iconst (-1), 1) := by decide +kernel
theorem dX3_takeWash_33 : decode cX3_takeWash 33 = .ok (.if_icmp .ne 5, 3) := by decide +kernel
theorem dX3_takeWash_36 : decode cX3_takeWash 36 = .ok (.iconst 0, 1) := by decide +kernel
theorem dX3_takeWash_37 : decode cX3_takeWash 37 = .ok (.ireturn, 1) := by decide +kernel
theorem dX3_takeWash_38 : decode cX3_takeWash 38 = .ok (.iload_n 1, 1) := by decide +kernel
theorem dX3_takeWash_39 : decode cX3_takeWash 39 = .ok (.iload_n 2, 1) := by decide +kernel
theorem dX3_takeWash_40 : decode cX3_takeWash 40 = .ok (.if_icmp .eq 15, 3) := by decide +kernel
theorem dX3_takeWash_43 : decode cX3_takeWash 43 = .ok (.aload_n 0, 1) := by decide +kernel
theorem dX3_takeWash_44 : decode cX3_takeWash 44 = .ok (.getfield 12, 3) := by decide +kernel
theorem dX3_takeWash_47 : decode cX3_takeWash 47 = .ok (.iload_n 1, 1) := by decide +kernel
theorem dX3_takeWash_48 : decode cX3_takeWash 48 = .ok (.iload_n 2, 1) := by decide +kernel
theorem dX3_takeWash_49 : decode cX3_takeWash 49 = .ok (.invokevirtual 167, 3) := by decide +kernel
theorem dX3_takeWash_52 : decode cX3_takeWash 52 = .ok (.ifCond .eq 12, 3) := by decide +kernel
theorem dX3_takeWash_55 : decode cX3_takeWash 55 = .ok (.aload_n 0, 1) := by decide +kernel
theorem dX3_takeWash_56 : decode cX3_takeWash 56 = .ok (.getfield 32, 3) := by decide +kernel
theorem dX3_takeWash_59 : decode cX3_takeWash 59 = .ok (.iconst 5, 1) := by decide +kernel
theorem dX3_takeWash_60 : decode cX3_takeWash 60 = .ok (.invokevirtual 100, 3) := by decide +kernel
theorem dX3_takeWash_63 : decode cX3_takeWash 63 = .ok (.ireturn, 1) := by decide +kernel
theorem dX3_takeWash_64 : decode cX3_takeWash 64 = .ok (.aload_n 0, 1) := by decide +kernel
theorem dX3_takeWash_65 : decode cX3_takeWash 65 = .ok (.getfield 32, 3) := by decide +kernel
theorem dX3_takeWash_68 : decode cX3_takeWash 68 = .ok (.invokevirtual 104, 3) := by decide +kernel
theorem dX3_takeWash_71 : decode cX3_takeWash 71 = .ok (.aload_n 0, 1) := by decide +kernel
theorem dX3_takeWash_72 : decode cX3_takeWash 72 = .ok (.getfield 32, 3) := by decide +kernel
theorem dX3_takeWash_75 : decode cX3_takeWash 75 = .ok (.iconst 0, 1) := by decide +kernel
theorem dX3_takeWash_76 : decode cX3_takeWash 76 = .ok (.sipush 999, 3) := by decide +kernel
theorem dX3_takeWash_79 : decode cX3_takeWash 79 = .ok (.invokevirtual 125, 3) := by decide +kernel
theorem dX3_takeWash_82 : decode cX3_takeWash 82 = .ok (.ifCond .ne 5, 3) := by decide +kernel
theorem dX3_takeWash_85 : decode cX3_takeWash 85 = .ok (.iconst 0, 1) := by decide +kernel
theorem dX3_takeWash_86 : decode cX3_takeWash 86 = .ok (.ireturn, 1) := by decide +kernel
theorem dX3_takeWash_87 : decode cX3_takeWash 87 = .ok (.aload_n 0, 1) := by decide +kernel
theorem dX3_takeWash_88 : decode cX3_takeWash 88 = .ok (.getfield 12, 3) := by decide +kernel
theorem dX3_takeWash_91 : decode cX3_takeWash 91 = .ok (.getfield 170, 3) := by decide +kernel
theorem dX3_takeWash_94 : decode cX3_takeWash 94 = .ok (.iload_n 1, 1) := by decide +kernel
theorem dX3_takeWash_95 : decode cX3_takeWash 95 = .ok (.bipush 7, 2) := by decide +kernel
theorem dX3_takeWash_97 : decode cX3_takeWash 97 = .ok (.imul, 1) := by decide +kernel
theorem dX3_takeWash_98 : decode cX3_takeWash 98 = .ok (.iload_n 2, 1) := by decide +kernel
theorem dX3_takeWash_99 : decode cX3_takeWash 99 = .ok (.iadd, 1) := by decide +kernel
theorem dX3_takeWash_100 : decode cX3_takeWash 100 = .ok (.aload_n 0, 1) := by decide +kernel
theorem dX3_takeWash_101 : decode cX3_takeWash 101 = .ok (.getfield 32, 3) := by decide +kernel
theorem dX3_takeWash_104 : decode cX3_takeWash 104 = .ok (.getfield 132, 3) := by decide +kernel
theorem dX3_takeWash_107 : decode cX3_takeWash 107 = .ok (.iastore, 1) := by decide +kernel
theorem dX3_takeWash_108 : decode cX3_takeWash 108 = .ok (.aload_n 0, 1) := by decide +kernel
theorem dX3_takeWash_109 : decode cX3_takeWash 109 = .ok (.getfield 32, 3) := by decide +kernel
theorem dX3_takeWash_112 : decode cX3_takeWash 112 = .ok (.invokevirtual 141, 3) := by decide +kernel
theorem dX3_takeWash_115 : decode cX3_takeWash 115 = .ok (.ireturn, 1) := by decide +kernel
theorem dX3_sortHere_0 : decode cX3_sortHere 0 = .ok (.aload_n 0, 1) := by decide +kernel
theorem dX3_sortHere_1 : decode cX3_sortHere 1 = .ok (.invokevirtual 107, 3) := by decide +kernel
theorem dX3_sortHere_4 : decode cX3_sortHere 4 = .ok (.ifCond .ne 13, 3) := by decide +kernel
theorem dX3_sortHere_7 : decode cX3_sortHere 7 = .ok (.aload_n 0, 1) := by decide +kernel
theorem dX3_sortHere_8 : decode cX3_sortHere 8 = .ok (.getfield 32, 3) := by decide +kernel
theorem dX3_sortHere_11 : decode cX3_sortHere 11 = .ok (.invokevirtual 77, 3) := by decide +kernel
theorem dX3_sortHere_14 : decode cX3_sortHere 14 = .ok (.pop, 1) := by decide +kernel
theorem dX3_sortHere_15 : decode cX3_sortHere 15 = .ok (.iconst (-1), 1) := by decide +kernel
theorem dX3_sortHere_16 : decode cX3_sortHere 16 = .ok (.ireturn, 1) := by decide +kernel
theorem dX3_sortHere_17 : decode cX3_sortHere 17 = .ok (.aload_n 0, 1) := by decide +kernel
theorem dX3_sortHere_18 : decode cX3_sortHere 18 = .ok (.aload_n 0, 1) := by decide +kernel
theorem dX3_sortHere_19 : decode cX3_sortHere 19 = .ok (.getfield 32, 3) := by decide +kernel
theorem dX3_sortHere_22 : decode cX3_sortHere 22 = .ok (.getfield 110, 3) := by decide +kernel
theorem dX3_sortHere_25 : decode cX3_sortHere 25 = .ok (.invokevirtual 160, 3) := by decide +kernel
theorem dX3_sortHere_28 : decode cX3_sortHere 28 = .ok (.istore_n 1, 1) := by decide +kernel
theorem dX3_sortHere_29 : decode cX3_sortHere 29 = .ok (.iload_n 1, 1) := by decide +kernel
theorem dX3_sortHere_30 : decode cX3_sortHere 30 = .ok (.iconst (-1), 1) := by decide +kernel
theorem dX3_sortHere_31 : decode cX3_sortHere 31 = .ok (.if_icmp .ne 12, 3) := by decide +kernel
theorem dX3_sortHere_34 : decode cX3_sortHere 34 = .ok (.aload_n 0, 1) := by decide +kernel
theorem dX3_sortHere_35 : decode cX3_sortHere 35 = .ok (.getfield 32, 3) := by decide +kernel
theorem dX3_sortHere_38 : decode cX3_sortHere 38 = .ok (.iconst 3, 1) := by decide +kernel
theorem dX3_sortHere_39 : decode cX3_sortHere 39 = .ok (.invokevirtual 100, 3) := by decide +kernel
theorem dX3_sortHere_42 : decode cX3_sortHere 42 = .ok (.pop, 1) := by decide +kernel
theorem dX3_sortHere_43 : decode cX3_sortHere 43 = .ok (.iload_n 1, 1) := by decide +kernel
theorem dX3_sortHere_44 : decode cX3_sortHere 44 = .ok (.ireturn, 1) := by decide +kernel
theorem dX3_sortNamed_0 : decode cX3_sortNamed 0 = .ok (.iconst 0, 1) := by decide +kernel
theorem dX3_sortNamed_1 : decode cX3_sortNamed 1 = .ok (.istore_n 3, 1) := by decide +kernel
theorem dX3_sortNamed_2 : decode cX3_sortNamed 2 = .ok (.iload_n 3, 1) := by decide +kernel
theorem dX3_sortNamed_3 : decode cX3_sortNamed 3 = .ok (.aload_n 0, 1) := by decide +kernel
theorem dX3_sortNamed_4 : decode cX3_sortNamed 4 = .ok (.getfield 12, 3) := by decide +kernel
theorem dX3_sortNamed_7 : decode cX3_sortNamed 7 = .ok (.getfield 157, 3) := by decide +kernel
theorem dX3_sortNamed_10 : decode cX3_sortNamed 10 = .ok (.if_icmp .ge 22, 3) := by decide +kernel
theorem dX3_sortNamed_13 : decode cX3_sortNamed 13 = .ok (.aload_n 0, 1) := by decide +kernel
theorem dX3_sortNamed_14 : decode cX3_sortNamed 14 = .ok (.getfield 18, 3) := by decide +kernel
theorem dX3_sortNamed_17 : decode cX3_sortNamed 17 = .ok (.iload_n 3, 1) := by decide +kernel
theorem dX3_sortNamed_18 : decode cX3_sortNamed 18 = .ok (.laload, 1) := by decide +kernel
theorem dX3_sortNamed_19 : decode cX3_sortNamed 19 = .ok (.lload_n 1, 1) := by decide +kernel
theorem dX3_sortNamed_20 : decode cX3_sortNamed 20 = .ok (.lcmp, 1) := by decide +kernel
theorem dX3_sortNamed_21 : decode cX3_sortNamed 21 = .ok (.ifCond .ne 5, 3) := by decide +kernel
theorem dX3_sortNamed_24 : decode cX3_sortNamed 24 = .ok (.iload_n 3, 1) := by decide +kernel
theorem dX3_sortNamed_25 : decode cX3_sortNamed 25 = .ok (.ireturn, 1) := by decide +kernel
theorem dX3_sortNamed_26 : decode cX3_sortNamed 26 = .ok (.iinc 3 1, 3) := by decide +kernel
theorem dX3_sortNamed_29 : decode cX3_sortNamed 29 = .ok (.goto (-27), 3) := by decide +kernel
theorem dX3_sortNamed_32 : decode cX3_sortNamed 32 = .ok (.iconst (-1), 1) := by decide +kernel
theorem dX3_sortNamed_33 : decode cX3_sortNamed 33 = .ok (.ireturn, 1) := by decide +kernel
theorem dX4_init_0 : decode cX4_init 0 = .ok (.aload_n 0, 1) := by decide +kernel
theorem dX4_init_1 : decode cX4_init 1 = .ok (.invokespecial 1, 3) := by decide +kernel
theorem dX4_init_4 : decode cX4_init 4 = .ok (.aload_n 0, 1) := by decide +kernel
theorem dX4_init_5 : decode cX4_init 5 = .ok (.bipush 8, 2) := by decide +kernel
theorem dX4_init_7 : decode cX4_init 7 = .ok (.newarray .int, 2) := by decide +kernel
theorem dX4_init_9 : decode cX4_init 9 = .ok (.putfield 9, 3) := by decide +kernel
theorem dX4_init_12 : decode cX4_init 12 = .ok (.aload_n 0, 1) := by decide +kernel
theorem dX4_init_13 : decode cX4_init 13 = .ok (.iconst 0, 1) := by decide +kernel
theorem dX4_init_14 : decode cX4_init 14 = .ok (.putfield 13, 3) := by decide +kernel
theorem dX4_init_17 : decode cX4_init 17 = .ok (.aload_n 0, 1) := by decide +kernel
theorem dX4_init_18 : decode cX4_init 18 = .ok (.bipush 8, 2) := by decide +kernel
theorem dX4_init_20 : decode cX4_init 20 = .ok (.newarray .long, 2) := by decide +kernel
theorem dX4_init_22 : decode cX4_init 22 = .ok (.putfield 17, 3) := by decide +kernel
theorem dX4_init_25 : decode cX4_init 25 = .ok (.return_, 1) := by decide +kernel
theorem dX4_pack_0 : decode cX4_pack 0 = .ok (.aload_n 0, 1) := by decide +kernel
theorem dX4_pack_1 : decode cX4_pack 1 = .ok (.iload_n 2, 1) := by decide +kernel
theorem dX4_pack_2 : decode cX4_pack 2 = .ok (.putfield 13, 3) := by decide +kernel
theorem dX4_pack_5 : decode cX4_pack 5 = .ok (.aload_n 0, 1) := by decide +kernel
theorem dX4_pack_6 : decode cX4_pack 6 = .ok (.getfield 17, 3) := by decide +kernel
theorem dX4_pack_9 : decode cX4_pack 9 = .ok (.lconst 0, 1) := by decide +kernel
theorem dX4_pack_10 : decode cX4_pack 10 = .ok (.invokestatic 21, 3) := by decide +kernel
theorem dX4_pack_13 : decode cX4_pack 13 = .ok (.iconst 1, 1) := by decide +kernel
theorem dX4_pack_14 : decode cX4_pack 14 = .ok (.istore 4, 2) := by decide +kernel
theorem dX4_pack_16 : decode cX4_pack 16 = .ok (.iload 4, 2) := by decide +kernel
theorem dX4_pack_18 : decode cX4_pack 18 = .ok (.iload_n 2, 1) := by decide +kernel
theorem dX4_pack_19 : decode cX4_pack 19 = .ok (.if_icmp .ge 25, 3) := by decide +kernel
theorem dX4_pack_22 : decode cX4_pack 22 = .ok (.aload_n 0, 1) := by decide +kernel
theorem dX4_pack_23 : decode cX4_pack 23 = .ok (.aload_n 1, 1) := by decide +kernel
theorem dX4_pack_24 : decode cX4_pack 24 = .ok (.iconst 0, 1) := by decide +kernel
theorem dX4_pack_25 : decode cX4_pack 25 = .ok (.iconst 0, 1) := by decide +kernel
theorem dX4_pack_26 : decode cX4_pack 26 = .ok (.iload 4, 2) := by decide +kernel
theorem dX4_pack_28 : decode cX4_pack 28 = .ok (.iload_n 3, 1) := by decide +kernel
theorem dX4_pack_29 : decode cX4_pack 29 = .ok (.invokevirtual 27, 3) := by decide +kernel
theorem dX4_pack_32 : decode cX4_pack 32 = .ok (.ifCond .eq 6, 3) := by decide +kernel
theorem dX4_pack_35 : decode cX4_pack 35 = .ok (.iload 4, 2) := by decide +kernel
theorem dX4_pack_37 : decode cX4_pack 37 = .ok (.ireturn, 1) := by decide +kernel
theorem dX4_pack_38 : decode cX4_pack 38 = .ok (.iinc 4 1, 3) := by decide +kernel
theorem dX4_pack_41 : decode cX4_pack 41 = .ok (.goto (-25), 3) := by decide +kernel
theorem dX4_pack_44 : decode cX4_pack 44 = .ok (.aload_n 0, 1) := by decide +kernel
theorem dX4_pack_45 : decode cX4_pack 45 = .ok (.aload_n 1, 1) := by decide +kernel
theorem dX4_pack_46 : decode cX4_pack 46 = .ok (.iconst 0, 1) := by decide +kernel
theorem dX4_pack_47 : decode cX4_pack 47 = .ok (.iconst 0, 1) := by decide +kernel
theorem dX4_pack_48 : decode cX4_pack 48 = .ok (.iload_n 2, 1) := by decide +kernel
theorem dX4_pack_49 : decode cX4_pack 49 = .ok (.iload_n 3, 1) := by decide +kernel
theorem dX4_pack_50 : decode cX4_pack 50 = .ok (.invokevirtual 27, 3) := by decide +kernel
theorem dX4_pack_53 : decode cX4_pack 53 = .ok (.pop, 1) := by decide +kernel
theorem dX4_pack_54 : decode cX4_pack 54 = .ok (.iload_n 2, 1) := by decide +kernel
theorem dX4_pack_55 : decode cX4_pack 55 = .ok (.ireturn, 1) := by decide +kernel
theorem dX4_fits_0 : decode cX4_fits 0 = .ok (.iload_n 2, 1) := by decide +kernel
theorem dX4_fits_1 : decode cX4_fits 1 = .ok (.aload_n 0, 1) := by decide +kernel
theorem dX4_fits_2 : decode cX4_fits 2 = .ok (.getfield 13, 3) := by decide +kernel
theorem dX4_fits_5 : decode cX4_fits 5 = .ok (.if_icmp .lt 5, 3) := by decide +kernel
theorem dX4_fits_8 : decode cX4_fits 8 = .ok (.iconst 1, 1) := by decide +kernel
theorem dX4_fits_9 : decode cX4_fits 9 = .ok (.ireturn, 1) := by decide +kernel
theorem dX4_fits_10 : decode cX4_fits 10 = .ok (.iconst 0, 1) := by decide +kernel
theorem dX4_fits_11 : decode cX4_fits 11 = .ok (.istore 6, 2) := by decide +kernel
theorem dX4_fits_13 : decode cX4_fits 13 = .ok (.iload 6, 2) := by decide +kernel
theorem dX4_fits_15 : decode cX4_fits 15 = .ok (.iload_n 3, 1) := by decide +kernel
theorem dX4_fits_16 : decode cX4_fits 16 = .ok (.if_icmp .gt 96, 3) := by decide +kernel
theorem dX4_fits_19 : decode cX4_fits 19 = .ok (.iload 6, 2) := by decide +kernel
theorem dX4_fits_21 : decode cX4_fits 21 = .ok (.iload 4, 2) := by decide +kernel
theorem dX4_fits_23 : decode cX4_fits 23 = .ok (.if_icmp .ge 89, 3) := by decide +kernel
theorem dX4_fits_26 : decode cX4_fits 26 = .ok (.aload_n 0, 1) := by decide +kernel
theorem dX4_fits_27 : decode cX4_fits 27 = .ok (.getfield 17, 3) := by decide +kernel
theorem dX4_fits_30 : decode cX4_fits 30 = .ok (.iload 6, 2) := by decide +kernel
theorem dX4_fits_32 : decode cX4_fits 32 = .ok (.laload, 1) := by decide +kernel
theorem dX4_fits_33 : decode cX4_fits 33 = .ok (.aload_n 1, 1) := by decide +kernel
theorem dX4_fits_34 : decode cX4_fits 34 = .ok (.iload_n 2, 1) := by decide +kernel
theorem dX4_fits_35 : decode cX4_fits 35 = .ok (.laload, 1) := by decide +kernel
theorem dX4_fits_36 : decode cX4_fits 36 = .ok (.ladd, 1) := by decide +kernel
theorem dX4_fits_37 : decode cX4_fits 37 = .ok (.iload 5, 2) := by decide +kernel
theorem dX4_fits_39 : decode cX4_fits 39 = .ok (.i2l, 1) := by decide +kernel
theorem dX4_fits_40 : decode cX4_fits 40 = .ok (.lcmp, 1) := by decide +kernel
theorem dX4_fits_41 : decode cX4_fits 41 = .ok (.ifCond .le 6, 3) := by decide +kernel
theorem dX4_fits_44 : decode cX4_fits 44 = .ok (.goto 62, 3) := by decide +kernel
theorem dX4_fits_47 : decode cX4_fits 47 = .ok (.aload_n 0, 1) := by decide +kernel
theorem dX4_fits_48 : decode cX4_fits 48 = .ok (.getfield 17, 3) := by decide +kernel
theorem dX4_fits_51 : decode cX4_fits 51 = .ok (.iload 6, 2) := by decide +kernel
theorem dX4_fits_53 : decode cX4_fits 53 = .ok (.dup2, 1) := by decide +kernel
theorem dX4_fits_54 : decode cX4_fits 54 = .ok (.laload, 1) := by decide +kernel
theorem dX4_fits_55 : decode cX4_fits 55 = .ok (.aload_n 1, 1) := by decide +kernel
theorem dX4_fits_56 : decode cX4_fits 56 = .ok (.iload_n 2, 1) := by decide +kernel
theorem dX4_fits_57 : decode cX4_fits 57 = .ok (.laload, 1) := by decide +kernel
theorem dX4_fits_58 : decode cX4_fits 58 = .ok (.ladd, 1) := by decide +kernel
theorem dX4_fits_59 : decode cX4_fits 59 = .ok (.lastore, 1) := by decide +kernel
theorem dX4_fits_60 : decode cX4_fits 60 = .ok (.aload_n 0, 1) := by decide +kernel
theorem dX4_fits_61 : decode cX4_fits 61 = .ok (.getfield 9, 3) := by decide +kernel
theorem dX4_fits_64 : decode cX4_fits 64 = .ok (.iload_n 2, 1) := by decide +kernel
theorem dX4_fits_65 : decode cX4_fits 65 = .ok (.iload 6, 2) := by decide +kernel
theorem dX4_fits_67 : decode cX4_fits 67 = .ok (.iastore, 1) := by decide +kernel
theorem dX4_fits_68 : decode cX4_fits 68 = .ok (.aload_n 0, 1) := by decide +kernel
theorem dX4_fits_69 : decode cX4_fits 69 = .ok (.aload_n 1, 1) := by decide +kernel
theorem dX4_fits_70 : decode cX4_fits 70 = .ok (.iload_n 2, 1) := by decide +kernel
theorem dX4_fits_71 : decode cX4_fits 71 = .ok (.iconst 1, 1) := by decide +kernel
theorem dX4_fits_72 : decode cX4_fits 72 = .ok (.iadd, 1) := by decide +kernel
theorem dX4_fits_73 : decode cX4_fits 73 = .ok (.iload_n 3, 1) := by decide +kernel
theorem dX4_fits_74 : decode cX4_fits 74 = .ok (.iload 6, 2) := by decide +kernel
theorem dX4_fits_76 : decode cX4_fits 76 = .ok (.iconst 1, 1) := by decide +kernel
theorem dX4_fits_77 : decode cX4_fits 77 = .ok (.iadd, 1) := by decide +kernel
theorem dX4_fits_78 : decode cX4_fits 78 = .ok (.invokestatic 31, 3) := by decide +kernel
theorem dX4_fits_81 : decode cX4_fits 81 = .ok (.iload 4, 2) := by decide +kernel
theorem dX4_fits_83 : decode cX4_fits 83 = .ok (.iload 5, 2) := by decide +kernel
theorem dX4_fits_85 : decode cX4_fits 85 = .ok (.invokevirtual 27, 3) := by decide +kernel
theorem dX4_fits_88 : decode cX4_fits 88 = .ok (.ifCond .eq 5, 3) := by decide +kernel
theorem dX4_fits_91 : decode cX4_fits 91 = .ok (.iconst 1, 1) := by decide +kernel
theorem dX4_fits_92 : decode cX4_fits 92 = .ok (.ireturn, 1) := by decide +kernel
theorem dX4_fits_93 : decode cX4_fits 93 = .ok (.aload_n 0, 1) := by decide +kernel
theorem dX4_fits_94 : decode cX4_fits 94 = .ok (.getfield 17, 3) := by decide +kernel
theorem dX4_fits_97 : decode cX4_fits 97 = .ok (.iload 6, 2) := by decide +kernel
theorem dX4_fits_99 : decode cX4_fits 99 = .ok (.dup2, 1) := by decide +kernel
theorem dX4_fits_100 : decode cX4_fits 100 = .ok (.laload, 1) := by decide +kernel
theorem dX4_fits_101 : decode cX4_fits 101 = .ok (.aload_n 1, 1) := by decide +kernel
theorem dX4_fits_102 : decode cX4_fits 102 = .ok (.iload_n 2, 1) := by decide +kernel
theorem dX4_fits_103 : decode cX4_fits 103 = .ok (.laload, 1) := by decide +kernel
theorem dX4_fits_104 : decode cX4_fits 104 = .ok (.lsub, 1) := by decide +kernel
theorem dX4_fits_105 : decode cX4_fits 105 = .ok (.lastore, 1) := by decide +kernel
theorem dX4_fits_106 : decode cX4_fits 106 = .ok (.iinc 6 1, 3) := by decide +kernel
theorem dX4_fits_109 : decode cX4_fits 109 = .ok (.goto (-96), 3) := by decide +kernel
theorem dX4_fits_112 : decode cX4_fits 112 = .ok (.iconst 0, 1) := by decide +kernel
theorem dX4_fits_113 : decode cX4_fits 113 = .ok (.ireturn, 1) := by decide +kernel
theorem dX5_init_0 : decode cX5_init 0 = .ok (.aload_n 0, 1) := by decide +kernel
theorem dX5_init_1 : decode cX5_init 1 = .ok (.invokespecial 3, 3) := by decide +kernel
theorem dX5_init_4 : decode cX5_init 4 = .ok (.aload_n 0, 1) := by decide +kernel
theorem dX5_init_5 : decode cX5_init 5 = .ok (.new 9, 3) := by decide +kernel
theorem dX5_init_8 : decode cX5_init 8 = .ok (.dup, 1) := by decide +kernel
theorem dX5_init_9 : decode cX5_init 9 = .ok (.invokespecial 11, 3) := by decide +kernel
theorem dX5_init_12 : decode cX5_init 12 = .ok (.putfield 12, 3) := by decide +kernel
theorem dX5_init_15 : decode cX5_init 15 = .ok (.aload_n 0, 1) := by decide +kernel
theorem dX5_init_16 : decode cX5_init 16 = .ok (.bipush 6, 2) := by decide +kernel
theorem dX5_init_18 : decode cX5_init 18 = .ok (.newarray .long, 2) := by decide +kernel
theorem dX5_init_20 : decode cX5_init 20 = .ok (.putfield 18, 3) := by decide +kernel
theorem dX5_init_23 : decode cX5_init 23 = .ok (.aload_n 0, 1) := by decide +kernel
theorem dX5_init_24 : decode cX5_init 24 = .ok (.bipush 6, 2) := by decide +kernel
theorem dX5_init_26 : decode cX5_init 26 = .ok (.newarray .int, 2) := by decide +kernel
theorem dX5_init_28 : decode cX5_init 28 = .ok (.putfield 22, 3) := by decide +kernel
theorem dX5_init_31 : decode cX5_init 31 = .ok (.aload_n 0, 1) := by decide +kernel
theorem dX5_init_32 : decode cX5_init 32 = .ok (.bipush 49, 2) := by decide +kernel
theorem dX5_init_34 : decode cX5_init 34 = .ok (.newarray .int, 2) := by decide +kernel
theorem dX5_init_36 : decode cX5_init 36 = .ok (.putfield 26, 3) := by decide +kernel
theorem dX5_init_39 : decode cX5_init 39 = .ok (.aload_n 0, 1) := by decide +kernel
theorem dX5_init_40 : decode cX5_init 40 = .ok (.iconst 0, 1) := by decide +kernel
theorem dX5_init_41 : decode cX5_init 41 = .ok (.putfield 29, 3) := by decide +kernel
theorem dX5_init_44 : decode cX5_init 44 = .ok (.return_, 1) := by decide +kernel
theorem dX5_clear_0 : decode cX5_clear 0 = .ok (.aload_n 0, 1) := by decide +kernel
theorem dX5_clear_1 : decode cX5_clear 1 = .ok (.getfield 12, 3) := by decide +kernel
theorem dX5_clear_4 : decode cX5_clear 4 = .ok (.iconst 0, 1) := by decide +kernel
theorem dX5_clear_5 : decode cX5_clear 5 = .ok (.putfield 33, 3) := by decide +kernel
theorem dX5_clear_8 : decode cX5_clear 8 = .ok (.aload_n 0, 1) := by decide +kernel
theorem dX5_clear_9 : decode cX5_clear 9 = .ok (.getfield 12, 3) := by decide +kernel
theorem dX5_clear_12 : decode cX5_clear 12 = .ok (.iconst 0, 1) := by decide +kernel
theorem dX5_clear_13 : decode cX5_clear 13 = .ok (.invokevirtual 36, 3) := by decide +kernel
theorem dX5_clear_16 : decode cX5_clear 16 = .ok (.aload_n 0, 1) := by decide +kernel
theorem dX5_clear_17 : decode cX5_clear 17 = .ok (.iconst 0, 1) := by decide +kernel
theorem dX5_clear_18 : decode cX5_clear 18 = .ok (.putfield 29, 3) := by decide +kernel
theorem dX5_clear_21 : decode cX5_clear 21 = .ok (.aload_n 0, 1) := by decide +kernel
theorem dX5_clear_22 : decode cX5_clear 22 = .ok (.getfield 26, 3) := by decide +kernel
theorem dX5_clear_25 : decode cX5_clear 25 = .ok (.iconst (-1), 1) := by decide +kernel
theorem dX5_clear_26 : decode cX5_clear 26 = .ok (.invokestatic 40, 3) := by decide +kernel
theorem dX5_clear_29 : decode cX5_clear 29 = .ok (.return_, 1) := by decide +kernel
theorem dX5_copy_0 : decode cX5_copy 0 = .ok (.aload_n 0, 1) := by decide +kernel
theorem dX5_copy_1 : decode cX5_copy 1 = .ok (.getfield 12, 3) := by decide +kernel
theorem dX5_copy_4 : decode cX5_copy 4 = .ok (.aload_n 1, 1) := by decide +kernel
theorem dX5_copy_5 : decode cX5_copy 5 = .ok (.getfield 12, 3) := by decide +kernel
theorem dX5_copy_8 : decode cX5_copy 8 = .ok (.invokevirtual 46, 3) := by decide +kernel
theorem dX5_copy_11 : decode cX5_copy 11 = .ok (.aload_n 1, 1) := by decide +kernel
theorem dX5_copy_12 : decode cX5_copy 12 = .ok (.getfield 18, 3) := by decide +kernel
theorem dX5_copy_15 : decode cX5_copy 15 = .ok (.iconst 0, 1) := by decide +kernel
theorem dX5_copy_16 : decode cX5_copy 16 = .ok (.aload_n 0, 1) := by decide +kernel
theorem dX5_copy_17 : decode cX5_copy 17 = .ok (.getfield 18, 3) := by decide +kernel
theorem dX5_copy_20 : decode cX5_copy 20 = .ok (.iconst 0, 1) := by decide +kernel
theorem dX5_copy_21 : decode cX5_copy 21 = .ok (.bipush 6, 2) := by decide +kernel
theorem dX5_copy_23 : decode cX5_copy 23 = .ok (.invokestatic 50, 3) := by decide +kernel
theorem dX5_copy_26 : decode cX5_copy 26 = .ok (.aload_n 1, 1) := by decide +kernel
theorem dX5_copy_27 : decode cX5_copy 27 = .ok (.getfield 22, 3) := by decide +kernel
theorem dX5_copy_30 : decode cX5_copy 30 = .ok (.iconst 0, 1) := by decide +kernel
theorem dX5_copy_31 : decode cX5_copy 31 = .ok (.aload_n 0, 1) := by decide +kernel
theorem dX5_copy_32 : decode cX5_copy 32 = .ok (.getfield 22, 3) := by decide +kernel
theorem dX5_copy_35 : decode cX5_copy 35 = .ok (.iconst 0, 1) := by decide +kernel
theorem dX5_copy_36 : decode cX5_copy 36 = .ok (.bipush 6, 2) := by decide +kernel
theorem dX5_copy_38 : decode cX5_copy 38 = .ok (.invokestatic 50, 3) := by decide +kernel
theorem dX5_copy_41 : decode cX5_copy 41 = .ok (.aload_n 1, 1) := by decide +kernel
theorem dX5_copy_42 : decode cX5_copy 42 = .ok (.getfield 26, 3) := by decide +kernel
theorem dX5_copy_45 : decode cX5_copy 45 = .ok (.iconst 0, 1) := by decide +kernel
theorem dX5_copy_46 : decode cX5_copy 46 = .ok (.aload_n 0, 1) := by decide +kernel
theorem dX5_copy_47 : decode cX5_copy 47 = .ok (.getfield 26, 3) := by decide +kernel
theorem dX5_copy_50 : decode cX5_copy 50 = .ok (.iconst 0, 1) := by decide +kernel
theorem dX5_copy_51 : decode cX5_copy 51 = .ok (.bipush 49, 2) := by decide +kernel
theorem dX5_copy_53 : decode cX5_copy 53 = .ok (.invokestatic 50, 3) := by decide +kernel
theorem dX5_copy_56 : decode cX5_copy 56 = .ok (.aload_n 0, 1) := by decide +kernel
theorem dX5_copy_57 : decode cX5_copy 57 = .ok (.aload_n 1, 1) := by decide +kernel
theorem dX5_copy_58 : decode cX5_copy 58 = .ok (.getfield 29, 3) := by decide +kernel
theorem dX5_copy_61 : decode cX5_copy 61 = .ok (.putfield 29, 3) := by decide +kernel
theorem dX5_copy_64 : decode cX5_copy 64 = .ok (.return_, 1) := by decide +kernel
theorem dX5_machineNamed_0 : decode cX5_machineNamed 0 = .ok (.iconst 0, 1) := by decide +kernel
theorem dX5_machineNamed_1 : decode cX5_machineNamed 1 = .ok (.istore_n 3, 1) := by decide +kernel
theorem dX5_machineNamed_2 : decode cX5_machineNamed 2 = .ok (.iload_n 3, 1) := by decide +kernel
theorem dX5_machineNamed_3 : decode cX5_machineNamed 3 = .ok (.aload_n 0, 1) := by decide +kernel
theorem dX5_machineNamed_4 : decode cX5_machineNamed 4 = .ok (.getfield 12, 3) := by decide +kernel
theorem dX5_machineNamed_7 : decode cX5_machineNamed 7 = .ok (.getfield 33, 3) := by decide +kernel
theorem dX5_machineNamed_10 : decode cX5_machineNamed 10 = .ok (.if_icmp .ge 22, 3) := by decide +kernel
theorem dX5_machineNamed_13 : decode cX5_machineNamed 13 = .ok (.aload_n 0, 1) := by decide +kernel
theorem dX5_machineNamed_14 : decode cX5_machineNamed 14 = .ok (.getfield 18, 3) := by decide +kernel
theorem dX5_machineNamed_17 : decode cX5_machineNamed 17 = .ok (.iload_n 3, 1) := by decide +kernel
theorem dX5_machineNamed_18 : decode cX5_machineNamed 18 = .ok (.laload, 1) := by decide +kernel
theorem dX5_machineNamed_19 : decode cX5_machineNamed 19 = .ok (.lload_n 1, 1) := by decide +kernel
theorem dX5_machineNamed_20 : decode cX5_machineNamed 20 = .ok (.lcmp, 1) := by decide +kernel
theorem dX5_machineNamed_21 : decode cX5_machineNamed 21 = .ok (.ifCond .ne 5, 3) := by decide +kernel
theorem dX5_machineNamed_24 : decode cX5_machineNamed 24 = .ok (.iload_n 3, 1) := by decide +kernel
theorem dX5_machineNamed_25 : decode cX5_machineNamed 25 = .ok (.ireturn, 1) := by decide +kernel
theorem dX5_machineNamed_26 : decode cX5_machineNamed 26 = .ok (.iinc 3 1, 3) := by decide +kernel
theorem dX5_machineNamed_29 : decode cX5_machineNamed 29 = .ok (.goto (-27), 3) := by decide +kernel
theorem dX5_machineNamed_32 : decode cX5_machineNamed 32 = .ok (.iconst (-1), 1) := by decide +kernel
theorem dX5_machineNamed_33 : decode cX5_machineNamed 33 = .ok (.ireturn, 1) := by decide +kernel
theorem dX5_washTold_0 : decode cX5_washTold 0 = .ok (.aload_n 0, 1) := by decide +kernel
theorem dX5_washTold_1 : decode cX5_washTold 1 = .ok (.getfield 26, 3) := by decide +kernel
theorem dX5_washTold_4 : decode cX5_washTold 4 = .ok (.iload_n 1, 1) := by decide +kernel
theorem dX5_washTold_5 : decode cX5_washTold 5 = .ok (.bipush 7, 2) := by decide +kernel
theorem dX5_washTold_7 : decode cX5_washTold 7 = .ok (.imul, 1) := by decide +kernel
theorem dX5_washTold_8 : decode cX5_washTold 8 = .ok (.iload_n 2, 1) := by decide +kernel
theorem dX5_washTold_9 : decode cX5_washTold 9 = .ok (.iadd, 1) := by decide +kernel
theorem dX5_washTold_10 : decode cX5_washTold 10 = .ok (.iaload, 1) := by decide +kernel
theorem dX5_washTold_11 : decode cX5_washTold 11 = .ok (.iconst (-1), 1) := by decide +kernel
theorem dX5_washTold_12 : decode cX5_washTold 12 = .ok (.if_icmp .eq 7, 3) := by decide +kernel
theorem dX5_washTold_15 : decode cX5_washTold 15 = .ok (.iconst 1, 1) := by decide +kernel
theorem dX5_washTold_16 : decode cX5_washTold 16 = .ok (.goto 4, 3) := by decide +kernel
theorem dX5_washTold_19 : decode cX5_washTold 19 = .ok (.iconst 0, 1) := by decide +kernel
theorem dX5_washTold_20 : decode cX5_washTold 20 = .ok (.ireturn, 1) := by decide +kernel
theorem dX5_washMinutes_0 : decode cX5_washMinutes 0 = .ok (.aload_n 0, 1) := by decide +kernel
theorem dX5_washMinutes_1 : decode cX5_washMinutes 1 = .ok (.iload_n 1, 1) := by decide +kernel
theorem dX5_washMinutes_2 : decode cX5_washMinutes 2 = .ok (.iload_n 2, 1) := by decide +kernel
theorem dX5_washMinutes_3 : decode cX5_washMinutes 3 = .ok (.invokevirtual 56, 3) := by decide +kernel
theorem dX5_washMinutes_6 : decode cX5_washMinutes 6 = .ok (.ifCond .eq 17, 3) := by decide +kernel
theorem dX5_washMinutes_9 : decode cX5_washMinutes 9 = .ok (.aload_n 0, 1) := by decide +kernel
theorem dX5_washMinutes_10 : decode cX5_washMinutes 10 = .ok (.getfield 26, 3) := by decide +kernel
theorem dX5_washMinutes_13 : decode cX5_washMinutes 13 = .ok (.iload_n 1, 1) := by decide +kernel
theorem dX5_washMinutes_14 : decode cX5_washMinutes 14 = .ok (.bipush 7, 2) := by decide +kernel
theorem dX5_washMinutes_16 : decode cX5_washMinutes 16 = .ok (.imul, 1) := by decide +kernel
theorem dX5_washMinutes_17 : decode cX5_washMinutes 17 = .ok (.iload_n 2, 1) := by decide +kernel
theorem dX5_washMinutes_18 : decode cX5_washMinutes 18 = .ok (.iadd, 1) := by decide +kernel
theorem dX5_washMinutes_19 : decode cX5_washMinutes 19 = .ok (.iaload, 1) := by decide +kernel
theorem dX5_washMinutes_20 : decode cX5_washMinutes 20 = .ok (.goto 5, 3) := by decide +kernel
theorem dX5_washMinutes_23 : decode cX5_washMinutes 23 = .ok (.bipush 10, 2) := by decide +kernel
theorem dX5_washMinutes_25 : decode cX5_washMinutes 25 = .ok (.ireturn, 1) := by decide +kernel
theorem dX6_init_0 : decode cX6_init 0 = .ok (.aload_n 0, 1) := by decide +kernel
theorem dX6_init_1 : decode cX6_init 1 = .ok (.invokespecial 1, 3) := by decide +kernel
theorem dX6_init_4 : decode cX6_init 4 = .ok (.aload_n 0, 1) := by decide +kernel
theorem dX6_init_5 : decode cX6_init 5 = .ok (.iconst 0, 1) := by decide +kernel
theorem dX6_init_6 : decode cX6_init 6 = .ok (.putfield 7, 3) := by decide +kernel
theorem dX6_init_9 : decode cX6_init 9 = .ok (.aload_n 0, 1) := by decide +kernel
theorem dX6_init_10 : decode cX6_init 10 = .ok (.bipush 30, 2) := by decide +kernel
theorem dX6_init_12 : decode cX6_init 12 = .ok (.newarray .int, 2) := by decide +kernel
theorem dX6_init_14 : decode cX6_init 14 = .ok (.putfield 13, 3) := by decide +kernel
theorem dX6_init_17 : decode cX6_init 17 = .ok (.aload_n 0, 1) := by decide +kernel
theorem dX6_init_18 : decode cX6_init 18 = .ok (.bipush 30, 2) := by decide +kernel
theorem dX6_init_20 : decode cX6_init 20 = .ok (.newarray .long, 2) := by decide +kernel
theorem dX6_init_22 : decode cX6_init 22 = .ok (.putfield 17, 3) := by decide +kernel
theorem dX6_init_25 : decode cX6_init 25 = .ok (.aload_n 0, 1) := by decide +kernel
theorem dX6_init_26 : decode cX6_init 26 = .ok (.bipush 30, 2) := by decide +kernel
theorem dX6_init_28 : decode cX6_init 28 = .ok (.newarray .int, 2) := by decide +kernel
theorem dX6_init_30 : decode cX6_init 30 = .ok (.putfield 21, 3) := by decide +kernel
theorem dX6_init_33 : decode cX6_init 33 = .ok (.aload_n 0, 1) := by decide +kernel
theorem dX6_init_34 : decode cX6_init 34 = .ok (.bipush 30, 2) := by decide +kernel
theorem dX6_init_36 : decode cX6_init 36 = .ok (.newarray .int, 2) := by decide +kernel
theorem dX6_init_38 : decode cX6_init 38 = .ok (.putfield 24, 3) := by decide +kernel
theorem dX6_init_41 : decode cX6_init 41 = .ok (.return_, 1) := by decide +kernel
theorem dX6_copy_0 : decode cX6_copy 0 = .ok (.aload_n 0, 1) := by decide +kernel
theorem dX6_copy_1 : decode cX6_copy 1 = .ok (.aload_n 1, 1) := by decide +kernel
theorem dX6_copy_2 : decode cX6_copy 2 = .ok (.getfield 7, 3) := by decide +kernel
theorem dX6_copy_5 : decode cX6_copy 5 = .ok (.putfield 7, 3) := by decide +kernel
theorem dX6_copy_8 : decode cX6_copy 8 = .ok (.aload_n 1, 1) := by decide +kernel
theorem dX6_copy_9 : decode cX6_copy 9 = .ok (.getfield 13, 3) := by decide +kernel
theorem dX6_copy_12 : decode cX6_copy 12 = .ok (.iconst 0, 1) := by decide +kernel
theorem dX6_copy_13 : decode cX6_copy 13 = .ok (.aload_n 0, 1) := by decide +kernel
theorem dX6_copy_14 : decode cX6_copy 14 = .ok (.getfield 13, 3) := by decide +kernel
theorem dX6_copy_17 : decode cX6_copy 17 = .ok (.iconst 0, 1) := by decide +kernel
theorem dX6_copy_18 : decode cX6_copy 18 = .ok (.bipush 30, 2) := by decide +kernel
theorem dX6_copy_20 : decode cX6_copy 20 = .ok (.invokestatic 27, 3) := by decide +kernel
theorem dX6_copy_23 : decode cX6_copy 23 = .ok (.aload_n 1, 1) := by decide +kernel
theorem dX6_copy_24 : decode cX6_copy 24 = .ok (.getfield 17, 3) := by decide +kernel
theorem dX6_copy_27 : decode cX6_copy 27 = .ok (.iconst 0, 1) := by decide +kernel
theorem dX6_copy_28 : decode cX6_copy 28 = .ok (.aload_n 0, 1) := by decide +kernel
theorem dX6_copy_29 : decode cX6_copy 29 = .ok (.getfield 17, 3) := by decide +kernel
theorem dX6_copy_32 : decode cX6_copy 32 = .ok (.iconst 0, 1) := by decide +kernel
theorem dX6_copy_33 : decode cX6_copy 33 = .ok (.bipush 30, 2) := by decide +kernel
theorem dX6_copy_35 : decode cX6_copy 35 = .ok (.invokestatic 27, 3) := by decide +kernel
theorem dX6_copy_38 : decode cX6_copy 38 = .ok (.aload_n 1, 1) := by decide +kernel
theorem dX6_copy_39 : decode cX6_copy 39 = .ok (.getfield 21, 3) := by decide +kernel
theorem dX6_copy_42 : decode cX6_copy 42 = .ok (.iconst 0, 1) := by decide +kernel
theorem dX6_copy_43 : decode cX6_copy 43 = .ok (.aload_n 0, 1) := by decide +kernel
theorem dX6_copy_44 : decode cX6_copy 44 = .ok (.getfield 21, 3) := by decide +kernel
theorem dX6_copy_47 : decode cX6_copy 47 = .ok (.iconst 0, 1) := by decide +kernel
theorem dX6_copy_48 : decode cX6_copy 48 = .ok (.bipush 30, 2) := by decide +kernel
theorem dX6_copy_50 : decode cX6_copy 50 = .ok (.invokestatic 27, 3) := by decide +kernel
theorem dX6_copy_53 : decode cX6_copy 53 = .ok (.aload_n 1, 1) := by decide +kernel
theorem dX6_copy_54 : decode cX6_copy 54 = .ok (.getfield 24, 3) := by decide +kernel
theorem dX6_copy_57 : decode cX6_copy 57 = .ok (.iconst 0, 1) := by decide +kernel
theorem dX6_copy_58 : decode cX6_copy 58 = .ok (.aload_n 0, 1) := by decide +kernel
theorem dX6_copy_59 : decode cX6_copy 59 = .ok (.getfield 24, 3) := by decide +kernel
theorem dX6_copy_62 : decode cX6_copy 62 = .ok (.iconst 0, 1) := by decide +kernel
theorem dX6_copy_63 : decode cX6_copy 63 = .ok (.bipush 30, 2) := by decide +kernel
theorem dX6_copy_65 : decode cX6_copy 65 = .ok (.invokestatic 27, 3) := by decide +kernel
theorem dX6_copy_68 : decode cX6_copy 68 = .ok (.return_, 1) := by decide +kernel
theorem dX7_init_0 : decode cX7_init 0 = .ok (.aload_n 0, 1) := by decide +kernel
theorem dX7_init_1 : decode cX7_init 1 = .ok (.invokespecial 3, 3) := by decide +kernel
theorem dX7_init_4 : decode cX7_init 4 = .ok (.aload_n 0, 1) := by decide +kernel
theorem dX7_init_5 : decode cX7_init 5 = .ok (.new 9, 3) := by decide +kernel
theorem dX7_init_8 : decode cX7_init 8 = .ok (.dup, 1) := by decide +kernel
theorem dX7_init_9 : decode cX7_init 9 = .ok (.invokespecial 11, 3) := by decide +kernel
theorem dX7_init_12 : decode cX7_init 12 = .ok (.putfield 12, 3) := by decide +kernel
theorem dX7_init_15 : decode cX7_init 15 = .ok (.aload_n 0, 1) := by decide +kernel
theorem dX7_init_16 : decode cX7_init 16 = .ok (.iconst 3, 1) := by decide +kernel
theorem dX7_init_17 : decode cX7_init 17 = .ok (.newarray .int, 2) := by decide +kernel
theorem dX7_init_19 : decode cX7_init 19 = .ok (.putfield 18, 3) := by decide +kernel
theorem dX7_init_22 : decode cX7_init 22 = .ok (.aload_n 0, 1) := by decide +kernel
theorem dX7_init_23 : decode cX7_init 23 = .ok (.iconst 0, 1) := by decide +kernel
theorem dX7_init_24 : decode cX7_init 24 = .ok (.putfield 22, 3) := by decide +kernel
theorem dX7_init_27 : decode cX7_init 27 = .ok (.aload_n 0, 1) := by decide +kernel
theorem dX7_init_28 : decode cX7_init 28 = .ok (.aload_n 1, 1) := by decide +kernel
theorem dX7_init_29 : decode cX7_init 29 = .ok (.putfield 26, 3) := by decide +kernel
theorem dX7_init_32 : decode cX7_init 32 = .ok (.return_, 1) := by decide +kernel
theorem dX7_takesAll_0 : decode cX7_takesAll 0 = .ok (.aload_n 0, 1) := by decide +kernel
theorem dX7_takesAll_1 : decode cX7_takesAll 1 = .ok (.getfield 12, 3) := by decide +kernel
theorem dX7_takesAll_4 : decode cX7_takesAll 4 = .ok (.iconst 0, 1) := by decide +kernel
theorem dX7_takesAll_5 : decode cX7_takesAll 5 = .ok (.putfield 30, 3) := by decide +kernel
theorem dX7_takesAll_8 : decode cX7_takesAll 8 = .ok (.aload_n 0, 1) := by decide +kernel
theorem dX7_takesAll_9 : decode cX7_takesAll 9 = .ok (.iconst 0, 1) := by decide +kernel
theorem dX7_takesAll_10 : decode cX7_takesAll 10 = .ok (.putfield 22, 3) := by decide +kernel
theorem dX7_takesAll_13 : decode cX7_takesAll 13 = .ok (.aload_n 0, 1) := by decide +kernel
theorem dX7_takesAll_14 : decode cX7_takesAll 14 = .ok (.getfield 26, 3) := by decide +kernel
theorem dX7_takesAll_17 : decode cX7_takesAll 17 = .ok (.iload_n 1, 1) := by decide +kernel
theorem dX7_takesAll_18 : decode cX7_takesAll 18 = .ok (.invokevirtual 33, 3) := by decide +kernel
theorem dX7_takesAll_21 : decode cX7_takesAll 21 = .ok (.iconst 0, 1) := by decide +kernel
theorem dX7_takesAll_22 : decode cX7_takesAll 22 = .ok (.istore_n 2, 1) := by decide +kernel
theorem dX7_takesAll_23 : decode cX7_takesAll 23 = .ok (.iload_n 2, 1) := by decide +kernel
theorem dX7_takesAll_24 : decode cX7_takesAll 24 = .ok (.sipush 300, 3) := by decide +kernel
theorem dX7_takesAll_27 : decode cX7_takesAll 27 = .ok (.if_icmp .gt 73, 3) := by decide +kernel
theorem dX7_takesAll_30 : decode cX7_takesAll 30 = .ok (.aload_n 0, 1) := by decide +kernel
theorem dX7_takesAll_31 : decode cX7_takesAll 31 = .ok (.getfield 26, 3) := by decide +kernel
theorem dX7_takesAll_34 : decode cX7_takesAll 34 = .ok (.getfield 38, 3) := by decide +kernel
theorem dX7_takesAll_37 : decode cX7_takesAll 37 = .ok (.ifCond .ne 26, 3) := by decide +kernel
theorem dX7_takesAll_40 : decode cX7_takesAll 40 = .ok (.aload_n 0, 1) := by decide +kernel
theorem dX7_takesAll_41 : decode cX7_takesAll 41 = .ok (.getfield 22, 3) := by decide +kernel
theorem dX7_takesAll_44 : decode cX7_takesAll 44 = .ok (.ifCond .eq 13, 3) := by decide +kernel
theorem dX7_takesAll_47 : decode cX7_takesAll 47 = .ok (.aload_n 0, 1) := by decide +kernel
theorem dX7_takesAll_48 : decode cX7_takesAll 48 = .ok (.getfield 26, 3) := by decide +kernel
theorem dX7_takesAll_51 : decode cX7_takesAll 51 = .ok (.invokevirtual 41, 3) := by decide +kernel
theorem dX7_takesAll_54 : decode cX7_takesAll 54 = .ok (.ifCond .eq 7, 3) := by decide +kernel
theorem dX7_takesAll_57 : decode cX7_takesAll 57 = .ok (.iconst 1, 1) := by decide +kernel
theorem dX7_takesAll_58 : decode cX7_takesAll 58 = .ok (.goto 4, 3) := by decide +kernel
theorem dX7_takesAll_61 : decode cX7_takesAll 61 = .ok (.iconst 0, 1) := by decide +kernel
theorem dX7_takesAll_62 : decode cX7_takesAll 62 = .ok (.ireturn, 1) := by decide +kernel
theorem dX7_takesAll_63 : decode cX7_takesAll 63 = .ok (.aload_n 0, 1) := by decide +kernel
theorem dX7_takesAll_64 : decode cX7_takesAll 64 = .ok (.getfield 26, 3) := by decide +kernel
theorem dX7_takesAll_67 : decode cX7_takesAll 67 = .ok (.ldc 45, 2) := by decide +kernel
theorem dX7_takesAll_69 : decode cX7_takesAll 69 = .ok (.invokevirtual 47, 3) := by decide +kernel
theorem dX7_takesAll_72 : decode cX7_takesAll 72 = .ok (.ifCond .eq 13, 3) := by decide +kernel
theorem dX7_takesAll_75 : decode cX7_takesAll 75 = .ok (.aload_n 0, 1) := by decide +kernel
theorem dX7_takesAll_76 : decode cX7_takesAll 76 = .ok (.invokevirtual 51, 3) := by decide +kernel
theorem dX7_takesAll_79 : decode cX7_takesAll 79 = .ok (.ifCond .eq 13, 3) := by decide +kernel
theorem dX7_takesAll_82 : decode cX7_takesAll 82 = .ok (.goto 12, 3) := by decide +kernel
theorem dX7_takesAll_85 : decode cX7_takesAll 85 = .ok (.aload_n 0, 1) := by decide +kernel
theorem dX7_takesAll_86 : decode cX7_takesAll 86 = .ok (.invokevirtual 54, 3) := by decide +kernel
theorem dX7_takesAll_89 : decode cX7_takesAll 89 = .ok (.ifCond .ne 5, 3) := by decide +kernel
theorem dX7_takesAll_92 : decode cX7_takesAll 92 = .ok (.iconst 0, 1) := by decide +kernel
theorem dX7_takesAll_93 : decode cX7_takesAll 93 = .ok (.ireturn, 1) := by decide +kernel
theorem dX7_takesAll_94 : decode cX7_takesAll 94 = .ok (.iinc 2 1, 3) := by decide +kernel
theorem dX7_takesAll_97 : decode cX7_takesAll 97 = .ok (.goto (-74), 3) := by decide +kernel
theorem dX7_takesAll_100 : decode cX7_takesAll 100 = .ok (.iconst 0, 1) := by decide +kernel
theorem dX7_takesAll_101 : decode cX7_takesAll 101 = .ok (.ireturn, 1) := by decide +kernel
theorem dX7_takeEnd_0 : decode cX7_takeEnd 0 = .ok (.aload_n 0, 1) := by decide +kernel
theorem dX7_takeEnd_1 : decode cX7_takeEnd 1 = .ok (.getfield 22, 3) := by decide +kernel
theorem dX7_takeEnd_4 : decode cX7_takeEnd 4 = .ok (.ifCond .ne 11, 3) := by decide +kernel
theorem dX7_takeEnd_7 : decode cX7_takeEnd 7 = .ok (.aload_n 0, 1) := by decide +kernel
theorem dX7_takeEnd_8 : decode cX7_takeEnd 8 = .ok (.getfield 26, 3) := by decide +kernel
theorem dX7_takeEnd_11 : decode cX7_takeEnd 11 = .ok (.invokevirtual 41, 3) := by decide +kernel
theorem dX7_takeEnd_14 : decode cX7_takeEnd 14 = .ok (.ireturn, 1) := by decide +kernel
theorem dX7_takeEnd_15 : decode cX7_takeEnd 15 = .ok (.aload_n 0, 1) := by decide +kernel
theorem dX7_takeEnd_16 : decode cX7_takeEnd 16 = .ok (.dup, 1) := by decide +kernel
theorem dX7_takeEnd_17 : decode cX7_takeEnd 17 = .ok (.getfield 22, 3) := by decide +kernel
theorem dX7_takeEnd_20 : decode cX7_takeEnd 20 = .ok (.iconst 1, 1) := by decide +kernel
theorem dX7_takeEnd_21 : decode cX7_takeEnd 21 = .ok (.isub, 1) := by decide +kernel
theorem dX7_takeEnd_22 : decode cX7_takeEnd 22 = .ok (.putfield 22, 3) := by decide +kernel
theorem dX7_takeEnd_25 : decode cX7_takeEnd 25 = .ok (.aload_n 0, 1) := by decide +kernel
theorem dX7_takeEnd_26 : decode cX7_takeEnd 26 = .ok (.getfield 12, 3) := by decide +kernel
theorem dX7_takeEnd_29 : decode cX7_takeEnd 29 = .ok (.getfield 57, 3) := by decide +kernel
theorem dX7_takeEnd_32 : decode cX7_takeEnd 32 = .ok (.aload_n 0, 1) := by decide +kernel
theorem dX7_takeEnd_33 : decode cX7_takeEnd 33 = .ok (.getfield 18, 3) := by decide +kernel
theorem dX7_takeEnd_36 : decode cX7_takeEnd 36 = .ok (.aload_n 0, 1) := by decide +kernel
theorem dX7_takeEnd_37 : decode cX7_takeEnd 37 = .ok (.getfield 22, 3) := by decide +kernel
theorem dX7_takeEnd_40 : decode cX7_takeEnd 40 = .ok (.iaload, 1) := by decide +kernel
theorem dX7_takeEnd_41 : decode cX7_takeEnd 41 = .ok (.aload_n 0, 1) := by decide +kernel
theorem dX7_takeEnd_42 : decode cX7_takeEnd 42 = .ok (.getfield 12, 3) := by decide +kernel
theorem dX7_takeEnd_45 : decode cX7_takeEnd 45 = .ok (.getfield 30, 3) := by decide +kernel
theorem dX7_takeEnd_48 : decode cX7_takeEnd 48 = .ok (.iastore, 1) := by decide +kernel
theorem dX7_takeEnd_49 : decode cX7_takeEnd 49 = .ok (.aload_n 0, 1) := by decide +kernel
theorem dX7_takeEnd_50 : decode cX7_takeEnd 50 = .ok (.getfield 26, 3) := by decide +kernel
theorem dX7_takeEnd_53 : decode cX7_takeEnd 53 = .ok (.invokevirtual 60, 3) := by decide +kernel
theorem dX7_takeEnd_56 : decode cX7_takeEnd 56 = .ok (.aload_n 0, 1) := by decide +kernel
theorem dX7_takeEnd_57 : decode cX7_takeEnd 57 = .ok (.getfield 26, 3) := by decide +kernel
theorem dX7_takeEnd_60 : decode cX7_takeEnd 60 = .ok (.invokevirtual 63, 3) := by decide +kernel
theorem dX7_takeEnd_63 : decode cX7_takeEnd 63 = .ok (.ireturn, 1) := by decide +kernel
theorem dX7_takeStep_0 : decode cX7_takeStep 0 = .ok (.aload_n 0, 1) := by decide +kernel
theorem dX7_takeStep_1 : decode cX7_takeStep 1 = .ok (.invokevirtual 66, 3) := by decide +kernel
theorem dX7_takeStep_4 : decode cX7_takeStep 4 = .ok (.istore_n 1, 1) := by decide +kernel
theorem dX7_takeStep_5 : decode cX7_takeStep 5 = .ok (.iload_n 1, 1) := by decide +kernel
theorem dX7_takeStep_6 : decode cX7_takeStep 6 = .ok (.iconst 4, 1) := by decide +kernel
theorem dX7_takeStep_7 : decode cX7_takeStep 7 = .ok (.if_icmp .eq 8, 3) := by decide +kernel
theorem dX7_takeStep_10 : decode cX7_takeStep 10 = .ok (.iload_n 1, 1) := by decide +kernel
theorem dX7_takeStep_11 : decode cX7_takeStep 11 = .ok (.iconst 5, 1) := by decide +kernel
theorem dX7_takeStep_12 : decode cX7_takeStep 12 = .ok (.if_icmp .ne 7, 3) := by decide +kernel
theorem dX7_takeStep_15 : decode cX7_takeStep 15 = .ok (.iconst 1, 1) := by decide +kernel
theorem dX7_takeStep_16 : decode cX7_takeStep 16 = .ok (.goto 4, 3) := by decide +kernel
theorem dX7_takeStep_19 : decode cX7_takeStep 19 = .ok (.iconst 0, 1) := by decide +kernel
theorem dX7_takeStep_20 : decode cX7_takeStep 20 = .ok (.istore_n 2, 1) := by decide +kernel
theorem dX7_takeStep_21 : decode cX7_takeStep 21 = .ok (.iload_n 1, 1) := by decide +kernel
theorem dX7_takeStep_22 : decode cX7_takeStep 22 = .ok (.iconst (-1), 1) := by decide +kernel
theorem dX7_takeStep_23 : decode cX7_takeStep 23 = .ok (.if_icmp .ne 11, 3) := by decide +kernel
theorem dX7_takeStep_26 : decode cX7_takeStep 26 = .ok (.aload_n 0, 1) := by decide +kernel
theorem dX7_takeStep_27 : decode cX7_takeStep 27 = .ok (.getfield 26, 3) := by decide +kernel
theorem dX7_takeStep_30 : decode cX7_takeStep 30 = .ok (.invokevirtual 41, 3) := by decide +kernel
theorem dX7_takeStep_33 : decode cX7_takeStep 33 = .ok (.ireturn, 1) := by decide +kernel
theorem dX7_takeStep_34 : decode cX7_takeStep 34 = .ok (.iload_n 2, 1) := by decide +kernel
theorem dX7_takeStep_35 : decode cX7_takeStep 35 = .ok (.ifCond .eq 20, 3) := by decide +kernel
theorem dX7_takeStep_38 : decode cX7_takeStep 38 = .ok (.aload_n 0, 1) := by decide +kernel
theorem dX7_takeStep_39 : decode cX7_takeStep 39 = .ok (.getfield 22, 3) := by decide +kernel
theorem dX7_takeStep_42 : decode cX7_takeStep 42 = .ok (.iconst 3, 1) := by decide +kernel
theorem dX7_takeStep_43 : decode cX7_takeStep 43 = .ok (.if_icmp .lt 12, 3) := by decide +kernel
theorem dX7_takeStep_46 : decode cX7_takeStep 46 = .ok (.aload_n 0, 1) := by decide +kernel
theorem dX7_takeStep_47 : decode cX7_takeStep 47 = .ok (.getfield 26, 3) := by decide +kernel
theorem dX7_takeStep_50 : decode cX7_takeStep 50 = .ok (.iconst 5, 1) := by decide +kernel
theorem dX7_takeStep_51 : decode cX7_takeStep 51 = .ok (.invokevirtual 70, 3) := by decide +kernel
theorem dX7_takeStep_54 : decode cX7_takeStep 54 = .ok (.ireturn, 1) := by decide +kernel
theorem dX7_takeStep_55 : decode cX7_takeStep 55 = .ok (.aload_n 0, 1) := by decide +kernel
theorem dX7_takeStep_56 : decode cX7_takeStep 56 = .ok (.getfield 12, 3) := by decide +kernel
theorem dX7_takeStep_59 : decode cX7_takeStep 59 = .ok (.getfield 30, 3) := by decide +kernel
theorem dX7_takeStep_62 : decode cX7_takeStep 62 = .ok (.bipush 30, 2) := by decide +kernel
theorem dX7_takeStep_64 : decode cX7_takeStep 64 = .ok (.if_icmp .lt 13, 3) := by decide +kernel
theorem dX7_takeStep_67 : decode cX7_takeStep 67 = .ok (.aload_n 0, 1) := by decide +kernel
theorem dX7_takeStep_68 : decode cX7_takeStep 68 = .ok (.getfield 26, 3) := by decide +kernel
theorem dX7_takeStep_71 : decode cX7_takeStep 71 = .ok (.bipush 6, 2) := by decide +kernel
theorem dX7_takeStep_73 : decode cX7_takeStep 73 = .ok (.invokevirtual 70, 3) := by decide +kernel
theorem dX7_takeStep_76 : decode cX7_takeStep 76 = .ok (.ireturn, 1) := by decide +kernel
theorem dX7_takeStep_77 : decode cX7_takeStep 77 = .ok (.aload_n 0, 1) := by decide +kernel
theorem dX7_takeStep_78 : decode cX7_takeStep 78 = .ok (.getfield 12, 3) := by decide +kernel
theorem dX7_takeStep_81 : decode cX7_takeStep 81 = .ok (.getfield 30, 3) := by decide +kernel
theorem dX7_takeStep_84 : decode cX7_takeStep 84 = .ok (.istore_n 3, 1) := by decide +kernel
theorem dX7_takeStep_85 : decode cX7_takeStep 85 = .ok (.aload_n 0, 1) := by decide +kernel
theorem dX7_takeStep_86 : decode cX7_takeStep 86 = .ok (.getfield 12, 3) := by decide +kernel
theorem dX7_takeStep_89 : decode cX7_takeStep 89 = .ok (.dup, 1) := by decide +kernel
theorem dX7_takeStep_90 : decode cX7_takeStep 90 = .ok (.getfield 30, 3) := by decide +kernel
theorem dX7_takeStep_93 : decode cX7_takeStep 93 = .ok (.iconst 1, 1) := by decide +kernel
theorem dX7_takeStep_94 : decode cX7_takeStep 94 = .ok (.iadd, 1) := by decide +kernel
theorem dX7_takeStep_95 : decode cX7_takeStep 95 = .ok (.putfield 30, 3) := by decide +kernel
theorem dX7_takeStep_98 : decode cX7_takeStep 98 = .ok (.aload_n 0, 1) := by decide +kernel
theorem dX7_takeStep_99 : decode cX7_takeStep 99 = .ok (.getfield 12, 3) := by decide +kernel
theorem dX7_takeStep_102 : decode cX7_takeStep 102 = .ok (.getfield 74, 3) := by decide +kernel
theorem dX7_takeStep_105 : decode cX7_takeStep 105 = .ok (.iload_n 3, 1) := by decide +kernel
theorem dX7_takeStep_106 : decode cX7_takeStep 106 = .ok (.iload_n 1, 1) := by decide +kernel
theorem dX7_takeStep_107 : decode cX7_takeStep 107 = .ok (.iastore, 1) := by decide +kernel
theorem dX7_takeStep_108 : decode cX7_takeStep 108 = .ok (.iload_n 2, 1) := by decide +kernel
theorem dX7_takeStep_109 : decode cX7_takeStep 109 = .ok (.ifCond .eq 23, 3) := by decide +kernel
theorem dX7_takeStep_112 : decode cX7_takeStep 112 = .ok (.aload_n 0, 1) := by decide +kernel
theorem dX7_takeStep_113 : decode cX7_takeStep 113 = .ok (.getfield 18, 3) := by decide +kernel
theorem dX7_takeStep_116 : decode cX7_takeStep 116 = .ok (.aload_n 0, 1) := by decide +kernel
theorem dX7_takeStep_117 : decode cX7_takeStep 117 = .ok (.getfield 22, 3) := by decide +kernel
theorem dX7_takeStep_120 : decode cX7_takeStep 120 = .ok (.iload_n 3, 1) := by decide +kernel
theorem dX7_takeStep_121 : decode cX7_takeStep 121 = .ok (.iastore, 1) := by decide +kernel
theorem dX7_takeStep_122 : decode cX7_takeStep 122 = .ok (.aload_n 0, 1) := by decide +kernel
theorem dX7_takeStep_123 : decode cX7_takeStep 123 = .ok (.dup, 1) := by decide +kernel
theorem dX7_takeStep_124 : decode cX7_takeStep 124 = .ok (.getfield 22, 3) := by decide +kernel
theorem dX7_takeStep_127 : decode cX7_takeStep 127 = .ok (.iconst 1, 1) := by decide +kernel
theorem dX7_takeStep_128 : decode cX7_takeStep 128 = .ok (.iadd, 1) := by decide +kernel
theorem dX7_takeStep_129 : decode cX7_takeStep 129 = .ok (.putfield 22, 3) := by decide +kernel
theorem dX7_takeStep_132 : decode cX7_takeStep 132 = .ok (.aload_n 0, 1) := by decide +kernel
theorem dX7_takeStep_133 : decode cX7_takeStep 133 = .ok (.getfield 26, 3) := by decide +kernel
theorem dX7_takeStep_136 : decode cX7_takeStep 136 = .ok (.invokevirtual 60, 3) := by decide +kernel
theorem dX7_takeStep_139 : decode cX7_takeStep 139 = .ok (.aload_n 0, 1) := by decide +kernel
theorem dX7_takeStep_140 : decode cX7_takeStep 140 = .ok (.iload_n 1, 1) := by decide +kernel
theorem dX7_takeStep_141 : decode cX7_takeStep 141 = .ok (.iload_n 3, 1) := by decide +kernel
theorem dX7_takeStep_142 : decode cX7_takeStep 142 = .ok (.invokevirtual 77, 3) := by decide +kernel
theorem dX7_takeStep_145 : decode cX7_takeStep 145 = .ok (.ifCond .eq 17, 3) := by decide +kernel
theorem dX7_takeStep_148 : decode cX7_takeStep 148 = .ok (.aload_n 0, 1) := by decide +kernel
theorem dX7_takeStep_149 : decode cX7_takeStep 149 = .ok (.getfield 26, 3) := by decide +kernel
theorem dX7_takeStep_152 : decode cX7_takeStep 152 = .ok (.invokevirtual 63, 3) := by decide +kernel
theorem dX7_takeStep_155 : decode cX7_takeStep 155 = .ok (.ifCond .eq 7, 3) := by decide +kernel
theorem dX7_takeStep_158 : decode cX7_takeStep 158 = .ok (.iconst 1, 1) := by decide +kernel
theorem dX7_takeStep_159 : decode cX7_takeStep 159 = .ok (.goto 4, 3) := by decide +kernel
theorem dX7_takeStep_162 : decode cX7_takeStep 162 = .ok (.iconst 0, 1) := by decide +kernel
theorem dX7_takeStep_163 : decode cX7_takeStep 163 = .ok (.ireturn, 1) := by decide +kernel
theorem dX7_kindHere_0 : decode cX7_kindHere 0 = .ok (.aload_n 0, 1) := by decide +kernel
theorem dX7_kindHere_1 : decode cX7_kindHere 1 = .ok (.getfield 26, 3) := by decide +kernel
theorem dX7_kindHere_4 : decode cX7_kindHere 4 = .ok (.ldc 81, 2) := by decide +kernel
theorem dX7_kindHere_6 : decode cX7_kindHere 6 = .ok (.invokevirtual 47, 3) := by decide +kernel
theorem dX7_kindHere_9 : decode cX7_kindHere 9 = .ok (.ifCond .eq 5, 3) := by decide +kernel
theorem dX7_kindHere_12 : decode cX7_kindHere 12 = .ok (.iconst 0, 1) := by decide +kernel
theorem dX7_kindHere_13 : decode cX7_kindHere 13 = .ok (.ireturn, 1) := by decide +kernel
theorem dX7_kindHere_14 : decode cX7_kindHere 14 = .ok (.aload_n 0, 1) := by decide +kernel
theorem dX7_kindHere_15 : decode cX7_kindHere 15 = .ok (.getfield 26, 3) := by decide +kernel
theorem dX7_kindHere_18 : decode cX7_kindHere 18 = .ok (.ldc 83, 2) := by decide +kernel
theorem dX7_kindHere_20 : decode cX7_kindHere 20 = .ok (.invokevirtual 47, 3) := by decide +kernel
theorem dX7_kindHere_23 : decode cX7_kindHere 23 = .ok (.ifCond .eq 5, 3) := by decide +kernel
theorem dX7_kindHere_26 : decode cX7_kindHere 26 = .ok (.iconst 1, 1) := by decide +kernel
theorem dX7_kindHere_27 : decode cX7_kindHere 27 = .ok (.ireturn, 1) := by decide +kernel
theorem dX7_kindHere_28 : decode cX7_kindHere 28 = .ok (.aload_n 0, 1) := by decide +kernel
theorem dX7_kindHere_29 : decode cX7_kindHere 29 = .ok (.getfield 26, 3) := by decide +kernel
theorem dX7_kindHere_32 : decode cX7_kindHere 32 = .ok (.ldc 85, 2) := by decide +kernel
theorem dX7_kindHere_34 : decode cX7_kindHere 34 = .ok (.invokevirtual 47, 3) := by decide +kernel
theorem dX7_kindHere_37 : decode cX7_kindHere 37 = .ok (.ifCond .eq 5, 3) := by decide +kernel
theorem dX7_kindHere_40 : decode cX7_kindHere 40 = .ok (.iconst 2, 1) := by decide +kernel
theorem dX7_kindHere_41 : decode cX7_kindHere 41 = .ok (.ireturn, 1) := by decide +kernel
theorem dX7_kindHere_42 : decode cX7_kindHere 42 = .ok (.aload_n 0, 1) := by decide +kernel
theorem dX7_kindHere_43 : decode cX7_kindHere 43 = .ok (.getfield 26, 3) := by decide +kernel
theorem dX7_kindHere_46 : decode cX7_kindHere 46 = .ok (.ldc 87, 2) := by decide +kernel
theorem dX7_kindHere_48 : decode cX7_kindHere 48 = .ok (.invokevirtual 47, 3) := by decide +kernel
theorem dX7_kindHere_51 : decode cX7_kindHere 51 = .ok (.ifCond .eq 5, 3) := by decide +kernel
theorem dX7_kindHere_54 : decode cX7_kindHere 54 = .ok (.iconst 3, 1) := by decide +kernel
theorem dX7_kindHere_55 : decode cX7_kindHere 55 = .ok (.ireturn, 1) := by decide +kernel
theorem dX7_kindHere_56 : decode cX7_kindHere 56 = .ok (.aload_n 0, 1) := by decide +kernel
theorem dX7_kindHere_57 : decode cX7_kindHere 57 = .ok (.getfield 26, 3) := by decide +kernel
theorem dX7_kindHere_60 : decode cX7_kindHere 60 = .ok (.ldc 89, 2) := by decide +kernel
theorem dX7_kindHere_62 : decode cX7_kindHere 62 = .ok (.invokevirtual 47, 3) := by decide +kernel
theorem dX7_kindHere_65 : decode cX7_kindHere 65 = .ok (.ifCond .eq 5, 3) := by decide +kernel
theorem dX7_kindHere_68 : decode cX7_kindHere 68 = .ok (.iconst 4, 1) := by decide +kernel
theorem dX7_kindHere_69 : decode cX7_kindHere 69 = .ok (.ireturn, 1) := by decide +kernel
theorem dX7_kindHere_70 : decode cX7_kindHere 70 = .ok (.aload_n 0, 1) := by decide +kernel
theorem dX7_kindHere_71 : decode cX7_kindHere 71 = .ok (.getfield 26, 3) := by decide +kernel
theorem dX7_kindHere_74 : decode cX7_kindHere 74 = .ok (.ldc 91, 2) := by decide +kernel
theorem dX7_kindHere_76 : decode cX7_kindHere 76 = .ok (.invokevirtual 47, 3) := by decide +kernel
theorem dX7_kindHere_79 : decode cX7_kindHere 79 = .ok (.ifCond .eq 7, 3) := by decide +kernel
theorem dX7_kindHere_82 : decode cX7_kindHere 82 = .ok (.iconst 5, 1) := by decide +kernel
theorem dX7_kindHere_83 : decode cX7_kindHere 83 = .ok (.goto 4, 3) := by decide +kernel
theorem dX7_kindHere_86 : decode cX7_kindHere 86 = .ok (.iconst (-1), 1) := by decide +kernel
theorem dX7_kindHere_87 : decode cX7_kindHere 87 = .ok (.ireturn, 1) := by decide +kernel
theorem dX7_takeDetails_0 : decode cX7_takeDetails 0 = .ok (.iload_n 1, 1) := by decide +kernel
theorem dX7_takeDetails_1 : decode cX7_takeDetails 1 = .ok (.tableswitch 129 0 5 #[39, 48, 73, 129, 98, 107], 39) := by decide +kernel
theorem dX7_takeDetails_40 : decode cX7_takeDetails 40 = .ok (.aload_n 0, 1) := by decide +kernel
theorem dX7_takeDetails_41 : decode cX7_takeDetails 41 = .ok (.iload_n 2, 1) := by decide +kernel
theorem dX7_takeDetails_42 : decode cX7_takeDetails 42 = .ok (.iconst 1, 1) := by decide +kernel
theorem dX7_takeDetails_43 : decode cX7_takeDetails 43 = .ok (.bipush 60, 2) := by decide +kernel
theorem dX7_takeDetails_45 : decode cX7_takeDetails 45 = .ok (.invokevirtual 93, 3) := by decide +kernel
theorem dX7_takeDetails_48 : decode cX7_takeDetails 48 = .ok (.ireturn, 1) := by decide +kernel
theorem dX7_takeDetails_49 : decode cX7_takeDetails 49 = .ok (.aload_n 0, 1) := by decide +kernel
theorem dX7_takeDetails_50 : decode cX7_takeDetails 50 = .ok (.iload_n 2, 1) := by decide +kernel
theorem dX7_takeDetails_51 : decode cX7_takeDetails 51 = .ok (.invokevirtual 97, 3) := by decide +kernel
theorem dX7_takeDetails_54 : decode cX7_takeDetails 54 = .ok (.ifCond .eq 18, 3) := by decide +kernel
theorem dX7_takeDetails_57 : decode cX7_takeDetails 57 = .ok (.aload_n 0, 1) := by decide +kernel
theorem dX7_takeDetails_58 : decode cX7_takeDetails 58 = .ok (.iload_n 2, 1) := by decide +kernel
theorem dX7_takeDetails_59 : decode cX7_takeDetails 59 = .ok (.iconst 1, 1) := by decide +kernel
theorem dX7_takeDetails_60 : decode cX7_takeDetails 60 = .ok (.bipush 99, 2) := by decide +kernel
theorem dX7_takeDetails_62 : decode cX7_takeDetails 62 = .ok (.invokevirtual 93, 3) := by decide +kernel
theorem dX7_takeDetails_65 : decode cX7_takeDetails 65 = .ok (.ifCond .eq 7, 3) := by decide +kernel
theorem dX7_takeDetails_68 : decode cX7_takeDetails 68 = .ok (.iconst 1, 1) := by decide +kernel
theorem dX7_takeDetails_69 : decode cX7_takeDetails 69 = .ok (.goto 4, 3) := by decide +kernel
theorem dX7_takeDetails_72 : decode cX7_takeDetails 72 = .ok (.iconst 0, 1) := by decide +kernel
theorem dX7_takeDetails_73 : decode cX7_takeDetails 73 = .ok (.ireturn, 1) := by decide +kernel
theorem dX7_takeDetails_74 : decode cX7_takeDetails 74 = .ok (.aload_n 0, 1) := by decide +kernel
theorem dX7_takeDetails_75 : decode cX7_takeDetails 75 = .ok (.iload_n 2, 1) := by decide +kernel
theorem dX7_takeDetails_76 : decode cX7_takeDetails 76 = .ok (.invokevirtual 97, 3) := by decide +kernel
theorem dX7_takeDetails_79 : decode cX7_takeDetails 79 = .ok (.ifCond .eq 18, 3) := by decide +kernel
theorem dX7_takeDetails_82 : decode cX7_takeDetails 82 = .ok (.aload_n 0, 1) := by decide +kernel
theorem dX7_takeDetails_83 : decode cX7_takeDetails 83 = .ok (.iload_n 2, 1) := by decide +kernel
theorem dX7_takeDetails_84 : decode cX7_takeDetails 84 = .ok (.iconst 0, 1) := by decide +kernel
theorem dX7_takeDetails_85 : decode cX7_takeDetails 85 = .ok (.bipush 99, 2) := by decide +kernel
theorem dX7_takeDetails_87 : decode cX7_takeDetails 87 = .ok (.invokevirtual 93, 3) := by decide +kernel
theorem dX7_takeDetails_90 : decode cX7_takeDetails 90 = .ok (.ifCond .eq 7, 3) := by decide +kernel
theorem dX7_takeDetails_93 : decode cX7_takeDetails 93 = .ok (.iconst 1, 1) := by decide +kernel
theorem dX7_takeDetails_94 : decode cX7_takeDetails 94 = .ok (.goto 4, 3) := by decide +kernel
theorem dX7_takeDetails_97 : decode cX7_takeDetails 97 = .ok (.iconst 0, 1) := by decide +kernel
theorem dX7_takeDetails_98 : decode cX7_takeDetails 98 = .ok (.ireturn, 1) := by decide +kernel
theorem dX7_takeDetails_99 : decode cX7_takeDetails 99 = .ok (.aload_n 0, 1) := by decide +kernel
theorem dX7_takeDetails_100 : decode cX7_takeDetails 100 = .ok (.iload_n 2, 1) := by decide +kernel
theorem dX7_takeDetails_101 : decode cX7_takeDetails 101 = .ok (.iconst 1, 1) := by decide +kernel
theorem dX7_takeDetails_102 : decode cX7_takeDetails 102 = .ok (.bipush 9, 2) := by decide +kernel
theorem dX7_takeDetails_104 : decode cX7_takeDetails 104 = .ok (.invokevirtual 93, 3) := by decide +kernel
theorem dX7_takeDetails_107 : decode cX7_takeDetails 107 = .ok (.ireturn, 1) := by decide +kernel
theorem dX7_takeDetails_108 : decode cX7_takeDetails 108 = .ok (.aload_n 0, 1) := by decide +kernel
theorem dX7_takeDetails_109 : decode cX7_takeDetails 109 = .ok (.iload_n 2, 1) := by decide +kernel
theorem dX7_takeDetails_110 : decode cX7_takeDetails 110 = .ok (.invokevirtual 97, 3) := by decide +kernel
theorem dX7_takeDetails_113 : decode cX7_takeDetails 113 = .ok (.ifCond .eq 15, 3) := by decide +kernel
theorem dX7_takeDetails_116 : decode cX7_takeDetails 116 = .ok (.aload_n 0, 1) := by decide +kernel
theorem dX7_takeDetails_117 : decode cX7_takeDetails 117 = .ok (.iload_n 2, 1) := by decide +kernel
theorem dX7_takeDetails_118 : decode cX7_takeDetails 118 = .ok (.invokevirtual 100, 3) := by decide +kernel
theorem dX7_takeDetails_121 : decode cX7_takeDetails 121 = .ok (.ifCond .eq 7, 3) := by decide +kernel
theorem dX7_takeDetails_124 : decode cX7_takeDetails 124 = .ok (.iconst 1, 1) := by decide +kernel
theorem dX7_takeDetails_125 : decode cX7_takeDetails 125 = .ok (.goto 4, 3) := by decide +kernel
theorem dX7_takeDetails_128 : decode cX7_takeDetails 128 = .ok (.iconst 0, 1) := by decide +kernel
theorem dX7_takeDetails_129 : decode cX7_takeDetails 129 = .ok (.ireturn, 1) := by decide +kernel
theorem dX7_takeDetails_130 : decode cX7_takeDetails 130 = .ok (.aload_n 0, 1) := by decide +kernel
theorem dX7_takeDetails_131 : decode cX7_takeDetails 131 = .ok (.iload_n 2, 1) := by decide +kernel
theorem dX7_takeDetails_132 : decode cX7_takeDetails 132 = .ok (.invokevirtual 97, 3) := by decide +kernel
theorem dX7_takeDetails_135 : decode cX7_takeDetails 135 = .ok (.ireturn, 1) := by decide +kernel
theorem dX7_takeAmount_0 : decode cX7_takeAmount 0 = .ok (.aload_n 0, 1) := by decide +kernel
theorem dX7_takeAmount_1 : decode cX7_takeAmount 1 = .ok (.getfield 26, 3) := by decide +kernel
theorem dX7_takeAmount_4 : decode cX7_takeAmount 4 = .ok (.iload_n 2, 1) := by decide +kernel
theorem dX7_takeAmount_5 : decode cX7_takeAmount 5 = .ok (.iload_n 3, 1) := by decide +kernel
theorem dX7_takeAmount_6 : decode cX7_takeAmount 6 = .ok (.invokevirtual 103, 3) := by decide +kernel
theorem dX7_takeAmount_9 : decode cX7_takeAmount 9 = .ok (.ifCond .ne 5, 3) := by decide +kernel
theorem dX7_takeAmount_12 : decode cX7_takeAmount 12 = .ok (.iconst 0, 1) := by decide +kernel
theorem dX7_takeAmount_13 : decode cX7_takeAmount 13 = .ok (.ireturn, 1) := by decide +kernel
theorem dX7_takeAmount_14 : decode cX7_takeAmount 14 = .ok (.aload_n 0, 1) := by decide +kernel
theorem dX7_takeAmount_15 : decode cX7_takeAmount 15 = .ok (.getfield 12, 3) := by decide +kernel
theorem dX7_takeAmount_18 : decode cX7_takeAmount 18 = .ok (.getfield 106, 3) := by decide +kernel
theorem dX7_takeAmount_21 : decode cX7_takeAmount 21 = .ok (.iload_n 1, 1) := by decide +kernel
theorem dX7_takeAmount_22 : decode cX7_takeAmount 22 = .ok (.aload_n 0, 1) := by decide +kernel
theorem dX7_takeAmount_23 : decode cX7_takeAmount 23 = .ok (.getfield 26, 3) := by decide +kernel
theorem dX7_takeAmount_26 : decode cX7_takeAmount 26 = .ok (.getfield 109, 3) := by decide +kernel
theorem dX7_takeAmount_29 : decode cX7_takeAmount 29 = .ok (.iastore, 1) := by decide +kernel
theorem dX7_takeAmount_30 : decode cX7_takeAmount 30 = .ok (.iconst 1, 1) := by decide +kernel
theorem dX7_takeAmount_31 : decode cX7_takeAmount 31 = .ok (.ireturn, 1) := by decide +kernel
theorem dX7_takeName_0 : decode cX7_takeName 0 = .ok (.aload_n 0, 1) := by decide +kernel
theorem dX7_takeName_1 : decode cX7_takeName 1 = .ok (.getfield 26, 3) := by decide +kernel
theorem dX7_takeName_4 : decode cX7_takeName 4 = .ok (.invokevirtual 112, 3) := by decide +kernel
theorem dX7_takeName_7 : decode cX7_takeName 7 = .ok (.ifCond .eq 31, 3) := by decide +kernel
theorem dX7_takeName_10 : decode cX7_takeName 10 = .ok (.aload_n 0, 1) := by decide +kernel
theorem dX7_takeName_11 : decode cX7_takeName 11 = .ok (.invokevirtual 66, 3) := by decide +kernel
theorem dX7_takeName_14 : decode cX7_takeName 14 = .ok (.iconst (-1), 1) := by decide +kernel
theorem dX7_takeName_15 : decode cX7_takeName 15 = .ok (.if_icmp .ne 23, 3) := by decide +kernel
theorem dX7_takeName_18 : decode cX7_takeName 18 = .ok (.aload_n 0, 1) := by decide +kernel
theorem dX7_takeName_19 : decode cX7_takeName 19 = .ok (.getfield 26, 3) := by decide +kernel
theorem dX7_takeName_22 : decode cX7_takeName 22 = .ok (.ldc 45, 2) := by decide +kernel
theorem dX7_takeName_24 : decode cX7_takeName 24 = .ok (.invokevirtual 47, 3) := by decide +kernel
theorem dX7_takeName_27 : decode cX7_takeName 27 = .ok (.ifCond .ne 11, 3) := by decide +kernel
theorem dX7_takeName_30 : decode cX7_takeName 30 = .ok (.aload_n 0, 1) := by decide +kernel
theorem dX7_takeName_31 : decode cX7_takeName 31 = .ok (.invokevirtual 115, 3) := by decide +kernel
theorem dX7_takeName_34 : decode cX7_takeName 34 = .ok (.iconst (-1), 1) := by decide +kernel
theorem dX7_takeName_35 : decode cX7_takeName 35 = .ok (.if_icmp .eq 11, 3) := by decide +kernel
theorem dX7_takeName_38 : decode cX7_takeName 38 = .ok (.aload_n 0, 1) := by decide +kernel
theorem dX7_takeName_39 : decode cX7_takeName 39 = .ok (.getfield 26, 3) := by decide +kernel
theorem dX7_takeName_42 : decode cX7_takeName 42 = .ok (.invokevirtual 41, 3) := by decide +kernel
theorem dX7_takeName_45 : decode cX7_takeName 45 = .ok (.ireturn, 1) := by decide +kernel
theorem dX7_takeName_46 : decode cX7_takeName 46 = .ok (.aload_n 0, 1) := by decide +kernel
theorem dX7_takeName_47 : decode cX7_takeName 47 = .ok (.getfield 12, 3) := by decide +kernel
theorem dX7_takeName_50 : decode cX7_takeName 50 = .ok (.getfield 118, 3) := by decide +kernel
theorem dX7_takeName_53 : decode cX7_takeName 53 = .ok (.iload_n 1, 1) := by decide +kernel
theorem dX7_takeName_54 : decode cX7_takeName 54 = .ok (.aload_n 0, 1) := by decide +kernel
theorem dX7_takeName_55 : decode cX7_takeName 55 = .ok (.getfield 26, 3) := by decide +kernel
theorem dX7_takeName_58 : decode cX7_takeName 58 = .ok (.getfield 122, 3) := by decide +kernel
theorem dX7_takeName_61 : decode cX7_takeName 61 = .ok (.lastore, 1) := by decide +kernel
theorem dX7_takeName_62 : decode cX7_takeName 62 = .ok (.aload_n 0, 1) := by decide +kernel
theorem dX7_takeName_63 : decode cX7_takeName 63 = .ok (.getfield 26, 3) := by decide +kernel
theorem dX7_takeName_66 : decode cX7_takeName 66 = .ok (.invokevirtual 60, 3) := by decide +kernel
theorem dX7_takeName_69 : decode cX7_takeName 69 = .ok (.iconst 1, 1) := by decide +kernel
theorem dX7_takeName_70 : decode cX7_takeName 70 = .ok (.ireturn, 1) := by decide +kernel
theorem dX7_takeState_0 : decode cX7_takeState 0 = .ok (.aload_n 0, 1) := by decide +kernel
theorem dX7_takeState_1 : decode cX7_takeState 1 = .ok (.invokevirtual 115, 3) := by decide +kernel
theorem dX7_takeState_4 : decode cX7_takeState 4 = .ok (.istore_n 2, 1) := by decide +kernel
theorem dX7_takeState_5 : decode cX7_takeState 5 = .ok (.iload_n 2, 1) := by decide +kernel
theorem dX7_takeState_6 : decode cX7_takeState 6 = .ok (.iconst (-1), 1) := by decide +kernel
theorem dX7_takeState_7 : decode cX7_takeState 7 = .ok (.if_icmp .ne 11, 3) := by decide +kernel
theorem dX7_takeState_10 : decode cX7_takeState 10 = .ok (.aload_n 0, 1) := by decide +kernel
theorem dX7_takeState_11 : decode cX7_takeState 11 = .ok (.getfield 26, 3) := by decide +kernel
theorem dX7_takeState_14 : decode cX7_takeState 14 = .ok (.invokevirtual 41, 3) := by decide +kernel
theorem dX7_takeState_17 : decode cX7_takeState 17 = .ok (.ireturn, 1) := by decide +kernel
theorem dX7_takeState_18 : decode cX7_takeState 18 = .ok (.aload_n 0, 1) := by decide +kernel
theorem dX7_takeState_19 : decode cX7_takeState 19 = .ok (.getfield 12, 3) := by decide +kernel
theorem dX7_takeState_22 : decode cX7_takeState 22 = .ok (.getfield 106, 3) := by decide +kernel
theorem dX7_takeState_25 : decode cX7_takeState 25 = .ok (.iload_n 1, 1) := by decide +kernel
theorem dX7_takeState_26 : decode cX7_takeState 26 = .ok (.iload_n 2, 1) := by decide +kernel
theorem dX7_takeState_27 : decode cX7_takeState 27 = .ok (.iastore, 1) := by decide +kernel
theorem dX7_takeState_28 : decode cX7_takeState 28 = .ok (.aload_n 0, 1) := by decide +kernel
theorem dX7_takeState_29 : decode cX7_takeState 29 = .ok (.getfield 26, 3) := by decide +kernel
theorem dX7_takeState_32 : decode cX7_takeState 32 = .ok (.invokevirtual 60, 3) := by decide +kernel
theorem dX7_takeState_35 : decode cX7_takeState 35 = .ok (.iconst 1, 1) := by decide +kernel
theorem dX7_takeState_36 : decode cX7_takeState 36 = .ok (.ireturn, 1) := by decide +kernel
theorem dX7_stateHere_0 : decode cX7_stateHere 0 = .ok (.aload_n 0, 1) := by decide +kernel
theorem dX7_stateHere_1 : decode cX7_stateHere 1 = .ok (.getfield 26, 3) := by decide +kernel
theorem dX7_stateHere_4 : decode cX7_stateHere 4 = .ok (.ldc 126, 2) := by decide +kernel
theorem dX7_stateHere_6 : decode cX7_stateHere 6 = .ok (.invokevirtual 47, 3) := by decide +kernel
theorem dX7_stateHere_9 : decode cX7_stateHere 9 = .ok (.ifCond .eq 5, 3) := by decide +kernel
theorem dX7_stateHere_12 : decode cX7_stateHere 12 = .ok (.iconst 0, 1) := by decide +kernel
theorem dX7_stateHere_13 : decode cX7_stateHere 13 = .ok (.ireturn, 1) := by decide +kernel
theorem dX7_stateHere_14 : decode cX7_stateHere 14 = .ok (.aload_n 0, 1) := by decide +kernel
theorem dX7_stateHere_15 : decode cX7_stateHere 15 = .ok (.getfield 26, 3) := by decide +kernel
theorem dX7_stateHere_18 : decode cX7_stateHere 18 = .ok (.ldc 130, 2) := by decide +kernel
theorem dX7_stateHere_20 : decode cX7_stateHere 20 = .ok (.invokevirtual 47, 3) := by decide +kernel
theorem dX7_stateHere_23 : decode cX7_stateHere 23 = .ok (.ifCond .eq 5, 3) := by decide +kernel
theorem dX7_stateHere_26 : decode cX7_stateHere 26 = .ok (.iconst 1, 1) := by decide +kernel
theorem dX7_stateHere_27 : decode cX7_stateHere 27 = .ok (.ireturn, 1) := by decide +kernel
theorem dX7_stateHere_28 : decode cX7_stateHere 28 = .ok (.aload_n 0, 1) := by decide +kernel
theorem dX7_stateHere_29 : decode cX7_stateHere 29 = .ok (.getfield 26, 3) := by decide +kernel
theorem dX7_stateHere_32 : decode cX7_stateHere 32 = .ok (.ldc 132, 2) := by decide +kernel
theorem dX7_stateHere_34 : decode cX7_stateHere 34 = .ok (.invokevirtual 47, 3) := by decide +kernel
theorem dX7_stateHere_37 : decode cX7_stateHere 37 = .ok (.ifCond .eq 5, 3) := by decide +kernel
theorem dX7_stateHere_40 : decode cX7_stateHere 40 = .ok (.iconst 2, 1) := by decide +kernel
theorem dX7_stateHere_41 : decode cX7_stateHere 41 = .ok (.ireturn, 1) := by decide +kernel
theorem dX7_stateHere_42 : decode cX7_stateHere 42 = .ok (.aload_n 0, 1) := by decide +kernel
theorem dX7_stateHere_43 : decode cX7_stateHere 43 = .ok (.getfield 26, 3) := by decide +kernel
theorem dX7_stateHere_46 : decode cX7_stateHere 46 = .ok (.ldc 134, 2) := by decide +kernel
theorem dX7_stateHere_48 : decode cX7_stateHere 48 = .ok (.invokevirtual 47, 3) := by decide +kernel
theorem dX7_stateHere_51 : decode cX7_stateHere 51 = .ok (.ifCond .eq 7, 3) := by decide +kernel
theorem dX7_stateHere_54 : decode cX7_stateHere 54 = .ok (.iconst 3, 1) := by decide +kernel
theorem dX7_stateHere_55 : decode cX7_stateHere 55 = .ok (.goto 4, 3) := by decide +kernel
theorem dX7_stateHere_58 : decode cX7_stateHere 58 = .ok (.iconst (-1), 1) := by decide +kernel
theorem dX7_stateHere_59 : decode cX7_stateHere 59 = .ok (.ireturn, 1) := by decide +kernel
theorem dX8_init_0 : decode cX8_init 0 = .ok (.aload_n 0, 1) := by decide +kernel
theorem dX8_init_1 : decode cX8_init 1 = .ok (.invokespecial 3, 3) := by decide +kernel
theorem dX8_init_4 : decode cX8_init 4 = .ok (.aload_n 0, 1) := by decide +kernel
theorem dX8_init_5 : decode cX8_init 5 = .ok (.sipush 700, 3) := by decide +kernel
theorem dX8_init_8 : decode cX8_init 8 = .ok (.newarray .byte, 2) := by decide +kernel
theorem dX8_init_10 : decode cX8_init 10 = .ok (.putfield 9, 3) := by decide +kernel
theorem dX8_init_13 : decode cX8_init 13 = .ok (.aload_n 0, 1) := by decide +kernel
theorem dX8_init_14 : decode cX8_init 14 = .ok (.iconst 0, 1) := by decide +kernel
theorem dX8_init_15 : decode cX8_init 15 = .ok (.putfield 15, 3) := by decide +kernel
theorem dX8_init_18 : decode cX8_init 18 = .ok (.aload_n 0, 1) := by decide +kernel
theorem dX8_init_19 : decode cX8_init 19 = .ok (.iconst 0, 1) := by decide +kernel
theorem dX8_init_20 : decode cX8_init 20 = .ok (.putfield 19, 3) := by decide +kernel
theorem dX8_init_23 : decode cX8_init 23 = .ok (.aload_n 0, 1) := by decide +kernel
theorem dX8_init_24 : decode cX8_init 24 = .ok (.iconst 0, 1) := by decide +kernel
theorem dX8_init_25 : decode cX8_init 25 = .ok (.putfield 22, 3) := by decide +kernel
theorem dX8_init_28 : decode cX8_init 28 = .ok (.aload_n 0, 1) := by decide +kernel
theorem dX8_init_29 : decode cX8_init 29 = .ok (.iconst 0, 1) := by decide +kernel
theorem dX8_init_30 : decode cX8_init 30 = .ok (.putfield 25, 3) := by decide +kernel
theorem dX8_init_33 : decode cX8_init 33 = .ok (.aload_n 0, 1) := by decide +kernel
theorem dX8_init_34 : decode cX8_init 34 = .ok (.iconst 0, 1) := by decide +kernel
theorem dX8_init_35 : decode cX8_init 35 = .ok (.putfield 28, 3) := by decide +kernel
theorem dX8_init_38 : decode cX8_init 38 = .ok (.aload_n 0, 1) := by decide +kernel
theorem dX8_init_39 : decode cX8_init 39 = .ok (.lconst 0, 1) := by decide +kernel
theorem dX8_init_40 : decode cX8_init 40 = .ok (.putfield 31, 3) := by decide +kernel
theorem dX8_init_43 : decode cX8_init 43 = .ok (.aload_n 0, 1) := by decide +kernel
theorem dX8_init_44 : decode cX8_init 44 = .ok (.iconst 0, 1) := by decide +kernel
theorem dX8_init_45 : decode cX8_init 45 = .ok (.putfield 35, 3) := by decide +kernel
theorem dX8_init_48 : decode cX8_init 48 = .ok (.aload_n 0, 1) := by decide +kernel
theorem dX8_init_49 : decode cX8_init 49 = .ok (.iconst 0, 1) := by decide +kernel
theorem dX8_init_50 : decode cX8_init 50 = .ok (.putfield 38, 3) := by decide +kernel
theorem dX8_init_53 : decode cX8_init 53 = .ok (.aload_n 0, 1) := by decide +kernel
theorem dX8_init_54 : decode cX8_init 54 = .ok (.iconst (-1), 1) := by decide +kernel
theorem dX8_init_55 : decode cX8_init 55 = .ok (.putfield 41, 3) := by decide +kernel
theorem dX8_init_58 : decode cX8_init 58 = .ok (.aload_n 0, 1) := by decide +kernel
theorem dX8_init_59 : decode cX8_init 59 = .ok (.iconst (-1), 1) := by decide +kernel
theorem dX8_init_60 : decode cX8_init 60 = .ok (.putfield 44, 3) := by decide +kernel
theorem dX8_init_63 : decode cX8_init 63 = .ok (.return_, 1) := by decide +kernel
theorem dX8_lay_0 : decode cX8_lay 0 = .ok (.bipush 24, 2) := by decide +kernel
theorem dX8_lay_2 : decode cX8_lay 2 = .ok (.istore_n 2, 1) := by decide +kernel
theorem dX8_lay_3 : decode cX8_lay 3 = .ok (.iload_n 2, 1) := by decide +kernel
theorem dX8_lay_4 : decode cX8_lay 4 = .ok (.ifCond .lt 42, 3) := by decide +kernel
theorem dX8_lay_7 : decode cX8_lay 7 = .ok (.aload_n 0, 1) := by decide +kernel
theorem dX8_lay_8 : decode cX8_lay 8 = .ok (.getfield 15, 3) := by decide +kernel
theorem dX8_lay_11 : decode cX8_lay 11 = .ok (.sipush 700, 3) := by decide +kernel
theorem dX8_lay_14 : decode cX8_lay 14 = .ok (.if_icmp .ge 26, 3) := by decide +kernel
theorem dX8_lay_17 : decode cX8_lay 17 = .ok (.aload_n 0, 1) := by decide +kernel
theorem dX8_lay_18 : decode cX8_lay 18 = .ok (.getfield 9, 3) := by decide +kernel
theorem dX8_lay_21 : decode cX8_lay 21 = .ok (.aload_n 0, 1) := by decide +kernel
theorem dX8_lay_22 : decode cX8_lay 22 = .ok (.getfield 15, 3) := by decide +kernel
theorem dX8_lay_25 : decode cX8_lay 25 = .ok (.iload_n 1, 1) := by decide +kernel
theorem dX8_lay_26 : decode cX8_lay 26 = .ok (.iload_n 2, 1) := by decide +kernel
theorem dX8_lay_27 : decode cX8_lay 27 = .ok (.ishr, 1) := by decide +kernel
theorem dX8_lay_28 : decode cX8_lay 28 = .ok (.i2b, 1) := by decide +kernel
theorem dX8_lay_29 : decode cX8_lay 29 = .ok (.bastore, 1) := by decide +kernel
theorem dX8_lay_30 : decode cX8_lay 30 = .ok (.aload_n 0, 1) := by decide +kernel
theorem dX8_lay_31 : decode cX8_lay 31 = .ok (.dup, 1) := by decide +kernel
theorem dX8_lay_32 : decode cX8_lay 32 = .ok (.getfield 15, 3) := by decide +kernel
theorem dX8_lay_35 : decode cX8_lay 35 = .ok (.iconst 1, 1) := by decide +kernel
theorem dX8_lay_36 : decode cX8_lay 36 = .ok (.iadd, 1) := by decide +kernel
theorem dX8_lay_37 : decode cX8_lay 37 = .ok (.putfield 15, 3) := by decide +kernel
theorem dX8_lay_40 : decode cX8_lay 40 = .ok (.iinc 2 (-8), 3) := by decide +kernel
theorem dX8_lay_43 : decode cX8_lay 43 = .ok (.goto (-40), 3) := by decide +kernel
theorem dX8_lay_46 : decode cX8_lay 46 = .ok (.return_, 1) := by decide +kernel
theorem dX8_open_0 : decode cX8_open 0 = .ok (.aload_n 0, 1) := by decide +kernel
theorem dX8_open_1 : decode cX8_open 1 = .ok (.iload_n 1, 1) := by decide +kernel
theorem dX8_open_2 : decode cX8_open 2 = .ok (.aload_n 0, 1) := by decide +kernel
theorem dX8_open_3 : decode cX8_open 3 = .ok (.getfield 15, 3) := by decide +kernel
theorem dX8_open_6 : decode cX8_open 6 = .ok (.invokestatic 47, 3) := by decide +kernel
theorem dX8_open_9 : decode cX8_open 9 = .ok (.putfield 19, 3) := by decide +kernel
theorem dX8_open_12 : decode cX8_open 12 = .ok (.aload_n 0, 1) := by decide +kernel
theorem dX8_open_13 : decode cX8_open 13 = .ok (.iconst 0, 1) := by decide +kernel
theorem dX8_open_14 : decode cX8_open 14 = .ok (.putfield 15, 3) := by decide +kernel
theorem dX8_open_17 : decode cX8_open 17 = .ok (.aload_n 0, 1) := by decide +kernel
theorem dX8_open_18 : decode cX8_open 18 = .ok (.iconst 0, 1) := by decide +kernel
theorem dX8_open_19 : decode cX8_open 19 = .ok (.putfield 22, 3) := by decide +kernel
theorem dX8_open_22 : decode cX8_open 22 = .ok (.aload_n 0, 1) := by decide +kernel
theorem dX8_open_23 : decode cX8_open 23 = .ok (.iconst 0, 1) := by decide +kernel
theorem dX8_open_24 : decode cX8_open 24 = .ok (.putfield 41, 3) := by decide +kernel
theorem dX8_open_27 : decode cX8_open 27 = .ok (.aload_n 0, 1) := by decide +kernel
theorem dX8_open_28 : decode cX8_open 28 = .ok (.iconst (-1), 1) := by decide +kernel
theorem dX8_open_29 : decode cX8_open 29 = .ok (.putfield 44, 3) := by decide +kernel
theorem dX8_open_32 : decode cX8_open 32 = .ok (.aload_n 0, 1) := by decide +kernel
theorem dX8_open_33 : decode cX8_open 33 = .ok (.invokevirtual 53, 3) := by decide +kernel
theorem dX8_open_36 : decode cX8_open 36 = .ok (.return_, 1) := by decide +kernel
theorem dX8_advance_0 : decode cX8_advance 0 = .ok (.aload_n 0, 1) := by decide +kernel
theorem dX8_advance_1 : decode cX8_advance 1 = .ok (.getfield 22, 3) := by decide +kernel
theorem dX8_advance_4 : decode cX8_advance 4 = .ok (.aload_n 0, 1) := by decide +kernel
theorem dX8_advance_5 : decode cX8_advance 5 = .ok (.getfield 19, 3) := by decide +kernel
theorem dX8_advance_8 : decode cX8_advance 8 = .ok (.if_icmp .ge 44, 3) := by decide +kernel
theorem dX8_advance_11 : decode cX8_advance 11 = .ok (.aload_n 0, 1) := by decide +kernel
theorem dX8_advance_12 : decode cX8_advance 12 = .ok (.getfield 9, 3) := by decide +kernel
theorem dX8_advance_15 : decode cX8_advance 15 = .ok (.aload_n 0, 1) := by decide +kernel
theorem dX8_advance_16 : decode cX8_advance 16 = .ok (.getfield 22, 3) := by decide +kernel
theorem dX8_advance_19 : decode cX8_advance 19 = .ok (.baload, 1) := by decide +kernel
theorem dX8_advance_20 : decode cX8_advance 20 = .ok (.bipush 32, 2) := by decide +kernel
theorem dX8_advance_22 : decode cX8_advance 22 = .ok (.if_icmp .eq 17, 3) := by decide +kernel
theorem dX8_advance_25 : decode cX8_advance 25 = .ok (.aload_n 0, 1) := by decide +kernel
theorem dX8_advance_26 : decode cX8_advance 26 = .ok (.getfield 9, 3) := by decide +kernel
theorem dX8_advance_29 : decode cX8_advance 29 = .ok (.aload_n 0, 1) := by decide +kernel
theorem dX8_advance_30 : decode cX8_advance 30 = .ok (.getfield 22, 3) := by decide +kernel
theorem dX8_advance_33 : decode cX8_advance 33 = .ok (.baload, 1) := by decide +kernel
theorem dX8_advance_34 : decode cX8_advance 34 = .ok (.bipush 10, 2) := by decide +kernel
theorem dX8_advance_36 : decode cX8_advance 36 = .ok (.if_icmp .ne 16, 3) := by decide +kernel
theorem dX8_advance_39 : decode cX8_advance 39 = .ok (.aload_n 0, 1) := by decide +kernel
theorem dX8_advance_40 : decode cX8_advance 40 = .ok (.dup, 1) := by decide +kernel
theorem dX8_advance_41 : decode cX8_advance 41 = .ok (.getfield 22, 3) := by decide +kernel
theorem dX8_advance_44 : decode cX8_advance 44 = .ok (.iconst 1, 1) := by decide +kernel
theorem dX8_advance_45 : decode cX8_advance 45 = .ok (.iadd, 1) := by decide +kernel
theorem dX8_advance_46 : decode cX8_advance 46 = .ok (.putfield 22, 3) := by decide +kernel
theorem dX8_advance_49 : decode cX8_advance 49 = .ok (.goto (-49), 3) := by decide +kernel
theorem dX8_advance_52 : decode cX8_advance 52 = .ok (.aload_n 0, 1) := by decide +kernel
theorem dX8_advance_53 : decode cX8_advance 53 = .ok (.aload_n 0, 1) := by decide +kernel
theorem dX8_advance_54 : decode cX8_advance 54 = .ok (.getfield 22, 3) := by decide +kernel
theorem dX8_advance_57 : decode cX8_advance 57 = .ok (.putfield 28, 3) := by decide +kernel
theorem dX8_advance_60 : decode cX8_advance 60 = .ok (.aload_n 0, 1) := by decide +kernel
theorem dX8_advance_61 : decode cX8_advance 61 = .ok (.getfield 22, 3) := by decide +kernel
theorem dX8_advance_64 : decode cX8_advance 64 = .ok (.aload_n 0, 1) := by decide +kernel
theorem dX8_advance_65 : decode cX8_advance 65 = .ok (.getfield 19, 3) := by decide +kernel
theorem dX8_advance_68 : decode cX8_advance 68 = .ok (.if_icmp .lt 11, 3) := by decide +kernel
theorem dX8_advance_71 : decode cX8_advance 71 = .ok (.aload_n 0, 1) := by decide +kernel
theorem dX8_advance_72 : decode cX8_advance 72 = .ok (.iconst 0, 1) := by decide +kernel
theorem dX8_advance_73 : decode cX8_advance 73 = .ok (.putfield 25, 3) := by decide +kernel
theorem dX8_advance_76 : decode cX8_advance 76 = .ok (.goto 106, 3) := by decide +kernel
theorem dX8_advance_79 : decode cX8_advance 79 = .ok (.aload_n 0, 1) := by decide +kernel
theorem dX8_advance_80 : decode cX8_advance 80 = .ok (.getfield 9, 3) := by decide +kernel
theorem dX8_advance_83 : decode cX8_advance 83 = .ok (.aload_n 0, 1) := by decide +kernel
theorem dX8_advance_84 : decode cX8_advance 84 = .ok (.getfield 22, 3) := by decide +kernel
theorem dX8_advance_87 : decode cX8_advance 87 = .ok (.baload, 1) := by decide +kernel
theorem dX8_advance_88 : decode cX8_advance 88 = .ok (.bipush 97, 2) := by decide +kernel
theorem dX8_advance_90 : decode cX8_advance 90 = .ok (.if_icmp .lt 24, 3) := by decide +kernel
theorem dX8_advance_93 : decode cX8_advance 93 = .ok (.aload_n 0, 1) := by decide +kernel
theorem dX8_advance_94 : decode cX8_advance 94 = .ok (.getfield 9, 3) := by decide +kernel
theorem dX8_advance_97 : decode cX8_advance 97 = .ok (.aload_n 0, 1) := by decide +kernel
theorem dX8_advance_98 : decode cX8_advance 98 = .ok (.getfield 22, 3) := by decide +kernel
theorem dX8_advance_101 : decode cX8_advance 101 = .ok (.baload, 1) := by decide +kernel
theorem dX8_advance_102 : decode cX8_advance 102 = .ok (.bipush 122, 2) := by decide +kernel
theorem dX8_advance_104 : decode cX8_advance 104 = .ok (.if_icmp .gt 10, 3) := by decide +kernel
theorem dX8_advance_107 : decode cX8_advance 107 = .ok (.aload_n 0, 1) := by decide +kernel
theorem dX8_advance_108 : decode cX8_advance 108 = .ok (.invokevirtual 56, 3) := by decide +kernel
theorem dX8_advance_111 : decode cX8_advance 111 = .ok (.goto 71, 3) := by decide +kernel
theorem dX8_advance_114 : decode cX8_advance 114 = .ok (.aload_n 0, 1) := by decide +kernel
theorem dX8_advance_115 : decode cX8_advance 115 = .ok (.getfield 9, 3) := by decide +kernel
theorem dX8_advance_118 : decode cX8_advance 118 = .ok (.aload_n 0, 1) := by decide +kernel
theorem dX8_advance_119 : decode cX8_advance 119 = .ok (.getfield 22, 3) := by decide +kernel
theorem dX8_advance_122 : decode cX8_advance 122 = .ok (.baload, 1) := by decide +kernel
theorem dX8_advance_123 : decode cX8_advance 123 = .ok (.bipush 48, 2) := by decide +kernel
theorem dX8_advance_125 : decode cX8_advance 125 = .ok (.if_icmp .lt 24, 3) := by decide +kernel
theorem dX8_advance_128 : decode cX8_advance 128 = .ok (.aload_n 0, 1) := by decide +kernel
theorem dX8_advance_129 : decode cX8_advance 129 = .ok (.getfield 9, 3) := by decide +kernel
theorem dX8_advance_132 : decode cX8_advance 132 = .ok (.aload_n 0, 1) := by decide +kernel
theorem dX8_advance_133 : decode cX8_advance 133 = .ok (.getfield 22, 3) := by decide +kernel
theorem dX8_advance_136 : decode cX8_advance 136 = .ok (.baload, 1) := by decide +kernel
theorem dX8_advance_137 : decode cX8_advance 137 = .ok (.bipush 57, 2) := by decide +kernel
theorem dX8_advance_139 : decode cX8_advance 139 = .ok (.if_icmp .gt 10, 3) := by decide +kernel
theorem dX8_advance_142 : decode cX8_advance 142 = .ok (.aload_n 0, 1) := by decide +kernel
theorem dX8_advance_143 : decode cX8_advance 143 = .ok (.invokevirtual 59, 3) := by decide +kernel
theorem dX8_advance_146 : decode cX8_advance 146 = .ok (.goto 36, 3) := by decide +kernel
theorem dX8_advance_149 : decode cX8_advance 149 = .ok (.aload_n 0, 1) := by decide +kernel
theorem dX8_advance_150 : decode cX8_advance 150 = .ok (.aload_n 0, 1) := by decide +kernel
theorem dX8_advance_151 : decode cX8_advance 151 = .ok (.getfield 9, 3) := by decide +kernel
theorem dX8_advance_154 : decode cX8_advance 154 = .ok (.aload_n 0, 1) := by decide +kernel
theorem dX8_advance_155 : decode cX8_advance 155 = .ok (.getfield 22, 3) := by decide +kernel
theorem dX8_advance_158 : decode cX8_advance 158 = .ok (.baload, 1) := by decide +kernel
theorem dX8_advance_159 : decode cX8_advance 159 = .ok (.bipush 59, 2) := by decide +kernel
theorem dX8_advance_161 : decode cX8_advance 161 = .ok (.if_icmp .ne 7, 3) := by decide +kernel
theorem dX8_advance_164 : decode cX8_advance 164 = .ok (.iconst 3, 1) := by decide +kernel
theorem dX8_advance_165 : decode cX8_advance 165 = .ok (.goto 4, 3) := by decide +kernel
theorem dX8_advance_168 : decode cX8_advance 168 = .ok (.iconst 4, 1) := by decide +kernel
theorem dX8_advance_169 : decode cX8_advance 169 = .ok (.putfield 25, 3) := by decide +kernel
theorem dX8_advance_172 : decode cX8_advance 172 = .ok (.aload_n 0, 1) := by decide +kernel
theorem dX8_advance_173 : decode cX8_advance 173 = .ok (.dup, 1) := by decide +kernel
theorem dX8_advance_174 : decode cX8_advance 174 = .ok (.getfield 22, 3) := by decide +kernel
theorem dX8_advance_177 : decode cX8_advance 177 = .ok (.iconst 1, 1) := by decide +kernel
theorem dX8_advance_178 : decode cX8_advance 178 = .ok (.iadd, 1) := by decide +kernel
theorem dX8_advance_179 : decode cX8_advance 179 = .ok (.putfield 22, 3) := by decide +kernel
theorem dX8_advance_182 : decode cX8_advance 182 = .ok (.return_, 1) := by decide +kernel
theorem dX8_readWord_0 : decode cX8_readWord 0 = .ok (.aload_n 0, 1) := by decide +kernel
theorem dX8_readWord_1 : decode cX8_readWord 1 = .ok (.iconst 1, 1) := by decide +kernel
theorem dX8_readWord_2 : decode cX8_readWord 2 = .ok (.putfield 25, 3) := by decide +kernel
theorem dX8_readWord_5 : decode cX8_readWord 5 = .ok (.aload_n 0, 1) := by decide +kernel
theorem dX8_readWord_6 : decode cX8_readWord 6 = .ok (.lconst 0, 1) := by decide +kernel
theorem dX8_readWord_7 : decode cX8_readWord 7 = .ok (.putfield 31, 3) := by decide +kernel
theorem dX8_readWord_10 : decode cX8_readWord 10 = .ok (.aload_n 0, 1) := by decide +kernel
theorem dX8_readWord_11 : decode cX8_readWord 11 = .ok (.getfield 22, 3) := by decide +kernel
theorem dX8_readWord_14 : decode cX8_readWord 14 = .ok (.aload_n 0, 1) := by decide +kernel
theorem dX8_readWord_15 : decode cX8_readWord 15 = .ok (.getfield 19, 3) := by decide +kernel
theorem dX8_readWord_18 : decode cX8_readWord 18 = .ok (.if_icmp .ge 70, 3) := by decide +kernel
theorem dX8_readWord_21 : decode cX8_readWord 21 = .ok (.aload_n 0, 1) := by decide +kernel
theorem dX8_readWord_22 : decode cX8_readWord 22 = .ok (.getfield 9, 3) := by decide +kernel
theorem dX8_readWord_25 : decode cX8_readWord 25 = .ok (.aload_n 0, 1) := by decide +kernel
theorem dX8_readWord_26 : decode cX8_readWord 26 = .ok (.getfield 22, 3) := by decide +kernel
theorem dX8_readWord_29 : decode cX8_readWord 29 = .ok (.baload, 1) := by decide +kernel
theorem dX8_readWord_30 : decode cX8_readWord 30 = .ok (.bipush 97, 2) := by decide +kernel
theorem dX8_readWord_32 : decode cX8_readWord 32 = .ok (.if_icmp .lt 56, 3) := by decide +kernel
theorem dX8_readWord_35 : decode cX8_readWord 35 = .ok (.aload_n 0, 1) := by decide +kernel
theorem dX8_readWord_36 : decode cX8_readWord 36 = .ok (.getfield 9, 3) := by decide +kernel
theorem dX8_readWord_39 : decode cX8_readWord 39 = .ok (.aload_n 0, 1) := by decide +kernel
theorem dX8_readWord_40 : decode cX8_readWord 40 = .ok (.getfield 22, 3) := by decide +kernel
theorem dX8_readWord_43 : decode cX8_readWord 43 = .ok (.baload, 1) := by decide +kernel
theorem dX8_readWord_44 : decode cX8_readWord 44 = .ok (.bipush 122, 2) := by decide +kernel
theorem dX8_readWord_46 : decode cX8_readWord 46 = .ok (.if_icmp .gt 42, 3) := by decide +kernel
theorem dX8_readWord_49 : decode cX8_readWord 49 = .ok (.aload_n 0, 1) := by decide +kernel
theorem dX8_readWord_50 : decode cX8_readWord 50 = .ok (.aload_n 0, 1) := by decide +kernel
theorem dX8_readWord_51 : decode cX8_readWord 51 = .ok (.getfield 31, 3) := by decide +kernel
theorem dX8_readWord_54 : decode cX8_readWord 54 = .ok (.iconst 5, 1) := by decide +kernel
theorem dX8_readWord_55 : decode cX8_readWord 55 = .ok (.lshl, 1) := by decide +kernel
theorem dX8_readWord_56 : decode cX8_readWord 56 = .ok (.aload_n 0, 1) := by decide +kernel
theorem dX8_readWord_57 : decode cX8_readWord 57 = .ok (.getfield 9, 3) := by decide +kernel
theorem dX8_readWord_60 : decode cX8_readWord 60 = .ok (.aload_n 0, 1) := by decide +kernel
theorem dX8_readWord_61 : decode cX8_readWord 61 = .ok (.getfield 22, 3) := by decide +kernel
theorem dX8_readWord_64 : decode cX8_readWord 64 = .ok (.baload, 1) := by decide +kernel
theorem dX8_readWord_65 : decode cX8_readWord 65 = .ok (.bipush 97, 2) := by decide +kernel
theorem dX8_readWord_67 : decode cX8_readWord 67 = .ok (.isub, 1) := by decide +kernel
theorem dX8_readWord_68 : decode cX8_readWord 68 = .ok (.iconst 1, 1) := by decide +kernel
theorem dX8_readWord_69 : decode cX8_readWord 69 = .ok (.iadd, 1) := by decide +kernel
theorem dX8_readWord_70 : decode cX8_readWord 70 = .ok (.i2l, 1) := by decide +kernel
theorem dX8_readWord_71 : decode cX8_readWord 71 = .ok (.lor, 1) := by decide +kernel
theorem dX8_readWord_72 : decode cX8_readWord 72 = .ok (.putfield 31, 3) := by decide +kernel
theorem dX8_readWord_75 : decode cX8_readWord 75 = .ok (.aload_n 0, 1) := by decide +kernel
theorem dX8_readWord_76 : decode cX8_readWord 76 = .ok (.dup, 1) := by decide +kernel
theorem dX8_readWord_77 : decode cX8_readWord 77 = .ok (.getfield 22, 3) := by decide +kernel
theorem dX8_readWord_80 : decode cX8_readWord 80 = .ok (.iconst 1, 1) := by decide +kernel
theorem dX8_readWord_81 : decode cX8_readWord 81 = .ok (.iadd, 1) := by decide +kernel
theorem dX8_readWord_82 : decode cX8_readWord 82 = .ok (.putfield 22, 3) := by decide +kernel
theorem dX8_readWord_85 : decode cX8_readWord 85 = .ok (.goto (-75), 3) := by decide +kernel
theorem dX8_readWord_88 : decode cX8_readWord 88 = .ok (.return_, 1) := by decide +kernel
theorem dX8_readNumber_0 : decode cX8_readNumber 0 = .ok (.aload_n 0, 1) := by decide +kernel
theorem dX8_readNumber_1 : decode cX8_readNumber 1 = .ok (.iconst 0, 1) := by decide +kernel
theorem dX8_readNumber_2 : decode cX8_readNumber 2 = .ok (.putfield 35, 3) := by decide +kernel
theorem dX8_readNumber_5 : decode cX8_readNumber 5 = .ok (.aload_n 0, 1) := by decide +kernel
theorem dX8_readNumber_6 : decode cX8_readNumber 6 = .ok (.getfield 22, 3) := by decide +kernel
theorem dX8_readNumber_9 : decode cX8_readNumber 9 = .ok (.aload_n 0, 1) := by decide +kernel
theorem dX8_readNumber_10 : decode cX8_readNumber 10 = .ok (.getfield 19, 3) := by decide +kernel
theorem dX8_readNumber_13 : decode cX8_readNumber 13 = .ok (.if_icmp .ge 68, 3) := by decide +kernel
theorem dX8_readNumber_16 : decode cX8_readNumber 16 = .ok (.aload_n 0, 1) := by decide +kernel
theorem dX8_readNumber_17 : decode cX8_readNumber 17 = .ok (.getfield 9, 3) := by decide +kernel
theorem dX8_readNumber_20 : decode cX8_readNumber 20 = .ok (.aload_n 0, 1) := by decide +kernel
theorem dX8_readNumber_21 : decode cX8_readNumber 21 = .ok (.getfield 22, 3) := by decide +kernel
theorem dX8_readNumber_24 : decode cX8_readNumber 24 = .ok (.baload, 1) := by decide +kernel
theorem dX8_readNumber_25 : decode cX8_readNumber 25 = .ok (.bipush 48, 2) := by decide +kernel
theorem dX8_readNumber_27 : decode cX8_readNumber 27 = .ok (.if_icmp .lt 54, 3) := by decide +kernel
theorem dX8_readNumber_30 : decode cX8_readNumber 30 = .ok (.aload_n 0, 1) := by decide +kernel
theorem dX8_readNumber_31 : decode cX8_readNumber 31 = .ok (.getfield 9, 3) := by decide +kernel
theorem dX8_readNumber_34 : decode cX8_readNumber 34 = .ok (.aload_n 0, 1) := by decide +kernel
theorem dX8_readNumber_35 : decode cX8_readNumber 35 = .ok (.getfield 22, 3) := by decide +kernel
theorem dX8_readNumber_38 : decode cX8_readNumber 38 = .ok (.baload, 1) := by decide +kernel
theorem dX8_readNumber_39 : decode cX8_readNumber 39 = .ok (.bipush 57, 2) := by decide +kernel
theorem dX8_readNumber_41 : decode cX8_readNumber 41 = .ok (.if_icmp .gt 40, 3) := by decide +kernel
theorem dX8_readNumber_44 : decode cX8_readNumber 44 = .ok (.aload_n 0, 1) := by decide +kernel
theorem dX8_readNumber_45 : decode cX8_readNumber 45 = .ok (.aload_n 0, 1) := by decide +kernel
theorem dX8_readNumber_46 : decode cX8_readNumber 46 = .ok (.getfield 35, 3) := by decide +kernel
theorem dX8_readNumber_49 : decode cX8_readNumber 49 = .ok (.bipush 10, 2) := by decide +kernel
theorem dX8_readNumber_51 : decode cX8_readNumber 51 = .ok (.imul, 1) := by decide +kernel
theorem dX8_readNumber_52 : decode cX8_readNumber 52 = .ok (.aload_n 0, 1) := by decide +kernel
theorem dX8_readNumber_53 : decode cX8_readNumber 53 = .ok (.getfield 9, 3) := by decide +kernel
theorem dX8_readNumber_56 : decode cX8_readNumber 56 = .ok (.aload_n 0, 1) := by decide +kernel
theorem dX8_readNumber_57 : decode cX8_readNumber 57 = .ok (.getfield 22, 3) := by decide +kernel
theorem dX8_readNumber_60 : decode cX8_readNumber 60 = .ok (.baload, 1) := by decide +kernel
theorem dX8_readNumber_61 : decode cX8_readNumber 61 = .ok (.iadd, 1) := by decide +kernel
theorem dX8_readNumber_62 : decode cX8_readNumber 62 = .ok (.bipush 48, 2) := by decide +kernel
theorem dX8_readNumber_64 : decode cX8_readNumber 64 = .ok (.isub, 1) := by decide +kernel
theorem dX8_readNumber_65 : decode cX8_readNumber 65 = .ok (.putfield 35, 3) := by decide +kernel
theorem dX8_readNumber_68 : decode cX8_readNumber 68 = .ok (.aload_n 0, 1) := by decide +kernel
theorem dX8_readNumber_69 : decode cX8_readNumber 69 = .ok (.dup, 1) := by decide +kernel
theorem dX8_readNumber_70 : decode cX8_readNumber 70 = .ok (.getfield 22, 3) := by decide +kernel
theorem dX8_readNumber_73 : decode cX8_readNumber 73 = .ok (.iconst 1, 1) := by decide +kernel
theorem dX8_readNumber_74 : decode cX8_readNumber 74 = .ok (.iadd, 1) := by decide +kernel
theorem dX8_readNumber_75 : decode cX8_readNumber 75 = .ok (.putfield 22, 3) := by decide +kernel
theorem dX8_readNumber_78 : decode cX8_readNumber 78 = .ok (.goto (-73), 3) := by decide +kernel
theorem dX8_readNumber_81 : decode cX8_readNumber 81 = .ok (.aload_n 0, 1) := by decide +kernel
theorem dX8_readNumber_82 : decode cX8_readNumber 82 = .ok (.aload_n 0, 1) := by decide +kernel
theorem dX8_readNumber_83 : decode cX8_readNumber 83 = .ok (.getfield 22, 3) := by decide +kernel
theorem dX8_readNumber_86 : decode cX8_readNumber 86 = .ok (.aload_n 0, 1) := by decide +kernel
theorem dX8_readNumber_87 : decode cX8_readNumber 87 = .ok (.getfield 28, 3) := by decide +kernel
theorem dX8_readNumber_90 : decode cX8_readNumber 90 = .ok (.isub, 1) := by decide +kernel
theorem dX8_readNumber_91 : decode cX8_readNumber 91 = .ok (.iconst 4, 1) := by decide +kernel
theorem dX8_readNumber_92 : decode cX8_readNumber 92 = .ok (.if_icmp .gt 7, 3) := by decide +kernel
theorem dX8_readNumber_95 : decode cX8_readNumber 95 = .ok (.iconst 2, 1) := by decide +kernel
theorem dX8_readNumber_96 : decode cX8_readNumber 96 = .ok (.goto 4, 3) := by decide +kernel
theorem dX8_readNumber_99 : decode cX8_readNumber 99 = .ok (.iconst 4, 1) := by decide +kernel
theorem dX8_readNumber_100 : decode cX8_readNumber 100 = .ok (.putfield 25, 3) := by decide +kernel
theorem dX8_readNumber_103 : decode cX8_readNumber 103 = .ok (.return_, 1) := by decide +kernel
theorem dX8_is_0 : decode cX8_is 0 = .ok (.aload_n 0, 1) := by decide +kernel
theorem dX8_is_1 : decode cX8_is 1 = .ok (.getfield 25, 3) := by decide +kernel
theorem dX8_is_4 : decode cX8_is 4 = .ok (.iconst 1, 1) := by decide +kernel
theorem dX8_is_5 : decode cX8_is 5 = .ok (.if_icmp .ne 19, 3) := by decide +kernel
theorem dX8_is_8 : decode cX8_is 8 = .ok (.aload_n 0, 1) := by decide +kernel
theorem dX8_is_9 : decode cX8_is 9 = .ok (.getfield 22, 3) := by decide +kernel
theorem dX8_is_12 : decode cX8_is 12 = .ok (.aload_n 0, 1) := by decide +kernel
theorem dX8_is_13 : decode cX8_is 13 = .ok (.getfield 28, 3) := by decide +kernel
theorem dX8_is_16 : decode cX8_is 16 = .ok (.isub, 1) := by decide +kernel
theorem dX8_is_17 : decode cX8_is 17 = .ok (.aload_n 1, 1) := by decide +kernel
theorem dX8_is_18 : decode cX8_is 18 = .ok (.invokevirtual 62, 3) := by decide +kernel
theorem dX8_is_21 : decode cX8_is 21 = .ok (.if_icmp .eq 5, 3) := by decide +kernel
theorem dX8_is_24 : decode cX8_is 24 = .ok (.iconst 0, 1) := by decide +kernel
theorem dX8_is_25 : decode cX8_is 25 = .ok (.ireturn, 1) := by decide +kernel
theorem dX8_is_26 : decode cX8_is 26 = .ok (.iconst 0, 1) := by decide +kernel
theorem dX8_is_27 : decode cX8_is 27 = .ok (.istore_n 2, 1) := by decide +kernel
theorem dX8_is_28 : decode cX8_is 28 = .ok (.iload_n 2, 1) := by decide +kernel
theorem dX8_is_29 : decode cX8_is 29 = .ok (.aload_n 1, 1) := by decide +kernel
theorem dX8_is_30 : decode cX8_is 30 = .ok (.invokevirtual 62, 3) := by decide +kernel
theorem dX8_is_33 : decode cX8_is 33 = .ok (.if_icmp .ge 30, 3) := by decide +kernel
theorem dX8_is_36 : decode cX8_is 36 = .ok (.aload_n 0, 1) := by decide +kernel
theorem dX8_is_37 : decode cX8_is 37 = .ok (.getfield 9, 3) := by decide +kernel
theorem dX8_is_40 : decode cX8_is 40 = .ok (.aload_n 0, 1) := by decide +kernel
theorem dX8_is_41 : decode cX8_is 41 = .ok (.getfield 28, 3) := by decide +kernel
theorem dX8_is_44 : decode cX8_is 44 = .ok (.iload_n 2, 1) := by decide +kernel
theorem dX8_is_45 : decode cX8_is 45 = .ok (.iadd, 1) := by decide +kernel
theorem dX8_is_46 : decode cX8_is 46 = .ok (.baload, 1) := by decide +kernel
theorem dX8_is_47 : decode cX8_is 47 = .ok (.aload_n 1, 1) := by decide +kernel
theorem dX8_is_48 : decode cX8_is 48 = .ok (.iload_n 2, 1) := by decide +kernel
theorem dX8_is_49 : decode cX8_is 49 = .ok (.invokevirtual 67, 3) := by decide +kernel
theorem dX8_is_52 : decode cX8_is 52 = .ok (.if_icmp .eq 5, 3) := by decide +kernel
theorem dX8_is_55 : decode cX8_is 55 = .ok (.iconst 0, 1) := by decide +kernel
theorem dX8_is_56 : decode cX8_is 56 = .ok (.ireturn, 1) := by decide +kernel
theorem dX8_is_57 : decode cX8_is 57 = .ok (.iinc 2 1, 3) := by decide +kernel
theorem dX8_is_60 : decode cX8_is 60 = .ok (.goto (-32), 3) := by decide +kernel
theorem dX8_is_63 : decode cX8_is 63 = .ok (.iconst 1, 1) := by decide +kernel
theorem dX8_is_64 : decode cX8_is 64 = .ok (.ireturn, 1) := by decide +kernel
theorem dX8_isShortWord_0 : decode cX8_isShortWord 0 = .ok (.aload_n 0, 1) := by decide +kernel
theorem dX8_isShortWord_1 : decode cX8_isShortWord 1 = .ok (.getfield 25, 3) := by decide +kernel
theorem dX8_isShortWord_4 : decode cX8_isShortWord 4 = .ok (.iconst 1, 1) := by decide +kernel
theorem dX8_isShortWord_5 : decode cX8_isShortWord 5 = .ok (.if_icmp .ne 21, 3) := by decide +kernel
theorem dX8_isShortWord_8 : decode cX8_isShortWord 8 = .ok (.aload_n 0, 1) := by decide +kernel
theorem dX8_isShortWord_9 : decode cX8_isShortWord 9 = .ok (.getfield 22, 3) := by decide +kernel
theorem dX8_isShortWord_12 : decode cX8_isShortWord 12 = .ok (.aload_n 0, 1) := by decide +kernel
theorem dX8_isShortWord_13 : decode cX8_isShortWord 13 = .ok (.getfield 28, 3) := by decide +kernel
theorem dX8_isShortWord_16 : decode cX8_isShortWord 16 = .ok (.isub, 1) := by decide +kernel
theorem dX8_isShortWord_17 : decode cX8_isShortWord 17 = .ok (.bipush 8, 2) := by decide +kernel
theorem dX8_isShortWord_19 : decode cX8_isShortWord 19 = .ok (.if_icmp .gt 7, 3) := by decide +kernel
theorem dX8_isShortWord_22 : decode cX8_isShortWord 22 = .ok (.iconst 1, 1) := by decide +kernel
theorem dX8_isShortWord_23 : decode cX8_isShortWord 23 = .ok (.goto 4, 3) := by decide +kernel
theorem dX8_isShortWord_26 : decode cX8_isShortWord 26 = .ok (.iconst 0, 1) := by decide +kernel
theorem dX8_isShortWord_27 : decode cX8_isShortWord 27 = .ok (.ireturn, 1) := by decide +kernel
theorem dX8_wrong_0 : decode cX8_wrong 0 = .ok (.aload_n 0, 1) := by decide +kernel
theorem dX8_wrong_1 : decode cX8_wrong 1 = .ok (.iload_n 1, 1) := by decide +kernel
theorem dX8_wrong_2 : decode cX8_wrong 2 = .ok (.putfield 41, 3) := by decide +kernel
theorem dX8_wrong_5 : decode cX8_wrong 5 = .ok (.aload_n 0, 1) := by decide +kernel
theorem dX8_wrong_6 : decode cX8_wrong 6 = .ok (.aload_n 0, 1) := by decide +kernel
theorem dX8_wrong_7 : decode cX8_wrong 7 = .ok (.getfield 28, 3) := by decide +kernel
theorem dX8_wrong_10 : decode cX8_wrong 10 = .ok (.putfield 44, 3) := by decide +kernel
theorem dX8_wrong_13 : decode cX8_wrong 13 = .ok (.iconst 0, 1) := by decide +kernel
theorem dX8_wrong_14 : decode cX8_wrong 14 = .ok (.ireturn, 1) := by decide +kernel
theorem dX8_misplaced_0 : decode cX8_misplaced 0 = .ok (.aload_n 0, 1) := by decide +kernel
theorem dX8_misplaced_1 : decode cX8_misplaced 1 = .ok (.aload_n 0, 1) := by decide +kernel
theorem dX8_misplaced_2 : decode cX8_misplaced 2 = .ok (.getfield 25, 3) := by decide +kernel
theorem dX8_misplaced_5 : decode cX8_misplaced 5 = .ok (.iconst 4, 1) := by decide +kernel
theorem dX8_misplaced_6 : decode cX8_misplaced 6 = .ok (.if_icmp .ne 7, 3) := by decide +kernel
theorem dX8_misplaced_9 : decode cX8_misplaced 9 = .ok (.iconst 1, 1) := by decide +kernel
theorem dX8_misplaced_10 : decode cX8_misplaced 10 = .ok (.goto 4, 3) := by decide +kernel
theorem dX8_misplaced_13 : decode cX8_misplaced 13 = .ok (.iconst 2, 1) := by decide +kernel
theorem dX8_misplaced_14 : decode cX8_misplaced 14 = .ok (.invokevirtual 71, 3) := by decide +kernel
theorem dX8_misplaced_17 : decode cX8_misplaced 17 = .ok (.ireturn, 1) := by decide +kernel
theorem dX8_takeWord_0 : decode cX8_takeWord 0 = .ok (.aload_n 0, 1) := by decide +kernel
theorem dX8_takeWord_1 : decode cX8_takeWord 1 = .ok (.aload_n 1, 1) := by decide +kernel
theorem dX8_takeWord_2 : decode cX8_takeWord 2 = .ok (.invokevirtual 75, 3) := by decide +kernel
theorem dX8_takeWord_5 : decode cX8_takeWord 5 = .ok (.ifCond .ne 8, 3) := by decide +kernel
theorem dX8_takeWord_8 : decode cX8_takeWord 8 = .ok (.aload_n 0, 1) := by decide +kernel
theorem dX8_takeWord_9 : decode cX8_takeWord 9 = .ok (.invokevirtual 79, 3) := by decide +kernel
theorem dX8_takeWord_12 : decode cX8_takeWord 12 = .ok (.ireturn, 1) := by decide +kernel
theorem dX8_takeWord_13 : decode cX8_takeWord 13 = .ok (.aload_n 0, 1) := by decide +kernel
theorem dX8_takeWord_14 : decode cX8_takeWord 14 = .ok (.invokevirtual 53, 3) := by decide +kernel
theorem dX8_takeWord_17 : decode cX8_takeWord 17 = .ok (.iconst 1, 1) := by decide +kernel
theorem dX8_takeWord_18 : decode cX8_takeWord 18 = .ok (.ireturn, 1) := by decide +kernel
theorem dX8_takeSign_0 : decode cX8_takeSign 0 = .ok (.aload_n 0, 1) := by decide +kernel
theorem dX8_takeSign_1 : decode cX8_takeSign 1 = .ok (.getfield 25, 3) := by decide +kernel
theorem dX8_takeSign_4 : decode cX8_takeSign 4 = .ok (.iconst 3, 1) := by decide +kernel
theorem dX8_takeSign_5 : decode cX8_takeSign 5 = .ok (.if_icmp .eq 8, 3) := by decide +kernel
theorem dX8_takeSign_8 : decode cX8_takeSign 8 = .ok (.aload_n 0, 1) := by decide +kernel
theorem dX8_takeSign_9 : decode cX8_takeSign 9 = .ok (.invokevirtual 79, 3) := by decide +kernel
theorem dX8_takeSign_12 : decode cX8_takeSign 12 = .ok (.ireturn, 1) := by decide +kernel
theorem dX8_takeSign_13 : decode cX8_takeSign 13 = .ok (.aload_n 0, 1) := by decide +kernel
theorem dX8_takeSign_14 : decode cX8_takeSign 14 = .ok (.invokevirtual 53, 3) := by decide +kernel
theorem dX8_takeSign_17 : decode cX8_takeSign 17 = .ok (.iconst 1, 1) := by decide +kernel
theorem dX8_takeSign_18 : decode cX8_takeSign 18 = .ok (.ireturn, 1) := by decide +kernel
theorem dX8_takeNumber_0 : decode cX8_takeNumber 0 = .ok (.aload_n 0, 1) := by decide +kernel
theorem dX8_takeNumber_1 : decode cX8_takeNumber 1 = .ok (.getfield 25, 3) := by decide +kernel
theorem dX8_takeNumber_4 : decode cX8_takeNumber 4 = .ok (.iconst 2, 1) := by decide +kernel
theorem dX8_takeNumber_5 : decode cX8_takeNumber 5 = .ok (.if_icmp .eq 8, 3) := by decide +kernel
theorem dX8_takeNumber_8 : decode cX8_takeNumber 8 = .ok (.aload_n 0, 1) := by decide +kernel
theorem dX8_takeNumber_9 : decode cX8_takeNumber 9 = .ok (.invokevirtual 79, 3) := by decide +kernel
theorem dX8_takeNumber_12 : decode cX8_takeNumber 12 = .ok (.ireturn, 1) := by decide +kernel
theorem dX8_takeNumber_13 : decode cX8_takeNumber 13 = .ok (.aload_n 0, 1) := by decide +kernel
theorem dX8_takeNumber_14 : decode cX8_takeNumber 14 = .ok (.getfield 35, 3) := by decide +kernel
theorem dX8_takeNumber_17 : decode cX8_takeNumber 17 = .ok (.i2l, 1) := by decide +kernel
theorem dX8_takeNumber_18 : decode cX8_takeNumber 18 = .ok (.iload_n 1, 1) := by decide +kernel
theorem dX8_takeNumber_19 : decode cX8_takeNumber 19 = .ok (.i2l, 1) := by decide +kernel
theorem dX8_takeNumber_20 : decode cX8_takeNumber 20 = .ok (.iload_n 2, 1) := by decide +kernel
theorem dX8_takeNumber_21 : decode cX8_takeNumber 21 = .ok (.i2l, 1) := by decide +kernel
theorem dX8_takeNumber_22 : decode cX8_takeNumber 22 = .ok (.invokestatic 83, 3) := by decide +kernel
theorem dX8_takeNumber_25 : decode cX8_takeNumber 25 = .ok (.ifCond .eq 9, 3) := by decide +kernel
theorem dX8_takeNumber_28 : decode cX8_takeNumber 28 = .ok (.aload_n 0, 1) := by decide +kernel
theorem dX8_takeNumber_29 : decode cX8_takeNumber 29 = .ok (.iconst 4, 1) := by decide +kernel
theorem dX8_takeNumber_30 : decode cX8_takeNumber 30 = .ok (.invokevirtual 71, 3) := by decide +kernel
theorem dX8_takeNumber_33 : decode cX8_takeNumber 33 = .ok (.ireturn, 1) := by decide +kernel
theorem dX8_takeNumber_34 : decode cX8_takeNumber 34 = .ok (.aload_n 0, 1) := by decide +kernel
theorem dX8_takeNumber_35 : decode cX8_takeNumber 35 = .ok (.aload_n 0, 1) := by decide +kernel
theorem dX8_takeNumber_36 : decode cX8_takeNumber 36 = .ok (.getfield 35, 3) := by decide +kernel
theorem dX8_takeNumber_39 : decode cX8_takeNumber 39 = .ok (.putfield 38, 3) := by decide +kernel
theorem dX8_takeNumber_42 : decode cX8_takeNumber 42 = .ok (.aload_n 0, 1) := by decide +kernel
theorem dX8_takeNumber_43 : decode cX8_takeNumber 43 = .ok (.invokevirtual 53, 3) := by decide +kernel
theorem dX8_takeNumber_46 : decode cX8_takeNumber 46 = .ok (.iconst 1, 1) := by decide +kernel
theorem dX8_takeNumber_47 : decode cX8_takeNumber 47 = .ok (.ireturn, 1) := by decide +kernel
theorem dX9_init_0 : decode cX9_init 0 = .ok (.aload_n 0, 1) := by decide +kernel
theorem dX9_init_1 : decode cX9_init 1 = .ok (.invokespecial 3, 3) := by decide +kernel
theorem dX9_init_4 : decode cX9_init 4 = .ok (.aload_n 0, 1) := by decide +kernel
theorem dX9_init_5 : decode cX9_init 5 = .ok (.new 9, 3) := by decide +kernel
theorem dX9_init_8 : decode cX9_init 8 = .ok (.dup, 1) := by decide +kernel
theorem dX9_init_9 : decode cX9_init 9 = .ok (.invokespecial 11, 3) := by decide +kernel
theorem dX9_init_12 : decode cX9_init 12 = .ok (.putfield 12, 3) := by decide +kernel
theorem dX9_init_15 : decode cX9_init 15 = .ok (.aload_n 0, 1) := by decide +kernel
theorem dX9_init_16 : decode cX9_init 16 = .ok (.iconst 0, 1) := by decide +kernel
theorem dX9_init_17 : decode cX9_init 17 = .ok (.putfield 18, 3) := by decide +kernel
theorem dX9_init_20 : decode cX9_init 20 = .ok (.aload_n 0, 1) := by decide +kernel
theorem dX9_init_21 : decode cX9_init 21 = .ok (.iconst 0, 1) := by decide +kernel
theorem dX9_init_22 : decode cX9_init 22 = .ok (.putfield 22, 3) := by decide +kernel
theorem dX9_init_25 : decode cX9_init 25 = .ok (.aload_n 0, 1) := by decide +kernel
theorem dX9_init_26 : decode cX9_init 26 = .ok (.iconst 0, 1) := by decide +kernel
theorem dX9_init_27 : decode cX9_init 27 = .ok (.putfield 26, 3) := by decide +kernel
theorem dX9_init_30 : decode cX9_init 30 = .ok (.aload_n 0, 1) := by decide +kernel
theorem dX9_init_31 : decode cX9_init 31 = .ok (.iconst 5, 1) := by decide +kernel
theorem dX9_init_32 : decode cX9_init 32 = .ok (.newarray .int, 2) := by decide +kernel
theorem dX9_init_34 : decode cX9_init 34 = .ok (.putfield 29, 3) := by decide +kernel
theorem dX9_init_37 : decode cX9_init 37 = .ok (.aload_n 0, 1) := by decide +kernel
theorem dX9_init_38 : decode cX9_init 38 = .ok (.iconst 5, 1) := by decide +kernel
theorem dX9_init_39 : decode cX9_init 39 = .ok (.newarray .int, 2) := by decide +kernel
theorem dX9_init_41 : decode cX9_init 41 = .ok (.putfield 33, 3) := by decide +kernel
theorem dX9_init_44 : decode cX9_init 44 = .ok (.aload_n 0, 1) := by decide +kernel
theorem dX9_init_45 : decode cX9_init 45 = .ok (.iconst 0, 1) := by decide +kernel
theorem dX9_init_46 : decode cX9_init 46 = .ok (.putfield 36, 3) := by decide +kernel
theorem dX9_init_49 : decode cX9_init 49 = .ok (.return_, 1) := by decide +kernel
theorem dX9_madeWith_0 : decode cX9_madeWith 0 = .ok (.aload_n 0, 1) := by decide +kernel
theorem dX9_madeWith_1 : decode cX9_madeWith 1 = .ok (.getfield 12, 3) := by decide +kernel
theorem dX9_madeWith_4 : decode cX9_madeWith 4 = .ok (.aload_n 1, 1) := by decide +kernel
theorem dX9_madeWith_5 : decode cX9_madeWith 5 = .ok (.invokevirtual 39, 3) := by decide +kernel
theorem dX9_madeWith_8 : decode cX9_madeWith 8 = .ok (.aload_n 0, 1) := by decide +kernel
theorem dX9_madeWith_9 : decode cX9_madeWith 9 = .ok (.getfield 12, 3) := by decide +kernel
theorem dX9_madeWith_12 : decode cX9_madeWith 12 = .ok (.getfield 43, 3) := by decide +kernel
theorem dX9_madeWith_15 : decode cX9_madeWith 15 = .ok (.iload_n 2, 1) := by decide +kernel
theorem dX9_madeWith_16 : decode cX9_madeWith 16 = .ok (.iload_n 3, 1) := by decide +kernel
theorem dX9_madeWith_17 : decode cX9_madeWith 17 = .ok (.iastore, 1) := by decide +kernel
theorem dX9_madeWith_18 : decode cX9_madeWith 18 = .ok (.aload_n 0, 1) := by decide +kernel
theorem dX9_madeWith_19 : decode cX9_madeWith 19 = .ok (.getfield 12, 3) := by decide +kernel
theorem dX9_madeWith_22 : decode cX9_madeWith 22 = .ok (.iload 4, 2) := by decide +kernel
theorem dX9_madeWith_24 : decode cX9_madeWith 24 = .ok (.invokevirtual 46, 3) := by decide +kernel
theorem dX9_madeWith_27 : decode cX9_madeWith 27 = .ok (.ireturn, 1) := by decide +kernel
theorem dX9_findHolder_0 : decode cX9_findHolder 0 = .ok (.aload_n 0, 1) := by decide +kernel
theorem dX9_findHolder_1 : decode cX9_findHolder 1 = .ok (.aload_n 1, 1) := by decide +kernel
theorem dX9_findHolder_2 : decode cX9_findHolder 2 = .ok (.iconst 0, 1) := by decide +kernel
theorem dX9_findHolder_3 : decode cX9_findHolder 3 = .ok (.aload_n 1, 1) := by decide +kernel
theorem dX9_findHolder_4 : decode cX9_findHolder 4 = .ok (.getfield 43, 3) := by decide +kernel
theorem dX9_findHolder_7 : decode cX9_findHolder 7 = .ok (.iconst 0, 1) := by decide +kernel
theorem dX9_findHolder_8 : decode cX9_findHolder 8 = .ok (.iaload, 1) := by decide +kernel
theorem dX9_findHolder_9 : decode cX9_findHolder 9 = .ok (.iload_n 3, 1) := by decide +kernel
theorem dX9_findHolder_10 : decode cX9_findHolder 10 = .ok (.invokevirtual 50, 3) := by decide +kernel
theorem dX9_findHolder_13 : decode cX9_findHolder 13 = .ok (.istore 4, 2) := by decide +kernel
theorem dX9_findHolder_15 : decode cX9_findHolder 15 = .ok (.iconst 0, 1) := by decide +kernel
theorem dX9_findHolder_16 : decode cX9_findHolder 16 = .ok (.istore 5, 2) := by decide +kernel
theorem dX9_findHolder_18 : decode cX9_findHolder 18 = .ok (.iconst (-1), 1) := by decide +kernel
theorem dX9_findHolder_19 : decode cX9_findHolder 19 = .ok (.istore 6, 2) := by decide +kernel
theorem dX9_findHolder_21 : decode cX9_findHolder 21 = .ok (.iconst 0, 1) := by decide +kernel
theorem dX9_findHolder_22 : decode cX9_findHolder 22 = .ok (.istore 7, 2) := by decide +kernel
theorem dX9_findHolder_24 : decode cX9_findHolder 24 = .ok (.iload 7, 2) := by decide +kernel
theorem dX9_findHolder_26 : decode cX9_findHolder 26 = .ok (.aload_n 1, 1) := by decide +kernel
theorem dX9_findHolder_27 : decode cX9_findHolder 27 = .ok (.getfield 54, 3) := by decide +kernel
theorem dX9_findHolder_30 : decode cX9_findHolder 30 = .ok (.if_icmp .ge 45, 3) := by decide +kernel
theorem dX9_findHolder_33 : decode cX9_findHolder 33 = .ok (.aload_n 0, 1) := by decide +kernel
theorem dX9_findHolder_34 : decode cX9_findHolder 34 = .ok (.aload_n 1, 1) := by decide +kernel
theorem dX9_findHolder_35 : decode cX9_findHolder 35 = .ok (.iload 7, 2) := by decide +kernel
theorem dX9_findHolder_37 : decode cX9_findHolder 37 = .ok (.aload_n 1, 1) := by decide +kernel
theorem dX9_findHolder_38 : decode cX9_findHolder 38 = .ok (.getfield 43, 3) := by decide +kernel
theorem dX9_findHolder_41 : decode cX9_findHolder 41 = .ok (.iload 7, 2) := by decide +kernel
theorem dX9_findHolder_43 : decode cX9_findHolder 43 = .ok (.iaload, 1) := by decide +kernel
theorem dX9_findHolder_44 : decode cX9_findHolder 44 = .ok (.iload_n 2, 1) := by decide +kernel
theorem dX9_findHolder_45 : decode cX9_findHolder 45 = .ok (.invokestatic 57, 3) := by decide +kernel
theorem dX9_findHolder_48 : decode cX9_findHolder 48 = .ok (.iload_n 3, 1) := by decide +kernel
theorem dX9_findHolder_49 : decode cX9_findHolder 49 = .ok (.invokevirtual 50, 3) := by decide +kernel
theorem dX9_findHolder_52 : decode cX9_findHolder 52 = .ok (.istore 8, 2) := by decide +kernel
theorem dX9_findHolder_54 : decode cX9_findHolder 54 = .ok (.iload 8, 2) := by decide +kernel
theorem dX9_findHolder_56 : decode cX9_findHolder 56 = .ok (.iload 6, 2) := by decide +kernel
theorem dX9_findHolder_58 : decode cX9_findHolder 58 = .ok (.if_icmp .le 11, 3) := by decide +kernel
theorem dX9_findHolder_61 : decode cX9_findHolder 61 = .ok (.iload 7, 2) := by decide +kernel
theorem dX9_findHolder_63 : decode cX9_findHolder 63 = .ok (.istore 5, 2) := by decide +kernel
theorem dX9_findHolder_65 : decode cX9_findHolder 65 = .ok (.iload 8, 2) := by decide +kernel
theorem dX9_findHolder_67 : decode cX9_findHolder 67 = .ok (.istore 6, 2) := by decide +kernel
theorem dX9_findHolder_69 : decode cX9_findHolder 69 = .ok (.iinc 7 1, 3) := by decide +kernel
theorem dX9_findHolder_72 : decode cX9_findHolder 72 = .ok (.goto (-48), 3) := by decide +kernel
theorem dX9_findHolder_75 : decode cX9_findHolder 75 = .ok (.aload_n 0, 1) := by decide +kernel
theorem dX9_findHolder_76 : decode cX9_findHolder 76 = .ok (.iconst 1, 1) := by decide +kernel
theorem dX9_findHolder_77 : decode cX9_findHolder 77 = .ok (.putfield 18, 3) := by decide +kernel
theorem dX9_findHolder_80 : decode cX9_findHolder 80 = .ok (.aload_n 0, 1) := by decide +kernel
theorem dX9_findHolder_81 : decode cX9_findHolder 81 = .ok (.iload 6, 2) := by decide +kernel
theorem dX9_findHolder_83 : decode cX9_findHolder 83 = .ok (.iload 4, 2) := by decide +kernel
theorem dX9_findHolder_85 : decode cX9_findHolder 85 = .ok (.isub, 1) := by decide +kernel
theorem dX9_findHolder_86 : decode cX9_findHolder 86 = .ok (.putfield 22, 3) := by decide +kernel
theorem dX9_findHolder_89 : decode cX9_findHolder 89 = .ok (.iload 5, 2) := by decide +kernel
theorem dX9_findHolder_91 : decode cX9_findHolder 91 = .ok (.ireturn, 1) := by decide +kernel
theorem dX9_waitsWith_0 : decode cX9_waitsWith 0 = .ok (.aload_n 0, 1) := by decide +kernel
theorem dX9_waitsWith_1 : decode cX9_waitsWith 1 = .ok (.getfield 12, 3) := by decide +kernel
theorem dX9_waitsWith_4 : decode cX9_waitsWith 4 = .ok (.aload_n 1, 1) := by decide +kernel
theorem dX9_waitsWith_5 : decode cX9_waitsWith 5 = .ok (.invokevirtual 39, 3) := by decide +kernel
theorem dX9_waitsWith_8 : decode cX9_waitsWith 8 = .ok (.iconst 0, 1) := by decide +kernel
theorem dX9_waitsWith_9 : decode cX9_waitsWith 9 = .ok (.istore 5, 2) := by decide +kernel
theorem dX9_waitsWith_11 : decode cX9_waitsWith 11 = .ok (.iload 5, 2) := by decide +kernel
theorem dX9_waitsWith_13 : decode cX9_waitsWith 13 = .ok (.aload_n 1, 1) := by decide +kernel
theorem dX9_waitsWith_14 : decode cX9_waitsWith 14 = .ok (.getfield 54, 3) := by decide +kernel
theorem dX9_waitsWith_17 : decode cX9_waitsWith 17 = .ok (.if_icmp .ge 46, 3) := by decide +kernel
theorem dX9_waitsWith_20 : decode cX9_waitsWith 20 = .ok (.aload_n 0, 1) := by decide +kernel
theorem dX9_waitsWith_21 : decode cX9_waitsWith 21 = .ok (.getfield 12, 3) := by decide +kernel
theorem dX9_waitsWith_24 : decode cX9_waitsWith 24 = .ok (.getfield 43, 3) := by decide +kernel
theorem dX9_waitsWith_27 : decode cX9_waitsWith 27 = .ok (.iload 5, 2) := by decide +kernel
theorem dX9_waitsWith_29 : decode cX9_waitsWith 29 = .ok (.iload 5, 2) := by decide +kernel
theorem dX9_waitsWith_31 : decode cX9_waitsWith 31 = .ok (.iload_n 2, 1) := by decide +kernel
theorem dX9_waitsWith_32 : decode cX9_waitsWith 32 = .ok (.if_icmp .ne 13, 3) := by decide +kernel
theorem dX9_waitsWith_35 : decode cX9_waitsWith 35 = .ok (.aload_n 1, 1) := by decide +kernel
theorem dX9_waitsWith_36 : decode cX9_waitsWith 36 = .ok (.getfield 43, 3) := by decide +kernel
theorem dX9_waitsWith_39 : decode cX9_waitsWith 39 = .ok (.iload 5, 2) := by decide +kernel
theorem dX9_waitsWith_41 : decode cX9_waitsWith 41 = .ok (.iaload, 1) := by decide +kernel
theorem dX9_waitsWith_42 : decode cX9_waitsWith 42 = .ok (.goto 14, 3) := by decide +kernel
theorem dX9_waitsWith_45 : decode cX9_waitsWith 45 = .ok (.aload_n 1, 1) := by decide +kernel
theorem dX9_waitsWith_46 : decode cX9_waitsWith 46 = .ok (.getfield 43, 3) := by decide +kernel
theorem dX9_waitsWith_49 : decode cX9_waitsWith 49 = .ok (.iload 5, 2) := by decide +kernel
theorem dX9_waitsWith_51 : decode cX9_waitsWith 51 = .ok (.iaload, 1) := by decide +kernel
theorem dX9_waitsWith_52 : decode cX9_waitsWith 52 = .ok (.iload_n 3, 1) := by decide +kernel
theorem dX9_waitsWith_53 : decode cX9_waitsWith 53 = .ok (.invokestatic 57, 3) := by decide +kernel
theorem dX9_waitsWith_56 : decode cX9_waitsWith 56 = .ok (.iastore, 1) := by decide +kernel
theorem dX9_waitsWith_57 : decode cX9_waitsWith 57 = .ok (.iinc 5 1, 3) := by decide +kernel
theorem dX9_waitsWith_60 : decode cX9_waitsWith 60 = .ok (.goto (-49), 3) := by decide +kernel
theorem dX9_waitsWith_63 : decode cX9_waitsWith 63 = .ok (.iconst 0, 1) := by decide +kernel
theorem dX9_waitsWith_64 : decode cX9_waitsWith 64 = .ok (.istore 5, 2) := by decide +kernel
theorem dX9_waitsWith_66 : decode cX9_waitsWith 66 = .ok (.iconst 0, 1) := by decide +kernel
theorem dX9_waitsWith_67 : decode cX9_waitsWith 67 = .ok (.istore 6, 2) := by decide +kernel
theorem dX9_waitsWith_69 : decode cX9_waitsWith 69 = .ok (.iload 6, 2) := by decide +kernel
theorem dX9_waitsWith_71 : decode cX9_waitsWith 71 = .ok (.iload 4, 2) := by decide +kernel
theorem dX9_waitsWith_73 : decode cX9_waitsWith 73 = .ok (.if_icmp .ge 45, 3) := by decide +kernel
theorem dX9_waitsWith_76 : decode cX9_waitsWith 76 = .ok (.aload_n 0, 1) := by decide +kernel
theorem dX9_waitsWith_77 : decode cX9_waitsWith 77 = .ok (.getfield 12, 3) := by decide +kernel
theorem dX9_waitsWith_80 : decode cX9_waitsWith 80 = .ok (.invokevirtual 61, 3) := by decide +kernel
theorem dX9_waitsWith_83 : decode cX9_waitsWith 83 = .ok (.aload_n 0, 1) := by decide +kernel
theorem dX9_waitsWith_84 : decode cX9_waitsWith 84 = .ok (.getfield 12, 3) := by decide +kernel
theorem dX9_waitsWith_87 : decode cX9_waitsWith 87 = .ok (.getfield 64, 3) := by decide +kernel
theorem dX9_waitsWith_90 : decode cX9_waitsWith 90 = .ok (.iload_n 2, 1) := by decide +kernel
theorem dX9_waitsWith_91 : decode cX9_waitsWith 91 = .ok (.iaload, 1) := by decide +kernel
theorem dX9_waitsWith_92 : decode cX9_waitsWith 92 = .ok (.iconst 1, 1) := by decide +kernel
theorem dX9_waitsWith_93 : decode cX9_waitsWith 93 = .ok (.if_icmp .eq 16, 3) := by decide +kernel
theorem dX9_waitsWith_96 : decode cX9_waitsWith 96 = .ok (.aload_n 0, 1) := by decide +kernel
theorem dX9_waitsWith_97 : decode cX9_waitsWith 97 = .ok (.getfield 12, 3) := by decide +kernel
theorem dX9_waitsWith_100 : decode cX9_waitsWith 100 = .ok (.getfield 64, 3) := by decide +kernel
theorem dX9_waitsWith_103 : decode cX9_waitsWith 103 = .ok (.iload_n 2, 1) := by decide +kernel
theorem dX9_waitsWith_104 : decode cX9_waitsWith 104 = .ok (.iaload, 1) := by decide +kernel
theorem dX9_waitsWith_105 : decode cX9_waitsWith 105 = .ok (.iconst 2, 1) := by decide +kernel
theorem dX9_waitsWith_106 : decode cX9_waitsWith 106 = .ok (.if_icmp .ne 6, 3) := by decide +kernel
theorem dX9_waitsWith_109 : decode cX9_waitsWith 109 = .ok (.iinc 5 1, 3) := by decide +kernel
theorem dX9_waitsWith_112 : decode cX9_waitsWith 112 = .ok (.iinc 6 1, 3) := by decide +kernel
theorem dX9_waitsWith_115 : decode cX9_waitsWith 115 = .ok (.goto (-46), 3) := by decide +kernel
theorem dX9_waitsWith_118 : decode cX9_waitsWith 118 = .ok (.iload 5, 2) := by decide +kernel
theorem dX9_waitsWith_120 : decode cX9_waitsWith 120 = .ok (.ireturn, 1) := by decide +kernel
theorem dX9_faster_0 : decode cX9_faster 0 = .ok (.bipush 99, 2) := by decide +kernel
theorem dX9_faster_2 : decode cX9_faster 2 = .ok (.iload_n 0, 1) := by decide +kernel
theorem dX9_faster_3 : decode cX9_faster 3 = .ok (.iload_n 1, 1) := by decide +kernel
theorem dX9_faster_4 : decode cX9_faster 4 = .ok (.iadd, 1) := by decide +kernel
theorem dX9_faster_5 : decode cX9_faster 5 = .ok (.invokestatic 67, 3) := by decide +kernel
theorem dX9_faster_8 : decode cX9_faster 8 = .ok (.ireturn, 1) := by decide +kernel
theorem dX9_shareOut_0 : decode cX9_shareOut 0 = .ok (.aload_n 0, 1) := by decide +kernel
theorem dX9_shareOut_1 : decode cX9_shareOut 1 = .ok (.getfield 12, 3) := by decide +kernel
theorem dX9_shareOut_4 : decode cX9_shareOut 4 = .ok (.aload_n 1, 1) := by decide +kernel
theorem dX9_shareOut_5 : decode cX9_shareOut 5 = .ok (.invokevirtual 39, 3) := by decide +kernel
theorem dX9_shareOut_8 : decode cX9_shareOut 8 = .ok (.aload_n 0, 1) := by decide +kernel
theorem dX9_shareOut_9 : decode cX9_shareOut 9 = .ok (.aload_n 1, 1) := by decide +kernel
theorem dX9_shareOut_10 : decode cX9_shareOut 10 = .ok (.invokevirtual 72, 3) := by decide +kernel
theorem dX9_shareOut_13 : decode cX9_shareOut 13 = .ok (.putfield 26, 3) := by decide +kernel
theorem dX9_shareOut_16 : decode cX9_shareOut 16 = .ok (.aload_n 0, 1) := by decide +kernel
theorem dX9_shareOut_17 : decode cX9_shareOut 17 = .ok (.iconst (-1), 1) := by decide +kernel
theorem dX9_shareOut_18 : decode cX9_shareOut 18 = .ok (.putfield 36, 3) := by decide +kernel
theorem dX9_shareOut_21 : decode cX9_shareOut 21 = .ok (.aload_n 0, 1) := by decide +kernel
theorem dX9_shareOut_22 : decode cX9_shareOut 22 = .ok (.iconst 0, 1) := by decide +kernel
theorem dX9_shareOut_23 : decode cX9_shareOut 23 = .ok (.iload_n 2, 1) := by decide +kernel
theorem dX9_shareOut_24 : decode cX9_shareOut 24 = .ok (.iload_n 3, 1) := by decide +kernel
theorem dX9_shareOut_25 : decode cX9_shareOut 25 = .ok (.iload 4, 2) := by decide +kernel
theorem dX9_shareOut_27 : decode cX9_shareOut 27 = .ok (.invokevirtual 75, 3) := by decide +kernel
theorem dX9_shareOut_30 : decode cX9_shareOut 30 = .ok (.aload_n 0, 1) := by decide +kernel
theorem dX9_shareOut_31 : decode cX9_shareOut 31 = .ok (.getfield 36, 3) := by decide +kernel
theorem dX9_shareOut_34 : decode cX9_shareOut 34 = .ok (.ireturn, 1) := by decide +kernel
theorem dX9_shareFrom_0 : decode cX9_shareFrom 0 = .ok (.iload_n 1, 1) := by decide +kernel
theorem dX9_shareFrom_1 : decode cX9_shareFrom 1 = .ok (.aload_n 0, 1) := by decide +kernel
theorem dX9_shareFrom_2 : decode cX9_shareFrom 2 = .ok (.getfield 26, 3) := by decide +kernel
theorem dX9_shareFrom_5 : decode cX9_shareFrom 5 = .ok (.iconst 1, 1) := by decide +kernel
theorem dX9_shareFrom_6 : decode cX9_shareFrom 6 = .ok (.isub, 1) := by decide +kernel
theorem dX9_shareFrom_7 : decode cX9_shareFrom 7 = .ok (.if_icmp .lt 18, 3) := by decide +kernel
theorem dX9_shareFrom_10 : decode cX9_shareFrom 10 = .ok (.aload_n 0, 1) := by decide +kernel
theorem dX9_shareFrom_11 : decode cX9_shareFrom 11 = .ok (.getfield 33, 3) := by decide +kernel
theorem dX9_shareFrom_14 : decode cX9_shareFrom 14 = .ok (.iload_n 1, 1) := by decide +kernel
theorem dX9_shareFrom_15 : decode cX9_shareFrom 15 = .ok (.iload_n 2, 1) := by decide +kernel
theorem dX9_shareFrom_16 : decode cX9_shareFrom 16 = .ok (.iastore, 1) := by decide +kernel
theorem dX9_shareFrom_17 : decode cX9_shareFrom 17 = .ok (.aload_n 0, 1) := by decide +kernel
theorem dX9_shareFrom_18 : decode cX9_shareFrom 18 = .ok (.iload_n 3, 1) := by decide +kernel
theorem dX9_shareFrom_19 : decode cX9_shareFrom 19 = .ok (.iload 4, 2) := by decide +kernel
theorem dX9_shareFrom_21 : decode cX9_shareFrom 21 = .ok (.invokevirtual 79, 3) := by decide +kernel
theorem dX9_shareFrom_24 : decode cX9_shareFrom 24 = .ok (.return_, 1) := by decide +kernel
theorem dX9_shareFrom_25 : decode cX9_shareFrom 25 = .ok (.iconst 0, 1) := by decide +kernel
theorem dX9_shareFrom_26 : decode cX9_shareFrom 26 = .ok (.istore 5, 2) := by decide +kernel
theorem dX9_shareFrom_28 : decode cX9_shareFrom 28 = .ok (.iload 5, 2) := by decide +kernel
theorem dX9_shareFrom_30 : decode cX9_shareFrom 30 = .ok (.iload_n 2, 1) := by decide +kernel
theorem dX9_shareFrom_31 : decode cX9_shareFrom 31 = .ok (.if_icmp .gt 31, 3) := by decide +kernel
theorem dX9_shareFrom_34 : decode cX9_shareFrom 34 = .ok (.aload_n 0, 1) := by decide +kernel
theorem dX9_shareFrom_35 : decode cX9_shareFrom 35 = .ok (.getfield 33, 3) := by decide +kernel
theorem dX9_shareFrom_38 : decode cX9_shareFrom 38 = .ok (.iload_n 1, 1) := by decide +kernel
theorem dX9_shareFrom_39 : decode cX9_shareFrom 39 = .ok (.iload 5, 2) := by decide +kernel
theorem dX9_shareFrom_41 : decode cX9_shareFrom 41 = .ok (.iastore, 1) := by decide +kernel
theorem dX9_shareFrom_42 : decode cX9_shareFrom 42 = .ok (.aload_n 0, 1) := by decide +kernel
theorem dX9_shareFrom_43 : decode cX9_shareFrom 43 = .ok (.iload_n 1, 1) := by decide +kernel
theorem dX9_shareFrom_44 : decode cX9_shareFrom 44 = .ok (.iconst 1, 1) := by decide +kernel
theorem dX9_shareFrom_45 : decode cX9_shareFrom 45 = .ok (.iadd, 1) := by decide +kernel
theorem dX9_shareFrom_46 : decode cX9_shareFrom 46 = .ok (.iload_n 2, 1) := by decide +kernel
theorem dX9_shareFrom_47 : decode cX9_shareFrom 47 = .ok (.iload 5, 2) := by decide +kernel
theorem dX9_shareFrom_49 : decode cX9_shareFrom 49 = .ok (.isub, 1) := by decide +kernel
theorem dX9_shareFrom_50 : decode cX9_shareFrom 50 = .ok (.iload_n 3, 1) := by decide +kernel
theorem dX9_shareFrom_51 : decode cX9_shareFrom 51 = .ok (.iload 4, 2) := by decide +kernel
theorem dX9_shareFrom_53 : decode cX9_shareFrom 53 = .ok (.invokevirtual 75, 3) := by decide +kernel
theorem dX9_shareFrom_56 : decode cX9_shareFrom 56 = .ok (.iinc 5 1, 3) := by decide +kernel
theorem dX9_shareFrom_59 : decode cX9_shareFrom 59 = .ok (.goto (-31), 3) := by decide +kernel
theorem dX9_shareFrom_62 : decode cX9_shareFrom 62 = .ok (.return_, 1) := by decide +kernel
theorem dX9_trySharing_0 : decode cX9_trySharing 0 = .ok (.iconst 0, 1) := by decide +kernel
theorem dX9_trySharing_1 : decode cX9_trySharing 1 = .ok (.istore_n 3, 1) := by decide +kernel
theorem dX9_trySharing_2 : decode cX9_trySharing 2 = .ok (.iload_n 3, 1) := by decide +kernel
theorem dX9_trySharing_3 : decode cX9_trySharing 3 = .ok (.aload_n 0, 1) := by decide +kernel
theorem dX9_trySharing_4 : decode cX9_trySharing 4 = .ok (.getfield 26, 3) := by decide +kernel
theorem dX9_trySharing_7 : decode cX9_trySharing 7 = .ok (.if_icmp .ge 26, 3) := by decide +kernel
theorem dX9_trySharing_10 : decode cX9_trySharing 10 = .ok (.aload_n 0, 1) := by decide +kernel
theorem dX9_trySharing_11 : decode cX9_trySharing 11 = .ok (.getfield 12, 3) := by decide +kernel
theorem dX9_trySharing_14 : decode cX9_trySharing 14 = .ok (.getfield 83, 3) := by decide +kernel
theorem dX9_trySharing_17 : decode cX9_trySharing 17 = .ok (.iload_n 3, 1) := by decide +kernel
theorem dX9_trySharing_18 : decode cX9_trySharing 18 = .ok (.aload_n 0, 1) := by decide +kernel
theorem dX9_trySharing_19 : decode cX9_trySharing 19 = .ok (.getfield 33, 3) := by decide +kernel
theorem dX9_trySharing_22 : decode cX9_trySharing 22 = .ok (.iload_n 3, 1) := by decide +kernel
theorem dX9_trySharing_23 : decode cX9_trySharing 23 = .ok (.iaload, 1) := by decide +kernel
theorem dX9_trySharing_24 : decode cX9_trySharing 24 = .ok (.iload_n 1, 1) := by decide +kernel
theorem dX9_trySharing_25 : decode cX9_trySharing 25 = .ok (.imul, 1) := by decide +kernel
theorem dX9_trySharing_26 : decode cX9_trySharing 26 = .ok (.iastore, 1) := by decide +kernel
theorem dX9_trySharing_27 : decode cX9_trySharing 27 = .ok (.iinc 3 1, 3) := by decide +kernel
theorem dX9_trySharing_30 : decode cX9_trySharing 30 = .ok (.goto (-28), 3) := by decide +kernel
theorem dX9_trySharing_33 : decode cX9_trySharing 33 = .ok (.aload_n 0, 1) := by decide +kernel
theorem dX9_trySharing_34 : decode cX9_trySharing 34 = .ok (.getfield 12, 3) := by decide +kernel
theorem dX9_trySharing_37 : decode cX9_trySharing 37 = .ok (.aload_n 0, 1) := by decide +kernel
theorem dX9_trySharing_38 : decode cX9_trySharing 38 = .ok (.getfield 12, 3) := by decide +kernel
theorem dX9_trySharing_41 : decode cX9_trySharing 41 = .ok (.getfield 86, 3) := by decide +kernel
theorem dX9_trySharing_44 : decode cX9_trySharing 44 = .ok (.invokevirtual 89, 3) := by decide +kernel
theorem dX9_trySharing_47 : decode cX9_trySharing 47 = .ok (.aload_n 0, 1) := by decide +kernel
theorem dX9_trySharing_48 : decode cX9_trySharing 48 = .ok (.getfield 12, 3) := by decide +kernel
theorem dX9_trySharing_51 : decode cX9_trySharing 51 = .ok (.iload_n 2, 1) := by decide +kernel
theorem dX9_trySharing_52 : decode cX9_trySharing 52 = .ok (.invokevirtual 46, 3) := by decide +kernel
theorem dX9_trySharing_55 : decode cX9_trySharing 55 = .ok (.istore_n 3, 1) := by decide +kernel
theorem dX9_trySharing_56 : decode cX9_trySharing 56 = .ok (.iload_n 3, 1) := by decide +kernel
theorem dX9_trySharing_57 : decode cX9_trySharing 57 = .ok (.aload_n 0, 1) := by decide +kernel
theorem dX9_trySharing_58 : decode cX9_trySharing 58 = .ok (.getfield 36, 3) := by decide +kernel
theorem dX9_trySharing_61 : decode cX9_trySharing 61 = .ok (.if_icmp .le 25, 3) := by decide +kernel
theorem dX9_trySharing_64 : decode cX9_trySharing 64 = .ok (.aload_n 0, 1) := by decide +kernel
theorem dX9_trySharing_65 : decode cX9_trySharing 65 = .ok (.iload_n 3, 1) := by decide +kernel
theorem dX9_trySharing_66 : decode cX9_trySharing 66 = .ok (.putfield 36, 3) := by decide +kernel
theorem dX9_trySharing_69 : decode cX9_trySharing 69 = .ok (.aload_n 0, 1) := by decide +kernel
theorem dX9_trySharing_70 : decode cX9_trySharing 70 = .ok (.getfield 33, 3) := by decide +kernel
theorem dX9_trySharing_73 : decode cX9_trySharing 73 = .ok (.iconst 0, 1) := by decide +kernel
theorem dX9_trySharing_74 : decode cX9_trySharing 74 = .ok (.aload_n 0, 1) := by decide +kernel
theorem dX9_trySharing_75 : decode cX9_trySharing 75 = .ok (.getfield 29, 3) := by decide +kernel
theorem dX9_trySharing_78 : decode cX9_trySharing 78 = .ok (.iconst 0, 1) := by decide +kernel
theorem dX9_trySharing_79 : decode cX9_trySharing 79 = .ok (.aload_n 0, 1) := by decide +kernel
theorem dX9_trySharing_80 : decode cX9_trySharing 80 = .ok (.getfield 26, 3) := by decide +kernel
theorem dX9_trySharing_83 : decode cX9_trySharing 83 = .ok (.invokestatic 93, 3) := by decide +kernel
theorem dX9_trySharing_86 : decode cX9_trySharing 86 = .ok (.return_, 1) := by decide +kernel
theorem dX10_init_0 : decode cX10_init 0 = .ok (.aload_n 0, 1) := by decide +kernel
theorem dX10_init_1 : decode cX10_init 1 = .ok (.invokespecial 3, 3) := by decide +kernel
theorem dX10_init_4 : decode cX10_init 4 = .ok (.aload_n 0, 1) := by decide +kernel
theorem dX10_init_5 : decode cX10_init 5 = .ok (.bipush 7, 2) := by decide +kernel
theorem dX10_init_7 : decode cX10_init 7 = .ok (.newarray .int, 2) := by decide +kernel
theorem dX10_init_9 : decode cX10_init 9 = .ok (.putfield 9, 3) := by decide +kernel
theorem dX10_init_12 : decode cX10_init 12 = .ok (.aload_n 0, 1) := by decide +kernel
theorem dX10_init_13 : decode cX10_init 13 = .ok (.bipush 7, 2) := by decide +kernel
theorem dX10_init_15 : decode cX10_init 15 = .ok (.newarray .int, 2) := by decide +kernel
theorem dX10_init_17 : decode cX10_init 17 = .ok (.putfield 15, 3) := by decide +kernel
theorem dX10_init_20 : decode cX10_init 20 = .ok (.aload_n 0, 1) := by decide +kernel
theorem dX10_init_21 : decode cX10_init 21 = .ok (.iconst 0, 1) := by decide +kernel
theorem dX10_init_22 : decode cX10_init 22 = .ok (.putfield 18, 3) := by decide +kernel
theorem dX10_init_25 : decode cX10_init 25 = .ok (.aload_n 0, 1) := by decide +kernel
theorem dX10_init_26 : decode cX10_init 26 = .ok (.iconst 0, 1) := by decide +kernel
theorem dX10_init_27 : decode cX10_init 27 = .ok (.putfield 22, 3) := by decide +kernel
theorem dX10_init_30 : decode cX10_init 30 = .ok (.return_, 1) := by decide +kernel
theorem dX10_findOrder_0 : decode cX10_findOrder 0 = .ok (.aload_n 0, 1) := by decide +kernel
theorem dX10_findOrder_1 : decode cX10_findOrder 1 = .ok (.iload_n 2, 1) := by decide +kernel
theorem dX10_findOrder_2 : decode cX10_findOrder 2 = .ok (.invokestatic 25, 3) := by decide +kernel
theorem dX10_findOrder_5 : decode cX10_findOrder 5 = .ok (.putfield 18, 3) := by decide +kernel
theorem dX10_findOrder_8 : decode cX10_findOrder 8 = .ok (.aload_n 0, 1) := by decide +kernel
theorem dX10_findOrder_9 : decode cX10_findOrder 9 = .ok (.ldc 31, 2) := by decide +kernel
theorem dX10_findOrder_11 : decode cX10_findOrder 11 = .ok (.putfield 22, 3) := by decide +kernel
theorem dX10_findOrder_14 : decode cX10_findOrder 14 = .ok (.aload_n 0, 1) := by decide +kernel
theorem dX10_findOrder_15 : decode cX10_findOrder 15 = .ok (.getfield 9, 3) := by decide +kernel
theorem dX10_findOrder_18 : decode cX10_findOrder 18 = .ok (.iconst 0, 1) := by decide +kernel
theorem dX10_findOrder_19 : decode cX10_findOrder 19 = .ok (.iload_n 3, 1) := by decide +kernel
theorem dX10_findOrder_20 : decode cX10_findOrder 20 = .ok (.iastore, 1) := by decide +kernel
theorem dX10_findOrder_21 : decode cX10_findOrder 21 = .ok (.aload_n 0, 1) := by decide +kernel
theorem dX10_findOrder_22 : decode cX10_findOrder 22 = .ok (.aload_n 1, 1) := by decide +kernel
theorem dX10_findOrder_23 : decode cX10_findOrder 23 = .ok (.iconst 1, 1) := by decide +kernel
theorem dX10_findOrder_24 : decode cX10_findOrder 24 = .ok (.iload_n 2, 1) := by decide +kernel
theorem dX10_findOrder_25 : decode cX10_findOrder 25 = .ok (.iconst 1, 1) := by decide +kernel
theorem dX10_findOrder_26 : decode cX10_findOrder 26 = .ok (.iload_n 3, 1) := by decide +kernel
theorem dX10_findOrder_27 : decode cX10_findOrder 27 = .ok (.ishl, 1) := by decide +kernel
theorem dX10_findOrder_28 : decode cX10_findOrder 28 = .ok (.iconst (-1), 1) := by decide +kernel
theorem dX10_findOrder_29 : decode cX10_findOrder 29 = .ok (.ixor, 1) := by decide +kernel
theorem dX10_findOrder_30 : decode cX10_findOrder 30 = .ok (.iand, 1) := by decide +kernel
theorem dX10_findOrder_31 : decode cX10_findOrder 31 = .ok (.iconst 0, 1) := by decide +kernel
theorem dX10_findOrder_32 : decode cX10_findOrder 32 = .ok (.invokevirtual 32, 3) := by decide +kernel
theorem dX10_findOrder_35 : decode cX10_findOrder 35 = .ok (.aload_n 0, 1) := by decide +kernel
theorem dX10_findOrder_36 : decode cX10_findOrder 36 = .ok (.getfield 22, 3) := by decide +kernel
theorem dX10_findOrder_39 : decode cX10_findOrder 39 = .ok (.ireturn, 1) := by decide +kernel
theorem dX10_goOnFrom_0 : decode cX10_goOnFrom 0 = .ok (.iload_n 3, 1) := by decide +kernel
theorem dX10_goOnFrom_1 : decode cX10_goOnFrom 1 = .ok (.ifCond .eq 9, 3) := by decide +kernel
theorem dX10_goOnFrom_4 : decode cX10_goOnFrom 4 = .ok (.iload_n 2, 1) := by decide +kernel
theorem dX10_goOnFrom_5 : decode cX10_goOnFrom 5 = .ok (.bipush 7, 2) := by decide +kernel
theorem dX10_goOnFrom_7 : decode cX10_goOnFrom 7 = .ok (.if_icmp .lt 27, 3) := by decide +kernel
theorem dX10_goOnFrom_10 : decode cX10_goOnFrom 10 = .ok (.aload_n 0, 1) := by decide +kernel
theorem dX10_goOnFrom_11 : decode cX10_goOnFrom 11 = .ok (.iload 4, 2) := by decide +kernel
theorem dX10_goOnFrom_13 : decode cX10_goOnFrom 13 = .ok (.putfield 22, 3) := by decide +kernel
theorem dX10_goOnFrom_16 : decode cX10_goOnFrom 16 = .ok (.aload_n 0, 1) := by decide +kernel
theorem dX10_goOnFrom_17 : decode cX10_goOnFrom 17 = .ok (.getfield 9, 3) := by decide +kernel
theorem dX10_goOnFrom_20 : decode cX10_goOnFrom 20 = .ok (.iconst 0, 1) := by decide +kernel
theorem dX10_goOnFrom_21 : decode cX10_goOnFrom 21 = .ok (.aload_n 0, 1) := by decide +kernel
theorem dX10_goOnFrom_22 : decode cX10_goOnFrom 22 = .ok (.getfield 15, 3) := by decide +kernel
theorem dX10_goOnFrom_25 : decode cX10_goOnFrom 25 = .ok (.iconst 0, 1) := by decide +kernel
theorem dX10_goOnFrom_26 : decode cX10_goOnFrom 26 = .ok (.aload_n 0, 1) := by decide +kernel
theorem dX10_goOnFrom_27 : decode cX10_goOnFrom 27 = .ok (.getfield 18, 3) := by decide +kernel
theorem dX10_goOnFrom_30 : decode cX10_goOnFrom 30 = .ok (.invokestatic 36, 3) := by decide +kernel
theorem dX10_goOnFrom_33 : decode cX10_goOnFrom 33 = .ok (.return_, 1) := by decide +kernel
theorem dX10_goOnFrom_34 : decode cX10_goOnFrom 34 = .ok (.iconst 0, 1) := by decide +kernel
theorem dX10_goOnFrom_35 : decode cX10_goOnFrom 35 = .ok (.istore 5, 2) := by decide +kernel
theorem dX10_goOnFrom_37 : decode cX10_goOnFrom 37 = .ok (.iload 5, 2) := by decide +kernel
theorem dX10_goOnFrom_39 : decode cX10_goOnFrom 39 = .ok (.aload_n 1, 1) := by decide +kernel
theorem dX10_goOnFrom_40 : decode cX10_goOnFrom 40 = .ok (.getfield 42, 3) := by decide +kernel
theorem dX10_goOnFrom_43 : decode cX10_goOnFrom 43 = .ok (.if_icmp .ge 73, 3) := by decide +kernel
theorem dX10_goOnFrom_46 : decode cX10_goOnFrom 46 = .ok (.iload 4, 2) := by decide +kernel
theorem dX10_goOnFrom_48 : decode cX10_goOnFrom 48 = .ok (.aload_n 1, 1) := by decide +kernel
theorem dX10_goOnFrom_49 : decode cX10_goOnFrom 49 = .ok (.aload_n 0, 1) := by decide +kernel
theorem dX10_goOnFrom_50 : decode cX10_goOnFrom 50 = .ok (.getfield 9, 3) := by decide +kernel
theorem dX10_goOnFrom_53 : decode cX10_goOnFrom 53 = .ok (.iload_n 2, 1) := by decide +kernel
theorem dX10_goOnFrom_54 : decode cX10_goOnFrom 54 = .ok (.iconst 1, 1) := by decide +kernel
theorem dX10_goOnFrom_55 : decode cX10_goOnFrom 55 = .ok (.isub, 1) := by decide +kernel
theorem dX10_goOnFrom_56 : decode cX10_goOnFrom 56 = .ok (.iaload, 1) := by decide +kernel
theorem dX10_goOnFrom_57 : decode cX10_goOnFrom 57 = .ok (.iload 5, 2) := by decide +kernel
theorem dX10_goOnFrom_59 : decode cX10_goOnFrom 59 = .ok (.invokevirtual 47, 3) := by decide +kernel
theorem dX10_goOnFrom_62 : decode cX10_goOnFrom 62 = .ok (.iadd, 1) := by decide +kernel
theorem dX10_goOnFrom_63 : decode cX10_goOnFrom 63 = .ok (.istore 6, 2) := by decide +kernel
theorem dX10_goOnFrom_65 : decode cX10_goOnFrom 65 = .ok (.iload_n 3, 1) := by decide +kernel
theorem dX10_goOnFrom_66 : decode cX10_goOnFrom 66 = .ok (.iload 5, 2) := by decide +kernel
theorem dX10_goOnFrom_68 : decode cX10_goOnFrom 68 = .ok (.ishr, 1) := by decide +kernel
theorem dX10_goOnFrom_69 : decode cX10_goOnFrom 69 = .ok (.iconst 1, 1) := by decide +kernel
theorem dX10_goOnFrom_70 : decode cX10_goOnFrom 70 = .ok (.iand, 1) := by decide +kernel
theorem dX10_goOnFrom_71 : decode cX10_goOnFrom 71 = .ok (.iconst 1, 1) := by decide +kernel
theorem dX10_goOnFrom_72 : decode cX10_goOnFrom 72 = .ok (.if_icmp .ne 38, 3) := by decide +kernel
theorem dX10_goOnFrom_75 : decode cX10_goOnFrom 75 = .ok (.iload 6, 2) := by decide +kernel
theorem dX10_goOnFrom_77 : decode cX10_goOnFrom 77 = .ok (.aload_n 0, 1) := by decide +kernel
theorem dX10_goOnFrom_78 : decode cX10_goOnFrom 78 = .ok (.getfield 22, 3) := by decide +kernel
theorem dX10_goOnFrom_81 : decode cX10_goOnFrom 81 = .ok (.if_icmp .ge 29, 3) := by decide +kernel
theorem dX10_goOnFrom_84 : decode cX10_goOnFrom 84 = .ok (.aload_n 0, 1) := by decide +kernel
theorem dX10_goOnFrom_85 : decode cX10_goOnFrom 85 = .ok (.getfield 9, 3) := by decide +kernel
theorem dX10_goOnFrom_88 : decode cX10_goOnFrom 88 = .ok (.iload_n 2, 1) := by decide +kernel
theorem dX10_goOnFrom_89 : decode cX10_goOnFrom 89 = .ok (.iload 5, 2) := by decide +kernel
theorem dX10_goOnFrom_91 : decode cX10_goOnFrom 91 = .ok (.iastore, 1) := by decide +kernel
theorem dX10_goOnFrom_92 : decode cX10_goOnFrom 92 = .ok (.aload_n 0, 1) := by decide +kernel
theorem dX10_goOnFrom_93 : decode cX10_goOnFrom 93 = .ok (.aload_n 1, 1) := by decide +kernel
theorem dX10_goOnFrom_94 : decode cX10_goOnFrom 94 = .ok (.iload_n 2, 1) := by decide +kernel
theorem dX10_goOnFrom_95 : decode cX10_goOnFrom 95 = .ok (.iconst 1, 1) := by decide +kernel
theorem dX10_goOnFrom_96 : decode cX10_goOnFrom 96 = .ok (.iadd, 1) := by decide +kernel
theorem dX10_goOnFrom_97 : decode cX10_goOnFrom 97 = .ok (.iload_n 3, 1) := by decide +kernel
theorem dX10_goOnFrom_98 : decode cX10_goOnFrom 98 = .ok (.iconst 1, 1) := by decide +kernel
theorem dX10_goOnFrom_99 : decode cX10_goOnFrom 99 = .ok (.iload 5, 2) := by decide +kernel
theorem dX10_goOnFrom_101 : decode cX10_goOnFrom 101 = .ok (.ishl, 1) := by decide +kernel
theorem dX10_goOnFrom_102 : decode cX10_goOnFrom 102 = .ok (.iconst (-1), 1) := by decide +kernel
theorem dX10_goOnFrom_103 : decode cX10_goOnFrom 103 = .ok (.ixor, 1) := by decide +kernel
theorem dX10_goOnFrom_104 : decode cX10_goOnFrom 104 = .ok (.iand, 1) := by decide +kernel
theorem dX10_goOnFrom_105 : decode cX10_goOnFrom 105 = .ok (.iload 6, 2) := by decide +kernel
theorem dX10_goOnFrom_107 : decode cX10_goOnFrom 107 = .ok (.invokevirtual 32, 3) := by decide +kernel
theorem dX10_goOnFrom_110 : decode cX10_goOnFrom 110 = .ok (.iinc 5 1, 3) := by decide +kernel
theorem dX10_goOnFrom_113 : decode cX10_goOnFrom 113 = .ok (.goto (-76), 3) := by decide +kernel
theorem dX10_goOnFrom_116 : decode cX10_goOnFrom 116 = .ok (.return_, 1) := by decide +kernel
theorem dX11_init_0 : decode cX11_init 0 = .ok (.aload_n 0, 1) := by decide +kernel
theorem dX11_init_1 : decode cX11_init 1 = .ok (.invokespecial 1, 3) := by decide +kernel
theorem dX11_init_4 : decode cX11_init 4 = .ok (.aload_n 0, 1) := by decide +kernel
theorem dX11_init_5 : decode cX11_init 5 = .ok (.iconst 0, 1) := by decide +kernel
theorem dX11_init_6 : decode cX11_init 6 = .ok (.putfield 9, 3) := by decide +kernel
theorem dX11_init_9 : decode cX11_init 9 = .ok (.aload_n 0, 1) := by decide +kernel
theorem dX11_init_10 : decode cX11_init 10 = .ok (.lconst 0, 1) := by decide +kernel
theorem dX11_init_11 : decode cX11_init 11 = .ok (.putfield 13, 3) := by decide +kernel
theorem dX11_init_14 : decode cX11_init 14 = .ok (.aload_n 0, 1) := by decide +kernel
theorem dX11_init_15 : decode cX11_init 15 = .ok (.lconst 1, 1) := by decide +kernel
theorem dX11_init_16 : decode cX11_init 16 = .ok (.putfield 17, 3) := by decide +kernel
theorem dX11_init_19 : decode cX11_init 19 = .ok (.aload_n 0, 1) := by decide +kernel
theorem dX11_init_20 : decode cX11_init 20 = .ok (.iconst 4, 1) := by decide +kernel
theorem dX11_init_21 : decode cX11_init 21 = .ok (.bipush 60, 2) := by decide +kernel
theorem dX11_init_23 : decode cX11_init 23 = .ok (.multianewarray 20 2, 4) := by decide +kernel
theorem dX11_init_27 : decode cX11_init 27 = .ok (.putfield 22, 3) := by decide +kernel
theorem dX11_init_30 : decode cX11_init 30 = .ok (.aload_n 0, 1) := by decide +kernel
theorem dX11_init_31 : decode cX11_init 31 = .ok (.iconst 4, 1) := by decide +kernel
theorem dX11_init_32 : decode cX11_init 32 = .ok (.newarray .int, 2) := by decide +kernel
theorem dX11_init_34 : decode cX11_init 34 = .ok (.putfield 25, 3) := by decide +kernel
theorem dX11_init_37 : decode cX11_init 37 = .ok (.aload_n 0, 1) := by decide +kernel
theorem dX11_init_38 : decode cX11_init 38 = .ok (.iconst 4, 1) := by decide +kernel
theorem dX11_init_39 : decode cX11_init 39 = .ok (.newarray .int, 2) := by decide +kernel
theorem dX11_init_41 : decode cX11_init 41 = .ok (.putfield 29, 3) := by decide +kernel
theorem dX11_init_44 : decode cX11_init 44 = .ok (.aload_n 0, 1) := by decide +kernel
theorem dX11_init_45 : decode cX11_init 45 = .ok (.new 32, 3) := by decide +kernel
theorem dX11_init_48 : decode cX11_init 48 = .ok (.dup, 1) := by decide +kernel
theorem dX11_init_49 : decode cX11_init 49 = .ok (.invokespecial 34, 3) := by decide +kernel
theorem dX11_init_52 : decode cX11_init 52 = .ok (.putfield 35, 3) := by decide +kernel
theorem dX11_init_55 : decode cX11_init 55 = .ok (.aload_n 0, 1) := by decide +kernel
theorem dX11_init_56 : decode cX11_init 56 = .ok (.new 39, 3) := by decide +kernel
theorem dX11_init_59 : decode cX11_init 59 = .ok (.dup, 1) := by decide +kernel
theorem dX11_init_60 : decode cX11_init 60 = .ok (.aload_n 0, 1) := by decide +kernel
theorem dX11_init_61 : decode cX11_init 61 = .ok (.getfield 35, 3) := by decide +kernel
theorem dX11_init_64 : decode cX11_init 64 = .ok (.invokespecial 41, 3) := by decide +kernel
theorem dX11_init_67 : decode cX11_init 67 = .ok (.putfield 44, 3) := by decide +kernel
theorem dX11_init_70 : decode cX11_init 70 = .ok (.aload_n 0, 1) := by decide +kernel
theorem dX11_init_71 : decode cX11_init 71 = .ok (.new 48, 3) := by decide +kernel
theorem dX11_init_74 : decode cX11_init 74 = .ok (.dup, 1) := by decide +kernel
theorem dX11_init_75 : decode cX11_init 75 = .ok (.aload_n 0, 1) := by decide +kernel
theorem dX11_init_76 : decode cX11_init 76 = .ok (.getfield 35, 3) := by decide +kernel
theorem dX11_init_79 : decode cX11_init 79 = .ok (.invokespecial 50, 3) := by decide +kernel
theorem dX11_init_82 : decode cX11_init 82 = .ok (.putfield 51, 3) := by decide +kernel
theorem dX11_init_85 : decode cX11_init 85 = .ok (.aload_n 0, 1) := by decide +kernel
theorem dX11_init_86 : decode cX11_init 86 = .ok (.new 55, 3) := by decide +kernel
theorem dX11_init_89 : decode cX11_init 89 = .ok (.dup, 1) := by decide +kernel
theorem dX11_init_90 : decode cX11_init 90 = .ok (.invokespecial 57, 3) := by decide +kernel
theorem dX11_init_93 : decode cX11_init 93 = .ok (.putfield 58, 3) := by decide +kernel
theorem dX11_init_96 : decode cX11_init 96 = .ok (.aload_n 0, 1) := by decide +kernel
theorem dX11_init_97 : decode cX11_init 97 = .ok (.new 62, 3) := by decide +kernel
theorem dX11_init_100 : decode cX11_init 100 = .ok (.dup, 1) := by decide +kernel
theorem dX11_init_101 : decode cX11_init 101 = .ok (.invokespecial 64, 3) := by decide +kernel
theorem dX11_init_104 : decode cX11_init 104 = .ok (.putfield 65, 3) := by decide +kernel
theorem dX11_init_107 : decode cX11_init 107 = .ok (.aload_n 0, 1) := by decide +kernel
theorem dX11_init_108 : decode cX11_init 108 = .ok (.iconst 3, 1) := by decide +kernel
theorem dX11_init_109 : decode cX11_init 109 = .ok (.anewarray 55, 3) := by decide +kernel
theorem dX11_init_112 : decode cX11_init 112 = .ok (.putfield 69, 3) := by decide +kernel
theorem dX11_init_115 : decode cX11_init 115 = .ok (.aload_n 0, 1) := by decide +kernel
theorem dX11_init_116 : decode cX11_init 116 = .ok (.iconst 3, 1) := by decide +kernel
theorem dX11_init_117 : decode cX11_init 117 = .ok (.anewarray 62, 3) := by decide +kernel
theorem dX11_init_120 : decode cX11_init 120 = .ok (.putfield 73, 3) := by decide +kernel
theorem dX11_init_123 : decode cX11_init 123 = .ok (.aload_n 0, 1) := by decide +kernel
theorem dX11_init_124 : decode cX11_init 124 = .ok (.iconst 0, 1) := by decide +kernel
theorem dX11_init_125 : decode cX11_init 125 = .ok (.putfield 77, 3) := by decide +kernel
theorem dX11_init_128 : decode cX11_init 128 = .ok (.aload_n 0, 1) := by decide +kernel
theorem dX11_init_129 : decode cX11_init 129 = .ok (.new 80, 3) := by decide +kernel
theorem dX11_init_132 : decode cX11_init 132 = .ok (.dup, 1) := by decide +kernel
theorem dX11_init_133 : decode cX11_init 133 = .ok (.invokespecial 82, 3) := by decide +kernel
theorem dX11_init_136 : decode cX11_init 136 = .ok (.putfield 83, 3) := by decide +kernel
theorem dX11_init_139 : decode cX11_init 139 = .ok (.aload_n 0, 1) := by decide +kernel
theorem dX11_init_140 : decode cX11_init 140 = .ok (.new 87, 3) := by decide +kernel
theorem dX11_init_143 : decode cX11_init 143 = .ok (.dup, 1) := by decide +kernel
theorem dX11_init_144 : decode cX11_init 144 = .ok (.invokespecial 89, 3) := by decide +kernel
theorem dX11_init_147 : decode cX11_init 147 = .ok (.putfield 90, 3) := by decide +kernel
theorem dX11_init_150 : decode cX11_init 150 = .ok (.aload_n 0, 1) := by decide +kernel
theorem dX11_init_151 : decode cX11_init 151 = .ok (.new 94, 3) := by decide +kernel
theorem dX11_init_154 : decode cX11_init 154 = .ok (.dup, 1) := by decide +kernel
theorem dX11_init_155 : decode cX11_init 155 = .ok (.invokespecial 96, 3) := by decide +kernel
theorem dX11_init_158 : decode cX11_init 158 = .ok (.putfield 97, 3) := by decide +kernel
theorem dX11_init_161 : decode cX11_init 161 = .ok (.aload_n 0, 1) := by decide +kernel
theorem dX11_init_162 : decode cX11_init 162 = .ok (.new 101, 3) := by decide +kernel
theorem dX11_init_165 : decode cX11_init 165 = .ok (.dup, 1) := by decide +kernel
theorem dX11_init_166 : decode cX11_init 166 = .ok (.invokespecial 103, 3) := by decide +kernel
theorem dX11_init_169 : decode cX11_init 169 = .ok (.putfield 104, 3) := by decide +kernel
theorem dX11_init_172 : decode cX11_init 172 = .ok (.aload_n 0, 1) := by decide +kernel
theorem dX11_init_173 : decode cX11_init 173 = .ok (.new 108, 3) := by decide +kernel
theorem dX11_init_176 : decode cX11_init 176 = .ok (.dup, 1) := by decide +kernel
theorem dX11_init_177 : decode cX11_init 177 = .ok (.invokespecial 110, 3) := by decide +kernel
theorem dX11_init_180 : decode cX11_init 180 = .ok (.putfield 111, 3) := by decide +kernel
theorem dX11_init_183 : decode cX11_init 183 = .ok (.aload_n 0, 1) := by decide +kernel
theorem dX11_init_184 : decode cX11_init 184 = .ok (.getfield 29, 3) := by decide +kernel
theorem dX11_init_187 : decode cX11_init 187 = .ok (.iconst (-1), 1) := by decide +kernel
theorem dX11_init_188 : decode cX11_init 188 = .ok (.invokestatic 115, 3) := by decide +kernel
theorem dX11_init_191 : decode cX11_init 191 = .ok (.iconst 0, 1) := by decide +kernel
theorem dX11_init_192 : decode cX11_init 192 = .ok (.istore_n 1, 1) := by decide +kernel
theorem dX11_init_193 : decode cX11_init 193 = .ok (.iload_n 1, 1) := by decide +kernel
theorem dX11_init_194 : decode cX11_init 194 = .ok (.iconst 3, 1) := by decide +kernel
theorem dX11_init_195 : decode cX11_init 195 = .ok (.if_icmp .ge 35, 3) := by decide +kernel
theorem dX11_init_198 : decode cX11_init 198 = .ok (.aload_n 0, 1) := by decide +kernel
theorem dX11_init_199 : decode cX11_init 199 = .ok (.getfield 69, 3) := by decide +kernel
theorem dX11_init_202 : decode cX11_init 202 = .ok (.iload_n 1, 1) := by decide +kernel
theorem dX11_init_203 : decode cX11_init 203 = .ok (.new 55, 3) := by decide +kernel
theorem dX11_init_206 : decode cX11_init 206 = .ok (.dup, 1) := by decide +kernel
theorem dX11_init_207 : decode cX11_init 207 = .ok (.invokespecial 57, 3) := by decide +kernel
theorem dX11_init_210 : decode cX11_init 210 = .ok (.aastore, 1) := by decide +kernel
theorem dX11_init_211 : decode cX11_init 211 = .ok (.aload_n 0, 1) := by decide +kernel
theorem dX11_init_212 : decode cX11_init 212 = .ok (.getfield 73, 3) := by decide +kernel
theorem dX11_init_215 : decode cX11_init 215 = .ok (.iload_n 1, 1) := by decide +kernel
theorem dX11_init_216 : decode cX11_init 216 = .ok (.new 62, 3) := by decide +kernel
theorem dX11_init_219 : decode cX11_init 219 = .ok (.dup, 1) := by decide +kernel
theorem dX11_init_220 : decode cX11_init 220 = .ok (.invokespecial 64, 3) := by decide +kernel
theorem dX11_init_223 : decode cX11_init 223 = .ok (.aastore, 1) := by decide +kernel
theorem dX11_init_224 : decode cX11_init 224 = .ok (.iinc 1 1, 3) := by decide +kernel
theorem dX11_init_227 : decode cX11_init 227 = .ok (.goto (-34), 3) := by decide +kernel
theorem dX11_init_230 : decode cX11_init 230 = .ok (.return_, 1) := by decide +kernel
theorem dX11_status_0 : decode cX11_status 0 = .ok (.aload_n 0, 1) := by decide +kernel
theorem dX11_status_1 : decode cX11_status 1 = .ok (.getfield 9, 3) := by decide +kernel
theorem dX11_status_4 : decode cX11_status 4 = .ok (.ireturn, 1) := by decide +kernel
theorem dX11_top_0 : decode cX11_top 0 = .ok (.aload_n 0, 1) := by decide +kernel
theorem dX11_top_1 : decode cX11_top 1 = .ok (.getfield 13, 3) := by decide +kernel
theorem dX11_top_4 : decode cX11_top 4 = .ok (.lreturn, 1) := by decide +kernel
theorem dX11_bottom_0 : decode cX11_bottom 0 = .ok (.aload_n 0, 1) := by decide +kernel
theorem dX11_bottom_1 : decode cX11_bottom 1 = .ok (.getfield 17, 3) := by decide +kernel
theorem dX11_bottom_4 : decode cX11_bottom 4 = .ok (.lreturn, 1) := by decide +kernel
theorem dX11_tray_0 : decode cX11_tray 0 = .ok (.iload_n 1, 1) := by decide +kernel
theorem dX11_tray_1 : decode cX11_tray 1 = .ok (.invokestatic 121, 3) := by decide +kernel
theorem dX11_tray_4 : decode cX11_tray 4 = .ok (.ifCond .eq 27, 3) := by decide +kernel
theorem dX11_tray_7 : decode cX11_tray 7 = .ok (.iload_n 2, 1) := by decide +kernel
theorem dX11_tray_8 : decode cX11_tray 8 = .ok (.i2l, 1) := by decide +kernel
theorem dX11_tray_9 : decode cX11_tray 9 = .ok (.lconst 0, 1) := by decide +kernel
theorem dX11_tray_10 : decode cX11_tray 10 = .ok (.ldc2_w 125, 3) := by decide +kernel
theorem dX11_tray_13 : decode cX11_tray 13 = .ok (.invokestatic 127, 3) := by decide +kernel
theorem dX11_tray_16 : decode cX11_tray 16 = .ok (.ifCond .ne 15, 3) := by decide +kernel
theorem dX11_tray_19 : decode cX11_tray 19 = .ok (.iload_n 3, 1) := by decide +kernel
theorem dX11_tray_20 : decode cX11_tray 20 = .ok (.i2l, 1) := by decide +kernel
theorem dX11_tray_21 : decode cX11_tray 21 = .ok (.lconst 0, 1) := by decide +kernel
theorem dX11_tray_22 : decode cX11_tray 22 = .ok (.ldc2_w 131, 3) := by decide +kernel
theorem dX11_tray_25 : decode cX11_tray 25 = .ok (.invokestatic 127, 3) := by decide +kernel
theorem dX11_tray_28 : decode cX11_tray 28 = .ok (.ifCond .eq 9, 3) := by decide +kernel
theorem dX11_tray_31 : decode cX11_tray 31 = .ok (.aload_n 0, 1) := by decide +kernel
theorem dX11_tray_32 : decode cX11_tray 32 = .ok (.iconst 1, 1) := by decide +kernel
theorem dX11_tray_33 : decode cX11_tray 33 = .ok (.invokevirtual 133, 3) := by decide +kernel
theorem dX11_tray_36 : decode cX11_tray 36 = .ok (.ireturn, 1) := by decide +kernel
theorem dX11_tray_37 : decode cX11_tray 37 = .ok (.aload_n 0, 1) := by decide +kernel
theorem dX11_tray_38 : decode cX11_tray 38 = .ok (.getfield 22, 3) := by decide +kernel
theorem dX11_tray_41 : decode cX11_tray 41 = .ok (.iload_n 1, 1) := by decide +kernel
theorem dX11_tray_42 : decode cX11_tray 42 = .ok (.aaload, 1) := by decide +kernel
theorem dX11_tray_43 : decode cX11_tray 43 = .ok (.lconst 0, 1) := by decide +kernel
theorem dX11_tray_44 : decode cX11_tray 44 = .ok (.invokestatic 136, 3) := by decide +kernel
theorem dX11_tray_47 : decode cX11_tray 47 = .ok (.aload_n 0, 1) := by decide +kernel
theorem dX11_tray_48 : decode cX11_tray 48 = .ok (.getfield 25, 3) := by decide +kernel
theorem dX11_tray_51 : decode cX11_tray 51 = .ok (.iload_n 1, 1) := by decide +kernel
theorem dX11_tray_52 : decode cX11_tray 52 = .ok (.iload_n 2, 1) := by decide +kernel
theorem dX11_tray_53 : decode cX11_tray 53 = .ok (.iastore, 1) := by decide +kernel
theorem dX11_tray_54 : decode cX11_tray 54 = .ok (.aload_n 0, 1) := by decide +kernel
theorem dX11_tray_55 : decode cX11_tray 55 = .ok (.getfield 29, 3) := by decide +kernel
theorem dX11_tray_58 : decode cX11_tray 58 = .ok (.iload_n 1, 1) := by decide +kernel
theorem dX11_tray_59 : decode cX11_tray 59 = .ok (.iload_n 3, 1) := by decide +kernel
theorem dX11_tray_60 : decode cX11_tray 60 = .ok (.iastore, 1) := by decide +kernel
theorem dX11_tray_61 : decode cX11_tray 61 = .ok (.aload_n 0, 1) := by decide +kernel
theorem dX11_tray_62 : decode cX11_tray 62 = .ok (.invokevirtual 139, 3) := by decide +kernel
theorem dX11_tray_65 : decode cX11_tray 65 = .ok (.ireturn, 1) := by decide +kernel
theorem dX11_write_0 : decode cX11_write 0 = .ok (.aload_n 0, 1) := by decide +kernel
theorem dX11_write_1 : decode cX11_write 1 = .ok (.iload_n 1, 1) := by decide +kernel
theorem dX11_write_2 : decode cX11_write 2 = .ok (.iload_n 2, 1) := by decide +kernel
theorem dX11_write_3 : decode cX11_write 3 = .ok (.invokevirtual 143, 3) := by decide +kernel
theorem dX11_write_6 : decode cX11_write 6 = .ok (.istore 5, 2) := by decide +kernel
theorem dX11_write_8 : decode cX11_write 8 = .ok (.iload 5, 2) := by decide +kernel
theorem dX11_write_10 : decode cX11_write 10 = .ok (.ifCond .eq 10, 3) := by decide +kernel
theorem dX11_write_13 : decode cX11_write 13 = .ok (.aload_n 0, 1) := by decide +kernel
theorem dX11_write_14 : decode cX11_write 14 = .ok (.iload 5, 2) := by decide +kernel
theorem dX11_write_16 : decode cX11_write 16 = .ok (.invokevirtual 133, 3) := by decide +kernel
theorem dX11_write_19 : decode cX11_write 19 = .ok (.ireturn, 1) := by decide +kernel
theorem dX11_write_20 : decode cX11_write 20 = .ok (.aload_n 0, 1) := by decide +kernel
theorem dX11_write_21 : decode cX11_write 21 = .ok (.getfield 22, 3) := by decide +kernel
theorem dX11_write_24 : decode cX11_write 24 = .ok (.iload_n 1, 1) := by decide +kernel
theorem dX11_write_25 : decode cX11_write 25 = .ok (.aaload, 1) := by decide +kernel
theorem dX11_write_26 : decode cX11_write 26 = .ok (.iload_n 2, 1) := by decide +kernel
theorem dX11_write_27 : decode cX11_write 27 = .ok (.lload_n 3, 1) := by decide +kernel
theorem dX11_write_28 : decode cX11_write 28 = .ok (.aload_n 0, 1) := by decide +kernel
theorem dX11_write_29 : decode cX11_write 29 = .ok (.getfield 25, 3) := by decide +kernel
theorem dX11_write_32 : decode cX11_write 32 = .ok (.iload_n 1, 1) := by decide +kernel
theorem dX11_write_33 : decode cX11_write 33 = .ok (.iaload, 1) := by decide +kernel
theorem dX11_write_34 : decode cX11_write 34 = .ok (.invokestatic 147, 3) := by decide +kernel
theorem dX11_write_37 : decode cX11_write 37 = .ok (.lastore, 1) := by decide +kernel
theorem dX11_write_38 : decode cX11_write 38 = .ok (.aload_n 0, 1) := by decide +kernel
theorem dX11_write_39 : decode cX11_write 39 = .ok (.invokevirtual 139, 3) := by decide +kernel
theorem dX11_write_42 : decode cX11_write 42 = .ok (.ireturn, 1) := by decide +kernel
theorem dX11_read_0 : decode cX11_read 0 = .ok (.aload_n 0, 1) := by decide +kernel
theorem dX11_read_1 : decode cX11_read 1 = .ok (.iload_n 1, 1) := by decide +kernel
theorem dX11_read_2 : decode cX11_read 2 = .ok (.iload_n 2, 1) := by decide +kernel
theorem dX11_read_3 : decode cX11_read 3 = .ok (.invokevirtual 143, 3) := by decide +kernel
theorem dX11_read_6 : decode cX11_read 6 = .ok (.istore_n 3, 1) := by decide +kernel
theorem dX11_read_7 : decode cX11_read 7 = .ok (.iload_n 3, 1) := by decide +kernel
theorem dX11_read_8 : decode cX11_read 8 = .ok (.ifCond .eq 10, 3) := by decide +kernel
theorem dX11_read_11 : decode cX11_read 11 = .ok (.aload_n 0, 1) := by decide +kernel
theorem dX11_read_12 : decode cX11_read 12 = .ok (.iload_n 3, 1) := by decide +kernel
theorem dX11_read_13 : decode cX11_read 13 = .ok (.invokevirtual 151, 3) := by decide +kernel
theorem dX11_read_16 : decode cX11_read 16 = .ok (.i2l, 1) := by decide +kernel
theorem dX11_read_17 : decode cX11_read 17 = .ok (.lreturn, 1) := by decide +kernel
theorem dX11_read_18 : decode cX11_read 18 = .ok (.aload_n 0, 1) := by decide +kernel
theorem dX11_read_19 : decode cX11_read 19 = .ok (.iconst 0, 1) := by decide +kernel
theorem dX11_read_20 : decode cX11_read 20 = .ok (.putfield 9, 3) := by decide +kernel
theorem dX11_read_23 : decode cX11_read 23 = .ok (.aload_n 0, 1) := by decide +kernel
theorem dX11_read_24 : decode cX11_read 24 = .ok (.getfield 22, 3) := by decide +kernel
theorem dX11_read_27 : decode cX11_read 27 = .ok (.iload_n 1, 1) := by decide +kernel
theorem dX11_read_28 : decode cX11_read 28 = .ok (.aaload, 1) := by decide +kernel
theorem dX11_read_29 : decode cX11_read 29 = .ok (.iload_n 2, 1) := by decide +kernel
theorem dX11_read_30 : decode cX11_read 30 = .ok (.laload, 1) := by decide +kernel
theorem dX11_read_31 : decode cX11_read 31 = .ok (.lreturn, 1) := by decide +kernel
theorem dX11_pour_0 : decode cX11_pour 0 = .ok (.iload_n 1, 1) := by decide +kernel
theorem dX11_pour_1 : decode cX11_pour 1 = .ok (.invokestatic 121, 3) := by decide +kernel
theorem dX11_pour_4 : decode cX11_pour 4 = .ok (.ifCond .eq 24, 3) := by decide +kernel
theorem dX11_pour_7 : decode cX11_pour 7 = .ok (.iload_n 3, 1) := by decide +kernel
theorem dX11_pour_8 : decode cX11_pour 8 = .ok (.invokestatic 121, 3) := by decide +kernel
theorem dX11_pour_11 : decode cX11_pour 11 = .ok (.ifCond .eq 17, 3) := by decide +kernel
theorem dX11_pour_14 : decode cX11_pour 14 = .ok (.iload_n 2, 1) := by decide +kernel
theorem dX11_pour_15 : decode cX11_pour 15 = .ok (.ifCond .lt 13, 3) := by decide +kernel
theorem dX11_pour_18 : decode cX11_pour 18 = .ok (.iload 4, 2) := by decide +kernel
theorem dX11_pour_20 : decode cX11_pour 20 = .ok (.ifCond .lt 8, 3) := by decide +kernel
theorem dX11_pour_23 : decode cX11_pour 23 = .ok (.iload 5, 2) := by decide +kernel
theorem dX11_pour_25 : decode cX11_pour 25 = .ok (.ifCond .ge 9, 3) := by decide +kernel
theorem dX11_pour_28 : decode cX11_pour 28 = .ok (.aload_n 0, 1) := by decide +kernel
theorem dX11_pour_29 : decode cX11_pour 29 = .ok (.iconst 1, 1) := by decide +kernel
theorem dX11_pour_30 : decode cX11_pour 30 = .ok (.invokevirtual 133, 3) := by decide +kernel
theorem dX11_pour_33 : decode cX11_pour 33 = .ok (.ireturn, 1) := by decide +kernel
theorem dX11_pour_34 : decode cX11_pour 34 = .ok (.aload_n 0, 1) := by decide +kernel
theorem dX11_pour_35 : decode cX11_pour 35 = .ok (.getfield 29, 3) := by decide +kernel
theorem dX11_pour_38 : decode cX11_pour 38 = .ok (.iload_n 1, 1) := by decide +kernel
theorem dX11_pour_39 : decode cX11_pour 39 = .ok (.iaload, 1) := by decide +kernel
theorem dX11_pour_40 : decode cX11_pour 40 = .ok (.iconst (-1), 1) := by decide +kernel
theorem dX11_pour_41 : decode cX11_pour 41 = .ok (.if_icmp .eq 13, 3) := by decide +kernel
theorem dX11_pour_44 : decode cX11_pour 44 = .ok (.aload_n 0, 1) := by decide +kernel
theorem dX11_pour_45 : decode cX11_pour 45 = .ok (.getfield 29, 3) := by decide +kernel
theorem dX11_pour_48 : decode cX11_pour 48 = .ok (.iload_n 3, 1) := by decide +kernel
theorem dX11_pour_49 : decode cX11_pour 49 = .ok (.iaload, 1) := by decide +kernel
theorem dX11_pour_50 : decode cX11_pour 50 = .ok (.iconst (-1), 1) := by decide +kernel
theorem dX11_pour_51 : decode cX11_pour 51 = .ok (.if_icmp .ne 9, 3) := by decide +kernel
theorem dX11_pour_54 : decode cX11_pour 54 = .ok (.aload_n 0, 1) := by decide +kernel
theorem dX11_pour_55 : decode cX11_pour 55 = .ok (.iconst 2, 1) := by decide +kernel
theorem dX11_pour_56 : decode cX11_pour 56 = .ok (.invokevirtual 133, 3) := by decide +kernel
theorem dX11_pour_59 : decode cX11_pour 59 = .ok (.ireturn, 1) := by decide +kernel
theorem dX11_pour_60 : decode cX11_pour 60 = .ok (.aload_n 0, 1) := by decide +kernel
theorem dX11_pour_61 : decode cX11_pour 61 = .ok (.getfield 25, 3) := by decide +kernel
theorem dX11_pour_64 : decode cX11_pour 64 = .ok (.iload_n 1, 1) := by decide +kernel
theorem dX11_pour_65 : decode cX11_pour 65 = .ok (.iaload, 1) := by decide +kernel
theorem dX11_pour_66 : decode cX11_pour 66 = .ok (.aload_n 0, 1) := by decide +kernel
theorem dX11_pour_67 : decode cX11_pour 67 = .ok (.getfield 25, 3) := by decide +kernel
theorem dX11_pour_70 : decode cX11_pour 70 = .ok (.iload_n 3, 1) := by decide +kernel
theorem dX11_pour_71 : decode cX11_pour 71 = .ok (.iaload, 1) := by decide +kernel
theorem dX11_pour_72 : decode cX11_pour 72 = .ok (.if_icmp .eq 10, 3) := by decide +kernel
theorem dX11_pour_75 : decode cX11_pour 75 = .ok (.aload_n 0, 1) := by decide +kernel
theorem dX11_pour_76 : decode cX11_pour 76 = .ok (.bipush 8, 2) := by decide +kernel
theorem dX11_pour_78 : decode cX11_pour 78 = .ok (.invokevirtual 133, 3) := by decide +kernel
theorem dX11_pour_81 : decode cX11_pour 81 = .ok (.ireturn, 1) := by decide +kernel
theorem dX11_pour_82 : decode cX11_pour 82 = .ok (.iload_n 2, 1) := by decide +kernel
theorem dX11_pour_83 : decode cX11_pour 83 = .ok (.aload_n 0, 1) := by decide +kernel
theorem dX11_pour_84 : decode cX11_pour 84 = .ok (.getfield 29, 3) := by decide +kernel
theorem dX11_pour_87 : decode cX11_pour 87 = .ok (.iload_n 1, 1) := by decide +kernel
theorem dX11_pour_88 : decode cX11_pour 88 = .ok (.iaload, 1) := by decide +kernel
theorem dX11_pour_89 : decode cX11_pour 89 = .ok (.iload 5, 2) := by decide +kernel
theorem dX11_pour_91 : decode cX11_pour 91 = .ok (.isub, 1) := by decide +kernel
theorem dX11_pour_92 : decode cX11_pour 92 = .ok (.if_icmp .gt 17, 3) := by decide +kernel
theorem dX11_pour_95 : decode cX11_pour 95 = .ok (.iload 4, 2) := by decide +kernel
theorem dX11_pour_97 : decode cX11_pour 97 = .ok (.aload_n 0, 1) := by decide +kernel
theorem dX11_pour_98 : decode cX11_pour 98 = .ok (.getfield 29, 3) := by decide +kernel
theorem dX11_pour_101 : decode cX11_pour 101 = .ok (.iload_n 3, 1) := by decide +kernel
theorem dX11_pour_102 : decode cX11_pour 102 = .ok (.iaload, 1) := by decide +kernel
theorem dX11_pour_103 : decode cX11_pour 103 = .ok (.iload 5, 2) := by decide +kernel
theorem dX11_pour_105 : decode cX11_pour 105 = .ok (.isub, 1) := by decide +kernel
theorem dX11_pour_106 : decode cX11_pour 106 = .ok (.if_icmp .le 9, 3) := by decide +kernel
theorem dX11_pour_109 : decode cX11_pour 109 = .ok (.aload_n 0, 1) := by decide +kernel
theorem dX11_pour_110 : decode cX11_pour 110 = .ok (.iconst 3, 1) := by decide +kernel
theorem dX11_pour_111 : decode cX11_pour 111 = .ok (.invokevirtual 133, 3) := by decide +kernel
theorem dX11_pour_114 : decode cX11_pour 114 = .ok (.ireturn, 1) := by decide +kernel
theorem dX11_pour_115 : decode cX11_pour 115 = .ok (.aload_n 0, 1) := by decide +kernel
theorem dX11_pour_116 : decode cX11_pour 116 = .ok (.getfield 22, 3) := by decide +kernel
theorem dX11_pour_119 : decode cX11_pour 119 = .ok (.iload_n 1, 1) := by decide +kernel
theorem dX11_pour_120 : decode cX11_pour 120 = .ok (.aaload, 1) := by decide +kernel
theorem dX11_pour_121 : decode cX11_pour 121 = .ok (.iload_n 2, 1) := by decide +kernel
theorem dX11_pour_122 : decode cX11_pour 122 = .ok (.aload_n 0, 1) := by decide +kernel
theorem dX11_pour_123 : decode cX11_pour 123 = .ok (.getfield 22, 3) := by decide +kernel
theorem dX11_pour_126 : decode cX11_pour 126 = .ok (.iload_n 3, 1) := by decide +kernel
theorem dX11_pour_127 : decode cX11_pour 127 = .ok (.aaload, 1) := by decide +kernel
theorem dX11_pour_128 : decode cX11_pour 128 = .ok (.iload 4, 2) := by decide +kernel
theorem dX11_pour_130 : decode cX11_pour 130 = .ok (.iload 5, 2) := by decide +kernel
theorem dX11_pour_132 : decode cX11_pour 132 = .ok (.invokestatic 155, 3) := by decide +kernel
theorem dX11_pour_135 : decode cX11_pour 135 = .ok (.aload_n 0, 1) := by decide +kernel
theorem dX11_pour_136 : decode cX11_pour 136 = .ok (.invokevirtual 139, 3) := by decide +kernel
theorem dX11_pour_139 : decode cX11_pour 139 = .ok (.ireturn, 1) := by decide +kernel
theorem dX11_feed_0 : decode cX11_feed 0 = .ok (.aload_n 0, 1) := by decide +kernel
theorem dX11_feed_1 : decode cX11_feed 1 = .ok (.getfield 35, 3) := by decide +kernel
theorem dX11_feed_4 : decode cX11_feed 4 = .ok (.getfield 161, 3) := by decide +kernel
theorem dX11_feed_7 : decode cX11_feed 7 = .ok (.sipush 680, 3) := by decide +kernel
theorem dX11_feed_10 : decode cX11_feed 10 = .ok (.if_icmp .le 5, 3) := by decide +kernel
theorem dX11_feed_13 : decode cX11_feed 13 = .ok (.iconst (-1), 1) := by decide +kernel
theorem dX11_feed_14 : decode cX11_feed 14 = .ok (.ireturn, 1) := by decide +kernel
theorem dX11_feed_15 : decode cX11_feed 15 = .ok (.aload_n 0, 1) := by decide +kernel
theorem dX11_feed_16 : decode cX11_feed 16 = .ok (.getfield 35, 3) := by decide +kernel
theorem dX11_feed_19 : decode cX11_feed 19 = .ok (.iload_n 1, 1) := by decide +kernel
theorem dX11_feed_20 : decode cX11_feed 20 = .ok (.invokevirtual 164, 3) := by decide +kernel
theorem dX11_feed_23 : decode cX11_feed 23 = .ok (.aload_n 0, 1) := by decide +kernel
theorem dX11_feed_24 : decode cX11_feed 24 = .ok (.getfield 35, 3) := by decide +kernel
theorem dX11_feed_27 : decode cX11_feed 27 = .ok (.iload_n 2, 1) := by decide +kernel
theorem dX11_feed_28 : decode cX11_feed 28 = .ok (.invokevirtual 164, 3) := by decide +kernel
theorem dX11_feed_31 : decode cX11_feed 31 = .ok (.aload_n 0, 1) := by decide +kernel
theorem dX11_feed_32 : decode cX11_feed 32 = .ok (.getfield 35, 3) := by decide +kernel
theorem dX11_feed_35 : decode cX11_feed 35 = .ok (.iload_n 3, 1) := by decide +kernel
theorem dX11_feed_36 : decode cX11_feed 36 = .ok (.invokevirtual 164, 3) := by decide +kernel
theorem dX11_feed_39 : decode cX11_feed 39 = .ok (.aload_n 0, 1) := by decide +kernel
theorem dX11_feed_40 : decode cX11_feed 40 = .ok (.getfield 35, 3) := by decide +kernel
theorem dX11_feed_43 : decode cX11_feed 43 = .ok (.iload 4, 2) := by decide +kernel
theorem dX11_feed_45 : decode cX11_feed 45 = .ok (.invokevirtual 164, 3) := by decide +kernel
theorem dX11_feed_48 : decode cX11_feed 48 = .ok (.aload_n 0, 1) := by decide +kernel
theorem dX11_feed_49 : decode cX11_feed 49 = .ok (.getfield 35, 3) := by decide +kernel
theorem dX11_feed_52 : decode cX11_feed 52 = .ok (.iload 5, 2) := by decide +kernel
theorem dX11_feed_54 : decode cX11_feed 54 = .ok (.invokevirtual 164, 3) := by decide +kernel
theorem dX11_feed_57 : decode cX11_feed 57 = .ok (.aload_n 0, 1) := by decide +kernel
theorem dX11_feed_58 : decode cX11_feed 58 = .ok (.getfield 35, 3) := by decide +kernel
theorem dX11_feed_61 : decode cX11_feed 61 = .ok (.getfield 161, 3) := by decide +kernel
theorem dX11_feed_64 : decode cX11_feed 64 = .ok (.ireturn, 1) := by decide +kernel
theorem dX11_line_0 : decode cX11_line 0 = .ok (.iload_n 1, 1) := by decide +kernel
theorem dX11_line_1 : decode cX11_line 1 = .ok (.i2l, 1) := by decide +kernel
theorem dX11_line_2 : decode cX11_line 2 = .ok (.lconst 0, 1) := by decide +kernel
theorem dX11_line_3 : decode cX11_line 3 = .ok (.aload_n 0, 1) := by decide +kernel
theorem dX11_line_4 : decode cX11_line 4 = .ok (.getfield 35, 3) := by decide +kernel
theorem dX11_line_7 : decode cX11_line 7 = .ok (.getfield 161, 3) := by decide +kernel
theorem dX11_line_10 : decode cX11_line 10 = .ok (.i2l, 1) := by decide +kernel
theorem dX11_line_11 : decode cX11_line 11 = .ok (.invokestatic 127, 3) := by decide +kernel
theorem dX11_line_14 : decode cX11_line 14 = .ok (.ifCond .eq 9, 3) := by decide +kernel
theorem dX11_line_17 : decode cX11_line 17 = .ok (.aload_n 0, 1) := by decide +kernel
theorem dX11_line_18 : decode cX11_line 18 = .ok (.iconst 1, 1) := by decide +kernel
theorem dX11_line_19 : decode cX11_line 19 = .ok (.invokevirtual 151, 3) := by decide +kernel
theorem dX11_line_22 : decode cX11_line 22 = .ok (.ireturn, 1) := by decide +kernel
theorem dX11_line_23 : decode cX11_line 23 = .ok (.aload_n 0, 1) := by decide +kernel
theorem dX11_line_24 : decode cX11_line 24 = .ok (.getfield 44, 3) := by decide +kernel
theorem dX11_line_27 : decode cX11_line 27 = .ok (.iload_n 1, 1) := by decide +kernel
theorem dX11_line_28 : decode cX11_line 28 = .ok (.invokevirtual 168, 3) := by decide +kernel
theorem dX11_line_31 : decode cX11_line 31 = .ok (.ifCond .ne 10, 3) := by decide +kernel
theorem dX11_line_34 : decode cX11_line 34 = .ok (.aload_n 0, 1) := by decide +kernel
theorem dX11_line_35 : decode cX11_line 35 = .ok (.bipush 9, 2) := by decide +kernel
theorem dX11_line_37 : decode cX11_line 37 = .ok (.invokevirtual 151, 3) := by decide +kernel
theorem dX11_line_40 : decode cX11_line 40 = .ok (.ireturn, 1) := by decide +kernel
theorem dX11_line_41 : decode cX11_line 41 = .ok (.aload_n 0, 1) := by decide +kernel
theorem dX11_line_42 : decode cX11_line 42 = .ok (.getfield 58, 3) := by decide +kernel
theorem dX11_line_45 : decode cX11_line 45 = .ok (.aload_n 0, 1) := by decide +kernel
theorem dX11_line_46 : decode cX11_line 46 = .ok (.getfield 44, 3) := by decide +kernel
theorem dX11_line_49 : decode cX11_line 49 = .ok (.getfield 171, 3) := by decide +kernel
theorem dX11_line_52 : decode cX11_line 52 = .ok (.invokevirtual 174, 3) := by decide +kernel
theorem dX11_line_55 : decode cX11_line 55 = .ok (.aload_n 0, 1) := by decide +kernel
theorem dX11_line_56 : decode cX11_line 56 = .ok (.aload_n 0, 1) := by decide +kernel
theorem dX11_line_57 : decode cX11_line 57 = .ok (.getfield 58, 3) := by decide +kernel
theorem dX11_line_60 : decode cX11_line 60 = .ok (.getfield 178, 3) := by decide +kernel
theorem dX11_line_63 : decode cX11_line 63 = .ok (.getfield 182, 3) := by decide +kernel
theorem dX11_line_66 : decode cX11_line 66 = .ok (.invokevirtual 187, 3) := by decide +kernel
theorem dX11_line_69 : decode cX11_line 69 = .ok (.ireturn, 1) := by decide +kernel
theorem dX11_shift_0 : decode cX11_shift 0 = .ok (.iload_n 1, 1) := by decide +kernel
theorem dX11_shift_1 : decode cX11_shift 1 = .ok (.i2l, 1) := by decide +kernel
theorem dX11_shift_2 : decode cX11_shift 2 = .ok (.lconst 0, 1) := by decide +kernel
theorem dX11_shift_3 : decode cX11_shift 3 = .ok (.sipush 300, 3) := by decide +kernel
theorem dX11_shift_6 : decode cX11_shift 6 = .ok (.aload_n 0, 1) := by decide +kernel
theorem dX11_shift_7 : decode cX11_shift 7 = .ok (.getfield 35, 3) := by decide +kernel
theorem dX11_shift_10 : decode cX11_shift 10 = .ok (.getfield 161, 3) := by decide +kernel
theorem dX11_shift_13 : decode cX11_shift 13 = .ok (.invokestatic 190, 3) := by decide +kernel
theorem dX11_shift_16 : decode cX11_shift 16 = .ok (.i2l, 1) := by decide +kernel
theorem dX11_shift_17 : decode cX11_shift 17 = .ok (.invokestatic 127, 3) := by decide +kernel
theorem dX11_shift_20 : decode cX11_shift 20 = .ok (.ifCond .eq 9, 3) := by decide +kernel
theorem dX11_shift_23 : decode cX11_shift 23 = .ok (.aload_n 0, 1) := by decide +kernel
theorem dX11_shift_24 : decode cX11_shift 24 = .ok (.iconst 1, 1) := by decide +kernel
theorem dX11_shift_25 : decode cX11_shift 25 = .ok (.invokevirtual 151, 3) := by decide +kernel
theorem dX11_shift_28 : decode cX11_shift 28 = .ok (.ireturn, 1) := by decide +kernel
theorem dX11_shift_29 : decode cX11_shift 29 = .ok (.aload_n 0, 1) := by decide +kernel
theorem dX11_shift_30 : decode cX11_shift 30 = .ok (.getfield 51, 3) := by decide +kernel
theorem dX11_shift_33 : decode cX11_shift 33 = .ok (.iload_n 1, 1) := by decide +kernel
theorem dX11_shift_34 : decode cX11_shift 34 = .ok (.invokevirtual 195, 3) := by decide +kernel
theorem dX11_shift_37 : decode cX11_shift 37 = .ok (.ifCond .ne 10, 3) := by decide +kernel
theorem dX11_shift_40 : decode cX11_shift 40 = .ok (.aload_n 0, 1) := by decide +kernel
theorem dX11_shift_41 : decode cX11_shift 41 = .ok (.bipush 9, 2) := by decide +kernel
theorem dX11_shift_43 : decode cX11_shift 43 = .ok (.invokevirtual 151, 3) := by decide +kernel
theorem dX11_shift_46 : decode cX11_shift 46 = .ok (.ireturn, 1) := by decide +kernel
theorem dX11_shift_47 : decode cX11_shift 47 = .ok (.aload_n 0, 1) := by decide +kernel
theorem dX11_shift_48 : decode cX11_shift 48 = .ok (.getfield 65, 3) := by decide +kernel
theorem dX11_shift_51 : decode cX11_shift 51 = .ok (.aload_n 0, 1) := by decide +kernel
theorem dX11_shift_52 : decode cX11_shift 52 = .ok (.getfield 51, 3) := by decide +kernel
theorem dX11_shift_55 : decode cX11_shift 55 = .ok (.getfield 196, 3) := by decide +kernel
theorem dX11_shift_58 : decode cX11_shift 58 = .ok (.invokevirtual 198, 3) := by decide +kernel
theorem dX11_shift_61 : decode cX11_shift 61 = .ok (.aload_n 0, 1) := by decide +kernel
theorem dX11_shift_62 : decode cX11_shift 62 = .ok (.aload_n 0, 1) := by decide +kernel
theorem dX11_shift_63 : decode cX11_shift 63 = .ok (.getfield 65, 3) := by decide +kernel
theorem dX11_shift_66 : decode cX11_shift 66 = .ok (.getfield 201, 3) := by decide +kernel
theorem dX11_shift_69 : decode cX11_shift 69 = .ok (.invokevirtual 187, 3) := by decide +kernel
theorem dX11_shift_72 : decode cX11_shift 72 = .ok (.ireturn, 1) := by decide +kernel
theorem dX11_fault_0 : decode cX11_fault 0 = .ok (.iload_n 1, 1) := by decide +kernel
theorem dX11_fault_1 : decode cX11_fault 1 = .ok (.ifCond .ne 11, 3) := by decide +kernel
theorem dX11_fault_4 : decode cX11_fault 4 = .ok (.aload_n 0, 1) := by decide +kernel
theorem dX11_fault_5 : decode cX11_fault 5 = .ok (.getfield 35, 3) := by decide +kernel
theorem dX11_fault_8 : decode cX11_fault 8 = .ok (.getfield 204, 3) := by decide +kernel
theorem dX11_fault_11 : decode cX11_fault 11 = .ok (.ireturn, 1) := by decide +kernel
theorem dX11_fault_12 : decode cX11_fault 12 = .ok (.iload_n 1, 1) := by decide +kernel
theorem dX11_fault_13 : decode cX11_fault 13 = .ok (.iconst 1, 1) := by decide +kernel
theorem dX11_fault_14 : decode cX11_fault 14 = .ok (.if_icmp .ne 13, 3) := by decide +kernel
theorem dX11_fault_17 : decode cX11_fault 17 = .ok (.aload_n 0, 1) := by decide +kernel
theorem dX11_fault_18 : decode cX11_fault 18 = .ok (.getfield 35, 3) := by decide +kernel
theorem dX11_fault_21 : decode cX11_fault 21 = .ok (.getfield 207, 3) := by decide +kernel
theorem dX11_fault_24 : decode cX11_fault 24 = .ok (.goto 4, 3) := by decide +kernel
theorem dX11_fault_27 : decode cX11_fault 27 = .ok (.iconst (-1), 1) := by decide +kernel
theorem dX11_fault_28 : decode cX11_fault 28 = .ok (.ireturn, 1) := by decide +kernel
theorem dX11_many_0 : decode cX11_many 0 = .ok (.iload_n 1, 1) := by decide +kernel
theorem dX11_many_1 : decode cX11_many 1 = .ok (.tableswitch 88 0 3 #[31, 46, 58, 73], 31) := by decide +kernel
theorem dX11_many_32 : decode cX11_many 32 = .ok (.aload_n 0, 1) := by decide +kernel
theorem dX11_many_33 : decode cX11_many 33 = .ok (.aload_n 0, 1) := by decide +kernel
theorem dX11_many_34 : decode cX11_many 34 = .ok (.getfield 58, 3) := by decide +kernel
theorem dX11_many_37 : decode cX11_many 37 = .ok (.getfield 178, 3) := by decide +kernel
theorem dX11_many_40 : decode cX11_many 40 = .ok (.getfield 182, 3) := by decide +kernel
theorem dX11_many_43 : decode cX11_many 43 = .ok (.invokevirtual 187, 3) := by decide +kernel
theorem dX11_many_46 : decode cX11_many 46 = .ok (.ireturn, 1) := by decide +kernel
theorem dX11_many_47 : decode cX11_many 47 = .ok (.aload_n 0, 1) := by decide +kernel
theorem dX11_many_48 : decode cX11_many 48 = .ok (.aload_n 0, 1) := by decide +kernel
theorem dX11_many_49 : decode cX11_many 49 = .ok (.getfield 58, 3) := by decide +kernel
theorem dX11_many_52 : decode cX11_many 52 = .ok (.getfield 210, 3) := by decide +kernel
theorem dX11_many_55 : decode cX11_many 55 = .ok (.invokevirtual 187, 3) := by decide +kernel
theorem dX11_many_58 : decode cX11_many 58 = .ok (.ireturn, 1) := by decide +kernel
theorem dX11_many_59 : decode cX11_many 59 = .ok (.aload_n 0, 1) := by decide +kernel
theorem dX11_many_60 : decode cX11_many 60 = .ok (.aload_n 0, 1) := by decide +kernel
theorem dX11_many_61 : decode cX11_many 61 = .ok (.getfield 58, 3) := by decide +kernel
theorem dX11_many_64 : decode cX11_many 64 = .ok (.getfield 178, 3) := by decide +kernel
theorem dX11_many_67 : decode cX11_many 67 = .ok (.getfield 213, 3) := by decide +kernel
theorem dX11_many_70 : decode cX11_many 70 = .ok (.invokevirtual 187, 3) := by decide +kernel
theorem dX11_many_73 : decode cX11_many 73 = .ok (.ireturn, 1) := by decide +kernel
theorem dX11_many_74 : decode cX11_many 74 = .ok (.aload_n 0, 1) := by decide +kernel
theorem dX11_many_75 : decode cX11_many 75 = .ok (.aload_n 0, 1) := by decide +kernel
theorem dX11_many_76 : decode cX11_many 76 = .ok (.getfield 58, 3) := by decide +kernel
theorem dX11_many_79 : decode cX11_many 79 = .ok (.getfield 178, 3) := by decide +kernel
theorem dX11_many_82 : decode cX11_many 82 = .ok (.invokevirtual 216, 3) := by decide +kernel
theorem dX11_many_85 : decode cX11_many 85 = .ok (.invokevirtual 187, 3) := by decide +kernel
theorem dX11_many_88 : decode cX11_many 88 = .ok (.ireturn, 1) := by decide +kernel
theorem dX11_many_89 : decode cX11_many 89 = .ok (.aload_n 0, 1) := by decide +kernel
theorem dX11_many_90 : decode cX11_many 90 = .ok (.iconst 1, 1) := by decide +kernel
theorem dX11_many_91 : decode cX11_many 91 = .ok (.invokevirtual 151, 3) := by decide +kernel
theorem dX11_many_94 : decode cX11_many 94 = .ok (.ireturn, 1) := by decide +kernel
theorem dX11_machine_0 : decode cX11_machine 0 = .ok (.aload_n 0, 1) := by decide +kernel
theorem dX11_machine_1 : decode cX11_machine 1 = .ok (.iload_n 1, 1) := by decide +kernel
theorem dX11_machine_2 : decode cX11_machine 2 = .ok (.invokevirtual 220, 3) := by decide +kernel
theorem dX11_machine_5 : decode cX11_machine 5 = .ok (.ifCond .ne 9, 3) := by decide +kernel
theorem dX11_machine_8 : decode cX11_machine 8 = .ok (.aload_n 0, 1) := by decide +kernel
theorem dX11_machine_9 : decode cX11_machine 9 = .ok (.iconst 1, 1) := by decide +kernel
theorem dX11_machine_10 : decode cX11_machine 10 = .ok (.invokevirtual 151, 3) := by decide +kernel
theorem dX11_machine_13 : decode cX11_machine 13 = .ok (.ireturn, 1) := by decide +kernel
theorem dX11_machine_14 : decode cX11_machine 14 = .ok (.aload_n 0, 1) := by decide +kernel
theorem dX11_machine_15 : decode cX11_machine 15 = .ok (.getfield 58, 3) := by decide +kernel
theorem dX11_machine_18 : decode cX11_machine 18 = .ok (.getfield 178, 3) := by decide +kernel
theorem dX11_machine_21 : decode cX11_machine 21 = .ok (.astore_n 3, 1) := by decide +kernel
theorem dX11_machine_22 : decode cX11_machine 22 = .ok (.iload_n 2, 1) := by decide +kernel
theorem dX11_machine_23 : decode cX11_machine 23 = .ok (.tableswitch 137 0 6 #[41, 52, 66, 77, 88, 99, 126], 41) := by decide +kernel
theorem dX11_machine_64 : decode cX11_machine 64 = .ok (.aload_n 0, 1) := by decide +kernel
theorem dX11_machine_65 : decode cX11_machine 65 = .ok (.aload_n 3, 1) := by decide +kernel
theorem dX11_machine_66 : decode cX11_machine 66 = .ok (.getfield 223, 3) := by decide +kernel
theorem dX11_machine_69 : decode cX11_machine 69 = .ok (.iload_n 1, 1) := by decide +kernel
theorem dX11_machine_70 : decode cX11_machine 70 = .ok (.iaload, 1) := by decide +kernel
theorem dX11_machine_71 : decode cX11_machine 71 = .ok (.invokevirtual 187, 3) := by decide +kernel
theorem dX11_machine_74 : decode cX11_machine 74 = .ok (.ireturn, 1) := by decide +kernel
theorem dX11_machine_75 : decode cX11_machine 75 = .ok (.aload_n 0, 1) := by decide +kernel
theorem dX11_machine_76 : decode cX11_machine 76 = .ok (.aload_n 0, 1) := by decide +kernel
theorem dX11_machine_77 : decode cX11_machine 77 = .ok (.getfield 58, 3) := by decide +kernel
theorem dX11_machine_80 : decode cX11_machine 80 = .ok (.getfield 226, 3) := by decide +kernel
theorem dX11_machine_83 : decode cX11_machine 83 = .ok (.iload_n 1, 1) := by decide +kernel
theorem dX11_machine_84 : decode cX11_machine 84 = .ok (.iaload, 1) := by decide +kernel
theorem dX11_machine_85 : decode cX11_machine 85 = .ok (.invokevirtual 187, 3) := by decide +kernel
theorem dX11_machine_88 : decode cX11_machine 88 = .ok (.ireturn, 1) := by decide +kernel
theorem dX11_machine_89 : decode cX11_machine 89 = .ok (.aload_n 0, 1) := by decide +kernel
theorem dX11_machine_90 : decode cX11_machine 90 = .ok (.aload_n 3, 1) := by decide +kernel
theorem dX11_machine_91 : decode cX11_machine 91 = .ok (.getfield 229, 3) := by decide +kernel
theorem dX11_machine_94 : decode cX11_machine 94 = .ok (.iload_n 1, 1) := by decide +kernel
theorem dX11_machine_95 : decode cX11_machine 95 = .ok (.iaload, 1) := by decide +kernel
theorem dX11_machine_96 : decode cX11_machine 96 = .ok (.invokevirtual 187, 3) := by decide +kernel
theorem dX11_machine_99 : decode cX11_machine 99 = .ok (.ireturn, 1) := by decide +kernel
theorem dX11_machine_100 : decode cX11_machine 100 = .ok (.aload_n 0, 1) := by decide +kernel
theorem dX11_machine_101 : decode cX11_machine 101 = .ok (.aload_n 3, 1) := by decide +kernel
theorem dX11_machine_102 : decode cX11_machine 102 = .ok (.getfield 232, 3) := by decide +kernel
theorem dX11_machine_105 : decode cX11_machine 105 = .ok (.iload_n 1, 1) := by decide +kernel
theorem dX11_machine_106 : decode cX11_machine 106 = .ok (.iaload, 1) := by decide +kernel
theorem dX11_machine_107 : decode cX11_machine 107 = .ok (.invokevirtual 187, 3) := by decide +kernel
theorem dX11_machine_110 : decode cX11_machine 110 = .ok (.ireturn, 1) := by decide +kernel
theorem dX11_machine_111 : decode cX11_machine 111 = .ok (.aload_n 0, 1) := by decide +kernel
theorem dX11_machine_112 : decode cX11_machine 112 = .ok (.aload_n 3, 1) := by decide +kernel
theorem dX11_machine_113 : decode cX11_machine 113 = .ok (.getfield 235, 3) := by decide +kernel
theorem dX11_machine_116 : decode cX11_machine 116 = .ok (.iload_n 1, 1) := by decide +kernel
theorem dX11_machine_117 : decode cX11_machine 117 = .ok (.iaload, 1) := by decide +kernel
theorem dX11_machine_118 : decode cX11_machine 118 = .ok (.invokevirtual 187, 3) := by decide +kernel
theorem dX11_machine_121 : decode cX11_machine 121 = .ok (.ireturn, 1) := by decide +kernel
theorem dX11_machine_122 : decode cX11_machine 122 = .ok (.aload_n 3, 1) := by decide +kernel
theorem dX11_machine_123 : decode cX11_machine 123 = .ok (.getfield 213, 3) := by decide +kernel
theorem dX11_machine_126 : decode cX11_machine 126 = .ok (.ifCond .ne 12, 3) := by decide +kernel
theorem dX11_machine_129 : decode cX11_machine 129 = .ok (.aload_n 0, 1) := by decide +kernel
theorem dX11_machine_130 : decode cX11_machine 130 = .ok (.bipush 6, 2) := by decide +kernel
theorem dX11_machine_132 : decode cX11_machine 132 = .ok (.invokevirtual 151, 3) := by decide +kernel
theorem dX11_machine_135 : decode cX11_machine 135 = .ok (.goto 13, 3) := by decide +kernel
theorem dX11_machine_138 : decode cX11_machine 138 = .ok (.aload_n 0, 1) := by decide +kernel
theorem dX11_machine_139 : decode cX11_machine 139 = .ok (.aload_n 3, 1) := by decide +kernel
theorem dX11_machine_140 : decode cX11_machine 140 = .ok (.getfield 238, 3) := by decide +kernel
theorem dX11_machine_143 : decode cX11_machine 143 = .ok (.iload_n 1, 1) := by decide +kernel
theorem dX11_machine_144 : decode cX11_machine 144 = .ok (.iaload, 1) := by decide +kernel
theorem dX11_machine_145 : decode cX11_machine 145 = .ok (.invokevirtual 187, 3) := by decide +kernel
theorem dX11_machine_148 : decode cX11_machine 148 = .ok (.ireturn, 1) := by decide +kernel
theorem dX11_machine_149 : decode cX11_machine 149 = .ok (.aload_n 0, 1) := by decide +kernel
theorem dX11_machine_150 : decode cX11_machine 150 = .ok (.aload_n 3, 1) := by decide +kernel
theorem dX11_machine_151 : decode cX11_machine 151 = .ok (.getfield 241, 3) := by decide +kernel
theorem dX11_machine_154 : decode cX11_machine 154 = .ok (.iload_n 1, 1) := by decide +kernel
theorem dX11_machine_155 : decode cX11_machine 155 = .ok (.iaload, 1) := by decide +kernel
theorem dX11_machine_156 : decode cX11_machine 156 = .ok (.invokevirtual 187, 3) := by decide +kernel
theorem dX11_machine_159 : decode cX11_machine 159 = .ok (.ireturn, 1) := by decide +kernel
theorem dX11_machine_160 : decode cX11_machine 160 = .ok (.aload_n 0, 1) := by decide +kernel
theorem dX11_machine_161 : decode cX11_machine 161 = .ok (.iconst 1, 1) := by decide +kernel
theorem dX11_machine_162 : decode cX11_machine 162 = .ok (.invokevirtual 151, 3) := by decide +kernel
theorem dX11_machine_165 : decode cX11_machine 165 = .ok (.ireturn, 1) := by decide +kernel
theorem dX11_table_0 : decode cX11_table 0 = .ok (.iload_n 1, 1) := by decide +kernel
theorem dX11_table_1 : decode cX11_table 1 = .ok (.i2l, 1) := by decide +kernel
theorem dX11_table_2 : decode cX11_table 2 = .ok (.lconst 0, 1) := by decide +kernel
theorem dX11_table_3 : decode cX11_table 3 = .ok (.aload_n 0, 1) := by decide +kernel
theorem dX11_table_4 : decode cX11_table 4 = .ok (.getfield 58, 3) := by decide +kernel
theorem dX11_table_7 : decode cX11_table 7 = .ok (.getfield 178, 3) := by decide +kernel
theorem dX11_table_10 : decode cX11_table 10 = .ok (.invokevirtual 244, 3) := by decide +kernel
theorem dX11_table_13 : decode cX11_table 13 = .ok (.iconst 1, 1) := by decide +kernel
theorem dX11_table_14 : decode cX11_table 14 = .ok (.isub, 1) := by decide +kernel
theorem dX11_table_15 : decode cX11_table 15 = .ok (.i2l, 1) := by decide +kernel
theorem dX11_table_16 : decode cX11_table 16 = .ok (.invokestatic 127, 3) := by decide +kernel
theorem dX11_table_19 : decode cX11_table 19 = .ok (.ifCond .ne 13, 3) := by decide +kernel
theorem dX11_table_22 : decode cX11_table 22 = .ok (.iload_n 2, 1) := by decide +kernel
theorem dX11_table_23 : decode cX11_table 23 = .ok (.i2l, 1) := by decide +kernel
theorem dX11_table_24 : decode cX11_table 24 = .ok (.lconst 0, 1) := by decide +kernel
theorem dX11_table_25 : decode cX11_table 25 = .ok (.lconst 1, 1) := by decide +kernel
theorem dX11_table_26 : decode cX11_table 26 = .ok (.invokestatic 127, 3) := by decide +kernel
theorem dX11_table_29 : decode cX11_table 29 = .ok (.ifCond .eq 9, 3) := by decide +kernel
theorem dX11_table_32 : decode cX11_table 32 = .ok (.aload_n 0, 1) := by decide +kernel
theorem dX11_table_33 : decode cX11_table 33 = .ok (.iconst 1, 1) := by decide +kernel
theorem dX11_table_34 : decode cX11_table 34 = .ok (.invokevirtual 151, 3) := by decide +kernel
theorem dX11_table_37 : decode cX11_table 37 = .ok (.ireturn, 1) := by decide +kernel
theorem dX11_table_38 : decode cX11_table 38 = .ok (.aload_n 0, 1) := by decide +kernel
theorem dX11_table_39 : decode cX11_table 39 = .ok (.iload_n 2, 1) := by decide +kernel
theorem dX11_table_40 : decode cX11_table 40 = .ok (.ifCond .ne 18, 3) := by decide +kernel
theorem dX11_table_43 : decode cX11_table 43 = .ok (.aload_n 0, 1) := by decide +kernel
theorem dX11_table_44 : decode cX11_table 44 = .ok (.getfield 58, 3) := by decide +kernel
theorem dX11_table_47 : decode cX11_table 47 = .ok (.getfield 178, 3) := by decide +kernel
theorem dX11_table_50 : decode cX11_table 50 = .ok (.getfield 247, 3) := by decide +kernel
theorem dX11_table_53 : decode cX11_table 53 = .ok (.iload_n 1, 1) := by decide +kernel
theorem dX11_table_54 : decode cX11_table 54 = .ok (.iaload, 1) := by decide +kernel
theorem dX11_table_55 : decode cX11_table 55 = .ok (.goto 15, 3) := by decide +kernel
theorem dX11_table_58 : decode cX11_table 58 = .ok (.aload_n 0, 1) := by decide +kernel
theorem dX11_table_59 : decode cX11_table 59 = .ok (.getfield 58, 3) := by decide +kernel
theorem dX11_table_62 : decode cX11_table 62 = .ok (.getfield 178, 3) := by decide +kernel
theorem dX11_table_65 : decode cX11_table 65 = .ok (.getfield 250, 3) := by decide +kernel
theorem dX11_table_68 : decode cX11_table 68 = .ok (.iload_n 1, 1) := by decide +kernel
theorem dX11_table_69 : decode cX11_table 69 = .ok (.iaload, 1) := by decide +kernel
theorem dX11_table_70 : decode cX11_table 70 = .ok (.invokevirtual 187, 3) := by decide +kernel
theorem dX11_table_73 : decode cX11_table 73 = .ok (.ireturn, 1) := by decide +kernel
theorem dX11_wash_0 : decode cX11_wash 0 = .ok (.aload_n 0, 1) := by decide +kernel
theorem dX11_wash_1 : decode cX11_wash 1 = .ok (.iload_n 1, 1) := by decide +kernel
theorem dX11_wash_2 : decode cX11_wash 2 = .ok (.invokevirtual 253, 3) := by decide +kernel
theorem dX11_wash_5 : decode cX11_wash 5 = .ok (.ifCond .eq 16, 3) := by decide +kernel
theorem dX11_wash_8 : decode cX11_wash 8 = .ok (.aload_n 0, 1) := by decide +kernel
theorem dX11_wash_9 : decode cX11_wash 9 = .ok (.iload_n 2, 1) := by decide +kernel
theorem dX11_wash_10 : decode cX11_wash 10 = .ok (.invokevirtual 253, 3) := by decide +kernel
theorem dX11_wash_13 : decode cX11_wash 13 = .ok (.ifCond .eq 8, 3) := by decide +kernel
theorem dX11_wash_16 : decode cX11_wash 16 = .ok (.iload_n 1, 1) := by decide +kernel
theorem dX11_wash_17 : decode cX11_wash 17 = .ok (.iload_n 2, 1) := by decide +kernel
theorem dX11_wash_18 : decode cX11_wash 18 = .ok (.if_icmp .ne 9, 3) := by decide +kernel
theorem dX11_wash_21 : decode cX11_wash 21 = .ok (.aload_n 0, 1) := by decide +kernel
theorem dX11_wash_22 : decode cX11_wash 22 = .ok (.iconst 1, 1) := by decide +kernel
theorem dX11_wash_23 : decode cX11_wash 23 = .ok (.invokevirtual 151, 3) := by decide +kernel
theorem dX11_wash_26 : decode cX11_wash 26 = .ok (.ireturn, 1) := by decide +kernel
theorem dX11_wash_27 : decode cX11_wash 27 = .ok (.aload_n 0, 1) := by decide +kernel
theorem dX11_wash_28 : decode cX11_wash 28 = .ok (.aload_n 0, 1) := by decide +kernel
theorem dX11_wash_29 : decode cX11_wash 29 = .ok (.getfield 58, 3) := by decide +kernel
theorem dX11_wash_32 : decode cX11_wash 32 = .ok (.iload_n 1, 1) := by decide +kernel
theorem dX11_wash_33 : decode cX11_wash 33 = .ok (.iload_n 2, 1) := by decide +kernel
theorem dX11_wash_34 : decode cX11_wash 34 = .ok (.invokevirtual 256, 3) := by decide +kernel
theorem dX11_wash_37 : decode cX11_wash 37 = .ok (.invokevirtual 187, 3) := by decide +kernel
theorem dX11_wash_40 : decode cX11_wash 40 = .ok (.ireturn, 1) := by decide +kernel
theorem dX11_begin_0 : decode cX11_begin 0 = .ok (.iload_n 1, 1) := by decide +kernel
theorem dX11_begin_1 : decode cX11_begin 1 = .ok (.i2l, 1) := by decide +kernel
theorem dX11_begin_2 : decode cX11_begin 2 = .ok (.lconst 0, 1) := by decide +kernel
theorem dX11_begin_3 : decode cX11_begin 3 = .ok (.ldc2_w 259, 3) := by decide +kernel
theorem dX11_begin_6 : decode cX11_begin 6 = .ok (.invokestatic 127, 3) := by decide +kernel
theorem dX11_begin_9 : decode cX11_begin 9 = .ok (.ifCond .eq 9, 3) := by decide +kernel
theorem dX11_begin_12 : decode cX11_begin 12 = .ok (.aload_n 0, 1) := by decide +kernel
theorem dX11_begin_13 : decode cX11_begin 13 = .ok (.iconst 1, 1) := by decide +kernel
theorem dX11_begin_14 : decode cX11_begin 14 = .ok (.invokevirtual 133, 3) := by decide +kernel
theorem dX11_begin_17 : decode cX11_begin 17 = .ok (.ireturn, 1) := by decide +kernel
theorem dX11_begin_18 : decode cX11_begin 18 = .ok (.aload_n 0, 1) := by decide +kernel
theorem dX11_begin_19 : decode cX11_begin 19 = .ok (.getfield 58, 3) := by decide +kernel
theorem dX11_begin_22 : decode cX11_begin 22 = .ok (.getfield 178, 3) := by decide +kernel
theorem dX11_begin_25 : decode cX11_begin 25 = .ok (.iload_n 1, 1) := by decide +kernel
theorem dX11_begin_26 : decode cX11_begin 26 = .ok (.invokevirtual 261, 3) := by decide +kernel
theorem dX11_begin_29 : decode cX11_begin 29 = .ok (.aload_n 0, 1) := by decide +kernel
theorem dX11_begin_30 : decode cX11_begin 30 = .ok (.invokevirtual 139, 3) := by decide +kernel
theorem dX11_begin_33 : decode cX11_begin 33 = .ok (.ireturn, 1) := by decide +kernel
theorem dX11_run_0 : decode cX11_run 0 = .ok (.iload_n 1, 1) := by decide +kernel
theorem dX11_run_1 : decode cX11_run 1 = .ok (.i2l, 1) := by decide +kernel
theorem dX11_run_2 : decode cX11_run 2 = .ok (.lconst 1, 1) := by decide +kernel
theorem dX11_run_3 : decode cX11_run 3 = .ok (.ldc2_w 264, 3) := by decide +kernel
theorem dX11_run_6 : decode cX11_run 6 = .ok (.invokestatic 127, 3) := by decide +kernel
theorem dX11_run_9 : decode cX11_run 9 = .ok (.ifCond .eq 9, 3) := by decide +kernel
theorem dX11_run_12 : decode cX11_run 12 = .ok (.aload_n 0, 1) := by decide +kernel
theorem dX11_run_13 : decode cX11_run 13 = .ok (.iconst 1, 1) := by decide +kernel
theorem dX11_run_14 : decode cX11_run 14 = .ok (.invokevirtual 151, 3) := by decide +kernel
theorem dX11_run_17 : decode cX11_run 17 = .ok (.ireturn, 1) := by decide +kernel
theorem dX11_run_18 : decode cX11_run 18 = .ok (.aload_n 0, 1) := by decide +kernel
theorem dX11_run_19 : decode cX11_run 19 = .ok (.getfield 58, 3) := by decide +kernel
theorem dX11_run_22 : decode cX11_run 22 = .ok (.getfield 178, 3) := by decide +kernel
theorem dX11_run_25 : decode cX11_run 25 = .ok (.getfield 182, 3) := by decide +kernel
theorem dX11_run_28 : decode cX11_run 28 = .ok (.ifCond .ne 10, 3) := by decide +kernel
theorem dX11_run_31 : decode cX11_run 31 = .ok (.aload_n 0, 1) := by decide +kernel
theorem dX11_run_32 : decode cX11_run 32 = .ok (.bipush 6, 2) := by decide +kernel
theorem dX11_run_34 : decode cX11_run 34 = .ok (.invokevirtual 151, 3) := by decide +kernel
theorem dX11_run_37 : decode cX11_run 37 = .ok (.ireturn, 1) := by decide +kernel
theorem dX11_run_38 : decode cX11_run 38 = .ok (.aload_n 0, 1) := by decide +kernel
theorem dX11_run_39 : decode cX11_run 39 = .ok (.aload_n 0, 1) := by decide +kernel
theorem dX11_run_40 : decode cX11_run 40 = .ok (.getfield 58, 3) := by decide +kernel
theorem dX11_run_43 : decode cX11_run 43 = .ok (.getfield 178, 3) := by decide +kernel
theorem dX11_run_46 : decode cX11_run 46 = .ok (.iload_n 1, 1) := by decide +kernel
theorem dX11_run_47 : decode cX11_run 47 = .ok (.invokevirtual 266, 3) := by decide +kernel
theorem dX11_run_50 : decode cX11_run 50 = .ok (.invokevirtual 187, 3) := by decide +kernel
theorem dX11_run_53 : decode cX11_run 53 = .ok (.ireturn, 1) := by decide +kernel
theorem dX11_minutes_0 : decode cX11_minutes 0 = .ok (.aload_n 0, 1) := by decide +kernel
theorem dX11_minutes_1 : decode cX11_minutes 1 = .ok (.iload_n 1, 1) := by decide +kernel
theorem dX11_minutes_2 : decode cX11_minutes 2 = .ok (.invokevirtual 220, 3) := by decide +kernel
theorem dX11_minutes_5 : decode cX11_minutes 5 = .ok (.ifCond .eq 15, 3) := by decide +kernel
theorem dX11_minutes_8 : decode cX11_minutes 8 = .ok (.iload_n 2, 1) := by decide +kernel
theorem dX11_minutes_9 : decode cX11_minutes 9 = .ok (.i2l, 1) := by decide +kernel
theorem dX11_minutes_10 : decode cX11_minutes 10 = .ok (.lconst 0, 1) := by decide +kernel
theorem dX11_minutes_11 : decode cX11_minutes 11 = .ok (.ldc2_w 125, 3) := by decide +kernel
theorem dX11_minutes_14 : decode cX11_minutes 14 = .ok (.invokestatic 127, 3) := by decide +kernel
theorem dX11_minutes_17 : decode cX11_minutes 17 = .ok (.ifCond .eq 9, 3) := by decide +kernel
theorem dX11_minutes_20 : decode cX11_minutes 20 = .ok (.aload_n 0, 1) := by decide +kernel
theorem dX11_minutes_21 : decode cX11_minutes 21 = .ok (.iconst 1, 1) := by decide +kernel
theorem dX11_minutes_22 : decode cX11_minutes 22 = .ok (.invokevirtual 151, 3) := by decide +kernel
theorem dX11_minutes_25 : decode cX11_minutes 25 = .ok (.ireturn, 1) := by decide +kernel
theorem dX11_minutes_26 : decode cX11_minutes 26 = .ok (.aload_n 0, 1) := by decide +kernel
theorem dX11_minutes_27 : decode cX11_minutes 27 = .ok (.aload_n 0, 1) := by decide +kernel
theorem dX11_minutes_28 : decode cX11_minutes 28 = .ok (.getfield 58, 3) := by decide +kernel
theorem dX11_minutes_31 : decode cX11_minutes 31 = .ok (.getfield 178, 3) := by decide +kernel
theorem dX11_minutes_34 : decode cX11_minutes 34 = .ok (.getfield 269, 3) := by decide +kernel
theorem dX11_minutes_37 : decode cX11_minutes 37 = .ok (.iload_n 1, 1) := by decide +kernel
theorem dX11_minutes_38 : decode cX11_minutes 38 = .ok (.iconst 4, 1) := by decide +kernel
theorem dX11_minutes_39 : decode cX11_minutes 39 = .ok (.imul, 1) := by decide +kernel
theorem dX11_minutes_40 : decode cX11_minutes 40 = .ok (.iload_n 2, 1) := by decide +kernel
theorem dX11_minutes_41 : decode cX11_minutes 41 = .ok (.iadd, 1) := by decide +kernel
theorem dX11_minutes_42 : decode cX11_minutes 42 = .ok (.iaload, 1) := by decide +kernel
theorem dX11_minutes_43 : decode cX11_minutes 43 = .ok (.invokevirtual 187, 3) := by decide +kernel
theorem dX11_minutes_46 : decode cX11_minutes 46 = .ok (.ireturn, 1) := by decide +kernel
theorem dX11_blame_0 : decode cX11_blame 0 = .ok (.aload_n 0, 1) := by decide +kernel
theorem dX11_blame_1 : decode cX11_blame 1 = .ok (.iload_n 1, 1) := by decide +kernel
theorem dX11_blame_2 : decode cX11_blame 2 = .ok (.invokevirtual 220, 3) := by decide +kernel
theorem dX11_blame_5 : decode cX11_blame 5 = .ok (.ifCond .eq 11, 3) := by decide +kernel
theorem dX11_blame_8 : decode cX11_blame 8 = .ok (.aload_n 0, 1) := by decide +kernel
theorem dX11_blame_9 : decode cX11_blame 9 = .ok (.iload_n 2, 1) := by decide +kernel
theorem dX11_blame_10 : decode cX11_blame 10 = .ok (.invokevirtual 220, 3) := by decide +kernel
theorem dX11_blame_13 : decode cX11_blame 13 = .ok (.ifCond .ne 9, 3) := by decide +kernel
theorem dX11_blame_16 : decode cX11_blame 16 = .ok (.aload_n 0, 1) := by decide +kernel
theorem dX11_blame_17 : decode cX11_blame 17 = .ok (.iconst 1, 1) := by decide +kernel
theorem dX11_blame_18 : decode cX11_blame 18 = .ok (.invokevirtual 151, 3) := by decide +kernel
theorem dX11_blame_21 : decode cX11_blame 21 = .ok (.ireturn, 1) := by decide +kernel
theorem dX11_blame_22 : decode cX11_blame 22 = .ok (.aload_n 0, 1) := by decide +kernel
theorem dX11_blame_23 : decode cX11_blame 23 = .ok (.aload_n 0, 1) := by decide +kernel
theorem dX11_blame_24 : decode cX11_blame 24 = .ok (.getfield 58, 3) := by decide +kernel
theorem dX11_blame_27 : decode cX11_blame 27 = .ok (.getfield 178, 3) := by decide +kernel
theorem dX11_blame_30 : decode cX11_blame 30 = .ok (.getfield 272, 3) := by decide +kernel
theorem dX11_blame_33 : decode cX11_blame 33 = .ok (.iload_n 1, 1) := by decide +kernel
theorem dX11_blame_34 : decode cX11_blame 34 = .ok (.bipush 6, 2) := by decide +kernel
theorem dX11_blame_36 : decode cX11_blame 36 = .ok (.imul, 1) := by decide +kernel
theorem dX11_blame_37 : decode cX11_blame 37 = .ok (.iload_n 2, 1) := by decide +kernel
theorem dX11_blame_38 : decode cX11_blame 38 = .ok (.iadd, 1) := by decide +kernel
theorem dX11_blame_39 : decode cX11_blame 39 = .ok (.iaload, 1) := by decide +kernel
theorem dX11_blame_40 : decode cX11_blame 40 = .ok (.invokevirtual 187, 3) := by decide +kernel
theorem dX11_blame_43 : decode cX11_blame 43 = .ok (.ireturn, 1) := by decide +kernel
theorem dX11_share_0 : decode cX11_share 0 = .ok (.aload_n 0, 1) := by decide +kernel
theorem dX11_share_1 : decode cX11_share 1 = .ok (.iload_n 1, 1) := by decide +kernel
theorem dX11_share_2 : decode cX11_share 2 = .ok (.invokevirtual 220, 3) := by decide +kernel
theorem dX11_share_5 : decode cX11_share 5 = .ok (.ifCond .ne 9, 3) := by decide +kernel
theorem dX11_share_8 : decode cX11_share 8 = .ok (.aload_n 0, 1) := by decide +kernel
theorem dX11_share_9 : decode cX11_share 9 = .ok (.iconst 1, 1) := by decide +kernel
theorem dX11_share_10 : decode cX11_share 10 = .ok (.invokevirtual 133, 3) := by decide +kernel
theorem dX11_share_13 : decode cX11_share 13 = .ok (.ireturn, 1) := by decide +kernel
theorem dX11_share_14 : decode cX11_share 14 = .ok (.aload_n 0, 1) := by decide +kernel
theorem dX11_share_15 : decode cX11_share 15 = .ok (.getfield 58, 3) := by decide +kernel
theorem dX11_share_18 : decode cX11_share 18 = .ok (.getfield 178, 3) := by decide +kernel
theorem dX11_share_21 : decode cX11_share 21 = .ok (.getfield 213, 3) := by decide +kernel
theorem dX11_share_24 : decode cX11_share 24 = .ok (.ifCond .ne 10, 3) := by decide +kernel
theorem dX11_share_27 : decode cX11_share 27 = .ok (.aload_n 0, 1) := by decide +kernel
theorem dX11_share_28 : decode cX11_share 28 = .ok (.bipush 6, 2) := by decide +kernel
theorem dX11_share_30 : decode cX11_share 30 = .ok (.invokevirtual 133, 3) := by decide +kernel
theorem dX11_share_33 : decode cX11_share 33 = .ok (.ireturn, 1) := by decide +kernel
theorem dX11_share_34 : decode cX11_share 34 = .ok (.aload_n 0, 1) := by decide +kernel
theorem dX11_share_35 : decode cX11_share 35 = .ok (.aload_n 0, 1) := by decide +kernel
theorem dX11_share_36 : decode cX11_share 36 = .ok (.getfield 58, 3) := by decide +kernel
theorem dX11_share_39 : decode cX11_share 39 = .ok (.getfield 178, 3) := by decide +kernel
theorem dX11_share_42 : decode cX11_share 42 = .ok (.getfield 269, 3) := by decide +kernel
theorem dX11_share_45 : decode cX11_share 45 = .ok (.iload_n 1, 1) := by decide +kernel
theorem dX11_share_46 : decode cX11_share 46 = .ok (.iconst 4, 1) := by decide +kernel
theorem dX11_share_47 : decode cX11_share 47 = .ok (.imul, 1) := by decide +kernel
theorem dX11_share_48 : decode cX11_share 48 = .ok (.iconst 0, 1) := by decide +kernel
theorem dX11_share_49 : decode cX11_share 49 = .ok (.iadd, 1) := by decide +kernel
theorem dX11_share_50 : decode cX11_share 50 = .ok (.iaload, 1) := by decide +kernel
theorem dX11_share_51 : decode cX11_share 51 = .ok (.i2l, 1) := by decide +kernel
theorem dX11_share_52 : decode cX11_share 52 = .ok (.aload_n 0, 1) := by decide +kernel
theorem dX11_share_53 : decode cX11_share 53 = .ok (.getfield 58, 3) := by decide +kernel
theorem dX11_share_56 : decode cX11_share 56 = .ok (.getfield 178, 3) := by decide +kernel
theorem dX11_share_59 : decode cX11_share 59 = .ok (.getfield 213, 3) := by decide +kernel
theorem dX11_share_62 : decode cX11_share 62 = .ok (.i2l, 1) := by decide +kernel
theorem dX11_share_63 : decode cX11_share 63 = .ok (.invokevirtual 275, 3) := by decide +kernel
theorem dX11_share_66 : decode cX11_share 66 = .ok (.aload_n 0, 1) := by decide +kernel
theorem dX11_share_67 : decode cX11_share 67 = .ok (.invokevirtual 139, 3) := by decide +kernel
theorem dX11_share_70 : decode cX11_share 70 = .ok (.ireturn, 1) := by decide +kernel
theorem dX11_tried_0 : decode cX11_tried 0 = .ok (.aload_n 0, 1) := by decide +kernel
theorem dX11_tried_1 : decode cX11_tried 1 = .ok (.iload_n 1, 1) := by decide +kernel
theorem dX11_tried_2 : decode cX11_tried 2 = .ok (.invokevirtual 220, 3) := by decide +kernel
theorem dX11_tried_5 : decode cX11_tried 5 = .ok (.ifCond .eq 27, 3) := by decide +kernel
theorem dX11_tried_8 : decode cX11_tried 8 = .ok (.iload_n 2, 1) := by decide +kernel
theorem dX11_tried_9 : decode cX11_tried 9 = .ok (.i2l, 1) := by decide +kernel
theorem dX11_tried_10 : decode cX11_tried 10 = .ok (.lconst 1, 1) := by decide +kernel
theorem dX11_tried_11 : decode cX11_tried 11 = .ok (.ldc2_w 279, 3) := by decide +kernel
theorem dX11_tried_14 : decode cX11_tried 14 = .ok (.invokestatic 127, 3) := by decide +kernel
theorem dX11_tried_17 : decode cX11_tried 17 = .ok (.ifCond .ne 15, 3) := by decide +kernel
theorem dX11_tried_20 : decode cX11_tried 20 = .ok (.iload_n 3, 1) := by decide +kernel
theorem dX11_tried_21 : decode cX11_tried 21 = .ok (.i2l, 1) := by decide +kernel
theorem dX11_tried_22 : decode cX11_tried 22 = .ok (.lconst 1, 1) := by decide +kernel
theorem dX11_tried_23 : decode cX11_tried 23 = .ok (.ldc2_w 264, 3) := by decide +kernel
theorem dX11_tried_26 : decode cX11_tried 26 = .ok (.invokestatic 127, 3) := by decide +kernel
theorem dX11_tried_29 : decode cX11_tried 29 = .ok (.ifCond .eq 9, 3) := by decide +kernel
theorem dX11_tried_32 : decode cX11_tried 32 = .ok (.aload_n 0, 1) := by decide +kernel
theorem dX11_tried_33 : decode cX11_tried 33 = .ok (.iconst 1, 1) := by decide +kernel
theorem dX11_tried_34 : decode cX11_tried 34 = .ok (.invokevirtual 151, 3) := by decide +kernel
theorem dX11_tried_37 : decode cX11_tried 37 = .ok (.ireturn, 1) := by decide +kernel
theorem dX11_tried_38 : decode cX11_tried 38 = .ok (.aload_n 0, 1) := by decide +kernel
theorem dX11_tried_39 : decode cX11_tried 39 = .ok (.aload_n 0, 1) := by decide +kernel
theorem dX11_tried_40 : decode cX11_tried 40 = .ok (.getfield 83, 3) := by decide +kernel
theorem dX11_tried_43 : decode cX11_tried 43 = .ok (.aload_n 0, 1) := by decide +kernel
theorem dX11_tried_44 : decode cX11_tried 44 = .ok (.getfield 58, 3) := by decide +kernel
theorem dX11_tried_47 : decode cX11_tried 47 = .ok (.getfield 178, 3) := by decide +kernel
theorem dX11_tried_50 : decode cX11_tried 50 = .ok (.iload_n 1, 1) := by decide +kernel
theorem dX11_tried_51 : decode cX11_tried 51 = .ok (.iload_n 2, 1) := by decide +kernel
theorem dX11_tried_52 : decode cX11_tried 52 = .ok (.iload_n 3, 1) := by decide +kernel
theorem dX11_tried_53 : decode cX11_tried 53 = .ok (.invokevirtual 281, 3) := by decide +kernel
theorem dX11_tried_56 : decode cX11_tried 56 = .ok (.invokevirtual 187, 3) := by decide +kernel
theorem dX11_tried_59 : decode cX11_tried 59 = .ok (.ireturn, 1) := by decide +kernel
theorem dX11_holder_0 : decode cX11_holder 0 = .ok (.iload_n 1, 1) := by decide +kernel
theorem dX11_holder_1 : decode cX11_holder 1 = .ok (.i2l, 1) := by decide +kernel
theorem dX11_holder_2 : decode cX11_holder 2 = .ok (.lconst 1, 1) := by decide +kernel
theorem dX11_holder_3 : decode cX11_holder 3 = .ok (.ldc2_w 285, 3) := by decide +kernel
theorem dX11_holder_6 : decode cX11_holder 6 = .ok (.invokestatic 127, 3) := by decide +kernel
theorem dX11_holder_9 : decode cX11_holder 9 = .ok (.ifCond .ne 15, 3) := by decide +kernel
theorem dX11_holder_12 : decode cX11_holder 12 = .ok (.iload_n 2, 1) := by decide +kernel
theorem dX11_holder_13 : decode cX11_holder 13 = .ok (.i2l, 1) := by decide +kernel
theorem dX11_holder_14 : decode cX11_holder 14 = .ok (.lconst 1, 1) := by decide +kernel
theorem dX11_holder_15 : decode cX11_holder 15 = .ok (.ldc2_w 264, 3) := by decide +kernel
theorem dX11_holder_18 : decode cX11_holder 18 = .ok (.invokestatic 127, 3) := by decide +kernel
theorem dX11_holder_21 : decode cX11_holder 21 = .ok (.ifCond .eq 9, 3) := by decide +kernel
theorem dX11_holder_24 : decode cX11_holder 24 = .ok (.aload_n 0, 1) := by decide +kernel
theorem dX11_holder_25 : decode cX11_holder 25 = .ok (.iconst 1, 1) := by decide +kernel
theorem dX11_holder_26 : decode cX11_holder 26 = .ok (.invokevirtual 151, 3) := by decide +kernel
theorem dX11_holder_29 : decode cX11_holder 29 = .ok (.ireturn, 1) := by decide +kernel
theorem dX11_holder_30 : decode cX11_holder 30 = .ok (.aload_n 0, 1) := by decide +kernel
theorem dX11_holder_31 : decode cX11_holder 31 = .ok (.getfield 58, 3) := by decide +kernel
theorem dX11_holder_34 : decode cX11_holder 34 = .ok (.getfield 178, 3) := by decide +kernel
theorem dX11_holder_37 : decode cX11_holder 37 = .ok (.getfield 182, 3) := by decide +kernel
theorem dX11_holder_40 : decode cX11_holder 40 = .ok (.ifCond .ne 10, 3) := by decide +kernel
theorem dX11_holder_43 : decode cX11_holder 43 = .ok (.aload_n 0, 1) := by decide +kernel
theorem dX11_holder_44 : decode cX11_holder 44 = .ok (.bipush 6, 2) := by decide +kernel
theorem dX11_holder_46 : decode cX11_holder 46 = .ok (.invokevirtual 151, 3) := by decide +kernel
theorem dX11_holder_49 : decode cX11_holder 49 = .ok (.ireturn, 1) := by decide +kernel
theorem dX11_holder_50 : decode cX11_holder 50 = .ok (.aload_n 0, 1) := by decide +kernel
theorem dX11_holder_51 : decode cX11_holder 51 = .ok (.aload_n 0, 1) := by decide +kernel
theorem dX11_holder_52 : decode cX11_holder 52 = .ok (.getfield 83, 3) := by decide +kernel
theorem dX11_holder_55 : decode cX11_holder 55 = .ok (.aload_n 0, 1) := by decide +kernel
theorem dX11_holder_56 : decode cX11_holder 56 = .ok (.getfield 58, 3) := by decide +kernel
theorem dX11_holder_59 : decode cX11_holder 59 = .ok (.getfield 178, 3) := by decide +kernel
theorem dX11_holder_62 : decode cX11_holder 62 = .ok (.iload_n 1, 1) := by decide +kernel
theorem dX11_holder_63 : decode cX11_holder 63 = .ok (.iload_n 2, 1) := by decide +kernel
theorem dX11_holder_64 : decode cX11_holder 64 = .ok (.invokevirtual 287, 3) := by decide +kernel
theorem dX11_holder_67 : decode cX11_holder 67 = .ok (.invokevirtual 187, 3) := by decide +kernel
theorem dX11_holder_70 : decode cX11_holder 70 = .ok (.ireturn, 1) := by decide +kernel
theorem dX11_gained_0 : decode cX11_gained 0 = .ok (.aload_n 0, 1) := by decide +kernel
theorem dX11_gained_1 : decode cX11_gained 1 = .ok (.getfield 83, 3) := by decide +kernel
theorem dX11_gained_4 : decode cX11_gained 4 = .ok (.getfield 291, 3) := by decide +kernel
theorem dX11_gained_7 : decode cX11_gained 7 = .ok (.ifCond .eq 17, 3) := by decide +kernel
theorem dX11_gained_10 : decode cX11_gained 10 = .ok (.aload_n 0, 1) := by decide +kernel
theorem dX11_gained_11 : decode cX11_gained 11 = .ok (.aload_n 0, 1) := by decide +kernel
theorem dX11_gained_12 : decode cX11_gained 12 = .ok (.getfield 83, 3) := by decide +kernel
theorem dX11_gained_15 : decode cX11_gained 15 = .ok (.getfield 295, 3) := by decide +kernel
theorem dX11_gained_18 : decode cX11_gained 18 = .ok (.invokevirtual 187, 3) := by decide +kernel
theorem dX11_gained_21 : decode cX11_gained 21 = .ok (.goto 9, 3) := by decide +kernel
theorem dX11_gained_24 : decode cX11_gained 24 = .ok (.aload_n 0, 1) := by decide +kernel
theorem dX11_gained_25 : decode cX11_gained 25 = .ok (.bipush 6, 2) := by decide +kernel
theorem dX11_gained_27 : decode cX11_gained 27 = .ok (.invokevirtual 151, 3) := by decide +kernel
theorem dX11_gained_30 : decode cX11_gained 30 = .ok (.ireturn, 1) := by decide +kernel
theorem dX11_shared_0 : decode cX11_shared 0 = .ok (.iload_n 1, 1) := by decide +kernel
theorem dX11_shared_1 : decode cX11_shared 1 = .ok (.i2l, 1) := by decide +kernel
theorem dX11_shared_2 : decode cX11_shared 2 = .ok (.lconst 0, 1) := by decide +kernel
theorem dX11_shared_3 : decode cX11_shared 3 = .ok (.ldc2_w 298, 3) := by decide +kernel
theorem dX11_shared_6 : decode cX11_shared 6 = .ok (.invokestatic 127, 3) := by decide +kernel
theorem dX11_shared_9 : decode cX11_shared 9 = .ok (.ifCond .ne 27, 3) := by decide +kernel
theorem dX11_shared_12 : decode cX11_shared 12 = .ok (.iload_n 2, 1) := by decide +kernel
theorem dX11_shared_13 : decode cX11_shared 13 = .ok (.i2l, 1) := by decide +kernel
theorem dX11_shared_14 : decode cX11_shared 14 = .ok (.lconst 1, 1) := by decide +kernel
theorem dX11_shared_15 : decode cX11_shared 15 = .ok (.ldc2_w 279, 3) := by decide +kernel
theorem dX11_shared_18 : decode cX11_shared 18 = .ok (.invokestatic 127, 3) := by decide +kernel
theorem dX11_shared_21 : decode cX11_shared 21 = .ok (.ifCond .ne 15, 3) := by decide +kernel
theorem dX11_shared_24 : decode cX11_shared 24 = .ok (.iload_n 3, 1) := by decide +kernel
theorem dX11_shared_25 : decode cX11_shared 25 = .ok (.i2l, 1) := by decide +kernel
theorem dX11_shared_26 : decode cX11_shared 26 = .ok (.lconst 1, 1) := by decide +kernel
theorem dX11_shared_27 : decode cX11_shared 27 = .ok (.ldc2_w 300, 3) := by decide +kernel
theorem dX11_shared_30 : decode cX11_shared 30 = .ok (.invokestatic 127, 3) := by decide +kernel
theorem dX11_shared_33 : decode cX11_shared 33 = .ok (.ifCond .eq 9, 3) := by decide +kernel
theorem dX11_shared_36 : decode cX11_shared 36 = .ok (.aload_n 0, 1) := by decide +kernel
theorem dX11_shared_37 : decode cX11_shared 37 = .ok (.iconst 1, 1) := by decide +kernel
theorem dX11_shared_38 : decode cX11_shared 38 = .ok (.invokevirtual 151, 3) := by decide +kernel
theorem dX11_shared_41 : decode cX11_shared 41 = .ok (.ireturn, 1) := by decide +kernel
