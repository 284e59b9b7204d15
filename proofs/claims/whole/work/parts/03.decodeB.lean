theorem dX11_shared_42 : decode cX11_shared 42 = .ok (.aload_n 0, 1) := by decide +kernel
theorem dX11_shared_43 : decode cX11_shared 43 = .ok (.getfield 58, 3) := by decide +kernel
theorem dX11_shared_46 : decode cX11_shared 46 = .ok (.getfield 178, 3) := by decide +kernel
theorem dX11_shared_49 : decode cX11_shared 49 = .ok (.getfield 182, 3) := by decide +kernel
theorem dX11_shared_52 : decode cX11_shared 52 = .ok (.iconst 2, 1) := by decide +kernel
theorem dX11_shared_53 : decode cX11_shared 53 = .ok (.if_icmp .ge 10, 3) := by decide +kernel
theorem dX11_shared_56 : decode cX11_shared 56 = .ok (.aload_n 0, 1) := by decide +kernel
theorem dX11_shared_57 : decode cX11_shared 57 = .ok (.bipush 6, 2) := by decide +kernel
theorem dX11_shared_59 : decode cX11_shared 59 = .ok (.invokevirtual 151, 3) := by decide +kernel
theorem dX11_shared_62 : decode cX11_shared 62 = .ok (.ireturn, 1) := by decide +kernel
theorem dX11_shared_63 : decode cX11_shared 63 = .ok (.aload_n 0, 1) := by decide +kernel
theorem dX11_shared_64 : decode cX11_shared 64 = .ok (.aload_n 0, 1) := by decide +kernel
theorem dX11_shared_65 : decode cX11_shared 65 = .ok (.getfield 83, 3) := by decide +kernel
theorem dX11_shared_68 : decode cX11_shared 68 = .ok (.aload_n 0, 1) := by decide +kernel
theorem dX11_shared_69 : decode cX11_shared 69 = .ok (.getfield 58, 3) := by decide +kernel
theorem dX11_shared_72 : decode cX11_shared 72 = .ok (.getfield 178, 3) := by decide +kernel
theorem dX11_shared_75 : decode cX11_shared 75 = .ok (.iload_n 1, 1) := by decide +kernel
theorem dX11_shared_76 : decode cX11_shared 76 = .ok (.iload_n 2, 1) := by decide +kernel
theorem dX11_shared_77 : decode cX11_shared 77 = .ok (.iload_n 3, 1) := by decide +kernel
theorem dX11_shared_78 : decode cX11_shared 78 = .ok (.invokevirtual 302, 3) := by decide +kernel
theorem dX11_shared_81 : decode cX11_shared 81 = .ok (.invokevirtual 187, 3) := by decide +kernel
theorem dX11_shared_84 : decode cX11_shared 84 = .ok (.ireturn, 1) := by decide +kernel
theorem dX11_unit_0 : decode cX11_unit 0 = .ok (.aload_n 0, 1) := by decide +kernel
theorem dX11_unit_1 : decode cX11_unit 1 = .ok (.getfield 83, 3) := by decide +kernel
theorem dX11_unit_4 : decode cX11_unit 4 = .ok (.getfield 305, 3) := by decide +kernel
theorem dX11_unit_7 : decode cX11_unit 7 = .ok (.ifCond .ne 10, 3) := by decide +kernel
theorem dX11_unit_10 : decode cX11_unit 10 = .ok (.aload_n 0, 1) := by decide +kernel
theorem dX11_unit_11 : decode cX11_unit 11 = .ok (.bipush 6, 2) := by decide +kernel
theorem dX11_unit_13 : decode cX11_unit 13 = .ok (.invokevirtual 151, 3) := by decide +kernel
theorem dX11_unit_16 : decode cX11_unit 16 = .ok (.ireturn, 1) := by decide +kernel
theorem dX11_unit_17 : decode cX11_unit 17 = .ok (.iload_n 1, 1) := by decide +kernel
theorem dX11_unit_18 : decode cX11_unit 18 = .ok (.i2l, 1) := by decide +kernel
theorem dX11_unit_19 : decode cX11_unit 19 = .ok (.lconst 0, 1) := by decide +kernel
theorem dX11_unit_20 : decode cX11_unit 20 = .ok (.aload_n 0, 1) := by decide +kernel
theorem dX11_unit_21 : decode cX11_unit 21 = .ok (.getfield 83, 3) := by decide +kernel
theorem dX11_unit_24 : decode cX11_unit 24 = .ok (.getfield 305, 3) := by decide +kernel
theorem dX11_unit_27 : decode cX11_unit 27 = .ok (.iconst 1, 1) := by decide +kernel
theorem dX11_unit_28 : decode cX11_unit 28 = .ok (.isub, 1) := by decide +kernel
theorem dX11_unit_29 : decode cX11_unit 29 = .ok (.i2l, 1) := by decide +kernel
theorem dX11_unit_30 : decode cX11_unit 30 = .ok (.invokestatic 127, 3) := by decide +kernel
theorem dX11_unit_33 : decode cX11_unit 33 = .ok (.ifCond .eq 9, 3) := by decide +kernel
theorem dX11_unit_36 : decode cX11_unit 36 = .ok (.aload_n 0, 1) := by decide +kernel
theorem dX11_unit_37 : decode cX11_unit 37 = .ok (.iconst 1, 1) := by decide +kernel
theorem dX11_unit_38 : decode cX11_unit 38 = .ok (.invokevirtual 151, 3) := by decide +kernel
theorem dX11_unit_41 : decode cX11_unit 41 = .ok (.ireturn, 1) := by decide +kernel
theorem dX11_unit_42 : decode cX11_unit 42 = .ok (.aload_n 0, 1) := by decide +kernel
theorem dX11_unit_43 : decode cX11_unit 43 = .ok (.aload_n 0, 1) := by decide +kernel
theorem dX11_unit_44 : decode cX11_unit 44 = .ok (.getfield 83, 3) := by decide +kernel
theorem dX11_unit_47 : decode cX11_unit 47 = .ok (.getfield 307, 3) := by decide +kernel
theorem dX11_unit_50 : decode cX11_unit 50 = .ok (.iload_n 1, 1) := by decide +kernel
theorem dX11_unit_51 : decode cX11_unit 51 = .ok (.iaload, 1) := by decide +kernel
theorem dX11_unit_52 : decode cX11_unit 52 = .ok (.invokevirtual 187, 3) := by decide +kernel
theorem dX11_unit_55 : decode cX11_unit 55 = .ok (.ireturn, 1) := by decide +kernel
theorem dX11_waits_0 : decode cX11_waits 0 = .ok (.aload_n 0, 1) := by decide +kernel
theorem dX11_waits_1 : decode cX11_waits 1 = .ok (.iload_n 1, 1) := by decide +kernel
theorem dX11_waits_2 : decode cX11_waits 2 = .ok (.invokevirtual 220, 3) := by decide +kernel
theorem dX11_waits_5 : decode cX11_waits 5 = .ok (.ifCond .eq 27, 3) := by decide +kernel
theorem dX11_waits_8 : decode cX11_waits 8 = .ok (.iload_n 2, 1) := by decide +kernel
theorem dX11_waits_9 : decode cX11_waits 9 = .ok (.i2l, 1) := by decide +kernel
theorem dX11_waits_10 : decode cX11_waits 10 = .ok (.lconst 0, 1) := by decide +kernel
theorem dX11_waits_11 : decode cX11_waits 11 = .ok (.ldc2_w 285, 3) := by decide +kernel
theorem dX11_waits_14 : decode cX11_waits 14 = .ok (.invokestatic 127, 3) := by decide +kernel
theorem dX11_waits_17 : decode cX11_waits 17 = .ok (.ifCond .ne 15, 3) := by decide +kernel
theorem dX11_waits_20 : decode cX11_waits 20 = .ok (.iload_n 3, 1) := by decide +kernel
theorem dX11_waits_21 : decode cX11_waits 21 = .ok (.i2l, 1) := by decide +kernel
theorem dX11_waits_22 : decode cX11_waits 22 = .ok (.lconst 1, 1) := by decide +kernel
theorem dX11_waits_23 : decode cX11_waits 23 = .ok (.ldc2_w 264, 3) := by decide +kernel
theorem dX11_waits_26 : decode cX11_waits 26 = .ok (.invokestatic 127, 3) := by decide +kernel
theorem dX11_waits_29 : decode cX11_waits 29 = .ok (.ifCond .eq 9, 3) := by decide +kernel
theorem dX11_waits_32 : decode cX11_waits 32 = .ok (.aload_n 0, 1) := by decide +kernel
theorem dX11_waits_33 : decode cX11_waits 33 = .ok (.iconst 1, 1) := by decide +kernel
theorem dX11_waits_34 : decode cX11_waits 34 = .ok (.invokevirtual 151, 3) := by decide +kernel
theorem dX11_waits_37 : decode cX11_waits 37 = .ok (.ireturn, 1) := by decide +kernel
theorem dX11_waits_38 : decode cX11_waits 38 = .ok (.aload_n 0, 1) := by decide +kernel
theorem dX11_waits_39 : decode cX11_waits 39 = .ok (.aload_n 0, 1) := by decide +kernel
theorem dX11_waits_40 : decode cX11_waits 40 = .ok (.getfield 83, 3) := by decide +kernel
theorem dX11_waits_43 : decode cX11_waits 43 = .ok (.aload_n 0, 1) := by decide +kernel
theorem dX11_waits_44 : decode cX11_waits 44 = .ok (.getfield 58, 3) := by decide +kernel
theorem dX11_waits_47 : decode cX11_waits 47 = .ok (.getfield 178, 3) := by decide +kernel
theorem dX11_waits_50 : decode cX11_waits 50 = .ok (.iload_n 1, 1) := by decide +kernel
theorem dX11_waits_51 : decode cX11_waits 51 = .ok (.iload_n 2, 1) := by decide +kernel
theorem dX11_waits_52 : decode cX11_waits 52 = .ok (.iload_n 3, 1) := by decide +kernel
theorem dX11_waits_53 : decode cX11_waits 53 = .ok (.invokevirtual 310, 3) := by decide +kernel
theorem dX11_waits_56 : decode cX11_waits 56 = .ok (.invokevirtual 187, 3) := by decide +kernel
theorem dX11_waits_59 : decode cX11_waits 59 = .ok (.ireturn, 1) := by decide +kernel
theorem dX11_unwaited_0 : decode cX11_unwaited 0 = .ok (.aload_n 0, 1) := by decide +kernel
theorem dX11_unwaited_1 : decode cX11_unwaited 1 = .ok (.iload_n 1, 1) := by decide +kernel
theorem dX11_unwaited_2 : decode cX11_unwaited 2 = .ok (.invokevirtual 220, 3) := by decide +kernel
theorem dX11_unwaited_5 : decode cX11_unwaited 5 = .ok (.ifCond .eq 15, 3) := by decide +kernel
theorem dX11_unwaited_8 : decode cX11_unwaited 8 = .ok (.iload_n 2, 1) := by decide +kernel
theorem dX11_unwaited_9 : decode cX11_unwaited 9 = .ok (.i2l, 1) := by decide +kernel
theorem dX11_unwaited_10 : decode cX11_unwaited 10 = .ok (.lconst 1, 1) := by decide +kernel
theorem dX11_unwaited_11 : decode cX11_unwaited 11 = .ok (.ldc2_w 300, 3) := by decide +kernel
theorem dX11_unwaited_14 : decode cX11_unwaited 14 = .ok (.invokestatic 127, 3) := by decide +kernel
theorem dX11_unwaited_17 : decode cX11_unwaited 17 = .ok (.ifCond .eq 9, 3) := by decide +kernel
theorem dX11_unwaited_20 : decode cX11_unwaited 20 = .ok (.aload_n 0, 1) := by decide +kernel
theorem dX11_unwaited_21 : decode cX11_unwaited 21 = .ok (.iconst 1, 1) := by decide +kernel
theorem dX11_unwaited_22 : decode cX11_unwaited 22 = .ok (.invokevirtual 151, 3) := by decide +kernel
theorem dX11_unwaited_25 : decode cX11_unwaited 25 = .ok (.ireturn, 1) := by decide +kernel
theorem dX11_unwaited_26 : decode cX11_unwaited 26 = .ok (.iconst 0, 1) := by decide +kernel
theorem dX11_unwaited_27 : decode cX11_unwaited 27 = .ok (.istore_n 3, 1) := by decide +kernel
theorem dX11_unwaited_28 : decode cX11_unwaited 28 = .ok (.iload_n 3, 1) := by decide +kernel
theorem dX11_unwaited_29 : decode cX11_unwaited 29 = .ok (.bipush 20, 2) := by decide +kernel
theorem dX11_unwaited_31 : decode cX11_unwaited 31 = .ok (.if_icmp .gt 35, 3) := by decide +kernel
theorem dX11_unwaited_34 : decode cX11_unwaited 34 = .ok (.aload_n 0, 1) := by decide +kernel
theorem dX11_unwaited_35 : decode cX11_unwaited 35 = .ok (.getfield 83, 3) := by decide +kernel
theorem dX11_unwaited_38 : decode cX11_unwaited 38 = .ok (.aload_n 0, 1) := by decide +kernel
theorem dX11_unwaited_39 : decode cX11_unwaited 39 = .ok (.getfield 58, 3) := by decide +kernel
theorem dX11_unwaited_42 : decode cX11_unwaited 42 = .ok (.getfield 178, 3) := by decide +kernel
theorem dX11_unwaited_45 : decode cX11_unwaited 45 = .ok (.iload_n 1, 1) := by decide +kernel
theorem dX11_unwaited_46 : decode cX11_unwaited 46 = .ok (.iload_n 3, 1) := by decide +kernel
theorem dX11_unwaited_47 : decode cX11_unwaited 47 = .ok (.iload_n 2, 1) := by decide +kernel
theorem dX11_unwaited_48 : decode cX11_unwaited 48 = .ok (.invokevirtual 310, 3) := by decide +kernel
theorem dX11_unwaited_51 : decode cX11_unwaited 51 = .ok (.ifCond .ne 9, 3) := by decide +kernel
theorem dX11_unwaited_54 : decode cX11_unwaited 54 = .ok (.aload_n 0, 1) := by decide +kernel
theorem dX11_unwaited_55 : decode cX11_unwaited 55 = .ok (.iload_n 3, 1) := by decide +kernel
theorem dX11_unwaited_56 : decode cX11_unwaited 56 = .ok (.invokevirtual 187, 3) := by decide +kernel
theorem dX11_unwaited_59 : decode cX11_unwaited 59 = .ok (.ireturn, 1) := by decide +kernel
theorem dX11_unwaited_60 : decode cX11_unwaited 60 = .ok (.iinc 3 1, 3) := by decide +kernel
theorem dX11_unwaited_63 : decode cX11_unwaited 63 = .ok (.goto (-35), 3) := by decide +kernel
theorem dX11_unwaited_66 : decode cX11_unwaited 66 = .ok (.aload_n 0, 1) := by decide +kernel
theorem dX11_unwaited_67 : decode cX11_unwaited 67 = .ok (.bipush 6, 2) := by decide +kernel
theorem dX11_unwaited_69 : decode cX11_unwaited 69 = .ok (.invokevirtual 151, 3) := by decide +kernel
theorem dX11_unwaited_72 : decode cX11_unwaited 72 = .ok (.ireturn, 1) := by decide +kernel
theorem dX11_work_0 : decode cX11_work 0 = .ok (.aload_n 0, 1) := by decide +kernel
theorem dX11_work_1 : decode cX11_work 1 = .ok (.getfield 90, 3) := by decide +kernel
theorem dX11_work_4 : decode cX11_work 4 = .ok (.aload_n 0, 1) := by decide +kernel
theorem dX11_work_5 : decode cX11_work 5 = .ok (.getfield 65, 3) := by decide +kernel
theorem dX11_work_8 : decode cX11_work 8 = .ok (.aload_n 0, 1) := by decide +kernel
theorem dX11_work_9 : decode cX11_work 9 = .ok (.getfield 58, 3) := by decide +kernel
theorem dX11_work_12 : decode cX11_work 12 = .ok (.invokevirtual 313, 3) := by decide +kernel
theorem dX11_work_15 : decode cX11_work 15 = .ok (.aload_n 0, 1) := by decide +kernel
theorem dX11_work_16 : decode cX11_work 16 = .ok (.aload_n 0, 1) := by decide +kernel
theorem dX11_work_17 : decode cX11_work 17 = .ok (.getfield 90, 3) := by decide +kernel
theorem dX11_work_20 : decode cX11_work 20 = .ok (.getfield 317, 3) := by decide +kernel
theorem dX11_work_23 : decode cX11_work 23 = .ok (.invokevirtual 187, 3) := by decide +kernel
theorem dX11_work_26 : decode cX11_work 26 = .ok (.ireturn, 1) := by decide +kernel
theorem dX11_worked_0 : decode cX11_worked 0 = .ok (.iload_n 1, 1) := by decide +kernel
theorem dX11_worked_1 : decode cX11_worked 1 = .ok (.i2l, 1) := by decide +kernel
theorem dX11_worked_2 : decode cX11_worked 2 = .ok (.lconst 0, 1) := by decide +kernel
theorem dX11_worked_3 : decode cX11_worked 3 = .ok (.ldc2_w 320, 3) := by decide +kernel
theorem dX11_worked_6 : decode cX11_worked 6 = .ok (.invokestatic 127, 3) := by decide +kernel
theorem dX11_worked_9 : decode cX11_worked 9 = .ok (.ifCond .eq 9, 3) := by decide +kernel
theorem dX11_worked_12 : decode cX11_worked 12 = .ok (.aload_n 0, 1) := by decide +kernel
theorem dX11_worked_13 : decode cX11_worked 13 = .ok (.iconst 1, 1) := by decide +kernel
theorem dX11_worked_14 : decode cX11_worked 14 = .ok (.invokevirtual 151, 3) := by decide +kernel
theorem dX11_worked_17 : decode cX11_worked 17 = .ok (.ireturn, 1) := by decide +kernel
theorem dX11_worked_18 : decode cX11_worked 18 = .ok (.aload_n 0, 1) := by decide +kernel
theorem dX11_worked_19 : decode cX11_worked 19 = .ok (.getfield 90, 3) := by decide +kernel
theorem dX11_worked_22 : decode cX11_worked 22 = .ok (.getfield 322, 3) := by decide +kernel
theorem dX11_worked_25 : decode cX11_worked 25 = .ok (.ifCond .ne 10, 3) := by decide +kernel
theorem dX11_worked_28 : decode cX11_worked 28 = .ok (.aload_n 0, 1) := by decide +kernel
theorem dX11_worked_29 : decode cX11_worked 29 = .ok (.bipush 6, 2) := by decide +kernel
theorem dX11_worked_31 : decode cX11_worked 31 = .ok (.invokevirtual 151, 3) := by decide +kernel
theorem dX11_worked_34 : decode cX11_worked 34 = .ok (.ireturn, 1) := by decide +kernel
theorem dX11_worked_35 : decode cX11_worked 35 = .ok (.iload_n 1, 1) := by decide +kernel
theorem dX11_worked_36 : decode cX11_worked 36 = .ok (.ifCond .ne 15, 3) := by decide +kernel
theorem dX11_worked_39 : decode cX11_worked 39 = .ok (.aload_n 0, 1) := by decide +kernel
theorem dX11_worked_40 : decode cX11_worked 40 = .ok (.aload_n 0, 1) := by decide +kernel
theorem dX11_worked_41 : decode cX11_worked 41 = .ok (.getfield 90, 3) := by decide +kernel
theorem dX11_worked_44 : decode cX11_worked 44 = .ok (.getfield 325, 3) := by decide +kernel
theorem dX11_worked_47 : decode cX11_worked 47 = .ok (.invokevirtual 187, 3) := by decide +kernel
theorem dX11_worked_50 : decode cX11_worked 50 = .ok (.ireturn, 1) := by decide +kernel
theorem dX11_worked_51 : decode cX11_worked 51 = .ok (.aload_n 0, 1) := by decide +kernel
theorem dX11_worked_52 : decode cX11_worked 52 = .ok (.iload_n 1, 1) := by decide +kernel
theorem dX11_worked_53 : decode cX11_worked 53 = .ok (.iconst 1, 1) := by decide +kernel
theorem dX11_worked_54 : decode cX11_worked 54 = .ok (.if_icmp .ne 13, 3) := by decide +kernel
theorem dX11_worked_57 : decode cX11_worked 57 = .ok (.aload_n 0, 1) := by decide +kernel
theorem dX11_worked_58 : decode cX11_worked 58 = .ok (.getfield 90, 3) := by decide +kernel
theorem dX11_worked_61 : decode cX11_worked 61 = .ok (.getfield 328, 3) := by decide +kernel
theorem dX11_worked_64 : decode cX11_worked 64 = .ok (.goto 10, 3) := by decide +kernel
theorem dX11_worked_67 : decode cX11_worked 67 = .ok (.aload_n 0, 1) := by decide +kernel
theorem dX11_worked_68 : decode cX11_worked 68 = .ok (.getfield 90, 3) := by decide +kernel
theorem dX11_worked_71 : decode cX11_worked 71 = .ok (.getfield 331, 3) := by decide +kernel
theorem dX11_worked_74 : decode cX11_worked 74 = .ok (.invokevirtual 187, 3) := by decide +kernel
theorem dX11_worked_77 : decode cX11_worked 77 = .ok (.ireturn, 1) := by decide +kernel
theorem dX11_heads_0 : decode cX11_heads 0 = .ok (.iload_n 1, 1) := by decide +kernel
theorem dX11_heads_1 : decode cX11_heads 1 = .ok (.i2l, 1) := by decide +kernel
theorem dX11_heads_2 : decode cX11_heads 2 = .ok (.lconst 1, 1) := by decide +kernel
theorem dX11_heads_3 : decode cX11_heads 3 = .ok (.ldc2_w 259, 3) := by decide +kernel
theorem dX11_heads_6 : decode cX11_heads 6 = .ok (.invokestatic 127, 3) := by decide +kernel
theorem dX11_heads_9 : decode cX11_heads 9 = .ok (.ifCond .ne 22, 3) := by decide +kernel
theorem dX11_heads_12 : decode cX11_heads 12 = .ok (.iload_n 2, 1) := by decide +kernel
theorem dX11_heads_13 : decode cX11_heads 13 = .ok (.invokestatic 121, 3) := by decide +kernel
theorem dX11_heads_16 : decode cX11_heads 16 = .ok (.ifCond .eq 15, 3) := by decide +kernel
theorem dX11_heads_19 : decode cX11_heads 19 = .ok (.iload_n 3, 1) := by decide +kernel
theorem dX11_heads_20 : decode cX11_heads 20 = .ok (.i2l, 1) := by decide +kernel
theorem dX11_heads_21 : decode cX11_heads 21 = .ok (.lconst 0, 1) := by decide +kernel
theorem dX11_heads_22 : decode cX11_heads 22 = .ok (.ldc2_w 131, 3) := by decide +kernel
theorem dX11_heads_25 : decode cX11_heads 25 = .ok (.invokestatic 127, 3) := by decide +kernel
theorem dX11_heads_28 : decode cX11_heads 28 = .ok (.ifCond .eq 9, 3) := by decide +kernel
theorem dX11_heads_31 : decode cX11_heads 31 = .ok (.aload_n 0, 1) := by decide +kernel
theorem dX11_heads_32 : decode cX11_heads 32 = .ok (.iconst 1, 1) := by decide +kernel
theorem dX11_heads_33 : decode cX11_heads 33 = .ok (.invokevirtual 151, 3) := by decide +kernel
theorem dX11_heads_36 : decode cX11_heads 36 = .ok (.ireturn, 1) := by decide +kernel
theorem dX11_heads_37 : decode cX11_heads 37 = .ok (.aload_n 0, 1) := by decide +kernel
theorem dX11_heads_38 : decode cX11_heads 38 = .ok (.iload_n 2, 1) := by decide +kernel
theorem dX11_heads_39 : decode cX11_heads 39 = .ok (.iload_n 3, 1) := by decide +kernel
theorem dX11_heads_40 : decode cX11_heads 40 = .ok (.invokevirtual 334, 3) := by decide +kernel
theorem dX11_heads_43 : decode cX11_heads 43 = .ok (.istore 4, 2) := by decide +kernel
theorem dX11_heads_45 : decode cX11_heads 45 = .ok (.iload 4, 2) := by decide +kernel
theorem dX11_heads_47 : decode cX11_heads 47 = .ok (.ifCond .eq 10, 3) := by decide +kernel
theorem dX11_heads_50 : decode cX11_heads 50 = .ok (.aload_n 0, 1) := by decide +kernel
theorem dX11_heads_51 : decode cX11_heads 51 = .ok (.iload 4, 2) := by decide +kernel
theorem dX11_heads_53 : decode cX11_heads 53 = .ok (.invokevirtual 151, 3) := by decide +kernel
theorem dX11_heads_56 : decode cX11_heads 56 = .ok (.ireturn, 1) := by decide +kernel
theorem dX11_heads_57 : decode cX11_heads 57 = .ok (.aload_n 0, 1) := by decide +kernel
theorem dX11_heads_58 : decode cX11_heads 58 = .ok (.getfield 22, 3) := by decide +kernel
theorem dX11_heads_61 : decode cX11_heads 61 = .ok (.iload_n 2, 1) := by decide +kernel
theorem dX11_heads_62 : decode cX11_heads 62 = .ok (.aaload, 1) := by decide +kernel
theorem dX11_heads_63 : decode cX11_heads 63 = .ok (.iload_n 3, 1) := by decide +kernel
theorem dX11_heads_64 : decode cX11_heads 64 = .ok (.iload_n 1, 1) := by decide +kernel
theorem dX11_heads_65 : decode cX11_heads 65 = .ok (.iconst 1, 1) := by decide +kernel
theorem dX11_heads_66 : decode cX11_heads 66 = .ok (.isub, 1) := by decide +kernel
theorem dX11_heads_67 : decode cX11_heads 67 = .ok (.invokestatic 337, 3) := by decide +kernel
theorem dX11_heads_70 : decode cX11_heads 70 = .ok (.ifCond .ne 9, 3) := by decide +kernel
theorem dX11_heads_73 : decode cX11_heads 73 = .ok (.aload_n 0, 1) := by decide +kernel
theorem dX11_heads_74 : decode cX11_heads 74 = .ok (.iconst 5, 1) := by decide +kernel
theorem dX11_heads_75 : decode cX11_heads 75 = .ok (.invokevirtual 151, 3) := by decide +kernel
theorem dX11_heads_78 : decode cX11_heads 78 = .ok (.ireturn, 1) := by decide +kernel
theorem dX11_heads_79 : decode cX11_heads 79 = .ok (.aload_n 0, 1) := by decide +kernel
theorem dX11_heads_80 : decode cX11_heads 80 = .ok (.getfield 97, 3) := by decide +kernel
theorem dX11_heads_83 : decode cX11_heads 83 = .ok (.aload_n 0, 1) := by decide +kernel
theorem dX11_heads_84 : decode cX11_heads 84 = .ok (.getfield 58, 3) := by decide +kernel
theorem dX11_heads_87 : decode cX11_heads 87 = .ok (.aload_n 0, 1) := by decide +kernel
theorem dX11_heads_88 : decode cX11_heads 88 = .ok (.getfield 22, 3) := by decide +kernel
theorem dX11_heads_91 : decode cX11_heads 91 = .ok (.iload_n 2, 1) := by decide +kernel
theorem dX11_heads_92 : decode cX11_heads 92 = .ok (.aaload, 1) := by decide +kernel
theorem dX11_heads_93 : decode cX11_heads 93 = .ok (.iload_n 3, 1) := by decide +kernel
theorem dX11_heads_94 : decode cX11_heads 94 = .ok (.iload_n 1, 1) := by decide +kernel
theorem dX11_heads_95 : decode cX11_heads 95 = .ok (.invokevirtual 341, 3) := by decide +kernel
theorem dX11_heads_98 : decode cX11_heads 98 = .ok (.ifCond .eq 17, 3) := by decide +kernel
theorem dX11_heads_101 : decode cX11_heads 101 = .ok (.aload_n 0, 1) := by decide +kernel
theorem dX11_heads_102 : decode cX11_heads 102 = .ok (.aload_n 0, 1) := by decide +kernel
theorem dX11_heads_103 : decode cX11_heads 103 = .ok (.getfield 97, 3) := by decide +kernel
theorem dX11_heads_106 : decode cX11_heads 106 = .ok (.getfield 345, 3) := by decide +kernel
theorem dX11_heads_109 : decode cX11_heads 109 = .ok (.invokevirtual 187, 3) := by decide +kernel
theorem dX11_heads_112 : decode cX11_heads 112 = .ok (.goto 9, 3) := by decide +kernel
theorem dX11_heads_115 : decode cX11_heads 115 = .ok (.aload_n 0, 1) := by decide +kernel
theorem dX11_heads_116 : decode cX11_heads 116 = .ok (.bipush 6, 2) := by decide +kernel
theorem dX11_heads_118 : decode cX11_heads 118 = .ok (.invokevirtual 151, 3) := by decide +kernel
theorem dX11_heads_121 : decode cX11_heads 121 = .ok (.ireturn, 1) := by decide +kernel
theorem dX11_head_0 : decode cX11_head 0 = .ok (.iload_n 1, 1) := by decide +kernel
theorem dX11_head_1 : decode cX11_head 1 = .ok (.i2l, 1) := by decide +kernel
theorem dX11_head_2 : decode cX11_head 2 = .ok (.lconst 0, 1) := by decide +kernel
theorem dX11_head_3 : decode cX11_head 3 = .ok (.ldc2_w 348, 3) := by decide +kernel
theorem dX11_head_6 : decode cX11_head 6 = .ok (.invokestatic 127, 3) := by decide +kernel
theorem dX11_head_9 : decode cX11_head 9 = .ok (.ifCond .eq 9, 3) := by decide +kernel
theorem dX11_head_12 : decode cX11_head 12 = .ok (.aload_n 0, 1) := by decide +kernel
theorem dX11_head_13 : decode cX11_head 13 = .ok (.iconst 1, 1) := by decide +kernel
theorem dX11_head_14 : decode cX11_head 14 = .ok (.invokevirtual 151, 3) := by decide +kernel
theorem dX11_head_17 : decode cX11_head 17 = .ok (.ireturn, 1) := by decide +kernel
theorem dX11_head_18 : decode cX11_head 18 = .ok (.aload_n 0, 1) := by decide +kernel
theorem dX11_head_19 : decode cX11_head 19 = .ok (.getfield 97, 3) := by decide +kernel
theorem dX11_head_22 : decode cX11_head 22 = .ok (.getfield 350, 3) := by decide +kernel
theorem dX11_head_25 : decode cX11_head 25 = .ok (.ifCond .eq 18, 3) := by decide +kernel
theorem dX11_head_28 : decode cX11_head 28 = .ok (.iload_n 1, 1) := by decide +kernel
theorem dX11_head_29 : decode cX11_head 29 = .ok (.iconst 1, 1) := by decide +kernel
theorem dX11_head_30 : decode cX11_head 30 = .ok (.iadd, 1) := by decide +kernel
theorem dX11_head_31 : decode cX11_head 31 = .ok (.iconst 2, 1) := by decide +kernel
theorem dX11_head_32 : decode cX11_head 32 = .ok (.idiv, 1) := by decide +kernel
theorem dX11_head_33 : decode cX11_head 33 = .ok (.aload_n 0, 1) := by decide +kernel
theorem dX11_head_34 : decode cX11_head 34 = .ok (.getfield 97, 3) := by decide +kernel
theorem dX11_head_37 : decode cX11_head 37 = .ok (.getfield 345, 3) := by decide +kernel
theorem dX11_head_40 : decode cX11_head 40 = .ok (.if_icmp .le 10, 3) := by decide +kernel
theorem dX11_head_43 : decode cX11_head 43 = .ok (.aload_n 0, 1) := by decide +kernel
theorem dX11_head_44 : decode cX11_head 44 = .ok (.bipush 6, 2) := by decide +kernel
theorem dX11_head_46 : decode cX11_head 46 = .ok (.invokevirtual 151, 3) := by decide +kernel
theorem dX11_head_49 : decode cX11_head 49 = .ok (.ireturn, 1) := by decide +kernel
theorem dX11_head_50 : decode cX11_head 50 = .ok (.iload_n 1, 1) := by decide +kernel
theorem dX11_head_51 : decode cX11_head 51 = .ok (.ifCond .ne 15, 3) := by decide +kernel
theorem dX11_head_54 : decode cX11_head 54 = .ok (.aload_n 0, 1) := by decide +kernel
theorem dX11_head_55 : decode cX11_head 55 = .ok (.aload_n 0, 1) := by decide +kernel
theorem dX11_head_56 : decode cX11_head 56 = .ok (.getfield 97, 3) := by decide +kernel
theorem dX11_head_59 : decode cX11_head 59 = .ok (.getfield 350, 3) := by decide +kernel
theorem dX11_head_62 : decode cX11_head 62 = .ok (.invokevirtual 187, 3) := by decide +kernel
theorem dX11_head_65 : decode cX11_head 65 = .ok (.ireturn, 1) := by decide +kernel
theorem dX11_head_66 : decode cX11_head 66 = .ok (.iload_n 1, 1) := by decide +kernel
theorem dX11_head_67 : decode cX11_head 67 = .ok (.iconst 2, 1) := by decide +kernel
theorem dX11_head_68 : decode cX11_head 68 = .ok (.if_icmp .gt 13, 3) := by decide +kernel
theorem dX11_head_71 : decode cX11_head 71 = .ok (.aload_n 0, 1) := by decide +kernel
theorem dX11_head_72 : decode cX11_head 72 = .ok (.getfield 97, 3) := by decide +kernel
theorem dX11_head_75 : decode cX11_head 75 = .ok (.getfield 353, 3) := by decide +kernel
theorem dX11_head_78 : decode cX11_head 78 = .ok (.goto 10, 3) := by decide +kernel
theorem dX11_head_81 : decode cX11_head 81 = .ok (.aload_n 0, 1) := by decide +kernel
theorem dX11_head_82 : decode cX11_head 82 = .ok (.getfield 97, 3) := by decide +kernel
theorem dX11_head_85 : decode cX11_head 85 = .ok (.getfield 356, 3) := by decide +kernel
theorem dX11_head_88 : decode cX11_head 88 = .ok (.istore_n 2, 1) := by decide +kernel
theorem dX11_head_89 : decode cX11_head 89 = .ok (.aload_n 0, 1) := by decide +kernel
theorem dX11_head_90 : decode cX11_head 90 = .ok (.iload_n 1, 1) := by decide +kernel
theorem dX11_head_91 : decode cX11_head 91 = .ok (.iconst 2, 1) := by decide +kernel
theorem dX11_head_92 : decode cX11_head 92 = .ok (.irem, 1) := by decide +kernel
theorem dX11_head_93 : decode cX11_head 93 = .ok (.iconst 1, 1) := by decide +kernel
theorem dX11_head_94 : decode cX11_head 94 = .ok (.if_icmp .ne 10, 3) := by decide +kernel
theorem dX11_head_97 : decode cX11_head 97 = .ok (.iload_n 2, 1) := by decide +kernel
theorem dX11_head_98 : decode cX11_head 98 = .ok (.bipush 24, 2) := by decide +kernel
theorem dX11_head_100 : decode cX11_head 100 = .ok (.idiv, 1) := by decide +kernel
theorem dX11_head_101 : decode cX11_head 101 = .ok (.goto 7, 3) := by decide +kernel
theorem dX11_head_104 : decode cX11_head 104 = .ok (.iload_n 2, 1) := by decide +kernel
theorem dX11_head_105 : decode cX11_head 105 = .ok (.bipush 24, 2) := by decide +kernel
theorem dX11_head_107 : decode cX11_head 107 = .ok (.irem, 1) := by decide +kernel
theorem dX11_head_108 : decode cX11_head 108 = .ok (.invokevirtual 187, 3) := by decide +kernel
theorem dX11_head_111 : decode cX11_head 111 = .ok (.ireturn, 1) := by decide +kernel
theorem dX11_brief_0 : decode cX11_brief 0 = .ok (.iload_n 1, 1) := by decide +kernel
theorem dX11_brief_1 : decode cX11_brief 1 = .ok (.invokestatic 121, 3) := by decide +kernel
theorem dX11_brief_4 : decode cX11_brief 4 = .ok (.ifCond .eq 34, 3) := by decide +kernel
theorem dX11_brief_7 : decode cX11_brief 7 = .ok (.iload_n 2, 1) := by decide +kernel
theorem dX11_brief_8 : decode cX11_brief 8 = .ok (.i2l, 1) := by decide +kernel
theorem dX11_brief_9 : decode cX11_brief 9 = .ok (.lconst 1, 1) := by decide +kernel
theorem dX11_brief_10 : decode cX11_brief 10 = .ok (.ldc2_w 131, 3) := by decide +kernel
theorem dX11_brief_13 : decode cX11_brief 13 = .ok (.invokestatic 127, 3) := by decide +kernel
theorem dX11_brief_16 : decode cX11_brief 16 = .ok (.ifCond .ne 22, 3) := by decide +kernel
theorem dX11_brief_19 : decode cX11_brief 19 = .ok (.iload_n 3, 1) := by decide +kernel
theorem dX11_brief_20 : decode cX11_brief 20 = .ok (.i2l, 1) := by decide +kernel
theorem dX11_brief_21 : decode cX11_brief 21 = .ok (.lconst 1, 1) := by decide +kernel
theorem dX11_brief_22 : decode cX11_brief 22 = .ok (.ldc2_w 279, 3) := by decide +kernel
theorem dX11_brief_25 : decode cX11_brief 25 = .ok (.invokestatic 127, 3) := by decide +kernel
theorem dX11_brief_28 : decode cX11_brief 28 = .ok (.ifCond .ne 10, 3) := by decide +kernel
theorem dX11_brief_31 : decode cX11_brief 31 = .ok (.iload 5, 2) := by decide +kernel
theorem dX11_brief_33 : decode cX11_brief 33 = .ok (.iload 4, 2) := by decide +kernel
theorem dX11_brief_35 : decode cX11_brief 35 = .ok (.if_icmp .ge 9, 3) := by decide +kernel
theorem dX11_brief_38 : decode cX11_brief 38 = .ok (.aload_n 0, 1) := by decide +kernel
theorem dX11_brief_39 : decode cX11_brief 39 = .ok (.iconst 1, 1) := by decide +kernel
theorem dX11_brief_40 : decode cX11_brief 40 = .ok (.invokevirtual 151, 3) := by decide +kernel
theorem dX11_brief_43 : decode cX11_brief 43 = .ok (.ireturn, 1) := by decide +kernel
theorem dX11_brief_44 : decode cX11_brief 44 = .ok (.aload_n 0, 1) := by decide +kernel
theorem dX11_brief_45 : decode cX11_brief 45 = .ok (.iload_n 1, 1) := by decide +kernel
theorem dX11_brief_46 : decode cX11_brief 46 = .ok (.iload_n 2, 1) := by decide +kernel
theorem dX11_brief_47 : decode cX11_brief 47 = .ok (.invokevirtual 334, 3) := by decide +kernel
theorem dX11_brief_50 : decode cX11_brief 50 = .ok (.istore 6, 2) := by decide +kernel
theorem dX11_brief_52 : decode cX11_brief 52 = .ok (.iload 6, 2) := by decide +kernel
theorem dX11_brief_54 : decode cX11_brief 54 = .ok (.ifCond .eq 10, 3) := by decide +kernel
theorem dX11_brief_57 : decode cX11_brief 57 = .ok (.aload_n 0, 1) := by decide +kernel
theorem dX11_brief_58 : decode cX11_brief 58 = .ok (.iload 6, 2) := by decide +kernel
theorem dX11_brief_60 : decode cX11_brief 60 = .ok (.invokevirtual 151, 3) := by decide +kernel
theorem dX11_brief_63 : decode cX11_brief 63 = .ok (.ireturn, 1) := by decide +kernel
theorem dX11_brief_64 : decode cX11_brief 64 = .ok (.aload_n 0, 1) := by decide +kernel
theorem dX11_brief_65 : decode cX11_brief 65 = .ok (.getfield 22, 3) := by decide +kernel
theorem dX11_brief_68 : decode cX11_brief 68 = .ok (.iload_n 1, 1) := by decide +kernel
theorem dX11_brief_69 : decode cX11_brief 69 = .ok (.aaload, 1) := by decide +kernel
theorem dX11_brief_70 : decode cX11_brief 70 = .ok (.iload_n 2, 1) := by decide +kernel
theorem dX11_brief_71 : decode cX11_brief 71 = .ok (.ldc2_w 359, 3) := by decide +kernel
theorem dX11_brief_74 : decode cX11_brief 74 = .ok (.ldc2_w 259, 3) := by decide +kernel
theorem dX11_brief_77 : decode cX11_brief 77 = .ok (.invokestatic 361, 3) := by decide +kernel
theorem dX11_brief_80 : decode cX11_brief 80 = .ok (.ifCond .ne 9, 3) := by decide +kernel
theorem dX11_brief_83 : decode cX11_brief 83 = .ok (.aload_n 0, 1) := by decide +kernel
theorem dX11_brief_84 : decode cX11_brief 84 = .ok (.iconst 5, 1) := by decide +kernel
theorem dX11_brief_85 : decode cX11_brief 85 = .ok (.invokevirtual 151, 3) := by decide +kernel
theorem dX11_brief_88 : decode cX11_brief 88 = .ok (.ireturn, 1) := by decide +kernel
theorem dX11_brief_89 : decode cX11_brief 89 = .ok (.aload_n 0, 1) := by decide +kernel
theorem dX11_brief_90 : decode cX11_brief 90 = .ok (.aload_n 0, 1) := by decide +kernel
theorem dX11_brief_91 : decode cX11_brief 91 = .ok (.getfield 22, 3) := by decide +kernel
theorem dX11_brief_94 : decode cX11_brief 94 = .ok (.iload_n 1, 1) := by decide +kernel
theorem dX11_brief_95 : decode cX11_brief 95 = .ok (.aaload, 1) := by decide +kernel
theorem dX11_brief_96 : decode cX11_brief 96 = .ok (.iload_n 2, 1) := by decide +kernel
theorem dX11_brief_97 : decode cX11_brief 97 = .ok (.iload_n 3, 1) := by decide +kernel
theorem dX11_brief_98 : decode cX11_brief 98 = .ok (.iload 4, 2) := by decide +kernel
theorem dX11_brief_100 : decode cX11_brief 100 = .ok (.iload 5, 2) := by decide +kernel
theorem dX11_brief_102 : decode cX11_brief 102 = .ok (.invokestatic 365, 3) := by decide +kernel
theorem dX11_brief_105 : decode cX11_brief 105 = .ok (.invokevirtual 187, 3) := by decide +kernel
theorem dX11_brief_108 : decode cX11_brief 108 = .ok (.ireturn, 1) := by decide +kernel
theorem dX11_glass_0 : decode cX11_glass 0 = .ok (.iload_n 1, 1) := by decide +kernel
theorem dX11_glass_1 : decode cX11_glass 1 = .ok (.invokestatic 121, 3) := by decide +kernel
theorem dX11_glass_4 : decode cX11_glass 4 = .ok (.ifCond .eq 15, 3) := by decide +kernel
theorem dX11_glass_7 : decode cX11_glass 7 = .ok (.iload_n 2, 1) := by decide +kernel
theorem dX11_glass_8 : decode cX11_glass 8 = .ok (.i2l, 1) := by decide +kernel
theorem dX11_glass_9 : decode cX11_glass 9 = .ok (.lconst 1, 1) := by decide +kernel
theorem dX11_glass_10 : decode cX11_glass 10 = .ok (.ldc2_w 285, 3) := by decide +kernel
theorem dX11_glass_13 : decode cX11_glass 13 = .ok (.invokestatic 127, 3) := by decide +kernel
theorem dX11_glass_16 : decode cX11_glass 16 = .ok (.ifCond .eq 9, 3) := by decide +kernel
theorem dX11_glass_19 : decode cX11_glass 19 = .ok (.aload_n 0, 1) := by decide +kernel
theorem dX11_glass_20 : decode cX11_glass 20 = .ok (.iconst 1, 1) := by decide +kernel
theorem dX11_glass_21 : decode cX11_glass 21 = .ok (.invokevirtual 151, 3) := by decide +kernel
theorem dX11_glass_24 : decode cX11_glass 24 = .ok (.ireturn, 1) := by decide +kernel
theorem dX11_glass_25 : decode cX11_glass 25 = .ok (.aload_n 0, 1) := by decide +kernel
theorem dX11_glass_26 : decode cX11_glass 26 = .ok (.iload_n 1, 1) := by decide +kernel
theorem dX11_glass_27 : decode cX11_glass 27 = .ok (.iconst 2, 1) := by decide +kernel
theorem dX11_glass_28 : decode cX11_glass 28 = .ok (.iload_n 2, 1) := by decide +kernel
theorem dX11_glass_29 : decode cX11_glass 29 = .ok (.imul, 1) := by decide +kernel
theorem dX11_glass_30 : decode cX11_glass 30 = .ok (.invokevirtual 334, 3) := by decide +kernel
theorem dX11_glass_33 : decode cX11_glass 33 = .ok (.istore_n 3, 1) := by decide +kernel
theorem dX11_glass_34 : decode cX11_glass 34 = .ok (.iload_n 3, 1) := by decide +kernel
theorem dX11_glass_35 : decode cX11_glass 35 = .ok (.ifCond .eq 9, 3) := by decide +kernel
theorem dX11_glass_38 : decode cX11_glass 38 = .ok (.aload_n 0, 1) := by decide +kernel
theorem dX11_glass_39 : decode cX11_glass 39 = .ok (.iload_n 3, 1) := by decide +kernel
theorem dX11_glass_40 : decode cX11_glass 40 = .ok (.invokevirtual 151, 3) := by decide +kernel
theorem dX11_glass_43 : decode cX11_glass 43 = .ok (.ireturn, 1) := by decide +kernel
theorem dX11_glass_44 : decode cX11_glass 44 = .ok (.aload_n 0, 1) := by decide +kernel
theorem dX11_glass_45 : decode cX11_glass 45 = .ok (.getfield 22, 3) := by decide +kernel
theorem dX11_glass_48 : decode cX11_glass 48 = .ok (.iload_n 1, 1) := by decide +kernel
theorem dX11_glass_49 : decode cX11_glass 49 = .ok (.aaload, 1) := by decide +kernel
theorem dX11_glass_50 : decode cX11_glass 50 = .ok (.astore 4, 2) := by decide +kernel
theorem dX11_glass_52 : decode cX11_glass 52 = .ok (.iconst 0, 1) := by decide +kernel
theorem dX11_glass_53 : decode cX11_glass 53 = .ok (.istore 5, 2) := by decide +kernel
theorem dX11_glass_55 : decode cX11_glass 55 = .ok (.iload 5, 2) := by decide +kernel
theorem dX11_glass_57 : decode cX11_glass 57 = .ok (.iload_n 2, 1) := by decide +kernel
theorem dX11_glass_58 : decode cX11_glass 58 = .ok (.if_icmp .ge 61, 3) := by decide +kernel
theorem dX11_glass_61 : decode cX11_glass 61 = .ok (.aload 4, 2) := by decide +kernel
theorem dX11_glass_63 : decode cX11_glass 63 = .ok (.iconst 2, 1) := by decide +kernel
theorem dX11_glass_64 : decode cX11_glass 64 = .ok (.iload 5, 2) := by decide +kernel
theorem dX11_glass_66 : decode cX11_glass 66 = .ok (.imul, 1) := by decide +kernel
theorem dX11_glass_67 : decode cX11_glass 67 = .ok (.laload, 1) := by decide +kernel
theorem dX11_glass_68 : decode cX11_glass 68 = .ok (.lconst 0, 1) := by decide +kernel
theorem dX11_glass_69 : decode cX11_glass 69 = .ok (.aload_n 0, 1) := by decide +kernel
theorem dX11_glass_70 : decode cX11_glass 70 = .ok (.getfield 58, 3) := by decide +kernel
theorem dX11_glass_73 : decode cX11_glass 73 = .ok (.getfield 178, 3) := by decide +kernel
theorem dX11_glass_76 : decode cX11_glass 76 = .ok (.getfield 182, 3) := by decide +kernel
theorem dX11_glass_79 : decode cX11_glass 79 = .ok (.iconst 1, 1) := by decide +kernel
theorem dX11_glass_80 : decode cX11_glass 80 = .ok (.isub, 1) := by decide +kernel
theorem dX11_glass_81 : decode cX11_glass 81 = .ok (.i2l, 1) := by decide +kernel
theorem dX11_glass_82 : decode cX11_glass 82 = .ok (.invokestatic 127, 3) := by decide +kernel
theorem dX11_glass_85 : decode cX11_glass 85 = .ok (.ifCond .ne 22, 3) := by decide +kernel
theorem dX11_glass_88 : decode cX11_glass 88 = .ok (.aload 4, 2) := by decide +kernel
theorem dX11_glass_90 : decode cX11_glass 90 = .ok (.iconst 2, 1) := by decide +kernel
theorem dX11_glass_91 : decode cX11_glass 91 = .ok (.iload 5, 2) := by decide +kernel
theorem dX11_glass_93 : decode cX11_glass 93 = .ok (.imul, 1) := by decide +kernel
theorem dX11_glass_94 : decode cX11_glass 94 = .ok (.iconst 1, 1) := by decide +kernel
theorem dX11_glass_95 : decode cX11_glass 95 = .ok (.iadd, 1) := by decide +kernel
theorem dX11_glass_96 : decode cX11_glass 96 = .ok (.laload, 1) := by decide +kernel
theorem dX11_glass_97 : decode cX11_glass 97 = .ok (.lconst 0, 1) := by decide +kernel
theorem dX11_glass_98 : decode cX11_glass 98 = .ok (.ldc2_w 259, 3) := by decide +kernel
theorem dX11_glass_101 : decode cX11_glass 101 = .ok (.invokestatic 127, 3) := by decide +kernel
theorem dX11_glass_104 : decode cX11_glass 104 = .ok (.ifCond .eq 9, 3) := by decide +kernel
theorem dX11_glass_107 : decode cX11_glass 107 = .ok (.aload_n 0, 1) := by decide +kernel
theorem dX11_glass_108 : decode cX11_glass 108 = .ok (.iconst 5, 1) := by decide +kernel
theorem dX11_glass_109 : decode cX11_glass 109 = .ok (.invokevirtual 151, 3) := by decide +kernel
theorem dX11_glass_112 : decode cX11_glass 112 = .ok (.ireturn, 1) := by decide +kernel
theorem dX11_glass_113 : decode cX11_glass 113 = .ok (.iinc 5 1, 3) := by decide +kernel
theorem dX11_glass_116 : decode cX11_glass 116 = .ok (.goto (-61), 3) := by decide +kernel
theorem dX11_glass_119 : decode cX11_glass 119 = .ok (.aload_n 0, 1) := by decide +kernel
theorem dX11_glass_120 : decode cX11_glass 120 = .ok (.aload_n 0, 1) := by decide +kernel
theorem dX11_glass_121 : decode cX11_glass 121 = .ok (.aload 4, 2) := by decide +kernel
theorem dX11_glass_123 : decode cX11_glass 123 = .ok (.iload_n 2, 1) := by decide +kernel
theorem dX11_glass_124 : decode cX11_glass 124 = .ok (.invokevirtual 369, 3) := by decide +kernel
theorem dX11_glass_127 : decode cX11_glass 127 = .ok (.invokevirtual 187, 3) := by decide +kernel
theorem dX11_glass_130 : decode cX11_glass 130 = .ok (.ireturn, 1) := by decide +kernel
theorem dX11_order_0 : decode cX11_order 0 = .ok (.iload_n 1, 1) := by decide +kernel
theorem dX11_order_1 : decode cX11_order 1 = .ok (.i2l, 1) := by decide +kernel
theorem dX11_order_2 : decode cX11_order 2 = .ok (.lconst 0, 1) := by decide +kernel
theorem dX11_order_3 : decode cX11_order 3 = .ok (.iconst 1, 1) := by decide +kernel
theorem dX11_order_4 : decode cX11_order 4 = .ok (.aload_n 0, 1) := by decide +kernel
theorem dX11_order_5 : decode cX11_order 5 = .ok (.getfield 58, 3) := by decide +kernel
theorem dX11_order_8 : decode cX11_order 8 = .ok (.getfield 210, 3) := by decide +kernel
theorem dX11_order_11 : decode cX11_order 11 = .ok (.ishl, 1) := by decide +kernel
theorem dX11_order_12 : decode cX11_order 12 = .ok (.iconst 1, 1) := by decide +kernel
theorem dX11_order_13 : decode cX11_order 13 = .ok (.isub, 1) := by decide +kernel
theorem dX11_order_14 : decode cX11_order 14 = .ok (.i2l, 1) := by decide +kernel
theorem dX11_order_15 : decode cX11_order 15 = .ok (.invokestatic 127, 3) := by decide +kernel
theorem dX11_order_18 : decode cX11_order 18 = .ok (.ifCond .ne 19, 3) := by decide +kernel
theorem dX11_order_21 : decode cX11_order 21 = .ok (.aload_n 0, 1) := by decide +kernel
theorem dX11_order_22 : decode cX11_order 22 = .ok (.iload_n 2, 1) := by decide +kernel
theorem dX11_order_23 : decode cX11_order 23 = .ok (.invokevirtual 253, 3) := by decide +kernel
theorem dX11_order_26 : decode cX11_order 26 = .ok (.ifCond .eq 11, 3) := by decide +kernel
theorem dX11_order_29 : decode cX11_order 29 = .ok (.iload_n 1, 1) := by decide +kernel
theorem dX11_order_30 : decode cX11_order 30 = .ok (.iload_n 2, 1) := by decide +kernel
theorem dX11_order_31 : decode cX11_order 31 = .ok (.ishr, 1) := by decide +kernel
theorem dX11_order_32 : decode cX11_order 32 = .ok (.iconst 1, 1) := by decide +kernel
theorem dX11_order_33 : decode cX11_order 33 = .ok (.iand, 1) := by decide +kernel
theorem dX11_order_34 : decode cX11_order 34 = .ok (.ifCond .ne 9, 3) := by decide +kernel
theorem dX11_order_37 : decode cX11_order 37 = .ok (.aload_n 0, 1) := by decide +kernel
theorem dX11_order_38 : decode cX11_order 38 = .ok (.iconst 1, 1) := by decide +kernel
theorem dX11_order_39 : decode cX11_order 39 = .ok (.invokevirtual 151, 3) := by decide +kernel
theorem dX11_order_42 : decode cX11_order 42 = .ok (.ireturn, 1) := by decide +kernel
theorem dX11_order_43 : decode cX11_order 43 = .ok (.aload_n 0, 1) := by decide +kernel
theorem dX11_order_44 : decode cX11_order 44 = .ok (.aload_n 0, 1) := by decide +kernel
theorem dX11_order_45 : decode cX11_order 45 = .ok (.getfield 104, 3) := by decide +kernel
theorem dX11_order_48 : decode cX11_order 48 = .ok (.aload_n 0, 1) := by decide +kernel
theorem dX11_order_49 : decode cX11_order 49 = .ok (.getfield 58, 3) := by decide +kernel
theorem dX11_order_52 : decode cX11_order 52 = .ok (.iload_n 1, 1) := by decide +kernel
theorem dX11_order_53 : decode cX11_order 53 = .ok (.iload_n 2, 1) := by decide +kernel
theorem dX11_order_54 : decode cX11_order 54 = .ok (.invokevirtual 373, 3) := by decide +kernel
theorem dX11_order_57 : decode cX11_order 57 = .ok (.invokevirtual 187, 3) := by decide +kernel
theorem dX11_order_60 : decode cX11_order 60 = .ok (.ireturn, 1) := by decide +kernel
theorem dX11_ordered_0 : decode cX11_ordered 0 = .ok (.iload_n 1, 1) := by decide +kernel
theorem dX11_ordered_1 : decode cX11_ordered 1 = .ok (.ifCond .ge 9, 3) := by decide +kernel
theorem dX11_ordered_4 : decode cX11_ordered 4 = .ok (.aload_n 0, 1) := by decide +kernel
theorem dX11_ordered_5 : decode cX11_ordered 5 = .ok (.iconst 1, 1) := by decide +kernel
theorem dX11_ordered_6 : decode cX11_ordered 6 = .ok (.invokevirtual 151, 3) := by decide +kernel
theorem dX11_ordered_9 : decode cX11_ordered 9 = .ok (.ireturn, 1) := by decide +kernel
theorem dX11_ordered_10 : decode cX11_ordered 10 = .ok (.iload_n 1, 1) := by decide +kernel
theorem dX11_ordered_11 : decode cX11_ordered 11 = .ok (.aload_n 0, 1) := by decide +kernel
theorem dX11_ordered_12 : decode cX11_ordered 12 = .ok (.getfield 104, 3) := by decide +kernel
theorem dX11_ordered_15 : decode cX11_ordered 15 = .ok (.getfield 377, 3) := by decide +kernel
theorem dX11_ordered_18 : decode cX11_ordered 18 = .ok (.if_icmp .ge 19, 3) := by decide +kernel
theorem dX11_ordered_21 : decode cX11_ordered 21 = .ok (.aload_n 0, 1) := by decide +kernel
theorem dX11_ordered_22 : decode cX11_ordered 22 = .ok (.aload_n 0, 1) := by decide +kernel
theorem dX11_ordered_23 : decode cX11_ordered 23 = .ok (.getfield 104, 3) := by decide +kernel
theorem dX11_ordered_26 : decode cX11_ordered 26 = .ok (.getfield 380, 3) := by decide +kernel
theorem dX11_ordered_29 : decode cX11_ordered 29 = .ok (.iload_n 1, 1) := by decide +kernel
theorem dX11_ordered_30 : decode cX11_ordered 30 = .ok (.iaload, 1) := by decide +kernel
theorem dX11_ordered_31 : decode cX11_ordered 31 = .ok (.invokevirtual 187, 3) := by decide +kernel
theorem dX11_ordered_34 : decode cX11_ordered 34 = .ok (.goto 9, 3) := by decide +kernel
theorem dX11_ordered_37 : decode cX11_ordered 37 = .ok (.aload_n 0, 1) := by decide +kernel
theorem dX11_ordered_38 : decode cX11_ordered 38 = .ok (.bipush 6, 2) := by decide +kernel
theorem dX11_ordered_40 : decode cX11_ordered 40 = .ok (.invokevirtual 151, 3) := by decide +kernel
theorem dX11_ordered_43 : decode cX11_ordered 43 = .ok (.ireturn, 1) := by decide +kernel
theorem dX11_closes_0 : decode cX11_closes 0 = .ok (.iload_n 1, 1) := by decide +kernel
theorem dX11_closes_1 : decode cX11_closes 1 = .ok (.invokestatic 121, 3) := by decide +kernel
theorem dX11_closes_4 : decode cX11_closes 4 = .ok (.ifCond .ne 9, 3) := by decide +kernel
theorem dX11_closes_7 : decode cX11_closes 7 = .ok (.aload_n 0, 1) := by decide +kernel
theorem dX11_closes_8 : decode cX11_closes 8 = .ok (.iconst 1, 1) := by decide +kernel
theorem dX11_closes_9 : decode cX11_closes 9 = .ok (.invokevirtual 151, 3) := by decide +kernel
theorem dX11_closes_12 : decode cX11_closes 12 = .ok (.ireturn, 1) := by decide +kernel
theorem dX11_closes_13 : decode cX11_closes 13 = .ok (.aload_n 0, 1) := by decide +kernel
theorem dX11_closes_14 : decode cX11_closes 14 = .ok (.getfield 58, 3) := by decide +kernel
theorem dX11_closes_17 : decode cX11_closes 17 = .ok (.getfield 178, 3) := by decide +kernel
theorem dX11_closes_20 : decode cX11_closes 20 = .ok (.invokevirtual 244, 3) := by decide +kernel
theorem dX11_closes_23 : decode cX11_closes 23 = .ok (.istore_n 2, 1) := by decide +kernel
theorem dX11_closes_24 : decode cX11_closes 24 = .ok (.aload_n 0, 1) := by decide +kernel
theorem dX11_closes_25 : decode cX11_closes 25 = .ok (.iload_n 1, 1) := by decide +kernel
theorem dX11_closes_26 : decode cX11_closes 26 = .ok (.iconst 4, 1) := by decide +kernel
theorem dX11_closes_27 : decode cX11_closes 27 = .ok (.iload_n 2, 1) := by decide +kernel
theorem dX11_closes_28 : decode cX11_closes 28 = .ok (.imul, 1) := by decide +kernel
theorem dX11_closes_29 : decode cX11_closes 29 = .ok (.invokevirtual 334, 3) := by decide +kernel
theorem dX11_closes_32 : decode cX11_closes 32 = .ok (.istore_n 3, 1) := by decide +kernel
theorem dX11_closes_33 : decode cX11_closes 33 = .ok (.iload_n 3, 1) := by decide +kernel
theorem dX11_closes_34 : decode cX11_closes 34 = .ok (.ifCond .eq 9, 3) := by decide +kernel
theorem dX11_closes_37 : decode cX11_closes 37 = .ok (.aload_n 0, 1) := by decide +kernel
theorem dX11_closes_38 : decode cX11_closes 38 = .ok (.iload_n 3, 1) := by decide +kernel
theorem dX11_closes_39 : decode cX11_closes 39 = .ok (.invokevirtual 151, 3) := by decide +kernel
theorem dX11_closes_42 : decode cX11_closes 42 = .ok (.ireturn, 1) := by decide +kernel
theorem dX11_closes_43 : decode cX11_closes 43 = .ok (.aload_n 0, 1) := by decide +kernel
theorem dX11_closes_44 : decode cX11_closes 44 = .ok (.getfield 22, 3) := by decide +kernel
theorem dX11_closes_47 : decode cX11_closes 47 = .ok (.iload_n 1, 1) := by decide +kernel
theorem dX11_closes_48 : decode cX11_closes 48 = .ok (.aaload, 1) := by decide +kernel
theorem dX11_closes_49 : decode cX11_closes 49 = .ok (.astore 4, 2) := by decide +kernel
theorem dX11_closes_51 : decode cX11_closes 51 = .ok (.aload 4, 2) := by decide +kernel
theorem dX11_closes_53 : decode cX11_closes 53 = .ok (.iconst 4, 1) := by decide +kernel
theorem dX11_closes_54 : decode cX11_closes 54 = .ok (.iload_n 2, 1) := by decide +kernel
theorem dX11_closes_55 : decode cX11_closes 55 = .ok (.imul, 1) := by decide +kernel
theorem dX11_closes_56 : decode cX11_closes 56 = .ok (.lconst 0, 1) := by decide +kernel
theorem dX11_closes_57 : decode cX11_closes 57 = .ok (.ldc2_w 383, 3) := by decide +kernel
theorem dX11_closes_60 : decode cX11_closes 60 = .ok (.invokestatic 361, 3) := by decide +kernel
theorem dX11_closes_63 : decode cX11_closes 63 = .ok (.ifCond .ne 9, 3) := by decide +kernel
theorem dX11_closes_66 : decode cX11_closes 66 = .ok (.aload_n 0, 1) := by decide +kernel
theorem dX11_closes_67 : decode cX11_closes 67 = .ok (.iconst 5, 1) := by decide +kernel
theorem dX11_closes_68 : decode cX11_closes 68 = .ok (.invokevirtual 151, 3) := by decide +kernel
theorem dX11_closes_71 : decode cX11_closes 71 = .ok (.ireturn, 1) := by decide +kernel
theorem dX11_closes_72 : decode cX11_closes 72 = .ok (.iconst 0, 1) := by decide +kernel
theorem dX11_closes_73 : decode cX11_closes 73 = .ok (.istore 5, 2) := by decide +kernel
theorem dX11_closes_75 : decode cX11_closes 75 = .ok (.iload 5, 2) := by decide +kernel
theorem dX11_closes_77 : decode cX11_closes 77 = .ok (.iload_n 2, 1) := by decide +kernel
theorem dX11_closes_78 : decode cX11_closes 78 = .ok (.if_icmp .ge 56, 3) := by decide +kernel
theorem dX11_closes_81 : decode cX11_closes 81 = .ok (.aload 4, 2) := by decide +kernel
theorem dX11_closes_83 : decode cX11_closes 83 = .ok (.iconst 4, 1) := by decide +kernel
theorem dX11_closes_84 : decode cX11_closes 84 = .ok (.iload 5, 2) := by decide +kernel
theorem dX11_closes_86 : decode cX11_closes 86 = .ok (.imul, 1) := by decide +kernel
theorem dX11_closes_87 : decode cX11_closes 87 = .ok (.laload, 1) := by decide +kernel
theorem dX11_closes_88 : decode cX11_closes 88 = .ok (.aload 4, 2) := by decide +kernel
theorem dX11_closes_90 : decode cX11_closes 90 = .ok (.iconst 4, 1) := by decide +kernel
theorem dX11_closes_91 : decode cX11_closes 91 = .ok (.iload 5, 2) := by decide +kernel
theorem dX11_closes_93 : decode cX11_closes 93 = .ok (.imul, 1) := by decide +kernel
theorem dX11_closes_94 : decode cX11_closes 94 = .ok (.iconst 1, 1) := by decide +kernel
theorem dX11_closes_95 : decode cX11_closes 95 = .ok (.iadd, 1) := by decide +kernel
theorem dX11_closes_96 : decode cX11_closes 96 = .ok (.laload, 1) := by decide +kernel
theorem dX11_closes_97 : decode cX11_closes 97 = .ok (.aload 4, 2) := by decide +kernel
theorem dX11_closes_99 : decode cX11_closes 99 = .ok (.iconst 4, 1) := by decide +kernel
theorem dX11_closes_100 : decode cX11_closes 100 = .ok (.iload 5, 2) := by decide +kernel
theorem dX11_closes_102 : decode cX11_closes 102 = .ok (.imul, 1) := by decide +kernel
theorem dX11_closes_103 : decode cX11_closes 103 = .ok (.iconst 2, 1) := by decide +kernel
theorem dX11_closes_104 : decode cX11_closes 104 = .ok (.iadd, 1) := by decide +kernel
theorem dX11_closes_105 : decode cX11_closes 105 = .ok (.laload, 1) := by decide +kernel
theorem dX11_closes_106 : decode cX11_closes 106 = .ok (.ladd, 1) := by decide +kernel
theorem dX11_closes_107 : decode cX11_closes 107 = .ok (.aload 4, 2) := by decide +kernel
theorem dX11_closes_109 : decode cX11_closes 109 = .ok (.iconst 4, 1) := by decide +kernel
theorem dX11_closes_110 : decode cX11_closes 110 = .ok (.iload 5, 2) := by decide +kernel
theorem dX11_closes_112 : decode cX11_closes 112 = .ok (.imul, 1) := by decide +kernel
theorem dX11_closes_113 : decode cX11_closes 113 = .ok (.iconst 3, 1) := by decide +kernel
theorem dX11_closes_114 : decode cX11_closes 114 = .ok (.iadd, 1) := by decide +kernel
theorem dX11_closes_115 : decode cX11_closes 115 = .ok (.laload, 1) := by decide +kernel
theorem dX11_closes_116 : decode cX11_closes 116 = .ok (.ladd, 1) := by decide +kernel
theorem dX11_closes_117 : decode cX11_closes 117 = .ok (.lcmp, 1) := by decide +kernel
theorem dX11_closes_118 : decode cX11_closes 118 = .ok (.ifCond .eq 10, 3) := by decide +kernel
theorem dX11_closes_121 : decode cX11_closes 121 = .ok (.aload_n 0, 1) := by decide +kernel
theorem dX11_closes_122 : decode cX11_closes 122 = .ok (.iload 5, 2) := by decide +kernel
theorem dX11_closes_124 : decode cX11_closes 124 = .ok (.invokevirtual 187, 3) := by decide +kernel
theorem dX11_closes_127 : decode cX11_closes 127 = .ok (.ireturn, 1) := by decide +kernel
theorem dX11_closes_128 : decode cX11_closes 128 = .ok (.iinc 5 1, 3) := by decide +kernel
theorem dX11_closes_131 : decode cX11_closes 131 = .ok (.goto (-56), 3) := by decide +kernel
theorem dX11_closes_134 : decode cX11_closes 134 = .ok (.aload_n 0, 1) := by decide +kernel
theorem dX11_closes_135 : decode cX11_closes 135 = .ok (.iconst (-1), 1) := by decide +kernel
theorem dX11_closes_136 : decode cX11_closes 136 = .ok (.invokevirtual 187, 3) := by decide +kernel
theorem dX11_closes_139 : decode cX11_closes 139 = .ok (.ireturn, 1) := by decide +kernel
theorem dX11_recall_0 : decode cX11_recall 0 = .ok (.iload_n 1, 1) := by decide +kernel
theorem dX11_recall_1 : decode cX11_recall 1 = .ok (.i2l, 1) := by decide +kernel
theorem dX11_recall_2 : decode cX11_recall 2 = .ok (.lconst 1, 1) := by decide +kernel
theorem dX11_recall_3 : decode cX11_recall 3 = .ok (.ldc2_w 279, 3) := by decide +kernel
theorem dX11_recall_6 : decode cX11_recall 6 = .ok (.invokestatic 127, 3) := by decide +kernel
theorem dX11_recall_9 : decode cX11_recall 9 = .ok (.ifCond .ne 46, 3) := by decide +kernel
theorem dX11_recall_12 : decode cX11_recall 12 = .ok (.iload 6, 2) := by decide +kernel
theorem dX11_recall_14 : decode cX11_recall 14 = .ok (.i2l, 1) := by decide +kernel
theorem dX11_recall_15 : decode cX11_recall 15 = .ok (.lconst 0, 1) := by decide +kernel
theorem dX11_recall_16 : decode cX11_recall 16 = .ok (.ldc2_w 125, 3) := by decide +kernel
theorem dX11_recall_19 : decode cX11_recall 19 = .ok (.invokestatic 127, 3) := by decide +kernel
theorem dX11_recall_22 : decode cX11_recall 22 = .ok (.ifCond .ne 33, 3) := by decide +kernel
theorem dX11_recall_25 : decode cX11_recall 25 = .ok (.iload 4, 2) := by decide +kernel
theorem dX11_recall_27 : decode cX11_recall 27 = .ok (.ifCond .lt 28, 3) := by decide +kernel
theorem dX11_recall_30 : decode cX11_recall 30 = .ok (.iload_n 2, 1) := by decide +kernel
theorem dX11_recall_31 : decode cX11_recall 31 = .ok (.iload 4, 2) := by decide +kernel
theorem dX11_recall_33 : decode cX11_recall 33 = .ok (.if_icmp .lt 22, 3) := by decide +kernel
theorem dX11_recall_36 : decode cX11_recall 36 = .ok (.iload_n 3, 1) := by decide +kernel
theorem dX11_recall_37 : decode cX11_recall 37 = .ok (.iload_n 2, 1) := by decide +kernel
theorem dX11_recall_38 : decode cX11_recall 38 = .ok (.if_icmp .lt 17, 3) := by decide +kernel
theorem dX11_recall_41 : decode cX11_recall 41 = .ok (.iload 5, 2) := by decide +kernel
theorem dX11_recall_43 : decode cX11_recall 43 = .ok (.iload_n 3, 1) := by decide +kernel
theorem dX11_recall_44 : decode cX11_recall 44 = .ok (.if_icmp .lt 11, 3) := by decide +kernel
theorem dX11_recall_47 : decode cX11_recall 47 = .ok (.iload 5, 2) := by decide +kernel
theorem dX11_recall_49 : decode cX11_recall 49 = .ok (.sipush 9999, 3) := by decide +kernel
theorem dX11_recall_52 : decode cX11_recall 52 = .ok (.if_icmp .le 9, 3) := by decide +kernel
theorem dX11_recall_55 : decode cX11_recall 55 = .ok (.aload_n 0, 1) := by decide +kernel
theorem dX11_recall_56 : decode cX11_recall 56 = .ok (.iconst 1, 1) := by decide +kernel
theorem dX11_recall_57 : decode cX11_recall 57 = .ok (.invokevirtual 151, 3) := by decide +kernel
theorem dX11_recall_60 : decode cX11_recall 60 = .ok (.ireturn, 1) := by decide +kernel
theorem dX11_recall_61 : decode cX11_recall 61 = .ok (.iload_n 2, 1) := by decide +kernel
theorem dX11_recall_62 : decode cX11_recall 62 = .ok (.iload_n 1, 1) := by decide +kernel
theorem dX11_recall_63 : decode cX11_recall 63 = .ok (.idiv, 1) := by decide +kernel
theorem dX11_recall_64 : decode cX11_recall 64 = .ok (.istore 7, 2) := by decide +kernel
theorem dX11_recall_66 : decode cX11_recall 66 = .ok (.iload_n 3, 1) := by decide +kernel
theorem dX11_recall_67 : decode cX11_recall 67 = .ok (.iload_n 1, 1) := by decide +kernel
theorem dX11_recall_68 : decode cX11_recall 68 = .ok (.idiv, 1) := by decide +kernel
theorem dX11_recall_69 : decode cX11_recall 69 = .ok (.istore 8, 2) := by decide +kernel
theorem dX11_recall_71 : decode cX11_recall 71 = .ok (.iload 7, 2) := by decide +kernel
theorem dX11_recall_73 : decode cX11_recall 73 = .ok (.iload 4, 2) := by decide +kernel
theorem dX11_recall_75 : decode cX11_recall 75 = .ok (.iload_n 1, 1) := by decide +kernel
theorem dX11_recall_76 : decode cX11_recall 76 = .ok (.idiv, 1) := by decide +kernel
theorem dX11_recall_77 : decode cX11_recall 77 = .ok (.isub, 1) := by decide +kernel
theorem dX11_recall_78 : decode cX11_recall 78 = .ok (.istore 9, 2) := by decide +kernel
theorem dX11_recall_80 : decode cX11_recall 80 = .ok (.iload 5, 2) := by decide +kernel
theorem dX11_recall_82 : decode cX11_recall 82 = .ok (.iload_n 1, 1) := by decide +kernel
theorem dX11_recall_83 : decode cX11_recall 83 = .ok (.idiv, 1) := by decide +kernel
theorem dX11_recall_84 : decode cX11_recall 84 = .ok (.iload 8, 2) := by decide +kernel
theorem dX11_recall_86 : decode cX11_recall 86 = .ok (.isub, 1) := by decide +kernel
theorem dX11_recall_87 : decode cX11_recall 87 = .ok (.istore 10, 2) := by decide +kernel
theorem dX11_recall_89 : decode cX11_recall 89 = .ok (.iload 6, 2) := by decide +kernel
theorem dX11_recall_91 : decode cX11_recall 91 = .ok (.tableswitch 54 0 2 #[25, 37, 44], 25) := by decide +kernel
theorem dX11_recall_116 : decode cX11_recall 116 = .ok (.aload_n 0, 1) := by decide +kernel
theorem dX11_recall_117 : decode cX11_recall 117 = .ok (.iload 8, 2) := by decide +kernel
theorem dX11_recall_119 : decode cX11_recall 119 = .ok (.iload 7, 2) := by decide +kernel
theorem dX11_recall_121 : decode cX11_recall 121 = .ok (.isub, 1) := by decide +kernel
theorem dX11_recall_122 : decode cX11_recall 122 = .ok (.iconst 1, 1) := by decide +kernel
theorem dX11_recall_123 : decode cX11_recall 123 = .ok (.iadd, 1) := by decide +kernel
theorem dX11_recall_124 : decode cX11_recall 124 = .ok (.invokevirtual 187, 3) := by decide +kernel
theorem dX11_recall_127 : decode cX11_recall 127 = .ok (.ireturn, 1) := by decide +kernel
theorem dX11_recall_128 : decode cX11_recall 128 = .ok (.aload_n 0, 1) := by decide +kernel
theorem dX11_recall_129 : decode cX11_recall 129 = .ok (.iload 7, 2) := by decide +kernel
theorem dX11_recall_131 : decode cX11_recall 131 = .ok (.invokevirtual 187, 3) := by decide +kernel
theorem dX11_recall_134 : decode cX11_recall 134 = .ok (.ireturn, 1) := by decide +kernel
theorem dX11_recall_135 : decode cX11_recall 135 = .ok (.aload_n 0, 1) := by decide +kernel
theorem dX11_recall_136 : decode cX11_recall 136 = .ok (.iload 9, 2) := by decide +kernel
theorem dX11_recall_138 : decode cX11_recall 138 = .ok (.iload 10, 2) := by decide +kernel
theorem dX11_recall_140 : decode cX11_recall 140 = .ok (.iadd, 1) := by decide +kernel
theorem dX11_recall_141 : decode cX11_recall 141 = .ok (.invokevirtual 187, 3) := by decide +kernel
theorem dX11_recall_144 : decode cX11_recall 144 = .ok (.ireturn, 1) := by decide +kernel
theorem dX11_recall_145 : decode cX11_recall 145 = .ok (.iload 9, 2) := by decide +kernel
theorem dX11_recall_147 : decode cX11_recall 147 = .ok (.iload 10, 2) := by decide +kernel
theorem dX11_recall_149 : decode cX11_recall 149 = .ok (.iadd, 1) := by decide +kernel
theorem dX11_recall_150 : decode cX11_recall 150 = .ok (.ifCond .ne 10, 3) := by decide +kernel
theorem dX11_recall_153 : decode cX11_recall 153 = .ok (.aload_n 0, 1) := by decide +kernel
theorem dX11_recall_154 : decode cX11_recall 154 = .ok (.bipush 6, 2) := by decide +kernel
theorem dX11_recall_156 : decode cX11_recall 156 = .ok (.invokevirtual 151, 3) := by decide +kernel
theorem dX11_recall_159 : decode cX11_recall 159 = .ok (.ireturn, 1) := by decide +kernel
theorem dX11_recall_160 : decode cX11_recall 160 = .ok (.aload_n 0, 1) := by decide +kernel
theorem dX11_recall_161 : decode cX11_recall 161 = .ok (.iload 9, 2) := by decide +kernel
theorem dX11_recall_163 : decode cX11_recall 163 = .ok (.ifCond .le 10, 3) := by decide +kernel
theorem dX11_recall_166 : decode cX11_recall 166 = .ok (.iload 4, 2) := by decide +kernel
theorem dX11_recall_168 : decode cX11_recall 168 = .ok (.iload_n 1, 1) := by decide +kernel
theorem dX11_recall_169 : decode cX11_recall 169 = .ok (.idiv, 1) := by decide +kernel
theorem dX11_recall_170 : decode cX11_recall 170 = .ok (.goto 7, 3) := by decide +kernel
theorem dX11_recall_173 : decode cX11_recall 173 = .ok (.iload 8, 2) := by decide +kernel
theorem dX11_recall_175 : decode cX11_recall 175 = .ok (.iconst 1, 1) := by decide +kernel
theorem dX11_recall_176 : decode cX11_recall 176 = .ok (.iadd, 1) := by decide +kernel
theorem dX11_recall_177 : decode cX11_recall 177 = .ok (.invokevirtual 187, 3) := by decide +kernel
theorem dX11_recall_180 : decode cX11_recall 180 = .ok (.ireturn, 1) := by decide +kernel
theorem dX11_shifts_0 : decode cX11_shifts 0 = .ok (.iload_n 1, 1) := by decide +kernel
theorem dX11_shifts_1 : decode cX11_shifts 1 = .ok (.invokestatic 121, 3) := by decide +kernel
theorem dX11_shifts_4 : decode cX11_shifts 4 = .ok (.ifCond .eq 27, 3) := by decide +kernel
theorem dX11_shifts_7 : decode cX11_shifts 7 = .ok (.iload_n 2, 1) := by decide +kernel
theorem dX11_shifts_8 : decode cX11_shifts 8 = .ok (.i2l, 1) := by decide +kernel
theorem dX11_shifts_9 : decode cX11_shifts 9 = .ok (.lconst 1, 1) := by decide +kernel
theorem dX11_shifts_10 : decode cX11_shifts 10 = .ok (.ldc2_w 298, 3) := by decide +kernel
theorem dX11_shifts_13 : decode cX11_shifts 13 = .ok (.invokestatic 127, 3) := by decide +kernel
theorem dX11_shifts_16 : decode cX11_shifts 16 = .ok (.ifCond .ne 15, 3) := by decide +kernel
theorem dX11_shifts_19 : decode cX11_shifts 19 = .ok (.iload_n 3, 1) := by decide +kernel
theorem dX11_shifts_20 : decode cX11_shifts 20 = .ok (.i2l, 1) := by decide +kernel
theorem dX11_shifts_21 : decode cX11_shifts 21 = .ok (.lconst 1, 1) := by decide +kernel
theorem dX11_shifts_22 : decode cX11_shifts 22 = .ok (.ldc2_w 385, 3) := by decide +kernel
theorem dX11_shifts_25 : decode cX11_shifts 25 = .ok (.invokestatic 127, 3) := by decide +kernel
theorem dX11_shifts_28 : decode cX11_shifts 28 = .ok (.ifCond .eq 9, 3) := by decide +kernel
theorem dX11_shifts_31 : decode cX11_shifts 31 = .ok (.aload_n 0, 1) := by decide +kernel
theorem dX11_shifts_32 : decode cX11_shifts 32 = .ok (.iconst 1, 1) := by decide +kernel
theorem dX11_shifts_33 : decode cX11_shifts 33 = .ok (.invokevirtual 151, 3) := by decide +kernel
theorem dX11_shifts_36 : decode cX11_shifts 36 = .ok (.ireturn, 1) := by decide +kernel
theorem dX11_shifts_37 : decode cX11_shifts 37 = .ok (.aload_n 0, 1) := by decide +kernel
theorem dX11_shifts_38 : decode cX11_shifts 38 = .ok (.iload_n 1, 1) := by decide +kernel
theorem dX11_shifts_39 : decode cX11_shifts 39 = .ok (.iload_n 2, 1) := by decide +kernel
theorem dX11_shifts_40 : decode cX11_shifts 40 = .ok (.invokevirtual 334, 3) := by decide +kernel
theorem dX11_shifts_43 : decode cX11_shifts 43 = .ok (.istore 4, 2) := by decide +kernel
theorem dX11_shifts_45 : decode cX11_shifts 45 = .ok (.iload 4, 2) := by decide +kernel
theorem dX11_shifts_47 : decode cX11_shifts 47 = .ok (.ifCond .eq 10, 3) := by decide +kernel
theorem dX11_shifts_50 : decode cX11_shifts 50 = .ok (.aload_n 0, 1) := by decide +kernel
theorem dX11_shifts_51 : decode cX11_shifts 51 = .ok (.iload 4, 2) := by decide +kernel
theorem dX11_shifts_53 : decode cX11_shifts 53 = .ok (.invokevirtual 151, 3) := by decide +kernel
theorem dX11_shifts_56 : decode cX11_shifts 56 = .ok (.ireturn, 1) := by decide +kernel
theorem dX11_shifts_57 : decode cX11_shifts 57 = .ok (.aload_n 0, 1) := by decide +kernel
theorem dX11_shifts_58 : decode cX11_shifts 58 = .ok (.getfield 22, 3) := by decide +kernel
theorem dX11_shifts_61 : decode cX11_shifts 61 = .ok (.iload_n 1, 1) := by decide +kernel
theorem dX11_shifts_62 : decode cX11_shifts 62 = .ok (.aaload, 1) := by decide +kernel
theorem dX11_shifts_63 : decode cX11_shifts 63 = .ok (.iload_n 2, 1) := by decide +kernel
theorem dX11_shifts_64 : decode cX11_shifts 64 = .ok (.lconst 1, 1) := by decide +kernel
theorem dX11_shifts_65 : decode cX11_shifts 65 = .ok (.iload_n 3, 1) := by decide +kernel
theorem dX11_shifts_66 : decode cX11_shifts 66 = .ok (.i2l, 1) := by decide +kernel
theorem dX11_shifts_67 : decode cX11_shifts 67 = .ok (.invokestatic 361, 3) := by decide +kernel
theorem dX11_shifts_70 : decode cX11_shifts 70 = .ok (.ifCond .ne 9, 3) := by decide +kernel
theorem dX11_shifts_73 : decode cX11_shifts 73 = .ok (.aload_n 0, 1) := by decide +kernel
theorem dX11_shifts_74 : decode cX11_shifts 74 = .ok (.iconst 5, 1) := by decide +kernel
theorem dX11_shifts_75 : decode cX11_shifts 75 = .ok (.invokevirtual 151, 3) := by decide +kernel
theorem dX11_shifts_78 : decode cX11_shifts 78 = .ok (.ireturn, 1) := by decide +kernel
theorem dX11_shifts_79 : decode cX11_shifts 79 = .ok (.aload_n 0, 1) := by decide +kernel
theorem dX11_shifts_80 : decode cX11_shifts 80 = .ok (.aload_n 0, 1) := by decide +kernel
theorem dX11_shifts_81 : decode cX11_shifts 81 = .ok (.getfield 111, 3) := by decide +kernel
theorem dX11_shifts_84 : decode cX11_shifts 84 = .ok (.aload_n 0, 1) := by decide +kernel
theorem dX11_shifts_85 : decode cX11_shifts 85 = .ok (.getfield 22, 3) := by decide +kernel
theorem dX11_shifts_88 : decode cX11_shifts 88 = .ok (.iload_n 1, 1) := by decide +kernel
theorem dX11_shifts_89 : decode cX11_shifts 89 = .ok (.aaload, 1) := by decide +kernel
theorem dX11_shifts_90 : decode cX11_shifts 90 = .ok (.iload_n 2, 1) := by decide +kernel
theorem dX11_shifts_91 : decode cX11_shifts 91 = .ok (.iload_n 3, 1) := by decide +kernel
theorem dX11_shifts_92 : decode cX11_shifts 92 = .ok (.invokevirtual 387, 3) := by decide +kernel
theorem dX11_shifts_95 : decode cX11_shifts 95 = .ok (.invokevirtual 187, 3) := by decide +kernel
theorem dX11_shifts_98 : decode cX11_shifts 98 = .ok (.ireturn, 1) := by decide +kernel
theorem dX11_shiftOf_0 : decode cX11_shiftOf 0 = .ok (.iload_n 1, 1) := by decide +kernel
theorem dX11_shiftOf_1 : decode cX11_shiftOf 1 = .ok (.ifCond .ge 9, 3) := by decide +kernel
theorem dX11_shiftOf_4 : decode cX11_shiftOf 4 = .ok (.aload_n 0, 1) := by decide +kernel
theorem dX11_shiftOf_5 : decode cX11_shiftOf 5 = .ok (.iconst 1, 1) := by decide +kernel
theorem dX11_shiftOf_6 : decode cX11_shiftOf 6 = .ok (.invokevirtual 151, 3) := by decide +kernel
theorem dX11_shiftOf_9 : decode cX11_shiftOf 9 = .ok (.ireturn, 1) := by decide +kernel
theorem dX11_shiftOf_10 : decode cX11_shiftOf 10 = .ok (.iload_n 1, 1) := by decide +kernel
theorem dX11_shiftOf_11 : decode cX11_shiftOf 11 = .ok (.aload_n 0, 1) := by decide +kernel
theorem dX11_shiftOf_12 : decode cX11_shiftOf 12 = .ok (.getfield 111, 3) := by decide +kernel
theorem dX11_shiftOf_15 : decode cX11_shiftOf 15 = .ok (.getfield 391, 3) := by decide +kernel
theorem dX11_shiftOf_18 : decode cX11_shiftOf 18 = .ok (.if_icmp .ge 19, 3) := by decide +kernel
theorem dX11_shiftOf_21 : decode cX11_shiftOf 21 = .ok (.aload_n 0, 1) := by decide +kernel
theorem dX11_shiftOf_22 : decode cX11_shiftOf 22 = .ok (.aload_n 0, 1) := by decide +kernel
theorem dX11_shiftOf_23 : decode cX11_shiftOf 23 = .ok (.getfield 111, 3) := by decide +kernel
theorem dX11_shiftOf_26 : decode cX11_shiftOf 26 = .ok (.getfield 394, 3) := by decide +kernel
theorem dX11_shiftOf_29 : decode cX11_shiftOf 29 = .ok (.iload_n 1, 1) := by decide +kernel
theorem dX11_shiftOf_30 : decode cX11_shiftOf 30 = .ok (.iaload, 1) := by decide +kernel
theorem dX11_shiftOf_31 : decode cX11_shiftOf 31 = .ok (.invokevirtual 187, 3) := by decide +kernel
theorem dX11_shiftOf_34 : decode cX11_shiftOf 34 = .ok (.goto 9, 3) := by decide +kernel
theorem dX11_shiftOf_37 : decode cX11_shiftOf 37 = .ok (.aload_n 0, 1) := by decide +kernel
theorem dX11_shiftOf_38 : decode cX11_shiftOf 38 = .ok (.bipush 6, 2) := by decide +kernel
theorem dX11_shiftOf_40 : decode cX11_shiftOf 40 = .ok (.invokevirtual 151, 3) := by decide +kernel
theorem dX11_shiftOf_43 : decode cX11_shiftOf 43 = .ok (.ireturn, 1) := by decide +kernel
theorem dX11_lot_0 : decode cX11_lot 0 = .ok (.iload_n 1, 1) := by decide +kernel
theorem dX11_lot_1 : decode cX11_lot 1 = .ok (.invokestatic 121, 3) := by decide +kernel
theorem dX11_lot_4 : decode cX11_lot 4 = .ok (.ifCond .eq 27, 3) := by decide +kernel
theorem dX11_lot_7 : decode cX11_lot 7 = .ok (.iload_n 2, 1) := by decide +kernel
theorem dX11_lot_8 : decode cX11_lot 8 = .ok (.i2l, 1) := by decide +kernel
theorem dX11_lot_9 : decode cX11_lot 9 = .ok (.lconst 1, 1) := by decide +kernel
theorem dX11_lot_10 : decode cX11_lot 10 = .ok (.ldc2_w 397, 3) := by decide +kernel
theorem dX11_lot_13 : decode cX11_lot 13 = .ok (.invokestatic 127, 3) := by decide +kernel
theorem dX11_lot_16 : decode cX11_lot 16 = .ok (.ifCond .ne 15, 3) := by decide +kernel
theorem dX11_lot_19 : decode cX11_lot 19 = .ok (.iload_n 3, 1) := by decide +kernel
theorem dX11_lot_20 : decode cX11_lot 20 = .ok (.i2l, 1) := by decide +kernel
theorem dX11_lot_21 : decode cX11_lot 21 = .ok (.lconst 0, 1) := by decide +kernel
theorem dX11_lot_22 : decode cX11_lot 22 = .ok (.ldc2_w 259, 3) := by decide +kernel
theorem dX11_lot_25 : decode cX11_lot 25 = .ok (.invokestatic 127, 3) := by decide +kernel
theorem dX11_lot_28 : decode cX11_lot 28 = .ok (.ifCond .eq 9, 3) := by decide +kernel
theorem dX11_lot_31 : decode cX11_lot 31 = .ok (.aload_n 0, 1) := by decide +kernel
theorem dX11_lot_32 : decode cX11_lot 32 = .ok (.iconst 1, 1) := by decide +kernel
theorem dX11_lot_33 : decode cX11_lot 33 = .ok (.invokevirtual 151, 3) := by decide +kernel
theorem dX11_lot_36 : decode cX11_lot 36 = .ok (.ireturn, 1) := by decide +kernel
theorem dX11_lot_37 : decode cX11_lot 37 = .ok (.aload_n 0, 1) := by decide +kernel
theorem dX11_lot_38 : decode cX11_lot 38 = .ok (.iload_n 1, 1) := by decide +kernel
theorem dX11_lot_39 : decode cX11_lot 39 = .ok (.iload_n 2, 1) := by decide +kernel
theorem dX11_lot_40 : decode cX11_lot 40 = .ok (.invokevirtual 334, 3) := by decide +kernel
theorem dX11_lot_43 : decode cX11_lot 43 = .ok (.istore 4, 2) := by decide +kernel
theorem dX11_lot_45 : decode cX11_lot 45 = .ok (.iload 4, 2) := by decide +kernel
theorem dX11_lot_47 : decode cX11_lot 47 = .ok (.ifCond .eq 10, 3) := by decide +kernel
theorem dX11_lot_50 : decode cX11_lot 50 = .ok (.aload_n 0, 1) := by decide +kernel
theorem dX11_lot_51 : decode cX11_lot 51 = .ok (.iload 4, 2) := by decide +kernel
theorem dX11_lot_53 : decode cX11_lot 53 = .ok (.invokevirtual 151, 3) := by decide +kernel
theorem dX11_lot_56 : decode cX11_lot 56 = .ok (.ireturn, 1) := by decide +kernel
theorem dX11_lot_57 : decode cX11_lot 57 = .ok (.aload_n 0, 1) := by decide +kernel
theorem dX11_lot_58 : decode cX11_lot 58 = .ok (.getfield 22, 3) := by decide +kernel
theorem dX11_lot_61 : decode cX11_lot 61 = .ok (.iload_n 1, 1) := by decide +kernel
theorem dX11_lot_62 : decode cX11_lot 62 = .ok (.aaload, 1) := by decide +kernel
theorem dX11_lot_63 : decode cX11_lot 63 = .ok (.astore 5, 2) := by decide +kernel
theorem dX11_lot_65 : decode cX11_lot 65 = .ok (.aload 5, 2) := by decide +kernel
theorem dX11_lot_67 : decode cX11_lot 67 = .ok (.iload_n 2, 1) := by decide +kernel
theorem dX11_lot_68 : decode cX11_lot 68 = .ok (.sipush 9999, 3) := by decide +kernel
theorem dX11_lot_71 : decode cX11_lot 71 = .ok (.invokestatic 337, 3) := by decide +kernel
theorem dX11_lot_74 : decode cX11_lot 74 = .ok (.ifCond .ne 9, 3) := by decide +kernel
theorem dX11_lot_77 : decode cX11_lot 77 = .ok (.aload_n 0, 1) := by decide +kernel
theorem dX11_lot_78 : decode cX11_lot 78 = .ok (.iconst 5, 1) := by decide +kernel
theorem dX11_lot_79 : decode cX11_lot 79 = .ok (.invokevirtual 151, 3) := by decide +kernel
theorem dX11_lot_82 : decode cX11_lot 82 = .ok (.ireturn, 1) := by decide +kernel
theorem dX11_lot_83 : decode cX11_lot 83 = .ok (.iload_n 2, 1) := by decide +kernel
theorem dX11_lot_84 : decode cX11_lot 84 = .ok (.iconst 1, 1) := by decide +kernel
theorem dX11_lot_85 : decode cX11_lot 85 = .ok (.isub, 1) := by decide +kernel
theorem dX11_lot_86 : decode cX11_lot 86 = .ok (.istore 6, 2) := by decide +kernel
theorem dX11_lot_88 : decode cX11_lot 88 = .ok (.iload 6, 2) := by decide +kernel
theorem dX11_lot_90 : decode cX11_lot 90 = .ok (.ifCond .lt 20, 3) := by decide +kernel
theorem dX11_lot_93 : decode cX11_lot 93 = .ok (.aload 5, 2) := by decide +kernel
theorem dX11_lot_95 : decode cX11_lot 95 = .ok (.iload 6, 2) := by decide +kernel
theorem dX11_lot_97 : decode cX11_lot 97 = .ok (.laload, 1) := by decide +kernel
theorem dX11_lot_98 : decode cX11_lot 98 = .ok (.iload_n 3, 1) := by decide +kernel
theorem dX11_lot_99 : decode cX11_lot 99 = .ok (.i2l, 1) := by decide +kernel
theorem dX11_lot_100 : decode cX11_lot 100 = .ok (.lcmp, 1) := by decide +kernel
theorem dX11_lot_101 : decode cX11_lot 101 = .ok (.ifCond .le 9, 3) := by decide +kernel
theorem dX11_lot_104 : decode cX11_lot 104 = .ok (.iinc 6 (-1), 3) := by decide +kernel
theorem dX11_lot_107 : decode cX11_lot 107 = .ok (.goto (-19), 3) := by decide +kernel
theorem dX11_lot_110 : decode cX11_lot 110 = .ok (.iload 6, 2) := by decide +kernel
theorem dX11_lot_112 : decode cX11_lot 112 = .ok (.ifCond .ge 12, 3) := by decide +kernel
theorem dX11_lot_115 : decode cX11_lot 115 = .ok (.aload_n 0, 1) := by decide +kernel
theorem dX11_lot_116 : decode cX11_lot 116 = .ok (.bipush 6, 2) := by decide +kernel
theorem dX11_lot_118 : decode cX11_lot 118 = .ok (.invokevirtual 151, 3) := by decide +kernel
theorem dX11_lot_121 : decode cX11_lot 121 = .ok (.goto 9, 3) := by decide +kernel
theorem dX11_lot_124 : decode cX11_lot 124 = .ok (.aload_n 0, 1) := by decide +kernel
theorem dX11_lot_125 : decode cX11_lot 125 = .ok (.iload 6, 2) := by decide +kernel
theorem dX11_lot_127 : decode cX11_lot 127 = .ok (.invokevirtual 187, 3) := by decide +kernel
theorem dX11_lot_130 : decode cX11_lot 130 = .ok (.ireturn, 1) := by decide +kernel
theorem dX11_torn_0 : decode cX11_torn 0 = .ok (.iload_n 1, 1) := by decide +kernel
theorem dX11_torn_1 : decode cX11_torn 1 = .ok (.invokestatic 121, 3) := by decide +kernel
theorem dX11_torn_4 : decode cX11_torn 4 = .ok (.ifCond .eq 27, 3) := by decide +kernel
theorem dX11_torn_7 : decode cX11_torn 7 = .ok (.iload_n 2, 1) := by decide +kernel
theorem dX11_torn_8 : decode cX11_torn 8 = .ok (.i2l, 1) := by decide +kernel
theorem dX11_torn_9 : decode cX11_torn 9 = .ok (.lconst 1, 1) := by decide +kernel
theorem dX11_torn_10 : decode cX11_torn 10 = .ok (.ldc2_w 131, 3) := by decide +kernel
theorem dX11_torn_13 : decode cX11_torn 13 = .ok (.invokestatic 127, 3) := by decide +kernel
theorem dX11_torn_16 : decode cX11_torn 16 = .ok (.ifCond .ne 15, 3) := by decide +kernel
theorem dX11_torn_19 : decode cX11_torn 19 = .ok (.iload_n 3, 1) := by decide +kernel
theorem dX11_torn_20 : decode cX11_torn 20 = .ok (.i2l, 1) := by decide +kernel
theorem dX11_torn_21 : decode cX11_torn 21 = .ok (.lconst 0, 1) := by decide +kernel
theorem dX11_torn_22 : decode cX11_torn 22 = .ok (.ldc2_w 259, 3) := by decide +kernel
theorem dX11_torn_25 : decode cX11_torn 25 = .ok (.invokestatic 127, 3) := by decide +kernel
theorem dX11_torn_28 : decode cX11_torn 28 = .ok (.ifCond .eq 9, 3) := by decide +kernel
theorem dX11_torn_31 : decode cX11_torn 31 = .ok (.aload_n 0, 1) := by decide +kernel
theorem dX11_torn_32 : decode cX11_torn 32 = .ok (.iconst 1, 1) := by decide +kernel
theorem dX11_torn_33 : decode cX11_torn 33 = .ok (.invokevirtual 133, 3) := by decide +kernel
theorem dX11_torn_36 : decode cX11_torn 36 = .ok (.ireturn, 1) := by decide +kernel
theorem dX11_torn_37 : decode cX11_torn 37 = .ok (.aload_n 0, 1) := by decide +kernel
theorem dX11_torn_38 : decode cX11_torn 38 = .ok (.iload_n 1, 1) := by decide +kernel
theorem dX11_torn_39 : decode cX11_torn 39 = .ok (.iload_n 2, 1) := by decide +kernel
theorem dX11_torn_40 : decode cX11_torn 40 = .ok (.invokevirtual 334, 3) := by decide +kernel
theorem dX11_torn_43 : decode cX11_torn 43 = .ok (.istore 4, 2) := by decide +kernel
theorem dX11_torn_45 : decode cX11_torn 45 = .ok (.iload 4, 2) := by decide +kernel
theorem dX11_torn_47 : decode cX11_torn 47 = .ok (.ifCond .eq 10, 3) := by decide +kernel
theorem dX11_torn_50 : decode cX11_torn 50 = .ok (.aload_n 0, 1) := by decide +kernel
theorem dX11_torn_51 : decode cX11_torn 51 = .ok (.iload 4, 2) := by decide +kernel
theorem dX11_torn_53 : decode cX11_torn 53 = .ok (.invokevirtual 133, 3) := by decide +kernel
theorem dX11_torn_56 : decode cX11_torn 56 = .ok (.ireturn, 1) := by decide +kernel
theorem dX11_torn_57 : decode cX11_torn 57 = .ok (.aload_n 0, 1) := by decide +kernel
theorem dX11_torn_58 : decode cX11_torn 58 = .ok (.getfield 22, 3) := by decide +kernel
theorem dX11_torn_61 : decode cX11_torn 61 = .ok (.iload_n 1, 1) := by decide +kernel
theorem dX11_torn_62 : decode cX11_torn 62 = .ok (.aaload, 1) := by decide +kernel
theorem dX11_torn_63 : decode cX11_torn 63 = .ok (.astore 5, 2) := by decide +kernel
theorem dX11_torn_65 : decode cX11_torn 65 = .ok (.aload 5, 2) := by decide +kernel
theorem dX11_torn_67 : decode cX11_torn 67 = .ok (.iload_n 2, 1) := by decide +kernel
theorem dX11_torn_68 : decode cX11_torn 68 = .ok (.ldc2_w 399, 3) := by decide +kernel
theorem dX11_torn_71 : decode cX11_torn 71 = .ok (.ldc2_w 279, 3) := by decide +kernel
theorem dX11_torn_74 : decode cX11_torn 74 = .ok (.invokestatic 361, 3) := by decide +kernel
theorem dX11_torn_77 : decode cX11_torn 77 = .ok (.ifCond .ne 9, 3) := by decide +kernel
theorem dX11_torn_80 : decode cX11_torn 80 = .ok (.aload_n 0, 1) := by decide +kernel
theorem dX11_torn_81 : decode cX11_torn 81 = .ok (.iconst 5, 1) := by decide +kernel
theorem dX11_torn_82 : decode cX11_torn 82 = .ok (.invokevirtual 133, 3) := by decide +kernel
theorem dX11_torn_85 : decode cX11_torn 85 = .ok (.ireturn, 1) := by decide +kernel
theorem dX11_torn_86 : decode cX11_torn 86 = .ok (.iconst 0, 1) := by decide +kernel
theorem dX11_torn_87 : decode cX11_torn 87 = .ok (.istore 6, 2) := by decide +kernel
theorem dX11_torn_89 : decode cX11_torn 89 = .ok (.iload_n 3, 1) := by decide +kernel
theorem dX11_torn_90 : decode cX11_torn 90 = .ok (.i2l, 1) := by decide +kernel
theorem dX11_torn_91 : decode cX11_torn 91 = .ok (.lstore 7, 2) := by decide +kernel
theorem dX11_torn_93 : decode cX11_torn 93 = .ok (.iconst 0, 1) := by decide +kernel
theorem dX11_torn_94 : decode cX11_torn 94 = .ok (.istore 9, 2) := by decide +kernel
theorem dX11_torn_96 : decode cX11_torn 96 = .ok (.iload 9, 2) := by decide +kernel
theorem dX11_torn_98 : decode cX11_torn 98 = .ok (.iload_n 2, 1) := by decide +kernel
theorem dX11_torn_99 : decode cX11_torn 99 = .ok (.if_icmp .ge 35, 3) := by decide +kernel
theorem dX11_torn_102 : decode cX11_torn 102 = .ok (.aload 5, 2) := by decide +kernel
theorem dX11_torn_104 : decode cX11_torn 104 = .ok (.iload 9, 2) := by decide +kernel
theorem dX11_torn_106 : decode cX11_torn 106 = .ok (.laload, 1) := by decide +kernel
theorem dX11_torn_107 : decode cX11_torn 107 = .ok (.lconst 0, 1) := by decide +kernel
theorem dX11_torn_108 : decode cX11_torn 108 = .ok (.lcmp, 1) := by decide +kernel
theorem dX11_torn_109 : decode cX11_torn 109 = .ok (.ifCond .ge 9, 3) := by decide +kernel
theorem dX11_torn_112 : decode cX11_torn 112 = .ok (.iinc 6 1, 3) := by decide +kernel
theorem dX11_torn_115 : decode cX11_torn 115 = .ok (.goto 13, 3) := by decide +kernel
theorem dX11_torn_118 : decode cX11_torn 118 = .ok (.lload 7, 2) := by decide +kernel
theorem dX11_torn_120 : decode cX11_torn 120 = .ok (.aload 5, 2) := by decide +kernel
theorem dX11_torn_122 : decode cX11_torn 122 = .ok (.iload 9, 2) := by decide +kernel
theorem dX11_torn_124 : decode cX11_torn 124 = .ok (.laload, 1) := by decide +kernel
theorem dX11_torn_125 : decode cX11_torn 125 = .ok (.lsub, 1) := by decide +kernel
theorem dX11_torn_126 : decode cX11_torn 126 = .ok (.lstore 7, 2) := by decide +kernel
theorem dX11_torn_128 : decode cX11_torn 128 = .ok (.iinc 9 1, 3) := by decide +kernel
theorem dX11_torn_131 : decode cX11_torn 131 = .ok (.goto (-35), 3) := by decide +kernel
theorem dX11_torn_134 : decode cX11_torn 134 = .ok (.iload 6, 2) := by decide +kernel
theorem dX11_torn_136 : decode cX11_torn 136 = .ok (.ifCond .eq 23, 3) := by decide +kernel
theorem dX11_torn_139 : decode cX11_torn 139 = .ok (.lload 7, 2) := by decide +kernel
theorem dX11_torn_141 : decode cX11_torn 141 = .ok (.lconst 0, 1) := by decide +kernel
theorem dX11_torn_142 : decode cX11_torn 142 = .ok (.lcmp, 1) := by decide +kernel
theorem dX11_torn_143 : decode cX11_torn 143 = .ok (.ifCond .lt 16, 3) := by decide +kernel
theorem dX11_torn_146 : decode cX11_torn 146 = .ok (.lload 7, 2) := by decide +kernel
theorem dX11_torn_148 : decode cX11_torn 148 = .ok (.ldc2_w 279, 3) := by decide +kernel
theorem dX11_torn_151 : decode cX11_torn 151 = .ok (.iload 6, 2) := by decide +kernel
theorem dX11_torn_153 : decode cX11_torn 153 = .ok (.i2l, 1) := by decide +kernel
theorem dX11_torn_154 : decode cX11_torn 154 = .ok (.lmul, 1) := by decide +kernel
theorem dX11_torn_155 : decode cX11_torn 155 = .ok (.lcmp, 1) := by decide +kernel
theorem dX11_torn_156 : decode cX11_torn 156 = .ok (.ifCond .le 10, 3) := by decide +kernel
theorem dX11_torn_159 : decode cX11_torn 159 = .ok (.aload_n 0, 1) := by decide +kernel
theorem dX11_torn_160 : decode cX11_torn 160 = .ok (.bipush 6, 2) := by decide +kernel
theorem dX11_torn_162 : decode cX11_torn 162 = .ok (.invokevirtual 133, 3) := by decide +kernel
theorem dX11_torn_165 : decode cX11_torn 165 = .ok (.ireturn, 1) := by decide +kernel
theorem dX11_torn_166 : decode cX11_torn 166 = .ok (.aload_n 0, 1) := by decide +kernel
theorem dX11_torn_167 : decode cX11_torn 167 = .ok (.lload 7, 2) := by decide +kernel
theorem dX11_torn_169 : decode cX11_torn 169 = .ok (.iload 6, 2) := by decide +kernel
theorem dX11_torn_171 : decode cX11_torn 171 = .ok (.i2l, 1) := by decide +kernel
theorem dX11_torn_172 : decode cX11_torn 172 = .ok (.invokevirtual 275, 3) := by decide +kernel
theorem dX11_torn_175 : decode cX11_torn 175 = .ok (.aload_n 0, 1) := by decide +kernel
theorem dX11_torn_176 : decode cX11_torn 176 = .ok (.invokevirtual 139, 3) := by decide +kernel
theorem dX11_torn_179 : decode cX11_torn 179 = .ok (.ireturn, 1) := by decide +kernel
theorem dX11_mark_0 : decode cX11_mark 0 = .ok (.aload_n 0, 1) := by decide +kernel
theorem dX11_mark_1 : decode cX11_mark 1 = .ok (.getfield 77, 3) := by decide +kernel
theorem dX11_mark_4 : decode cX11_mark 4 = .ok (.iconst 3, 1) := by decide +kernel
theorem dX11_mark_5 : decode cX11_mark 5 = .ok (.if_icmp .lt 9, 3) := by decide +kernel
theorem dX11_mark_8 : decode cX11_mark 8 = .ok (.aload_n 0, 1) := by decide +kernel
theorem dX11_mark_9 : decode cX11_mark 9 = .ok (.iconst 4, 1) := by decide +kernel
theorem dX11_mark_10 : decode cX11_mark 10 = .ok (.invokevirtual 151, 3) := by decide +kernel
theorem dX11_mark_13 : decode cX11_mark 13 = .ok (.ireturn, 1) := by decide +kernel
theorem dX11_mark_14 : decode cX11_mark 14 = .ok (.aload_n 0, 1) := by decide +kernel
theorem dX11_mark_15 : decode cX11_mark 15 = .ok (.getfield 69, 3) := by decide +kernel
theorem dX11_mark_18 : decode cX11_mark 18 = .ok (.aload_n 0, 1) := by decide +kernel
theorem dX11_mark_19 : decode cX11_mark 19 = .ok (.getfield 77, 3) := by decide +kernel
theorem dX11_mark_22 : decode cX11_mark 22 = .ok (.aaload, 1) := by decide +kernel
theorem dX11_mark_23 : decode cX11_mark 23 = .ok (.aload_n 0, 1) := by decide +kernel
theorem dX11_mark_24 : decode cX11_mark 24 = .ok (.getfield 58, 3) := by decide +kernel
theorem dX11_mark_27 : decode cX11_mark 27 = .ok (.invokevirtual 174, 3) := by decide +kernel
theorem dX11_mark_30 : decode cX11_mark 30 = .ok (.aload_n 0, 1) := by decide +kernel
theorem dX11_mark_31 : decode cX11_mark 31 = .ok (.getfield 73, 3) := by decide +kernel
theorem dX11_mark_34 : decode cX11_mark 34 = .ok (.aload_n 0, 1) := by decide +kernel
theorem dX11_mark_35 : decode cX11_mark 35 = .ok (.getfield 77, 3) := by decide +kernel
theorem dX11_mark_38 : decode cX11_mark 38 = .ok (.aaload, 1) := by decide +kernel
theorem dX11_mark_39 : decode cX11_mark 39 = .ok (.aload_n 0, 1) := by decide +kernel
theorem dX11_mark_40 : decode cX11_mark 40 = .ok (.getfield 65, 3) := by decide +kernel
theorem dX11_mark_43 : decode cX11_mark 43 = .ok (.invokevirtual 198, 3) := by decide +kernel
theorem dX11_mark_46 : decode cX11_mark 46 = .ok (.aload_n 0, 1) := by decide +kernel
theorem dX11_mark_47 : decode cX11_mark 47 = .ok (.dup, 1) := by decide +kernel
theorem dX11_mark_48 : decode cX11_mark 48 = .ok (.getfield 77, 3) := by decide +kernel
theorem dX11_mark_51 : decode cX11_mark 51 = .ok (.iconst 1, 1) := by decide +kernel
theorem dX11_mark_52 : decode cX11_mark 52 = .ok (.iadd, 1) := by decide +kernel
theorem dX11_mark_53 : decode cX11_mark 53 = .ok (.putfield 77, 3) := by decide +kernel
theorem dX11_mark_56 : decode cX11_mark 56 = .ok (.aload_n 0, 1) := by decide +kernel
theorem dX11_mark_57 : decode cX11_mark 57 = .ok (.aload_n 0, 1) := by decide +kernel
theorem dX11_mark_58 : decode cX11_mark 58 = .ok (.getfield 77, 3) := by decide +kernel
theorem dX11_mark_61 : decode cX11_mark 61 = .ok (.invokevirtual 187, 3) := by decide +kernel
theorem dX11_mark_64 : decode cX11_mark 64 = .ok (.ireturn, 1) := by decide +kernel
theorem dX11_back_0 : decode cX11_back 0 = .ok (.aload_n 0, 1) := by decide +kernel
theorem dX11_back_1 : decode cX11_back 1 = .ok (.getfield 77, 3) := by decide +kernel
theorem dX11_back_4 : decode cX11_back 4 = .ok (.ifCond .gt 10, 3) := by decide +kernel
theorem dX11_back_7 : decode cX11_back 7 = .ok (.aload_n 0, 1) := by decide +kernel
theorem dX11_back_8 : decode cX11_back 8 = .ok (.bipush 6, 2) := by decide +kernel
theorem dX11_back_10 : decode cX11_back 10 = .ok (.invokevirtual 151, 3) := by decide +kernel
theorem dX11_back_13 : decode cX11_back 13 = .ok (.ireturn, 1) := by decide +kernel
theorem dX11_back_14 : decode cX11_back 14 = .ok (.aload_n 0, 1) := by decide +kernel
theorem dX11_back_15 : decode cX11_back 15 = .ok (.dup, 1) := by decide +kernel
theorem dX11_back_16 : decode cX11_back 16 = .ok (.getfield 77, 3) := by decide +kernel
theorem dX11_back_19 : decode cX11_back 19 = .ok (.iconst 1, 1) := by decide +kernel
theorem dX11_back_20 : decode cX11_back 20 = .ok (.isub, 1) := by decide +kernel
theorem dX11_back_21 : decode cX11_back 21 = .ok (.putfield 77, 3) := by decide +kernel
theorem dX11_back_24 : decode cX11_back 24 = .ok (.aload_n 0, 1) := by decide +kernel
theorem dX11_back_25 : decode cX11_back 25 = .ok (.getfield 58, 3) := by decide +kernel
theorem dX11_back_28 : decode cX11_back 28 = .ok (.aload_n 0, 1) := by decide +kernel
theorem dX11_back_29 : decode cX11_back 29 = .ok (.getfield 69, 3) := by decide +kernel
theorem dX11_back_32 : decode cX11_back 32 = .ok (.aload_n 0, 1) := by decide +kernel
theorem dX11_back_33 : decode cX11_back 33 = .ok (.getfield 77, 3) := by decide +kernel
theorem dX11_back_36 : decode cX11_back 36 = .ok (.aaload, 1) := by decide +kernel
theorem dX11_back_37 : decode cX11_back 37 = .ok (.invokevirtual 174, 3) := by decide +kernel
theorem dX11_back_40 : decode cX11_back 40 = .ok (.aload_n 0, 1) := by decide +kernel
theorem dX11_back_41 : decode cX11_back 41 = .ok (.getfield 65, 3) := by decide +kernel
theorem dX11_back_44 : decode cX11_back 44 = .ok (.aload_n 0, 1) := by decide +kernel
theorem dX11_back_45 : decode cX11_back 45 = .ok (.getfield 73, 3) := by decide +kernel
theorem dX11_back_48 : decode cX11_back 48 = .ok (.aload_n 0, 1) := by decide +kernel
theorem dX11_back_49 : decode cX11_back 49 = .ok (.getfield 77, 3) := by decide +kernel
theorem dX11_back_52 : decode cX11_back 52 = .ok (.aaload, 1) := by decide +kernel
theorem dX11_back_53 : decode cX11_back 53 = .ok (.invokevirtual 198, 3) := by decide +kernel
theorem dX11_back_56 : decode cX11_back 56 = .ok (.aload_n 0, 1) := by decide +kernel
theorem dX11_back_57 : decode cX11_back 57 = .ok (.aload_n 0, 1) := by decide +kernel
theorem dX11_back_58 : decode cX11_back 58 = .ok (.getfield 77, 3) := by decide +kernel
theorem dX11_back_61 : decode cX11_back 61 = .ok (.invokevirtual 187, 3) := by decide +kernel
theorem dX11_back_64 : decode cX11_back 64 = .ok (.ireturn, 1) := by decide +kernel
theorem dX11_answer_0 : decode cX11_answer 0 = .ok (.aload_n 0, 1) := by decide +kernel
theorem dX11_answer_1 : decode cX11_answer 1 = .ok (.iconst 0, 1) := by decide +kernel
theorem dX11_answer_2 : decode cX11_answer 2 = .ok (.putfield 9, 3) := by decide +kernel
theorem dX11_answer_5 : decode cX11_answer 5 = .ok (.iload_n 1, 1) := by decide +kernel
theorem dX11_answer_6 : decode cX11_answer 6 = .ok (.ireturn, 1) := by decide +kernel
theorem dX11_none_0 : decode cX11_none 0 = .ok (.aload_n 0, 1) := by decide +kernel
theorem dX11_none_1 : decode cX11_none 1 = .ok (.iload_n 1, 1) := by decide +kernel
theorem dX11_none_2 : decode cX11_none 2 = .ok (.putfield 9, 3) := by decide +kernel
theorem dX11_none_5 : decode cX11_none 5 = .ok (.iconst (-1), 1) := by decide +kernel
theorem dX11_none_6 : decode cX11_none 6 = .ok (.ireturn, 1) := by decide +kernel
theorem dX11_granted_0 : decode cX11_granted 0 = .ok (.aload_n 0, 1) := by decide +kernel
theorem dX11_granted_1 : decode cX11_granted 1 = .ok (.iconst 0, 1) := by decide +kernel
theorem dX11_granted_2 : decode cX11_granted 2 = .ok (.putfield 9, 3) := by decide +kernel
theorem dX11_granted_5 : decode cX11_granted 5 = .ok (.iconst 1, 1) := by decide +kernel
theorem dX11_granted_6 : decode cX11_granted 6 = .ok (.ireturn, 1) := by decide +kernel
theorem dX11_refused_0 : decode cX11_refused 0 = .ok (.aload_n 0, 1) := by decide +kernel
theorem dX11_refused_1 : decode cX11_refused 1 = .ok (.iload_n 1, 1) := by decide +kernel
theorem dX11_refused_2 : decode cX11_refused 2 = .ok (.putfield 9, 3) := by decide +kernel
theorem dX11_refused_5 : decode cX11_refused 5 = .ok (.iconst 0, 1) := by decide +kernel
theorem dX11_refused_6 : decode cX11_refused 6 = .ok (.ireturn, 1) := by decide +kernel
theorem dX11_outside_0 : decode cX11_outside 0 = .ok (.lload_n 0, 1) := by decide +kernel
theorem dX11_outside_1 : decode cX11_outside 1 = .ok (.lload_n 2, 1) := by decide +kernel
theorem dX11_outside_2 : decode cX11_outside 2 = .ok (.lcmp, 1) := by decide +kernel
theorem dX11_outside_3 : decode cX11_outside 3 = .ok (.ifCond .lt 10, 3) := by decide +kernel
theorem dX11_outside_6 : decode cX11_outside 6 = .ok (.lload_n 0, 1) := by decide +kernel
theorem dX11_outside_7 : decode cX11_outside 7 = .ok (.lload 4, 2) := by decide +kernel
theorem dX11_outside_9 : decode cX11_outside 9 = .ok (.lcmp, 1) := by decide +kernel
theorem dX11_outside_10 : decode cX11_outside 10 = .ok (.ifCond .le 7, 3) := by decide +kernel
theorem dX11_outside_13 : decode cX11_outside 13 = .ok (.iconst 1, 1) := by decide +kernel
theorem dX11_outside_14 : decode cX11_outside 14 = .ok (.goto 4, 3) := by decide +kernel
theorem dX11_outside_17 : decode cX11_outside 17 = .ok (.iconst 0, 1) := by decide +kernel
theorem dX11_outside_18 : decode cX11_outside 18 = .ok (.ireturn, 1) := by decide +kernel
theorem dX11_isTray_0 : decode cX11_isTray 0 = .ok (.iload_n 0, 1) := by decide +kernel
theorem dX11_isTray_1 : decode cX11_isTray 1 = .ok (.ifCond .lt 12, 3) := by decide +kernel
theorem dX11_isTray_4 : decode cX11_isTray 4 = .ok (.iload_n 0, 1) := by decide +kernel
theorem dX11_isTray_5 : decode cX11_isTray 5 = .ok (.iconst 4, 1) := by decide +kernel
theorem dX11_isTray_6 : decode cX11_isTray 6 = .ok (.if_icmp .ge 7, 3) := by decide +kernel
theorem dX11_isTray_9 : decode cX11_isTray 9 = .ok (.iconst 1, 1) := by decide +kernel
theorem dX11_isTray_10 : decode cX11_isTray 10 = .ok (.goto 4, 3) := by decide +kernel
theorem dX11_isTray_13 : decode cX11_isTray 13 = .ok (.iconst 0, 1) := by decide +kernel
theorem dX11_isTray_14 : decode cX11_isTray 14 = .ok (.ireturn, 1) := by decide +kernel
theorem dX11_isMachine_0 : decode cX11_isMachine 0 = .ok (.iload_n 1, 1) := by decide +kernel
theorem dX11_isMachine_1 : decode cX11_isMachine 1 = .ok (.ifCond .lt 21, 3) := by decide +kernel
theorem dX11_isMachine_4 : decode cX11_isMachine 4 = .ok (.iload_n 1, 1) := by decide +kernel
theorem dX11_isMachine_5 : decode cX11_isMachine 5 = .ok (.aload_n 0, 1) := by decide +kernel
theorem dX11_isMachine_6 : decode cX11_isMachine 6 = .ok (.getfield 58, 3) := by decide +kernel
theorem dX11_isMachine_9 : decode cX11_isMachine 9 = .ok (.getfield 178, 3) := by decide +kernel
theorem dX11_isMachine_12 : decode cX11_isMachine 12 = .ok (.getfield 182, 3) := by decide +kernel
theorem dX11_isMachine_15 : decode cX11_isMachine 15 = .ok (.if_icmp .ge 7, 3) := by decide +kernel
theorem dX11_isMachine_18 : decode cX11_isMachine 18 = .ok (.iconst 1, 1) := by decide +kernel
theorem dX11_isMachine_19 : decode cX11_isMachine 19 = .ok (.goto 4, 3) := by decide +kernel
theorem dX11_isMachine_22 : decode cX11_isMachine 22 = .ok (.iconst 0, 1) := by decide +kernel
theorem dX11_isMachine_23 : decode cX11_isMachine 23 = .ok (.ireturn, 1) := by decide +kernel
theorem dX11_isSort_0 : decode cX11_isSort 0 = .ok (.iload_n 1, 1) := by decide +kernel
theorem dX11_isSort_1 : decode cX11_isSort 1 = .ok (.ifCond .lt 18, 3) := by decide +kernel
theorem dX11_isSort_4 : decode cX11_isSort 4 = .ok (.iload_n 1, 1) := by decide +kernel
theorem dX11_isSort_5 : decode cX11_isSort 5 = .ok (.aload_n 0, 1) := by decide +kernel
theorem dX11_isSort_6 : decode cX11_isSort 6 = .ok (.getfield 58, 3) := by decide +kernel
theorem dX11_isSort_9 : decode cX11_isSort 9 = .ok (.getfield 210, 3) := by decide +kernel
theorem dX11_isSort_12 : decode cX11_isSort 12 = .ok (.if_icmp .ge 7, 3) := by decide +kernel
theorem dX11_isSort_15 : decode cX11_isSort 15 = .ok (.iconst 1, 1) := by decide +kernel
theorem dX11_isSort_16 : decode cX11_isSort 16 = .ok (.goto 4, 3) := by decide +kernel
theorem dX11_isSort_19 : decode cX11_isSort 19 = .ok (.iconst 0, 1) := by decide +kernel
theorem dX11_isSort_20 : decode cX11_isSort 20 = .ok (.ireturn, 1) := by decide +kernel
theorem dX11_placeLack_0 : decode cX11_placeLack 0 = .ok (.iload_n 1, 1) := by decide +kernel
theorem dX11_placeLack_1 : decode cX11_placeLack 1 = .ok (.invokestatic 121, 3) := by decide +kernel
theorem dX11_placeLack_4 : decode cX11_placeLack 4 = .ok (.ifCond .ne 5, 3) := by decide +kernel
theorem dX11_placeLack_7 : decode cX11_placeLack 7 = .ok (.iconst 1, 1) := by decide +kernel
theorem dX11_placeLack_8 : decode cX11_placeLack 8 = .ok (.ireturn, 1) := by decide +kernel
theorem dX11_placeLack_9 : decode cX11_placeLack 9 = .ok (.aload_n 0, 1) := by decide +kernel
theorem dX11_placeLack_10 : decode cX11_placeLack 10 = .ok (.getfield 29, 3) := by decide +kernel
theorem dX11_placeLack_13 : decode cX11_placeLack 13 = .ok (.iload_n 1, 1) := by decide +kernel
theorem dX11_placeLack_14 : decode cX11_placeLack 14 = .ok (.iaload, 1) := by decide +kernel
theorem dX11_placeLack_15 : decode cX11_placeLack 15 = .ok (.iconst (-1), 1) := by decide +kernel
theorem dX11_placeLack_16 : decode cX11_placeLack 16 = .ok (.if_icmp .ne 5, 3) := by decide +kernel
theorem dX11_placeLack_19 : decode cX11_placeLack 19 = .ok (.iconst 2, 1) := by decide +kernel
theorem dX11_placeLack_20 : decode cX11_placeLack 20 = .ok (.ireturn, 1) := by decide +kernel
theorem dX11_placeLack_21 : decode cX11_placeLack 21 = .ok (.iload_n 2, 1) := by decide +kernel
theorem dX11_placeLack_22 : decode cX11_placeLack 22 = .ok (.i2l, 1) := by decide +kernel
theorem dX11_placeLack_23 : decode cX11_placeLack 23 = .ok (.lconst 0, 1) := by decide +kernel
theorem dX11_placeLack_24 : decode cX11_placeLack 24 = .ok (.aload_n 0, 1) := by decide +kernel
theorem dX11_placeLack_25 : decode cX11_placeLack 25 = .ok (.getfield 29, 3) := by decide +kernel
theorem dX11_placeLack_28 : decode cX11_placeLack 28 = .ok (.iload_n 1, 1) := by decide +kernel
theorem dX11_placeLack_29 : decode cX11_placeLack 29 = .ok (.iaload, 1) := by decide +kernel
theorem dX11_placeLack_30 : decode cX11_placeLack 30 = .ok (.iconst 1, 1) := by decide +kernel
theorem dX11_placeLack_31 : decode cX11_placeLack 31 = .ok (.isub, 1) := by decide +kernel
theorem dX11_placeLack_32 : decode cX11_placeLack 32 = .ok (.i2l, 1) := by decide +kernel
theorem dX11_placeLack_33 : decode cX11_placeLack 33 = .ok (.invokestatic 127, 3) := by decide +kernel
theorem dX11_placeLack_36 : decode cX11_placeLack 36 = .ok (.ifCond .eq 7, 3) := by decide +kernel
theorem dX11_placeLack_39 : decode cX11_placeLack 39 = .ok (.iconst 3, 1) := by decide +kernel
theorem dX11_placeLack_40 : decode cX11_placeLack 40 = .ok (.goto 4, 3) := by decide +kernel
theorem dX11_placeLack_43 : decode cX11_placeLack 43 = .ok (.iconst 0, 1) := by decide +kernel
theorem dX11_placeLack_44 : decode cX11_placeLack 44 = .ok (.ireturn, 1) := by decide +kernel
theorem dX11_rowLack_0 : decode cX11_rowLack 0 = .ok (.aload_n 0, 1) := by decide +kernel
theorem dX11_rowLack_1 : decode cX11_rowLack 1 = .ok (.getfield 29, 3) := by decide +kernel
theorem dX11_rowLack_4 : decode cX11_rowLack 4 = .ok (.iload_n 1, 1) := by decide +kernel
theorem dX11_rowLack_5 : decode cX11_rowLack 5 = .ok (.iaload, 1) := by decide +kernel
theorem dX11_rowLack_6 : decode cX11_rowLack 6 = .ok (.iconst (-1), 1) := by decide +kernel
theorem dX11_rowLack_7 : decode cX11_rowLack 7 = .ok (.if_icmp .ne 5, 3) := by decide +kernel
theorem dX11_rowLack_10 : decode cX11_rowLack 10 = .ok (.iconst 2, 1) := by decide +kernel
theorem dX11_rowLack_11 : decode cX11_rowLack 11 = .ok (.ireturn, 1) := by decide +kernel
theorem dX11_rowLack_12 : decode cX11_rowLack 12 = .ok (.iload_n 2, 1) := by decide +kernel
theorem dX11_rowLack_13 : decode cX11_rowLack 13 = .ok (.aload_n 0, 1) := by decide +kernel
theorem dX11_rowLack_14 : decode cX11_rowLack 14 = .ok (.getfield 29, 3) := by decide +kernel
theorem dX11_rowLack_17 : decode cX11_rowLack 17 = .ok (.iload_n 1, 1) := by decide +kernel
theorem dX11_rowLack_18 : decode cX11_rowLack 18 = .ok (.iaload, 1) := by decide +kernel
theorem dX11_rowLack_19 : decode cX11_rowLack 19 = .ok (.if_icmp .le 7, 3) := by decide +kernel
theorem dX11_rowLack_22 : decode cX11_rowLack 22 = .ok (.iconst 3, 1) := by decide +kernel
theorem dX11_rowLack_23 : decode cX11_rowLack 23 = .ok (.goto 4, 3) := by decide +kernel
theorem dX11_rowLack_26 : decode cX11_rowLack 26 = .ok (.iconst 0, 1) := by decide +kernel
theorem dX11_rowLack_27 : decode cX11_rowLack 27 = .ok (.ireturn, 1) := by decide +kernel
theorem dX11_cut_0 : decode cX11_cut 0 = .ok (.iload_n 2, 1) := by decide +kernel
theorem dX11_cut_1 : decode cX11_cut 1 = .ok (.tableswitch 41 0 2 #[27, 32, 37], 27) := by decide +kernel
theorem dX11_cut_28 : decode cX11_cut 28 = .ok (.lload_n 0, 1) := by decide +kernel
theorem dX11_cut_29 : decode cX11_cut 29 = .ok (.l2i, 1) := by decide +kernel
theorem dX11_cut_30 : decode cX11_cut 30 = .ok (.i2b, 1) := by decide +kernel
theorem dX11_cut_31 : decode cX11_cut 31 = .ok (.i2l, 1) := by decide +kernel
theorem dX11_cut_32 : decode cX11_cut 32 = .ok (.lreturn, 1) := by decide +kernel
theorem dX11_cut_33 : decode cX11_cut 33 = .ok (.lload_n 0, 1) := by decide +kernel
theorem dX11_cut_34 : decode cX11_cut 34 = .ok (.l2i, 1) := by decide +kernel
theorem dX11_cut_35 : decode cX11_cut 35 = .ok (.i2s, 1) := by decide +kernel
theorem dX11_cut_36 : decode cX11_cut 36 = .ok (.i2l, 1) := by decide +kernel
theorem dX11_cut_37 : decode cX11_cut 37 = .ok (.lreturn, 1) := by decide +kernel
theorem dX11_cut_38 : decode cX11_cut 38 = .ok (.lload_n 0, 1) := by decide +kernel
theorem dX11_cut_39 : decode cX11_cut 39 = .ok (.l2i, 1) := by decide +kernel
theorem dX11_cut_40 : decode cX11_cut 40 = .ok (.i2l, 1) := by decide +kernel
theorem dX11_cut_41 : decode cX11_cut 41 = .ok (.lreturn, 1) := by decide +kernel
theorem dX11_cut_42 : decode cX11_cut 42 = .ok (.lload_n 0, 1) := by decide +kernel
theorem dX11_cut_43 : decode cX11_cut 43 = .ok (.lreturn, 1) := by decide +kernel
theorem dX11_allWithin_0 : decode cX11_allWithin 0 = .ok (.iconst 0, 1) := by decide +kernel
theorem dX11_allWithin_1 : decode cX11_allWithin 1 = .ok (.istore 6, 2) := by decide +kernel
theorem dX11_allWithin_3 : decode cX11_allWithin 3 = .ok (.iload 6, 2) := by decide +kernel
theorem dX11_allWithin_5 : decode cX11_allWithin 5 = .ok (.iload_n 1, 1) := by decide +kernel
theorem dX11_allWithin_6 : decode cX11_allWithin 6 = .ok (.if_icmp .ge 24, 3) := by decide +kernel
theorem dX11_allWithin_9 : decode cX11_allWithin 9 = .ok (.aload_n 0, 1) := by decide +kernel
theorem dX11_allWithin_10 : decode cX11_allWithin 10 = .ok (.iload 6, 2) := by decide +kernel
theorem dX11_allWithin_12 : decode cX11_allWithin 12 = .ok (.laload, 1) := by decide +kernel
theorem dX11_allWithin_13 : decode cX11_allWithin 13 = .ok (.lload_n 2, 1) := by decide +kernel
theorem dX11_allWithin_14 : decode cX11_allWithin 14 = .ok (.lload 4, 2) := by decide +kernel
theorem dX11_allWithin_16 : decode cX11_allWithin 16 = .ok (.invokestatic 127, 3) := by decide +kernel
theorem dX11_allWithin_19 : decode cX11_allWithin 19 = .ok (.ifCond .eq 5, 3) := by decide +kernel
theorem dX11_allWithin_22 : decode cX11_allWithin 22 = .ok (.iconst 0, 1) := by decide +kernel
theorem dX11_allWithin_23 : decode cX11_allWithin 23 = .ok (.ireturn, 1) := by decide +kernel
theorem dX11_allWithin_24 : decode cX11_allWithin 24 = .ok (.iinc 6 1, 3) := by decide +kernel
theorem dX11_allWithin_27 : decode cX11_allWithin 27 = .ok (.goto (-24), 3) := by decide +kernel
theorem dX11_allWithin_30 : decode cX11_allWithin 30 = .ok (.iconst 1, 1) := by decide +kernel
theorem dX11_allWithin_31 : decode cX11_allWithin 31 = .ok (.ireturn, 1) := by decide +kernel
theorem dX11_rises_0 : decode cX11_rises 0 = .ok (.iconst 0, 1) := by decide +kernel
theorem dX11_rises_1 : decode cX11_rises 1 = .ok (.istore_n 3, 1) := by decide +kernel
theorem dX11_rises_2 : decode cX11_rises 2 = .ok (.iload_n 3, 1) := by decide +kernel
theorem dX11_rises_3 : decode cX11_rises 3 = .ok (.iload_n 1, 1) := by decide +kernel
theorem dX11_rises_4 : decode cX11_rises 4 = .ok (.if_icmp .ge 37, 3) := by decide +kernel
theorem dX11_rises_7 : decode cX11_rises 7 = .ok (.aload_n 0, 1) := by decide +kernel
theorem dX11_rises_8 : decode cX11_rises 8 = .ok (.iload_n 3, 1) := by decide +kernel
theorem dX11_rises_9 : decode cX11_rises 9 = .ok (.laload, 1) := by decide +kernel
theorem dX11_rises_10 : decode cX11_rises 10 = .ok (.iload_n 3, 1) := by decide +kernel
theorem dX11_rises_11 : decode cX11_rises 11 = .ok (.ifCond .ne 7, 3) := by decide +kernel
theorem dX11_rises_14 : decode cX11_rises 14 = .ok (.lconst 0, 1) := by decide +kernel
theorem dX11_rises_15 : decode cX11_rises 15 = .ok (.goto 10, 3) := by decide +kernel
theorem dX11_rises_18 : decode cX11_rises 18 = .ok (.aload_n 0, 1) := by decide +kernel
theorem dX11_rises_19 : decode cX11_rises 19 = .ok (.iload_n 3, 1) := by decide +kernel
theorem dX11_rises_20 : decode cX11_rises 20 = .ok (.iconst 1, 1) := by decide +kernel
theorem dX11_rises_21 : decode cX11_rises 21 = .ok (.isub, 1) := by decide +kernel
theorem dX11_rises_22 : decode cX11_rises 22 = .ok (.laload, 1) := by decide +kernel
theorem dX11_rises_23 : decode cX11_rises 23 = .ok (.lconst 1, 1) := by decide +kernel
theorem dX11_rises_24 : decode cX11_rises 24 = .ok (.ladd, 1) := by decide +kernel
theorem dX11_rises_25 : decode cX11_rises 25 = .ok (.iload_n 2, 1) := by decide +kernel
theorem dX11_rises_26 : decode cX11_rises 26 = .ok (.i2l, 1) := by decide +kernel
theorem dX11_rises_27 : decode cX11_rises 27 = .ok (.invokestatic 127, 3) := by decide +kernel
theorem dX11_rises_30 : decode cX11_rises 30 = .ok (.ifCond .eq 5, 3) := by decide +kernel
theorem dX11_rises_33 : decode cX11_rises 33 = .ok (.iconst 0, 1) := by decide +kernel
theorem dX11_rises_34 : decode cX11_rises 34 = .ok (.ireturn, 1) := by decide +kernel
theorem dX11_rises_35 : decode cX11_rises 35 = .ok (.iinc 3 1, 3) := by decide +kernel
theorem dX11_rises_38 : decode cX11_rises 38 = .ok (.goto (-36), 3) := by decide +kernel
theorem dX11_rises_41 : decode cX11_rises 41 = .ok (.iconst 1, 1) := by decide +kernel
theorem dX11_rises_42 : decode cX11_rises 42 = .ok (.ireturn, 1) := by decide +kernel
theorem dX11_tell_0 : decode cX11_tell 0 = .ok (.lload_n 1, 1) := by decide +kernel
theorem dX11_tell_1 : decode cX11_tell 1 = .ok (.lload_n 3, 1) := by decide +kernel
theorem dX11_tell_2 : decode cX11_tell 2 = .ok (.invokestatic 401, 3) := by decide +kernel
theorem dX11_tell_5 : decode cX11_tell 5 = .ok (.lstore 5, 2) := by decide +kernel
theorem dX11_tell_7 : decode cX11_tell 7 = .ok (.aload_n 0, 1) := by decide +kernel
theorem dX11_tell_8 : decode cX11_tell 8 = .ok (.lload 5, 2) := by decide +kernel
theorem dX11_tell_10 : decode cX11_tell 10 = .ok (.lconst 0, 1) := by decide +kernel
theorem dX11_tell_11 : decode cX11_tell 11 = .ok (.lcmp, 1) := by decide +kernel
theorem dX11_tell_12 : decode cX11_tell 12 = .ok (.ifCond .ne 7, 3) := by decide +kernel
theorem dX11_tell_15 : decode cX11_tell 15 = .ok (.lconst 0, 1) := by decide +kernel
theorem dX11_tell_16 : decode cX11_tell 16 = .ok (.goto 7, 3) := by decide +kernel
theorem dX11_tell_19 : decode cX11_tell 19 = .ok (.lload_n 1, 1) := by decide +kernel
theorem dX11_tell_20 : decode cX11_tell 20 = .ok (.lload 5, 2) := by decide +kernel
theorem dX11_tell_22 : decode cX11_tell 22 = .ok (.ldiv, 1) := by decide +kernel
theorem dX11_tell_23 : decode cX11_tell 23 = .ok (.putfield 13, 3) := by decide +kernel
theorem dX11_tell_26 : decode cX11_tell 26 = .ok (.aload_n 0, 1) := by decide +kernel
theorem dX11_tell_27 : decode cX11_tell 27 = .ok (.lload 5, 2) := by decide +kernel
theorem dX11_tell_29 : decode cX11_tell 29 = .ok (.lconst 0, 1) := by decide +kernel
theorem dX11_tell_30 : decode cX11_tell 30 = .ok (.lcmp, 1) := by decide +kernel
theorem dX11_tell_31 : decode cX11_tell 31 = .ok (.ifCond .ne 7, 3) := by decide +kernel
theorem dX11_tell_34 : decode cX11_tell 34 = .ok (.lconst 1, 1) := by decide +kernel
theorem dX11_tell_35 : decode cX11_tell 35 = .ok (.goto 7, 3) := by decide +kernel
theorem dX11_tell_38 : decode cX11_tell 38 = .ok (.lload_n 3, 1) := by decide +kernel
theorem dX11_tell_39 : decode cX11_tell 39 = .ok (.lload 5, 2) := by decide +kernel
theorem dX11_tell_41 : decode cX11_tell 41 = .ok (.ldiv, 1) := by decide +kernel
theorem dX11_tell_42 : decode cX11_tell 42 = .ok (.putfield 17, 3) := by decide +kernel
theorem dX11_tell_45 : decode cX11_tell 45 = .ok (.return_, 1) := by decide +kernel
theorem dX11_commonDivisor_0 : decode cX11_commonDivisor 0 = .ok (.lload_n 0, 1) := by decide +kernel
theorem dX11_commonDivisor_1 : decode cX11_commonDivisor 1 = .ok (.lstore 4, 2) := by decide +kernel
theorem dX11_commonDivisor_3 : decode cX11_commonDivisor 3 = .ok (.lload_n 2, 1) := by decide +kernel
theorem dX11_commonDivisor_4 : decode cX11_commonDivisor 4 = .ok (.lstore 6, 2) := by decide +kernel
theorem dX11_commonDivisor_6 : decode cX11_commonDivisor 6 = .ok (.iconst 0, 1) := by decide +kernel
theorem dX11_commonDivisor_7 : decode cX11_commonDivisor 7 = .ok (.istore 8, 2) := by decide +kernel
theorem dX11_commonDivisor_9 : decode cX11_commonDivisor 9 = .ok (.iload 8, 2) := by decide +kernel
theorem dX11_commonDivisor_11 : decode cX11_commonDivisor 11 = .ok (.bipush 100, 2) := by decide +kernel
theorem dX11_commonDivisor_13 : decode cX11_commonDivisor 13 = .ok (.if_icmp .ge 31, 3) := by decide +kernel
theorem dX11_commonDivisor_16 : decode cX11_commonDivisor 16 = .ok (.lload 6, 2) := by decide +kernel
theorem dX11_commonDivisor_18 : decode cX11_commonDivisor 18 = .ok (.lconst 0, 1) := by decide +kernel
theorem dX11_commonDivisor_19 : decode cX11_commonDivisor 19 = .ok (.lcmp, 1) := by decide +kernel
theorem dX11_commonDivisor_20 : decode cX11_commonDivisor 20 = .ok (.ifCond .eq 24, 3) := by decide +kernel
theorem dX11_commonDivisor_23 : decode cX11_commonDivisor 23 = .ok (.lload 4, 2) := by decide +kernel
theorem dX11_commonDivisor_25 : decode cX11_commonDivisor 25 = .ok (.lload 6, 2) := by decide +kernel
theorem dX11_commonDivisor_27 : decode cX11_commonDivisor 27 = .ok (.lrem, 1) := by decide +kernel
theorem dX11_commonDivisor_28 : decode cX11_commonDivisor 28 = .ok (.lstore 9, 2) := by decide +kernel
theorem dX11_commonDivisor_30 : decode cX11_commonDivisor 30 = .ok (.lload 6, 2) := by decide +kernel
theorem dX11_commonDivisor_32 : decode cX11_commonDivisor 32 = .ok (.lstore 4, 2) := by decide +kernel
theorem dX11_commonDivisor_34 : decode cX11_commonDivisor 34 = .ok (.lload 9, 2) := by decide +kernel
theorem dX11_commonDivisor_36 : decode cX11_commonDivisor 36 = .ok (.lstore 6, 2) := by decide +kernel
theorem dX11_commonDivisor_38 : decode cX11_commonDivisor 38 = .ok (.iinc 8 1, 3) := by decide +kernel
theorem dX11_commonDivisor_41 : decode cX11_commonDivisor 41 = .ok (.goto (-32), 3) := by decide +kernel
theorem dX11_commonDivisor_44 : decode cX11_commonDivisor 44 = .ok (.lload 4, 2) := by decide +kernel
theorem dX11_commonDivisor_46 : decode cX11_commonDivisor 46 = .ok (.lreturn, 1) := by decide +kernel
theorem dX11_thrownForShort_0 : decode cX11_thrownForShort 0 = .ok (.iconst 0, 1) := by decide +kernel
theorem dX11_thrownForShort_1 : decode cX11_thrownForShort 1 = .ok (.istore 5, 2) := by decide +kernel
theorem dX11_thrownForShort_3 : decode cX11_thrownForShort 3 = .ok (.iconst 0, 1) := by decide +kernel
theorem dX11_thrownForShort_4 : decode cX11_thrownForShort 4 = .ok (.istore 6, 2) := by decide +kernel
theorem dX11_thrownForShort_6 : decode cX11_thrownForShort 6 = .ok (.iconst 0, 1) := by decide +kernel
theorem dX11_thrownForShort_7 : decode cX11_thrownForShort 7 = .ok (.istore 7, 2) := by decide +kernel
theorem dX11_thrownForShort_9 : decode cX11_thrownForShort 9 = .ok (.iconst 0, 1) := by decide +kernel
theorem dX11_thrownForShort_10 : decode cX11_thrownForShort 10 = .ok (.istore 8, 2) := by decide +kernel
theorem dX11_thrownForShort_12 : decode cX11_thrownForShort 12 = .ok (.iload 8, 2) := by decide +kernel
theorem dX11_thrownForShort_14 : decode cX11_thrownForShort 14 = .ok (.iload_n 1, 1) := by decide +kernel
theorem dX11_thrownForShort_15 : decode cX11_thrownForShort 15 = .ok (.if_icmp .ge 62, 3) := by decide +kernel
theorem dX11_thrownForShort_18 : decode cX11_thrownForShort 18 = .ok (.aload_n 0, 1) := by decide +kernel
theorem dX11_thrownForShort_19 : decode cX11_thrownForShort 19 = .ok (.iload 8, 2) := by decide +kernel
theorem dX11_thrownForShort_21 : decode cX11_thrownForShort 21 = .ok (.laload, 1) := by decide +kernel
theorem dX11_thrownForShort_22 : decode cX11_thrownForShort 22 = .ok (.iload_n 3, 1) := by decide +kernel
theorem dX11_thrownForShort_23 : decode cX11_thrownForShort 23 = .ok (.i2l, 1) := by decide +kernel
theorem dX11_thrownForShort_24 : decode cX11_thrownForShort 24 = .ok (.iload 4, 2) := by decide +kernel
theorem dX11_thrownForShort_26 : decode cX11_thrownForShort 26 = .ok (.i2l, 1) := by decide +kernel
theorem dX11_thrownForShort_27 : decode cX11_thrownForShort 27 = .ok (.invokestatic 127, 3) := by decide +kernel
theorem dX11_thrownForShort_30 : decode cX11_thrownForShort 30 = .ok (.ifCond .eq 9, 3) := by decide +kernel
theorem dX11_thrownForShort_33 : decode cX11_thrownForShort 33 = .ok (.iconst 1, 1) := by decide +kernel
theorem dX11_thrownForShort_34 : decode cX11_thrownForShort 34 = .ok (.istore 7, 2) := by decide +kernel
theorem dX11_thrownForShort_36 : decode cX11_thrownForShort 36 = .ok (.goto 35, 3) := by decide +kernel
theorem dX11_thrownForShort_39 : decode cX11_thrownForShort 39 = .ok (.iload 5, 2) := by decide +kernel
theorem dX11_thrownForShort_41 : decode cX11_thrownForShort 41 = .ok (.iload 7, 2) := by decide +kernel
theorem dX11_thrownForShort_43 : decode cX11_thrownForShort 43 = .ok (.ifCond .eq 13, 3) := by decide +kernel
theorem dX11_thrownForShort_46 : decode cX11_thrownForShort 46 = .ok (.iload 8, 2) := by decide +kernel
theorem dX11_thrownForShort_48 : decode cX11_thrownForShort 48 = .ok (.iload_n 2, 1) := by decide +kernel
theorem dX11_thrownForShort_49 : decode cX11_thrownForShort 49 = .ok (.imul, 1) := by decide +kernel
theorem dX11_thrownForShort_50 : decode cX11_thrownForShort 50 = .ok (.iload 6, 2) := by decide +kernel
theorem dX11_thrownForShort_52 : decode cX11_thrownForShort 52 = .ok (.isub, 1) := by decide +kernel
theorem dX11_thrownForShort_53 : decode cX11_thrownForShort 53 = .ok (.goto 4, 3) := by decide +kernel
theorem dX11_thrownForShort_56 : decode cX11_thrownForShort 56 = .ok (.iconst 0, 1) := by decide +kernel
theorem dX11_thrownForShort_57 : decode cX11_thrownForShort 57 = .ok (.iadd, 1) := by decide +kernel
theorem dX11_thrownForShort_58 : decode cX11_thrownForShort 58 = .ok (.istore 5, 2) := by decide +kernel
theorem dX11_thrownForShort_60 : decode cX11_thrownForShort 60 = .ok (.iload 8, 2) := by decide +kernel
theorem dX11_thrownForShort_62 : decode cX11_thrownForShort 62 = .ok (.iload_n 2, 1) := by decide +kernel
theorem dX11_thrownForShort_63 : decode cX11_thrownForShort 63 = .ok (.imul, 1) := by decide +kernel
theorem dX11_thrownForShort_64 : decode cX11_thrownForShort 64 = .ok (.iconst 1, 1) := by decide +kernel
theorem dX11_thrownForShort_65 : decode cX11_thrownForShort 65 = .ok (.iadd, 1) := by decide +kernel
theorem dX11_thrownForShort_66 : decode cX11_thrownForShort 66 = .ok (.istore 6, 2) := by decide +kernel
theorem dX11_thrownForShort_68 : decode cX11_thrownForShort 68 = .ok (.iconst 0, 1) := by decide +kernel
theorem dX11_thrownForShort_69 : decode cX11_thrownForShort 69 = .ok (.istore 7, 2) := by decide +kernel
theorem dX11_thrownForShort_71 : decode cX11_thrownForShort 71 = .ok (.iinc 8 1, 3) := by decide +kernel
theorem dX11_thrownForShort_74 : decode cX11_thrownForShort 74 = .ok (.goto (-62), 3) := by decide +kernel
theorem dX11_thrownForShort_77 : decode cX11_thrownForShort 77 = .ok (.iload 7, 2) := by decide +kernel
theorem dX11_thrownForShort_79 : decode cX11_thrownForShort 79 = .ok (.ifCond .eq 19, 3) := by decide +kernel
theorem dX11_thrownForShort_82 : decode cX11_thrownForShort 82 = .ok (.iload 5, 2) := by decide +kernel
theorem dX11_thrownForShort_84 : decode cX11_thrownForShort 84 = .ok (.iload_n 1, 1) := by decide +kernel
theorem dX11_thrownForShort_85 : decode cX11_thrownForShort 85 = .ok (.iconst 1, 1) := by decide +kernel
theorem dX11_thrownForShort_86 : decode cX11_thrownForShort 86 = .ok (.isub, 1) := by decide +kernel
theorem dX11_thrownForShort_87 : decode cX11_thrownForShort 87 = .ok (.iload_n 2, 1) := by decide +kernel
theorem dX11_thrownForShort_88 : decode cX11_thrownForShort 88 = .ok (.imul, 1) := by decide +kernel
theorem dX11_thrownForShort_89 : decode cX11_thrownForShort 89 = .ok (.iadd, 1) := by decide +kernel
theorem dX11_thrownForShort_90 : decode cX11_thrownForShort 90 = .ok (.iconst 1, 1) := by decide +kernel
theorem dX11_thrownForShort_91 : decode cX11_thrownForShort 91 = .ok (.iadd, 1) := by decide +kernel
theorem dX11_thrownForShort_92 : decode cX11_thrownForShort 92 = .ok (.iload 6, 2) := by decide +kernel
theorem dX11_thrownForShort_94 : decode cX11_thrownForShort 94 = .ok (.isub, 1) := by decide +kernel
theorem dX11_thrownForShort_95 : decode cX11_thrownForShort 95 = .ok (.goto 5, 3) := by decide +kernel
theorem dX11_thrownForShort_98 : decode cX11_thrownForShort 98 = .ok (.iload 5, 2) := by decide +kernel
theorem dX11_thrownForShort_100 : decode cX11_thrownForShort 100 = .ok (.ireturn, 1) := by decide +kernel
theorem dX11_thrownForGlass_0 : decode cX11_thrownForGlass 0 = .ok (.iconst 0, 1) := by decide +kernel
theorem dX11_thrownForGlass_1 : decode cX11_thrownForGlass 1 = .ok (.istore_n 3, 1) := by decide +kernel
theorem dX11_thrownForGlass_2 : decode cX11_thrownForGlass 2 = .ok (.iconst 0, 1) := by decide +kernel
theorem dX11_thrownForGlass_3 : decode cX11_thrownForGlass 3 = .ok (.istore 4, 2) := by decide +kernel
theorem dX11_thrownForGlass_5 : decode cX11_thrownForGlass 5 = .ok (.iload 4, 2) := by decide +kernel
theorem dX11_thrownForGlass_7 : decode cX11_thrownForGlass 7 = .ok (.iload_n 2, 1) := by decide +kernel
theorem dX11_thrownForGlass_8 : decode cX11_thrownForGlass 8 = .ok (.if_icmp .ge 86, 3) := by decide +kernel
theorem dX11_thrownForGlass_11 : decode cX11_thrownForGlass 11 = .ok (.aload_n 0, 1) := by decide +kernel
theorem dX11_thrownForGlass_12 : decode cX11_thrownForGlass 12 = .ok (.getfield 58, 3) := by decide +kernel
theorem dX11_thrownForGlass_15 : decode cX11_thrownForGlass 15 = .ok (.getfield 226, 3) := by decide +kernel
theorem dX11_thrownForGlass_18 : decode cX11_thrownForGlass 18 = .ok (.aload_n 1, 1) := by decide +kernel
theorem dX11_thrownForGlass_19 : decode cX11_thrownForGlass 19 = .ok (.iconst 2, 1) := by decide +kernel
theorem dX11_thrownForGlass_20 : decode cX11_thrownForGlass 20 = .ok (.iload 4, 2) := by decide +kernel
theorem dX11_thrownForGlass_22 : decode cX11_thrownForGlass 22 = .ok (.imul, 1) := by decide +kernel
theorem dX11_thrownForGlass_23 : decode cX11_thrownForGlass 23 = .ok (.laload, 1) := by decide +kernel
theorem dX11_thrownForGlass_24 : decode cX11_thrownForGlass 24 = .ok (.l2i, 1) := by decide +kernel
theorem dX11_thrownForGlass_25 : decode cX11_thrownForGlass 25 = .ok (.iaload, 1) := by decide +kernel
theorem dX11_thrownForGlass_26 : decode cX11_thrownForGlass 26 = .ok (.istore 5, 2) := by decide +kernel
theorem dX11_thrownForGlass_28 : decode cX11_thrownForGlass 28 = .ok (.lconst 0, 1) := by decide +kernel
theorem dX11_thrownForGlass_29 : decode cX11_thrownForGlass 29 = .ok (.aload_n 1, 1) := by decide +kernel
theorem dX11_thrownForGlass_30 : decode cX11_thrownForGlass 30 = .ok (.iconst 2, 1) := by decide +kernel
theorem dX11_thrownForGlass_31 : decode cX11_thrownForGlass 31 = .ok (.iload 4, 2) := by decide +kernel
theorem dX11_thrownForGlass_33 : decode cX11_thrownForGlass 33 = .ok (.imul, 1) := by decide +kernel
theorem dX11_thrownForGlass_34 : decode cX11_thrownForGlass 34 = .ok (.iconst 1, 1) := by decide +kernel
theorem dX11_thrownForGlass_35 : decode cX11_thrownForGlass 35 = .ok (.iadd, 1) := by decide +kernel
theorem dX11_thrownForGlass_36 : decode cX11_thrownForGlass 36 = .ok (.laload, 1) := by decide +kernel
theorem dX11_thrownForGlass_37 : decode cX11_thrownForGlass 37 = .ok (.iload 5, 2) := by decide +kernel
theorem dX11_thrownForGlass_39 : decode cX11_thrownForGlass 39 = .ok (.i2l, 1) := by decide +kernel
theorem dX11_thrownForGlass_40 : decode cX11_thrownForGlass 40 = .ok (.lsub, 1) := by decide +kernel
theorem dX11_thrownForGlass_41 : decode cX11_thrownForGlass 41 = .ok (.invokestatic 405, 3) := by decide +kernel
theorem dX11_thrownForGlass_44 : decode cX11_thrownForGlass 44 = .ok (.lstore 6, 2) := by decide +kernel
theorem dX11_thrownForGlass_46 : decode cX11_thrownForGlass 46 = .ok (.lload 6, 2) := by decide +kernel
theorem dX11_thrownForGlass_48 : decode cX11_thrownForGlass 48 = .ok (.aload_n 1, 1) := by decide +kernel
theorem dX11_thrownForGlass_49 : decode cX11_thrownForGlass 49 = .ok (.iconst 2, 1) := by decide +kernel
theorem dX11_thrownForGlass_50 : decode cX11_thrownForGlass 50 = .ok (.iload 4, 2) := by decide +kernel
theorem dX11_thrownForGlass_52 : decode cX11_thrownForGlass 52 = .ok (.imul, 1) := by decide +kernel
theorem dX11_thrownForGlass_53 : decode cX11_thrownForGlass 53 = .ok (.iconst 1, 1) := by decide +kernel
theorem dX11_thrownForGlass_54 : decode cX11_thrownForGlass 54 = .ok (.iadd, 1) := by decide +kernel
theorem dX11_thrownForGlass_55 : decode cX11_thrownForGlass 55 = .ok (.laload, 1) := by decide +kernel
theorem dX11_thrownForGlass_56 : decode cX11_thrownForGlass 56 = .ok (.iload 5, 2) := by decide +kernel
theorem dX11_thrownForGlass_58 : decode cX11_thrownForGlass 58 = .ok (.i2l, 1) := by decide +kernel
theorem dX11_thrownForGlass_59 : decode cX11_thrownForGlass 59 = .ok (.ladd, 1) := by decide +kernel
theorem dX11_thrownForGlass_60 : decode cX11_thrownForGlass 60 = .ok (.lcmp, 1) := by decide +kernel
theorem dX11_thrownForGlass_61 : decode cX11_thrownForGlass 61 = .ok (.ifCond .gt 27, 3) := by decide +kernel
theorem dX11_thrownForGlass_64 : decode cX11_thrownForGlass 64 = .ok (.aload_n 0, 1) := by decide +kernel
theorem dX11_thrownForGlass_65 : decode cX11_thrownForGlass 65 = .ok (.aload_n 1, 1) := by decide +kernel
theorem dX11_thrownForGlass_66 : decode cX11_thrownForGlass 66 = .ok (.iload 4, 2) := by decide +kernel
theorem dX11_thrownForGlass_68 : decode cX11_thrownForGlass 68 = .ok (.lload 6, 2) := by decide +kernel
theorem dX11_thrownForGlass_70 : decode cX11_thrownForGlass 70 = .ok (.invokevirtual 408, 3) := by decide +kernel
theorem dX11_thrownForGlass_73 : decode cX11_thrownForGlass 73 = .ok (.ifCond .ne 6, 3) := by decide +kernel
theorem dX11_thrownForGlass_76 : decode cX11_thrownForGlass 76 = .ok (.iinc 3 1, 3) := by decide +kernel
theorem dX11_thrownForGlass_79 : decode cX11_thrownForGlass 79 = .ok (.lload 6, 2) := by decide +kernel
theorem dX11_thrownForGlass_81 : decode cX11_thrownForGlass 81 = .ok (.lconst 1, 1) := by decide +kernel
theorem dX11_thrownForGlass_82 : decode cX11_thrownForGlass 82 = .ok (.ladd, 1) := by decide +kernel
theorem dX11_thrownForGlass_83 : decode cX11_thrownForGlass 83 = .ok (.lstore 6, 2) := by decide +kernel
theorem dX11_thrownForGlass_85 : decode cX11_thrownForGlass 85 = .ok (.goto (-39), 3) := by decide +kernel
theorem dX11_thrownForGlass_88 : decode cX11_thrownForGlass 88 = .ok (.iinc 4 1, 3) := by decide +kernel
theorem dX11_thrownForGlass_91 : decode cX11_thrownForGlass 91 = .ok (.goto (-86), 3) := by decide +kernel
theorem dX11_thrownForGlass_94 : decode cX11_thrownForGlass 94 = .ok (.iload_n 3, 1) := by decide +kernel
theorem dX11_thrownForGlass_95 : decode cX11_thrownForGlass 95 = .ok (.ireturn, 1) := by decide +kernel
theorem dX11_thrownAlready_0 : decode cX11_thrownAlready 0 = .ok (.iconst 0, 1) := by decide +kernel
theorem dX11_thrownAlready_1 : decode cX11_thrownAlready 1 = .ok (.istore 5, 2) := by decide +kernel
theorem dX11_thrownAlready_3 : decode cX11_thrownAlready 3 = .ok (.iload 5, 2) := by decide +kernel
theorem dX11_thrownAlready_5 : decode cX11_thrownAlready 5 = .ok (.iload_n 2, 1) := by decide +kernel
theorem dX11_thrownAlready_6 : decode cX11_thrownAlready 6 = .ok (.if_icmp .ge 44, 3) := by decide +kernel
theorem dX11_thrownAlready_9 : decode cX11_thrownAlready 9 = .ok (.aload_n 1, 1) := by decide +kernel
theorem dX11_thrownAlready_10 : decode cX11_thrownAlready 10 = .ok (.iconst 2, 1) := by decide +kernel
theorem dX11_thrownAlready_11 : decode cX11_thrownAlready 11 = .ok (.iload 5, 2) := by decide +kernel
theorem dX11_thrownAlready_13 : decode cX11_thrownAlready 13 = .ok (.imul, 1) := by decide +kernel
theorem dX11_thrownAlready_14 : decode cX11_thrownAlready 14 = .ok (.iconst 1, 1) := by decide +kernel
theorem dX11_thrownAlready_15 : decode cX11_thrownAlready 15 = .ok (.iadd, 1) := by decide +kernel
theorem dX11_thrownAlready_16 : decode cX11_thrownAlready 16 = .ok (.laload, 1) := by decide +kernel
theorem dX11_thrownAlready_17 : decode cX11_thrownAlready 17 = .ok (.lload_n 3, 1) := by decide +kernel
theorem dX11_thrownAlready_18 : decode cX11_thrownAlready 18 = .ok (.lsub, 1) := by decide +kernel
theorem dX11_thrownAlready_19 : decode cX11_thrownAlready 19 = .ok (.invokestatic 412, 3) := by decide +kernel
theorem dX11_thrownAlready_22 : decode cX11_thrownAlready 22 = .ok (.aload_n 0, 1) := by decide +kernel
theorem dX11_thrownAlready_23 : decode cX11_thrownAlready 23 = .ok (.getfield 58, 3) := by decide +kernel
theorem dX11_thrownAlready_26 : decode cX11_thrownAlready 26 = .ok (.getfield 226, 3) := by decide +kernel
theorem dX11_thrownAlready_29 : decode cX11_thrownAlready 29 = .ok (.aload_n 1, 1) := by decide +kernel
theorem dX11_thrownAlready_30 : decode cX11_thrownAlready 30 = .ok (.iconst 2, 1) := by decide +kernel
theorem dX11_thrownAlready_31 : decode cX11_thrownAlready 31 = .ok (.iload 5, 2) := by decide +kernel
theorem dX11_thrownAlready_33 : decode cX11_thrownAlready 33 = .ok (.imul, 1) := by decide +kernel
theorem dX11_thrownAlready_34 : decode cX11_thrownAlready 34 = .ok (.laload, 1) := by decide +kernel
theorem dX11_thrownAlready_35 : decode cX11_thrownAlready 35 = .ok (.l2i, 1) := by decide +kernel
theorem dX11_thrownAlready_36 : decode cX11_thrownAlready 36 = .ok (.iaload, 1) := by decide +kernel
theorem dX11_thrownAlready_37 : decode cX11_thrownAlready 37 = .ok (.i2l, 1) := by decide +kernel
theorem dX11_thrownAlready_38 : decode cX11_thrownAlready 38 = .ok (.lcmp, 1) := by decide +kernel
theorem dX11_thrownAlready_39 : decode cX11_thrownAlready 39 = .ok (.ifCond .gt 5, 3) := by decide +kernel
theorem dX11_thrownAlready_42 : decode cX11_thrownAlready 42 = .ok (.iconst 1, 1) := by decide +kernel
theorem dX11_thrownAlready_43 : decode cX11_thrownAlready 43 = .ok (.ireturn, 1) := by decide +kernel
theorem dX11_thrownAlready_44 : decode cX11_thrownAlready 44 = .ok (.iinc 5 1, 3) := by decide +kernel
theorem dX11_thrownAlready_47 : decode cX11_thrownAlready 47 = .ok (.goto (-44), 3) := by decide +kernel
theorem dX11_thrownAlready_50 : decode cX11_thrownAlready 50 = .ok (.iconst 0, 1) := by decide +kernel
theorem dX11_thrownAlready_51 : decode cX11_thrownAlready 51 = .ok (.ireturn, 1) := by decide +kernel
theorem dX12_init_0 : decode cX12_init 0 = .ok (.aload_n 0, 1) := by decide +kernel
theorem dX12_init_1 : decode cX12_init 1 = .ok (.invokespecial 1, 3) := by decide +kernel
theorem dX12_init_4 : decode cX12_init 4 = .ok (.aload_n 0, 1) := by decide +kernel
theorem dX12_init_5 : decode cX12_init 5 = .ok (.sipush 2640, 3) := by decide +kernel
theorem dX12_init_8 : decode cX12_init 8 = .ok (.newarray .long, 2) := by decide +kernel
theorem dX12_init_10 : decode cX12_init 10 = .ok (.putfield 7, 3) := by decide +kernel
theorem dX12_init_13 : decode cX12_init 13 = .ok (.aload_n 0, 1) := by decide +kernel
theorem dX12_init_14 : decode cX12_init 14 = .ok (.lconst 1, 1) := by decide +kernel
theorem dX12_init_15 : decode cX12_init 15 = .ok (.putfield 13, 3) := by decide +kernel
theorem dX12_init_18 : decode cX12_init 18 = .ok (.aload_n 0, 1) := by decide +kernel
theorem dX12_init_19 : decode cX12_init 19 = .ok (.iconst 4, 1) := by decide +kernel
theorem dX12_init_20 : decode cX12_init 20 = .ok (.newarray .int, 2) := by decide +kernel
theorem dX12_init_22 : decode cX12_init 22 = .ok (.putfield 17, 3) := by decide +kernel
theorem dX12_init_25 : decode cX12_init 25 = .ok (.aload_n 0, 1) := by decide +kernel
theorem dX12_init_26 : decode cX12_init 26 = .ok (.iconst 4, 1) := by decide +kernel
theorem dX12_init_27 : decode cX12_init 27 = .ok (.newarray .int, 2) := by decide +kernel
theorem dX12_init_29 : decode cX12_init 29 = .ok (.dup, 1) := by decide +kernel
theorem dX12_init_30 : decode cX12_init 30 = .ok (.iconst 0, 1) := by decide +kernel
theorem dX12_init_31 : decode cX12_init 31 = .ok (.iconst (-1), 1) := by decide +kernel
theorem dX12_init_32 : decode cX12_init 32 = .ok (.iastore, 1) := by decide +kernel
theorem dX12_init_33 : decode cX12_init 33 = .ok (.dup, 1) := by decide +kernel
theorem dX12_init_34 : decode cX12_init 34 = .ok (.iconst 1, 1) := by decide +kernel
theorem dX12_init_35 : decode cX12_init 35 = .ok (.iconst (-1), 1) := by decide +kernel
theorem dX12_init_36 : decode cX12_init 36 = .ok (.iastore, 1) := by decide +kernel
theorem dX12_init_37 : decode cX12_init 37 = .ok (.dup, 1) := by decide +kernel
theorem dX12_init_38 : decode cX12_init 38 = .ok (.iconst 2, 1) := by decide +kernel
theorem dX12_init_39 : decode cX12_init 39 = .ok (.iconst (-1), 1) := by decide +kernel
theorem dX12_init_40 : decode cX12_init 40 = .ok (.iastore, 1) := by decide +kernel
theorem dX12_init_41 : decode cX12_init 41 = .ok (.dup, 1) := by decide +kernel
theorem dX12_init_42 : decode cX12_init 42 = .ok (.iconst 3, 1) := by decide +kernel
theorem dX12_init_43 : decode cX12_init 43 = .ok (.iconst (-1), 1) := by decide +kernel
theorem dX12_init_44 : decode cX12_init 44 = .ok (.iastore, 1) := by decide +kernel
theorem dX12_init_45 : decode cX12_init 45 = .ok (.putfield 21, 3) := by decide +kernel
theorem dX12_init_48 : decode cX12_init 48 = .ok (.aload_n 0, 1) := by decide +kernel
theorem dX12_init_49 : decode cX12_init 49 = .ok (.sipush 240, 3) := by decide +kernel
theorem dX12_init_52 : decode cX12_init 52 = .ok (.newarray .long, 2) := by decide +kernel
theorem dX12_init_54 : decode cX12_init 54 = .ok (.putfield 24, 3) := by decide +kernel
theorem dX12_init_57 : decode cX12_init 57 = .ok (.aload_n 0, 1) := by decide +kernel
theorem dX12_init_58 : decode cX12_init 58 = .ok (.sipush 700, 3) := by decide +kernel
theorem dX12_init_61 : decode cX12_init 61 = .ok (.newarray .byte, 2) := by decide +kernel
theorem dX12_init_63 : decode cX12_init 63 = .ok (.putfield 27, 3) := by decide +kernel
theorem dX12_init_66 : decode cX12_init 66 = .ok (.aload_n 0, 1) := by decide +kernel
theorem dX12_init_67 : decode cX12_init 67 = .ok (.sipush 700, 3) := by decide +kernel
theorem dX12_init_70 : decode cX12_init 70 = .ok (.newarray .byte, 2) := by decide +kernel
theorem dX12_init_72 : decode cX12_init 72 = .ok (.putfield 31, 3) := by decide +kernel
theorem dX12_init_75 : decode cX12_init 75 = .ok (.aload_n 0, 1) := by decide +kernel
theorem dX12_init_76 : decode cX12_init 76 = .ok (.iconst (-1), 1) := by decide +kernel
theorem dX12_init_77 : decode cX12_init 77 = .ok (.putfield 34, 3) := by decide +kernel
theorem dX12_init_80 : decode cX12_init 80 = .ok (.aload_n 0, 1) := by decide +kernel
theorem dX12_init_81 : decode cX12_init 81 = .ok (.iconst (-1), 1) := by decide +kernel
theorem dX12_init_82 : decode cX12_init 82 = .ok (.putfield 38, 3) := by decide +kernel
theorem dX12_init_85 : decode cX12_init 85 = .ok (.aload_n 0, 1) := by decide +kernel
theorem dX12_init_86 : decode cX12_init 86 = .ok (.bipush 7, 2) := by decide +kernel
theorem dX12_init_88 : decode cX12_init 88 = .ok (.newarray .long, 2) := by decide +kernel
theorem dX12_init_90 : decode cX12_init 90 = .ok (.putfield 41, 3) := by decide +kernel
theorem dX12_init_93 : decode cX12_init 93 = .ok (.aload_n 0, 1) := by decide +kernel
theorem dX12_init_94 : decode cX12_init 94 = .ok (.bipush 49, 2) := by decide +kernel
theorem dX12_init_96 : decode cX12_init 96 = .ok (.newarray .boolean, 2) := by decide +kernel
theorem dX12_init_98 : decode cX12_init 98 = .ok (.putfield 44, 3) := by decide +kernel
theorem dX12_init_101 : decode cX12_init 101 = .ok (.aload_n 0, 1) := by decide +kernel
theorem dX12_init_102 : decode cX12_init 102 = .ok (.iconst 3, 1) := by decide +kernel
theorem dX12_init_103 : decode cX12_init 103 = .ok (.newarray .int, 2) := by decide +kernel
theorem dX12_init_105 : decode cX12_init 105 = .ok (.putfield 48, 3) := by decide +kernel
theorem dX12_init_108 : decode cX12_init 108 = .ok (.aload_n 0, 1) := by decide +kernel
theorem dX12_init_109 : decode cX12_init 109 = .ok (.iconst 5, 1) := by decide +kernel
theorem dX12_init_110 : decode cX12_init 110 = .ok (.newarray .int, 2) := by decide +kernel
theorem dX12_init_112 : decode cX12_init 112 = .ok (.putfield 51, 3) := by decide +kernel
theorem dX12_init_115 : decode cX12_init 115 = .ok (.aload_n 0, 1) := by decide +kernel
theorem dX12_init_116 : decode cX12_init 116 = .ok (.iconst 5, 1) := by decide +kernel
theorem dX12_init_117 : decode cX12_init 117 = .ok (.newarray .int, 2) := by decide +kernel
theorem dX12_init_119 : decode cX12_init 119 = .ok (.putfield 54, 3) := by decide +kernel
theorem dX12_init_122 : decode cX12_init 122 = .ok (.aload_n 0, 1) := by decide +kernel
theorem dX12_init_123 : decode cX12_init 123 = .ok (.bipush 64, 2) := by decide +kernel
theorem dX12_init_125 : decode cX12_init 125 = .ok (.newarray .int, 2) := by decide +kernel
theorem dX12_init_127 : decode cX12_init 127 = .ok (.putfield 57, 3) := by decide +kernel
theorem dX12_init_130 : decode cX12_init 130 = .ok (.aload_n 0, 1) := by decide +kernel
theorem dX12_init_131 : decode cX12_init 131 = .ok (.iconst (-1), 1) := by decide +kernel
theorem dX12_init_132 : decode cX12_init 132 = .ok (.putfield 60, 3) := by decide +kernel
theorem dX12_init_135 : decode cX12_init 135 = .ok (.aload_n 0, 1) := by decide +kernel
theorem dX12_init_136 : decode cX12_init 136 = .ok (.sipush 10000, 3) := by decide +kernel
theorem dX12_init_139 : decode cX12_init 139 = .ok (.newarray .boolean, 2) := by decide +kernel
theorem dX12_init_141 : decode cX12_init 141 = .ok (.putfield 63, 3) := by decide +kernel
theorem dX12_init_144 : decode cX12_init 144 = .ok (.aload_n 0, 1) := by decide +kernel
theorem dX12_init_145 : decode cX12_init 145 = .ok (.sipush 144, 3) := by decide +kernel
theorem dX12_init_148 : decode cX12_init 148 = .ok (.newarray .int, 2) := by decide +kernel
theorem dX12_init_150 : decode cX12_init 150 = .ok (.putfield 66, 3) := by decide +kernel
theorem dX12_init_153 : decode cX12_init 153 = .ok (.aload_n 0, 1) := by decide +kernel
theorem dX12_init_154 : decode cX12_init 154 = .ok (.sipush 144, 3) := by decide +kernel
theorem dX12_init_157 : decode cX12_init 157 = .ok (.newarray .int, 2) := by decide +kernel
theorem dX12_init_159 : decode cX12_init 159 = .ok (.putfield 69, 3) := by decide +kernel
theorem dX12_init_162 : decode cX12_init 162 = .ok (.aload_n 0, 1) := by decide +kernel
theorem dX12_init_163 : decode cX12_init 163 = .ok (.sipush 144, 3) := by decide +kernel
theorem dX12_init_166 : decode cX12_init 166 = .ok (.newarray .int, 2) := by decide +kernel
theorem dX12_init_168 : decode cX12_init 168 = .ok (.putfield 72, 3) := by decide +kernel
theorem dX12_init_171 : decode cX12_init 171 = .ok (.aload_n 0, 1) := by decide +kernel
theorem dX12_init_172 : decode cX12_init 172 = .ok (.bipush 60, 2) := by decide +kernel
theorem dX12_init_174 : decode cX12_init 174 = .ok (.newarray .int, 2) := by decide +kernel
theorem dX12_init_176 : decode cX12_init 176 = .ok (.putfield 75, 3) := by decide +kernel
theorem dX12_init_179 : decode cX12_init 179 = .ok (.aload_n 0, 1) := by decide +kernel
theorem dX12_init_180 : decode cX12_init 180 = .ok (.iconst 4, 1) := by decide +kernel
theorem dX12_init_181 : decode cX12_init 181 = .ok (.newarray .int, 2) := by decide +kernel
theorem dX12_init_183 : decode cX12_init 183 = .ok (.putfield 78, 3) := by decide +kernel
theorem dX12_init_186 : decode cX12_init 186 = .ok (.aload_n 0, 1) := by decide +kernel
theorem dX12_init_187 : decode cX12_init 187 = .ok (.iconst (-1), 1) := by decide +kernel
theorem dX12_init_188 : decode cX12_init 188 = .ok (.putfield 81, 3) := by decide +kernel
theorem dX12_init_191 : decode cX12_init 191 = .ok (.aload_n 0, 1) := by decide +kernel
theorem dX12_init_192 : decode cX12_init 192 = .ok (.sipush 10200, 3) := by decide +kernel
theorem dX12_init_195 : decode cX12_init 195 = .ok (.newarray .boolean, 2) := by decide +kernel
theorem dX12_init_197 : decode cX12_init 197 = .ok (.putfield 84, 3) := by decide +kernel
theorem dX12_init_200 : decode cX12_init 200 = .ok (.aload_n 0, 1) := by decide +kernel
theorem dX12_init_201 : decode cX12_init 201 = .ok (.sipush 896, 3) := by decide +kernel
theorem dX12_init_204 : decode cX12_init 204 = .ok (.newarray .int, 2) := by decide +kernel
theorem dX12_init_206 : decode cX12_init 206 = .ok (.putfield 87, 3) := by decide +kernel
theorem dX12_init_209 : decode cX12_init 209 = .ok (.aload_n 0, 1) := by decide +kernel
theorem dX12_init_210 : decode cX12_init 210 = .ok (.bipush 7, 2) := by decide +kernel
theorem dX12_init_212 : decode cX12_init 212 = .ok (.newarray .int, 2) := by decide +kernel
theorem dX12_init_214 : decode cX12_init 214 = .ok (.putfield 90, 3) := by decide +kernel
theorem dX12_init_217 : decode cX12_init 217 = .ok (.aload_n 0, 1) := by decide +kernel
theorem dX12_init_218 : decode cX12_init 218 = .ok (.bipush 8, 2) := by decide +kernel
theorem dX12_init_220 : decode cX12_init 220 = .ok (.newarray .int, 2) := by decide +kernel
theorem dX12_init_222 : decode cX12_init 222 = .ok (.putfield 93, 3) := by decide +kernel
theorem dX12_init_225 : decode cX12_init 225 = .ok (.aload_n 0, 1) := by decide +kernel
theorem dX12_init_226 : decode cX12_init 226 = .ok (.bipush 8, 2) := by decide +kernel
theorem dX12_init_228 : decode cX12_init 228 = .ok (.newarray .int, 2) := by decide +kernel
theorem dX12_init_230 : decode cX12_init 230 = .ok (.putfield 96, 3) := by decide +kernel
theorem dX12_init_233 : decode cX12_init 233 = .ok (.aload_n 0, 1) := by decide +kernel
theorem dX12_init_234 : decode cX12_init 234 = .ok (.bipush 8, 2) := by decide +kernel
theorem dX12_init_236 : decode cX12_init 236 = .ok (.newarray .int, 2) := by decide +kernel
theorem dX12_init_238 : decode cX12_init 238 = .ok (.putfield 99, 3) := by decide +kernel
theorem dX12_init_241 : decode cX12_init 241 = .ok (.return_, 1) := by decide +kernel
theorem dX12_status_0 : decode cX12_status 0 = .ok (.aload_n 0, 1) := by decide +kernel
theorem dX12_status_1 : decode cX12_status 1 = .ok (.getfield 102, 3) := by decide +kernel
theorem dX12_status_4 : decode cX12_status 4 = .ok (.ireturn, 1) := by decide +kernel
theorem dX12_top_0 : decode cX12_top 0 = .ok (.aload_n 0, 1) := by decide +kernel
theorem dX12_top_1 : decode cX12_top 1 = .ok (.getfield 105, 3) := by decide +kernel
theorem dX12_top_4 : decode cX12_top 4 = .ok (.lreturn, 1) := by decide +kernel
theorem dX12_bottom_0 : decode cX12_bottom 0 = .ok (.aload_n 0, 1) := by decide +kernel
theorem dX12_bottom_1 : decode cX12_bottom 1 = .ok (.getfield 13, 3) := by decide +kernel
theorem dX12_bottom_4 : decode cX12_bottom 4 = .ok (.lreturn, 1) := by decide +kernel
theorem dX12_is_0 : decode cX12_is 0 = .ok (.aload_n 0, 1) := by decide +kernel
theorem dX12_is_1 : decode cX12_is 1 = .ok (.iload_n 1, 1) := by decide +kernel
theorem dX12_is_2 : decode cX12_is 2 = .ok (.putfield 102, 3) := by decide +kernel
theorem dX12_is_5 : decode cX12_is 5 = .ok (.iload_n 1, 1) := by decide +kernel
theorem dX12_is_6 : decode cX12_is 6 = .ok (.ifCond .ne 7, 3) := by decide +kernel
theorem dX12_is_9 : decode cX12_is 9 = .ok (.iconst 1, 1) := by decide +kernel
theorem dX12_is_10 : decode cX12_is 10 = .ok (.goto 4, 3) := by decide +kernel
theorem dX12_is_13 : decode cX12_is 13 = .ok (.iconst 0, 1) := by decide +kernel
theorem dX12_is_14 : decode cX12_is 14 = .ok (.ireturn, 1) := by decide +kernel
theorem dX12_refuse_0 : decode cX12_refuse 0 = .ok (.aload_n 0, 1) := by decide +kernel
theorem dX12_refuse_1 : decode cX12_refuse 1 = .ok (.iload_n 1, 1) := by decide +kernel
theorem dX12_refuse_2 : decode cX12_refuse 2 = .ok (.putfield 102, 3) := by decide +kernel
theorem dX12_refuse_5 : decode cX12_refuse 5 = .ok (.iconst (-1), 1) := by decide +kernel
theorem dX12_refuse_6 : decode cX12_refuse 6 = .ok (.ireturn, 1) := by decide +kernel
theorem dX12_gives_0 : decode cX12_gives 0 = .ok (.aload_n 0, 1) := by decide +kernel
theorem dX12_gives_1 : decode cX12_gives 1 = .ok (.iconst 0, 1) := by decide +kernel
theorem dX12_gives_2 : decode cX12_gives 2 = .ok (.putfield 102, 3) := by decide +kernel
theorem dX12_gives_5 : decode cX12_gives 5 = .ok (.lload_n 1, 1) := by decide +kernel
theorem dX12_gives_6 : decode cX12_gives 6 = .ok (.l2i, 1) := by decide +kernel
theorem dX12_gives_7 : decode cX12_gives 7 = .ok (.ireturn, 1) := by decide +kernel
theorem dX12_isTray_0 : decode cX12_isTray 0 = .ok (.iload_n 0, 1) := by decide +kernel
theorem dX12_isTray_1 : decode cX12_isTray 1 = .ok (.ifCond .lt 12, 3) := by decide +kernel
theorem dX12_isTray_4 : decode cX12_isTray 4 = .ok (.iload_n 0, 1) := by decide +kernel
theorem dX12_isTray_5 : decode cX12_isTray 5 = .ok (.iconst 4, 1) := by decide +kernel
theorem dX12_isTray_6 : decode cX12_isTray 6 = .ok (.if_icmp .ge 7, 3) := by decide +kernel
theorem dX12_isTray_9 : decode cX12_isTray 9 = .ok (.iconst 1, 1) := by decide +kernel
theorem dX12_isTray_10 : decode cX12_isTray 10 = .ok (.goto 4, 3) := by decide +kernel
theorem dX12_isTray_13 : decode cX12_isTray 13 = .ok (.iconst 0, 1) := by decide +kernel
theorem dX12_isTray_14 : decode cX12_isTray 14 = .ok (.ireturn, 1) := by decide +kernel
theorem dX12_cut_0 : decode cX12_cut 0 = .ok (.iload_n 2, 1) := by decide +kernel
theorem dX12_cut_1 : decode cX12_cut 1 = .ok (.ifCond .ne 10, 3) := by decide +kernel
theorem dX12_cut_4 : decode cX12_cut 4 = .ok (.lload_n 0, 1) := by decide +kernel
theorem dX12_cut_5 : decode cX12_cut 5 = .ok (.l2i, 1) := by decide +kernel
theorem dX12_cut_6 : decode cX12_cut 6 = .ok (.i2b, 1) := by decide +kernel
theorem dX12_cut_7 : decode cX12_cut 7 = .ok (.i2l, 1) := by decide +kernel
theorem dX12_cut_8 : decode cX12_cut 8 = .ok (.goto 27, 3) := by decide +kernel
theorem dX12_cut_11 : decode cX12_cut 11 = .ok (.iload_n 2, 1) := by decide +kernel
theorem dX12_cut_12 : decode cX12_cut 12 = .ok (.iconst 1, 1) := by decide +kernel
theorem dX12_cut_13 : decode cX12_cut 13 = .ok (.if_icmp .ne 10, 3) := by decide +kernel
theorem dX12_cut_16 : decode cX12_cut 16 = .ok (.lload_n 0, 1) := by decide +kernel
theorem dX12_cut_17 : decode cX12_cut 17 = .ok (.l2i, 1) := by decide +kernel
theorem dX12_cut_18 : decode cX12_cut 18 = .ok (.i2s, 1) := by decide +kernel
theorem dX12_cut_19 : decode cX12_cut 19 = .ok (.i2l, 1) := by decide +kernel
theorem dX12_cut_20 : decode cX12_cut 20 = .ok (.goto 15, 3) := by decide +kernel
theorem dX12_cut_23 : decode cX12_cut 23 = .ok (.iload_n 2, 1) := by decide +kernel
theorem dX12_cut_24 : decode cX12_cut 24 = .ok (.iconst 2, 1) := by decide +kernel
theorem dX12_cut_25 : decode cX12_cut 25 = .ok (.if_icmp .ne 9, 3) := by decide +kernel
theorem dX12_cut_28 : decode cX12_cut 28 = .ok (.lload_n 0, 1) := by decide +kernel
theorem dX12_cut_29 : decode cX12_cut 29 = .ok (.l2i, 1) := by decide +kernel
theorem dX12_cut_30 : decode cX12_cut 30 = .ok (.i2l, 1) := by decide +kernel
theorem dX12_cut_31 : decode cX12_cut 31 = .ok (.goto 4, 3) := by decide +kernel
theorem dX12_cut_34 : decode cX12_cut 34 = .ok (.lload_n 0, 1) := by decide +kernel
theorem dX12_cut_35 : decode cX12_cut 35 = .ok (.lreturn, 1) := by decide +kernel
theorem dX12_tray_0 : decode cX12_tray 0 = .ok (.iload_n 1, 1) := by decide +kernel
theorem dX12_tray_1 : decode cX12_tray 1 = .ok (.invokestatic 108, 3) := by decide +kernel
theorem dX12_tray_4 : decode cX12_tray 4 = .ok (.ifCond .eq 22, 3) := by decide +kernel
theorem dX12_tray_7 : decode cX12_tray 7 = .ok (.iload_n 2, 1) := by decide +kernel
theorem dX12_tray_8 : decode cX12_tray 8 = .ok (.ifCond .lt 18, 3) := by decide +kernel
theorem dX12_tray_11 : decode cX12_tray 11 = .ok (.iload_n 2, 1) := by decide +kernel
theorem dX12_tray_12 : decode cX12_tray 12 = .ok (.iconst 3, 1) := by decide +kernel
theorem dX12_tray_13 : decode cX12_tray 13 = .ok (.if_icmp .gt 13, 3) := by decide +kernel
theorem dX12_tray_16 : decode cX12_tray 16 = .ok (.iload_n 3, 1) := by decide +kernel
theorem dX12_tray_17 : decode cX12_tray 17 = .ok (.ifCond .lt 9, 3) := by decide +kernel
theorem dX12_tray_20 : decode cX12_tray 20 = .ok (.iload_n 3, 1) := by decide +kernel
theorem dX12_tray_21 : decode cX12_tray 21 = .ok (.bipush 60, 2) := by decide +kernel
theorem dX12_tray_23 : decode cX12_tray 23 = .ok (.if_icmp .le 9, 3) := by decide +kernel
theorem dX12_tray_26 : decode cX12_tray 26 = .ok (.aload_n 0, 1) := by decide +kernel
theorem dX12_tray_27 : decode cX12_tray 27 = .ok (.iconst 1, 1) := by decide +kernel
theorem dX12_tray_28 : decode cX12_tray 28 = .ok (.invokevirtual 112, 3) := by decide +kernel
theorem dX12_tray_31 : decode cX12_tray 31 = .ok (.ireturn, 1) := by decide +kernel
theorem dX12_tray_32 : decode cX12_tray 32 = .ok (.aload_n 0, 1) := by decide +kernel
theorem dX12_tray_33 : decode cX12_tray 33 = .ok (.getfield 17, 3) := by decide +kernel
theorem dX12_tray_36 : decode cX12_tray 36 = .ok (.iload_n 1, 1) := by decide +kernel
theorem dX12_tray_37 : decode cX12_tray 37 = .ok (.iload_n 2, 1) := by decide +kernel
theorem dX12_tray_38 : decode cX12_tray 38 = .ok (.iastore, 1) := by decide +kernel
theorem dX12_tray_39 : decode cX12_tray 39 = .ok (.aload_n 0, 1) := by decide +kernel
theorem dX12_tray_40 : decode cX12_tray 40 = .ok (.getfield 21, 3) := by decide +kernel
theorem dX12_tray_43 : decode cX12_tray 43 = .ok (.iload_n 1, 1) := by decide +kernel
theorem dX12_tray_44 : decode cX12_tray 44 = .ok (.iload_n 3, 1) := by decide +kernel
theorem dX12_tray_45 : decode cX12_tray 45 = .ok (.iastore, 1) := by decide +kernel
theorem dX12_tray_46 : decode cX12_tray 46 = .ok (.iconst 0, 1) := by decide +kernel
theorem dX12_tray_47 : decode cX12_tray 47 = .ok (.istore 4, 2) := by decide +kernel
theorem dX12_tray_49 : decode cX12_tray 49 = .ok (.iload 4, 2) := by decide +kernel
theorem dX12_tray_51 : decode cX12_tray 51 = .ok (.iload_n 3, 1) := by decide +kernel
theorem dX12_tray_52 : decode cX12_tray 52 = .ok (.if_icmp .ge 22, 3) := by decide +kernel
theorem dX12_tray_55 : decode cX12_tray 55 = .ok (.aload_n 0, 1) := by decide +kernel
theorem dX12_tray_56 : decode cX12_tray 56 = .ok (.getfield 24, 3) := by decide +kernel
theorem dX12_tray_59 : decode cX12_tray 59 = .ok (.bipush 60, 2) := by decide +kernel
theorem dX12_tray_61 : decode cX12_tray 61 = .ok (.iload_n 1, 1) := by decide +kernel
theorem dX12_tray_62 : decode cX12_tray 62 = .ok (.imul, 1) := by decide +kernel
theorem dX12_tray_63 : decode cX12_tray 63 = .ok (.iload 4, 2) := by decide +kernel
theorem dX12_tray_65 : decode cX12_tray 65 = .ok (.iadd, 1) := by decide +kernel
theorem dX12_tray_66 : decode cX12_tray 66 = .ok (.lconst 0, 1) := by decide +kernel
theorem dX12_tray_67 : decode cX12_tray 67 = .ok (.lastore, 1) := by decide +kernel
theorem dX12_tray_68 : decode cX12_tray 68 = .ok (.iinc 4 1, 3) := by decide +kernel
theorem dX12_tray_71 : decode cX12_tray 71 = .ok (.goto (-22), 3) := by decide +kernel
theorem dX12_tray_74 : decode cX12_tray 74 = .ok (.aload_n 0, 1) := by decide +kernel
theorem dX12_tray_75 : decode cX12_tray 75 = .ok (.iconst 0, 1) := by decide +kernel
theorem dX12_tray_76 : decode cX12_tray 76 = .ok (.invokevirtual 112, 3) := by decide +kernel
theorem dX12_tray_79 : decode cX12_tray 79 = .ok (.ireturn, 1) := by decide +kernel
theorem dX12_wrongPlace_0 : decode cX12_wrongPlace 0 = .ok (.iload_n 1, 1) := by decide +kernel
theorem dX12_wrongPlace_1 : decode cX12_wrongPlace 1 = .ok (.invokestatic 108, 3) := by decide +kernel
theorem dX12_wrongPlace_4 : decode cX12_wrongPlace 4 = .ok (.ifCond .ne 7, 3) := by decide +kernel
theorem dX12_wrongPlace_7 : decode cX12_wrongPlace 7 = .ok (.iconst 1, 1) := by decide +kernel
theorem dX12_wrongPlace_8 : decode cX12_wrongPlace 8 = .ok (.goto 36, 3) := by decide +kernel
theorem dX12_wrongPlace_11 : decode cX12_wrongPlace 11 = .ok (.aload_n 0, 1) := by decide +kernel
theorem dX12_wrongPlace_12 : decode cX12_wrongPlace 12 = .ok (.getfield 21, 3) := by decide +kernel
theorem dX12_wrongPlace_15 : decode cX12_wrongPlace 15 = .ok (.iload_n 1, 1) := by decide +kernel
theorem dX12_wrongPlace_16 : decode cX12_wrongPlace 16 = .ok (.iaload, 1) := by decide +kernel
theorem dX12_wrongPlace_17 : decode cX12_wrongPlace 17 = .ok (.iconst (-1), 1) := by decide +kernel
theorem dX12_wrongPlace_18 : decode cX12_wrongPlace 18 = .ok (.if_icmp .ne 7, 3) := by decide +kernel
theorem dX12_wrongPlace_21 : decode cX12_wrongPlace 21 = .ok (.iconst 2, 1) := by decide +kernel
theorem dX12_wrongPlace_22 : decode cX12_wrongPlace 22 = .ok (.goto 22, 3) := by decide +kernel
theorem dX12_wrongPlace_25 : decode cX12_wrongPlace 25 = .ok (.iload_n 2, 1) := by decide +kernel
theorem dX12_wrongPlace_26 : decode cX12_wrongPlace 26 = .ok (.ifCond .lt 13, 3) := by decide +kernel
theorem dX12_wrongPlace_29 : decode cX12_wrongPlace 29 = .ok (.iload_n 2, 1) := by decide +kernel
theorem dX12_wrongPlace_30 : decode cX12_wrongPlace 30 = .ok (.aload_n 0, 1) := by decide +kernel
theorem dX12_wrongPlace_31 : decode cX12_wrongPlace 31 = .ok (.getfield 21, 3) := by decide +kernel
theorem dX12_wrongPlace_34 : decode cX12_wrongPlace 34 = .ok (.iload_n 1, 1) := by decide +kernel
theorem dX12_wrongPlace_35 : decode cX12_wrongPlace 35 = .ok (.iaload, 1) := by decide +kernel
theorem dX12_wrongPlace_36 : decode cX12_wrongPlace 36 = .ok (.if_icmp .lt 7, 3) := by decide +kernel
theorem dX12_wrongPlace_39 : decode cX12_wrongPlace 39 = .ok (.iconst 3, 1) := by decide +kernel
theorem dX12_wrongPlace_40 : decode cX12_wrongPlace 40 = .ok (.goto 4, 3) := by decide +kernel
theorem dX12_wrongPlace_43 : decode cX12_wrongPlace 43 = .ok (.iconst 0, 1) := by decide +kernel
theorem dX12_wrongPlace_44 : decode cX12_wrongPlace 44 = .ok (.ireturn, 1) := by decide +kernel
theorem dX12_write_0 : decode cX12_write 0 = .ok (.aload_n 0, 1) := by decide +kernel
theorem dX12_write_1 : decode cX12_write 1 = .ok (.iload_n 1, 1) := by decide +kernel
theorem dX12_write_2 : decode cX12_write 2 = .ok (.iload_n 2, 1) := by decide +kernel
theorem dX12_write_3 : decode cX12_write 3 = .ok (.invokevirtual 115, 3) := by decide +kernel
theorem dX12_write_6 : decode cX12_write 6 = .ok (.istore 5, 2) := by decide +kernel
theorem dX12_write_8 : decode cX12_write 8 = .ok (.iload 5, 2) := by decide +kernel
theorem dX12_write_10 : decode cX12_write 10 = .ok (.ifCond .ne 24, 3) := by decide +kernel
theorem dX12_write_13 : decode cX12_write 13 = .ok (.aload_n 0, 1) := by decide +kernel
theorem dX12_write_14 : decode cX12_write 14 = .ok (.getfield 24, 3) := by decide +kernel
theorem dX12_write_17 : decode cX12_write 17 = .ok (.bipush 60, 2) := by decide +kernel
theorem dX12_write_19 : decode cX12_write 19 = .ok (.iload_n 1, 1) := by decide +kernel
theorem dX12_write_20 : decode cX12_write 20 = .ok (.imul, 1) := by decide +kernel
theorem dX12_write_21 : decode cX12_write 21 = .ok (.iload_n 2, 1) := by decide +kernel
theorem dX12_write_22 : decode cX12_write 22 = .ok (.iadd, 1) := by decide +kernel
theorem dX12_write_23 : decode cX12_write 23 = .ok (.lload_n 3, 1) := by decide +kernel
theorem dX12_write_24 : decode cX12_write 24 = .ok (.aload_n 0, 1) := by decide +kernel
theorem dX12_write_25 : decode cX12_write 25 = .ok (.getfield 17, 3) := by decide +kernel
theorem dX12_write_28 : decode cX12_write 28 = .ok (.iload_n 1, 1) := by decide +kernel
theorem dX12_write_29 : decode cX12_write 29 = .ok (.iaload, 1) := by decide +kernel
theorem dX12_write_30 : decode cX12_write 30 = .ok (.invokestatic 119, 3) := by decide +kernel
theorem dX12_write_33 : decode cX12_write 33 = .ok (.lastore, 1) := by decide +kernel
theorem dX12_write_34 : decode cX12_write 34 = .ok (.aload_n 0, 1) := by decide +kernel
theorem dX12_write_35 : decode cX12_write 35 = .ok (.iload 5, 2) := by decide +kernel
theorem dX12_write_37 : decode cX12_write 37 = .ok (.invokevirtual 112, 3) := by decide +kernel
theorem dX12_write_40 : decode cX12_write 40 = .ok (.ireturn, 1) := by decide +kernel
theorem dX12_read_0 : decode cX12_read 0 = .ok (.aload_n 0, 1) := by decide +kernel
theorem dX12_read_1 : decode cX12_read 1 = .ok (.aload_n 0, 1) := by decide +kernel
theorem dX12_read_2 : decode cX12_read 2 = .ok (.iload_n 1, 1) := by decide +kernel
theorem dX12_read_3 : decode cX12_read 3 = .ok (.iload_n 2, 1) := by decide +kernel
theorem dX12_read_4 : decode cX12_read 4 = .ok (.invokevirtual 115, 3) := by decide +kernel
theorem dX12_read_7 : decode cX12_read 7 = .ok (.putfield 102, 3) := by decide +kernel
theorem dX12_read_10 : decode cX12_read 10 = .ok (.aload_n 0, 1) := by decide +kernel
theorem dX12_read_11 : decode cX12_read 11 = .ok (.getfield 102, 3) := by decide +kernel
theorem dX12_read_14 : decode cX12_read 14 = .ok (.ifCond .le 9, 3) := by decide +kernel
theorem dX12_read_17 : decode cX12_read 17 = .ok (.ldc2_w 123, 3) := by decide +kernel
theorem dX12_read_20 : decode cX12_read 20 = .ok (.goto 14, 3) := by decide +kernel
theorem dX12_read_23 : decode cX12_read 23 = .ok (.aload_n 0, 1) := by decide +kernel
theorem dX12_read_24 : decode cX12_read 24 = .ok (.getfield 24, 3) := by decide +kernel
theorem dX12_read_27 : decode cX12_read 27 = .ok (.bipush 60, 2) := by decide +kernel
theorem dX12_read_29 : decode cX12_read 29 = .ok (.iload_n 1, 1) := by decide +kernel
theorem dX12_read_30 : decode cX12_read 30 = .ok (.imul, 1) := by decide +kernel
theorem dX12_read_31 : decode cX12_read 31 = .ok (.iload_n 2, 1) := by decide +kernel
theorem dX12_read_32 : decode cX12_read 32 = .ok (.iadd, 1) := by decide +kernel
theorem dX12_read_33 : decode cX12_read 33 = .ok (.laload, 1) := by decide +kernel
theorem dX12_read_34 : decode cX12_read 34 = .ok (.lreturn, 1) := by decide +kernel
theorem dX12_pour_0 : decode cX12_pour 0 = .ok (.iload_n 1, 1) := by decide +kernel
theorem dX12_pour_1 : decode cX12_pour 1 = .ok (.invokestatic 108, 3) := by decide +kernel
theorem dX12_pour_4 : decode cX12_pour 4 = .ok (.ifCond .eq 24, 3) := by decide +kernel
theorem dX12_pour_7 : decode cX12_pour 7 = .ok (.iload_n 3, 1) := by decide +kernel
theorem dX12_pour_8 : decode cX12_pour 8 = .ok (.invokestatic 108, 3) := by decide +kernel
theorem dX12_pour_11 : decode cX12_pour 11 = .ok (.ifCond .eq 17, 3) := by decide +kernel
theorem dX12_pour_14 : decode cX12_pour 14 = .ok (.iload_n 2, 1) := by decide +kernel
theorem dX12_pour_15 : decode cX12_pour 15 = .ok (.ifCond .lt 13, 3) := by decide +kernel
theorem dX12_pour_18 : decode cX12_pour 18 = .ok (.iload 4, 2) := by decide +kernel
theorem dX12_pour_20 : decode cX12_pour 20 = .ok (.ifCond .lt 8, 3) := by decide +kernel
theorem dX12_pour_23 : decode cX12_pour 23 = .ok (.iload 5, 2) := by decide +kernel
theorem dX12_pour_25 : decode cX12_pour 25 = .ok (.ifCond .ge 9, 3) := by decide +kernel
theorem dX12_pour_28 : decode cX12_pour 28 = .ok (.aload_n 0, 1) := by decide +kernel
theorem dX12_pour_29 : decode cX12_pour 29 = .ok (.iconst 1, 1) := by decide +kernel
theorem dX12_pour_30 : decode cX12_pour 30 = .ok (.invokevirtual 112, 3) := by decide +kernel
theorem dX12_pour_33 : decode cX12_pour 33 = .ok (.ireturn, 1) := by decide +kernel
theorem dX12_pour_34 : decode cX12_pour 34 = .ok (.aload_n 0, 1) := by decide +kernel
theorem dX12_pour_35 : decode cX12_pour 35 = .ok (.getfield 21, 3) := by decide +kernel
theorem dX12_pour_38 : decode cX12_pour 38 = .ok (.iload_n 1, 1) := by decide +kernel
theorem dX12_pour_39 : decode cX12_pour 39 = .ok (.iaload, 1) := by decide +kernel
theorem dX12_pour_40 : decode cX12_pour 40 = .ok (.iconst (-1), 1) := by decide +kernel
theorem dX12_pour_41 : decode cX12_pour 41 = .ok (.if_icmp .eq 13, 3) := by decide +kernel
theorem dX12_pour_44 : decode cX12_pour 44 = .ok (.aload_n 0, 1) := by decide +kernel
theorem dX12_pour_45 : decode cX12_pour 45 = .ok (.getfield 21, 3) := by decide +kernel
theorem dX12_pour_48 : decode cX12_pour 48 = .ok (.iload_n 3, 1) := by decide +kernel
theorem dX12_pour_49 : decode cX12_pour 49 = .ok (.iaload, 1) := by decide +kernel
theorem dX12_pour_50 : decode cX12_pour 50 = .ok (.iconst (-1), 1) := by decide +kernel
theorem dX12_pour_51 : decode cX12_pour 51 = .ok (.if_icmp .ne 9, 3) := by decide +kernel
theorem dX12_pour_54 : decode cX12_pour 54 = .ok (.aload_n 0, 1) := by decide +kernel
theorem dX12_pour_55 : decode cX12_pour 55 = .ok (.iconst 2, 1) := by decide +kernel
theorem dX12_pour_56 : decode cX12_pour 56 = .ok (.invokevirtual 112, 3) := by decide +kernel
theorem dX12_pour_59 : decode cX12_pour 59 = .ok (.ireturn, 1) := by decide +kernel
theorem dX12_pour_60 : decode cX12_pour 60 = .ok (.aload_n 0, 1) := by decide +kernel
theorem dX12_pour_61 : decode cX12_pour 61 = .ok (.getfield 17, 3) := by decide +kernel
theorem dX12_pour_64 : decode cX12_pour 64 = .ok (.iload_n 1, 1) := by decide +kernel
theorem dX12_pour_65 : decode cX12_pour 65 = .ok (.iaload, 1) := by decide +kernel
theorem dX12_pour_66 : decode cX12_pour 66 = .ok (.aload_n 0, 1) := by decide +kernel
theorem dX12_pour_67 : decode cX12_pour 67 = .ok (.getfield 17, 3) := by decide +kernel
theorem dX12_pour_70 : decode cX12_pour 70 = .ok (.iload_n 3, 1) := by decide +kernel
theorem dX12_pour_71 : decode cX12_pour 71 = .ok (.iaload, 1) := by decide +kernel
theorem dX12_pour_72 : decode cX12_pour 72 = .ok (.if_icmp .eq 10, 3) := by decide +kernel
theorem dX12_pour_75 : decode cX12_pour 75 = .ok (.aload_n 0, 1) := by decide +kernel
theorem dX12_pour_76 : decode cX12_pour 76 = .ok (.bipush 8, 2) := by decide +kernel
theorem dX12_pour_78 : decode cX12_pour 78 = .ok (.invokevirtual 112, 3) := by decide +kernel
theorem dX12_pour_81 : decode cX12_pour 81 = .ok (.ireturn, 1) := by decide +kernel
theorem dX12_pour_82 : decode cX12_pour 82 = .ok (.iload 5, 2) := by decide +kernel
theorem dX12_pour_84 : decode cX12_pour 84 = .ok (.aload_n 0, 1) := by decide +kernel
theorem dX12_pour_85 : decode cX12_pour 85 = .ok (.getfield 21, 3) := by decide +kernel
theorem dX12_pour_88 : decode cX12_pour 88 = .ok (.iload_n 1, 1) := by decide +kernel
theorem dX12_pour_89 : decode cX12_pour 89 = .ok (.iaload, 1) := by decide +kernel
theorem dX12_pour_90 : decode cX12_pour 90 = .ok (.iload_n 2, 1) := by decide +kernel
theorem dX12_pour_91 : decode cX12_pour 91 = .ok (.isub, 1) := by decide +kernel
theorem dX12_pour_92 : decode cX12_pour 92 = .ok (.if_icmp .gt 17, 3) := by decide +kernel
theorem dX12_pour_95 : decode cX12_pour 95 = .ok (.iload 5, 2) := by decide +kernel
theorem dX12_pour_97 : decode cX12_pour 97 = .ok (.aload_n 0, 1) := by decide +kernel
theorem dX12_pour_98 : decode cX12_pour 98 = .ok (.getfield 21, 3) := by decide +kernel
theorem dX12_pour_101 : decode cX12_pour 101 = .ok (.iload_n 3, 1) := by decide +kernel
theorem dX12_pour_102 : decode cX12_pour 102 = .ok (.iaload, 1) := by decide +kernel
theorem dX12_pour_103 : decode cX12_pour 103 = .ok (.iload 4, 2) := by decide +kernel
theorem dX12_pour_105 : decode cX12_pour 105 = .ok (.isub, 1) := by decide +kernel
theorem dX12_pour_106 : decode cX12_pour 106 = .ok (.if_icmp .le 9, 3) := by decide +kernel
theorem dX12_pour_109 : decode cX12_pour 109 = .ok (.aload_n 0, 1) := by decide +kernel
theorem dX12_pour_110 : decode cX12_pour 110 = .ok (.iconst 3, 1) := by decide +kernel
theorem dX12_pour_111 : decode cX12_pour 111 = .ok (.invokevirtual 112, 3) := by decide +kernel
theorem dX12_pour_114 : decode cX12_pour 114 = .ok (.ireturn, 1) := by decide +kernel
theorem dX12_pour_115 : decode cX12_pour 115 = .ok (.iconst 0, 1) := by decide +kernel
theorem dX12_pour_116 : decode cX12_pour 116 = .ok (.istore 6, 2) := by decide +kernel
theorem dX12_pour_118 : decode cX12_pour 118 = .ok (.iload 6, 2) := by decide +kernel
theorem dX12_pour_120 : decode cX12_pour 120 = .ok (.iload 5, 2) := by decide +kernel
theorem dX12_pour_122 : decode cX12_pour 122 = .ok (.if_icmp .ge 58, 3) := by decide +kernel
theorem dX12_pour_125 : decode cX12_pour 125 = .ok (.iload_n 2, 1) := by decide +kernel
theorem dX12_pour_126 : decode cX12_pour 126 = .ok (.iload 4, 2) := by decide +kernel
theorem dX12_pour_128 : decode cX12_pour 128 = .ok (.if_icmp .ge 13, 3) := by decide +kernel
theorem dX12_pour_131 : decode cX12_pour 131 = .ok (.iload 5, 2) := by decide +kernel
theorem dX12_pour_133 : decode cX12_pour 133 = .ok (.iconst 1, 1) := by decide +kernel
theorem dX12_pour_134 : decode cX12_pour 134 = .ok (.isub, 1) := by decide +kernel
theorem dX12_pour_135 : decode cX12_pour 135 = .ok (.iload 6, 2) := by decide +kernel
theorem dX12_pour_137 : decode cX12_pour 137 = .ok (.isub, 1) := by decide +kernel
theorem dX12_pour_138 : decode cX12_pour 138 = .ok (.goto 5, 3) := by decide +kernel
theorem dX12_pour_141 : decode cX12_pour 141 = .ok (.iload 6, 2) := by decide +kernel
theorem dX12_pour_143 : decode cX12_pour 143 = .ok (.istore 7, 2) := by decide +kernel
theorem dX12_pour_145 : decode cX12_pour 145 = .ok (.aload_n 0, 1) := by decide +kernel
theorem dX12_pour_146 : decode cX12_pour 146 = .ok (.getfield 24, 3) := by decide +kernel
theorem dX12_pour_149 : decode cX12_pour 149 = .ok (.bipush 60, 2) := by decide +kernel
theorem dX12_pour_151 : decode cX12_pour 151 = .ok (.iload_n 3, 1) := by decide +kernel
theorem dX12_pour_152 : decode cX12_pour 152 = .ok (.imul, 1) := by decide +kernel
theorem dX12_pour_153 : decode cX12_pour 153 = .ok (.iload 4, 2) := by decide +kernel
theorem dX12_pour_155 : decode cX12_pour 155 = .ok (.iadd, 1) := by decide +kernel
theorem dX12_pour_156 : decode cX12_pour 156 = .ok (.iload 7, 2) := by decide +kernel
theorem dX12_pour_158 : decode cX12_pour 158 = .ok (.iadd, 1) := by decide +kernel
theorem dX12_pour_159 : decode cX12_pour 159 = .ok (.aload_n 0, 1) := by decide +kernel
theorem dX12_pour_160 : decode cX12_pour 160 = .ok (.getfield 24, 3) := by decide +kernel
theorem dX12_pour_163 : decode cX12_pour 163 = .ok (.bipush 60, 2) := by decide +kernel
theorem dX12_pour_165 : decode cX12_pour 165 = .ok (.iload_n 1, 1) := by decide +kernel
theorem dX12_pour_166 : decode cX12_pour 166 = .ok (.imul, 1) := by decide +kernel
theorem dX12_pour_167 : decode cX12_pour 167 = .ok (.iload_n 2, 1) := by decide +kernel
theorem dX12_pour_168 : decode cX12_pour 168 = .ok (.iadd, 1) := by decide +kernel
theorem dX12_pour_169 : decode cX12_pour 169 = .ok (.iload 7, 2) := by decide +kernel
theorem dX12_pour_171 : decode cX12_pour 171 = .ok (.iadd, 1) := by decide +kernel
theorem dX12_pour_172 : decode cX12_pour 172 = .ok (.laload, 1) := by decide +kernel
theorem dX12_pour_173 : decode cX12_pour 173 = .ok (.lastore, 1) := by decide +kernel
theorem dX12_pour_174 : decode cX12_pour 174 = .ok (.iinc 6 1, 3) := by decide +kernel
theorem dX12_pour_177 : decode cX12_pour 177 = .ok (.goto (-59), 3) := by decide +kernel
theorem dX12_pour_180 : decode cX12_pour 180 = .ok (.aload_n 0, 1) := by decide +kernel
theorem dX12_pour_181 : decode cX12_pour 181 = .ok (.iconst 0, 1) := by decide +kernel
theorem dX12_pour_182 : decode cX12_pour 182 = .ok (.invokevirtual 112, 3) := by decide +kernel
theorem dX12_pour_185 : decode cX12_pour 185 = .ok (.ireturn, 1) := by decide +kernel
theorem dX12_wrongRow_0 : decode cX12_wrongRow 0 = .ok (.iload_n 1, 1) := by decide +kernel
theorem dX12_wrongRow_1 : decode cX12_wrongRow 1 = .ok (.ifCond .eq 10, 3) := by decide +kernel
theorem dX12_wrongRow_4 : decode cX12_wrongRow 4 = .ok (.iload_n 2, 1) := by decide +kernel
theorem dX12_wrongRow_5 : decode cX12_wrongRow 5 = .ok (.invokestatic 108, 3) := by decide +kernel
theorem dX12_wrongRow_8 : decode cX12_wrongRow 8 = .ok (.ifCond .ne 5, 3) := by decide +kernel
theorem dX12_wrongRow_11 : decode cX12_wrongRow 11 = .ok (.iconst 1, 1) := by decide +kernel
theorem dX12_wrongRow_12 : decode cX12_wrongRow 12 = .ok (.ireturn, 1) := by decide +kernel
theorem dX12_wrongRow_13 : decode cX12_wrongRow 13 = .ok (.aload_n 0, 1) := by decide +kernel
theorem dX12_wrongRow_14 : decode cX12_wrongRow 14 = .ok (.getfield 21, 3) := by decide +kernel
theorem dX12_wrongRow_17 : decode cX12_wrongRow 17 = .ok (.iload_n 2, 1) := by decide +kernel
theorem dX12_wrongRow_18 : decode cX12_wrongRow 18 = .ok (.iaload, 1) := by decide +kernel
theorem dX12_wrongRow_19 : decode cX12_wrongRow 19 = .ok (.iconst (-1), 1) := by decide +kernel
theorem dX12_wrongRow_20 : decode cX12_wrongRow 20 = .ok (.if_icmp .ne 5, 3) := by decide +kernel
theorem dX12_wrongRow_23 : decode cX12_wrongRow 23 = .ok (.iconst 2, 1) := by decide +kernel
theorem dX12_wrongRow_24 : decode cX12_wrongRow 24 = .ok (.ireturn, 1) := by decide +kernel
theorem dX12_wrongRow_25 : decode cX12_wrongRow 25 = .ok (.aload_n 0, 1) := by decide +kernel
theorem dX12_wrongRow_26 : decode cX12_wrongRow 26 = .ok (.getfield 21, 3) := by decide +kernel
theorem dX12_wrongRow_29 : decode cX12_wrongRow 29 = .ok (.iload_n 2, 1) := by decide +kernel
theorem dX12_wrongRow_30 : decode cX12_wrongRow 30 = .ok (.iaload, 1) := by decide +kernel
theorem dX12_wrongRow_31 : decode cX12_wrongRow 31 = .ok (.iload_n 3, 1) := by decide +kernel
theorem dX12_wrongRow_32 : decode cX12_wrongRow 32 = .ok (.if_icmp .ge 5, 3) := by decide +kernel
theorem dX12_wrongRow_35 : decode cX12_wrongRow 35 = .ok (.iconst 3, 1) := by decide +kernel
theorem dX12_wrongRow_36 : decode cX12_wrongRow 36 = .ok (.ireturn, 1) := by decide +kernel
theorem dX12_wrongRow_37 : decode cX12_wrongRow 37 = .ok (.iconst 1, 1) := by decide +kernel
theorem dX12_wrongRow_38 : decode cX12_wrongRow 38 = .ok (.istore 8, 2) := by decide +kernel
theorem dX12_wrongRow_40 : decode cX12_wrongRow 40 = .ok (.iconst 0, 1) := by decide +kernel
theorem dX12_wrongRow_41 : decode cX12_wrongRow 41 = .ok (.istore 9, 2) := by decide +kernel
theorem dX12_wrongRow_43 : decode cX12_wrongRow 43 = .ok (.iload 9, 2) := by decide +kernel
theorem dX12_wrongRow_45 : decode cX12_wrongRow 45 = .ok (.iload_n 3, 1) := by decide +kernel
theorem dX12_wrongRow_46 : decode cX12_wrongRow 46 = .ok (.if_icmp .ge 43, 3) := by decide +kernel
theorem dX12_wrongRow_49 : decode cX12_wrongRow 49 = .ok (.iload 8, 2) := by decide +kernel
theorem dX12_wrongRow_51 : decode cX12_wrongRow 51 = .ok (.ifCond .eq 29, 3) := by decide +kernel
theorem dX12_wrongRow_54 : decode cX12_wrongRow 54 = .ok (.aload_n 0, 1) := by decide +kernel
theorem dX12_wrongRow_55 : decode cX12_wrongRow 55 = .ok (.getfield 24, 3) := by decide +kernel
theorem dX12_wrongRow_58 : decode cX12_wrongRow 58 = .ok (.bipush 60, 2) := by decide +kernel
theorem dX12_wrongRow_60 : decode cX12_wrongRow 60 = .ok (.iload_n 2, 1) := by decide +kernel
theorem dX12_wrongRow_61 : decode cX12_wrongRow 61 = .ok (.imul, 1) := by decide +kernel
theorem dX12_wrongRow_62 : decode cX12_wrongRow 62 = .ok (.iload 9, 2) := by decide +kernel
theorem dX12_wrongRow_64 : decode cX12_wrongRow 64 = .ok (.iadd, 1) := by decide +kernel
theorem dX12_wrongRow_65 : decode cX12_wrongRow 65 = .ok (.laload, 1) := by decide +kernel
theorem dX12_wrongRow_66 : decode cX12_wrongRow 66 = .ok (.lload 4, 2) := by decide +kernel
theorem dX12_wrongRow_68 : decode cX12_wrongRow 68 = .ok (.lload 6, 2) := by decide +kernel
theorem dX12_wrongRow_70 : decode cX12_wrongRow 70 = .ok (.invokestatic 125, 3) := by decide +kernel
theorem dX12_wrongRow_73 : decode cX12_wrongRow 73 = .ok (.ifCond .eq 7, 3) := by decide +kernel
theorem dX12_wrongRow_76 : decode cX12_wrongRow 76 = .ok (.iconst 1, 1) := by decide +kernel
theorem dX12_wrongRow_77 : decode cX12_wrongRow 77 = .ok (.goto 4, 3) := by decide +kernel
theorem dX12_wrongRow_80 : decode cX12_wrongRow 80 = .ok (.iconst 0, 1) := by decide +kernel
theorem dX12_wrongRow_81 : decode cX12_wrongRow 81 = .ok (.istore 8, 2) := by decide +kernel
theorem dX12_wrongRow_83 : decode cX12_wrongRow 83 = .ok (.iinc 9 1, 3) := by decide +kernel
theorem dX12_wrongRow_86 : decode cX12_wrongRow 86 = .ok (.goto (-43), 3) := by decide +kernel
theorem dX12_wrongRow_89 : decode cX12_wrongRow 89 = .ok (.iload 8, 2) := by decide +kernel
theorem dX12_wrongRow_91 : decode cX12_wrongRow 91 = .ok (.ifCond .eq 7, 3) := by decide +kernel
theorem dX12_wrongRow_94 : decode cX12_wrongRow 94 = .ok (.iconst 0, 1) := by decide +kernel
theorem dX12_wrongRow_95 : decode cX12_wrongRow 95 = .ok (.goto 4, 3) := by decide +kernel
theorem dX12_wrongRow_98 : decode cX12_wrongRow 98 = .ok (.iconst 5, 1) := by decide +kernel
theorem dX12_wrongRow_99 : decode cX12_wrongRow 99 = .ok (.ireturn, 1) := by decide +kernel
theorem dX12_isFrom_0 : decode cX12_isFrom 0 = .ok (.lload_n 0, 1) := by decide +kernel
theorem dX12_isFrom_1 : decode cX12_isFrom 1 = .ok (.lload_n 2, 1) := by decide +kernel
theorem dX12_isFrom_2 : decode cX12_isFrom 2 = .ok (.lcmp, 1) := by decide +kernel
theorem dX12_isFrom_3 : decode cX12_isFrom 3 = .ok (.ifCond .lt 14, 3) := by decide +kernel
theorem dX12_isFrom_6 : decode cX12_isFrom 6 = .ok (.lload_n 0, 1) := by decide +kernel
theorem dX12_isFrom_7 : decode cX12_isFrom 7 = .ok (.lload 4, 2) := by decide +kernel
theorem dX12_isFrom_9 : decode cX12_isFrom 9 = .ok (.lcmp, 1) := by decide +kernel
theorem dX12_isFrom_10 : decode cX12_isFrom 10 = .ok (.ifCond .gt 7, 3) := by decide +kernel
theorem dX12_isFrom_13 : decode cX12_isFrom 13 = .ok (.iconst 1, 1) := by decide +kernel
theorem dX12_isFrom_14 : decode cX12_isFrom 14 = .ok (.goto 4, 3) := by decide +kernel
theorem dX12_isFrom_17 : decode cX12_isFrom 17 = .ok (.iconst 0, 1) := by decide +kernel
theorem dX12_isFrom_18 : decode cX12_isFrom 18 = .ok (.ireturn, 1) := by decide +kernel
theorem dX12_feed_0 : decode cX12_feed 0 = .ok (.aload_n 0, 1) := by decide +kernel
theorem dX12_feed_1 : decode cX12_feed 1 = .ok (.getfield 129, 3) := by decide +kernel
theorem dX12_feed_4 : decode cX12_feed 4 = .ok (.bipush 20, 2) := by decide +kernel
theorem dX12_feed_6 : decode cX12_feed 6 = .ok (.iadd, 1) := by decide +kernel
theorem dX12_feed_7 : decode cX12_feed 7 = .ok (.sipush 700, 3) := by decide +kernel
theorem dX12_feed_10 : decode cX12_feed 10 = .ok (.if_icmp .le 5, 3) := by decide +kernel
theorem dX12_feed_13 : decode cX12_feed 13 = .ok (.iconst (-1), 1) := by decide +kernel
theorem dX12_feed_14 : decode cX12_feed 14 = .ok (.ireturn, 1) := by decide +kernel
theorem dX12_feed_15 : decode cX12_feed 15 = .ok (.aload_n 0, 1) := by decide +kernel
theorem dX12_feed_16 : decode cX12_feed 16 = .ok (.iload_n 1, 1) := by decide +kernel
theorem dX12_feed_17 : decode cX12_feed 17 = .ok (.invokevirtual 132, 3) := by decide +kernel
theorem dX12_feed_20 : decode cX12_feed 20 = .ok (.aload_n 0, 1) := by decide +kernel
theorem dX12_feed_21 : decode cX12_feed 21 = .ok (.iload_n 2, 1) := by decide +kernel
theorem dX12_feed_22 : decode cX12_feed 22 = .ok (.invokevirtual 132, 3) := by decide +kernel
theorem dX12_feed_25 : decode cX12_feed 25 = .ok (.aload_n 0, 1) := by decide +kernel
theorem dX12_feed_26 : decode cX12_feed 26 = .ok (.iload_n 3, 1) := by decide +kernel
theorem dX12_feed_27 : decode cX12_feed 27 = .ok (.invokevirtual 132, 3) := by decide +kernel
theorem dX12_feed_30 : decode cX12_feed 30 = .ok (.aload_n 0, 1) := by decide +kernel
theorem dX12_feed_31 : decode cX12_feed 31 = .ok (.iload 4, 2) := by decide +kernel
theorem dX12_feed_33 : decode cX12_feed 33 = .ok (.invokevirtual 132, 3) := by decide +kernel
theorem dX12_feed_36 : decode cX12_feed 36 = .ok (.aload_n 0, 1) := by decide +kernel
theorem dX12_feed_37 : decode cX12_feed 37 = .ok (.iload 5, 2) := by decide +kernel
theorem dX12_feed_39 : decode cX12_feed 39 = .ok (.invokevirtual 132, 3) := by decide +kernel
theorem dX12_feed_42 : decode cX12_feed 42 = .ok (.aload_n 0, 1) := by decide +kernel
theorem dX12_feed_43 : decode cX12_feed 43 = .ok (.getfield 129, 3) := by decide +kernel
theorem dX12_feed_46 : decode cX12_feed 46 = .ok (.ireturn, 1) := by decide +kernel
theorem dX12_four_0 : decode cX12_four 0 = .ok (.bipush 24, 2) := by decide +kernel
theorem dX12_four_2 : decode cX12_four 2 = .ok (.istore_n 2, 1) := by decide +kernel
theorem dX12_four_3 : decode cX12_four 3 = .ok (.iload_n 2, 1) := by decide +kernel
theorem dX12_four_4 : decode cX12_four 4 = .ok (.ifCond .lt 32, 3) := by decide +kernel
theorem dX12_four_7 : decode cX12_four 7 = .ok (.aload_n 0, 1) := by decide +kernel
theorem dX12_four_8 : decode cX12_four 8 = .ok (.getfield 27, 3) := by decide +kernel
theorem dX12_four_11 : decode cX12_four 11 = .ok (.aload_n 0, 1) := by decide +kernel
theorem dX12_four_12 : decode cX12_four 12 = .ok (.getfield 129, 3) := by decide +kernel
theorem dX12_four_15 : decode cX12_four 15 = .ok (.iload_n 1, 1) := by decide +kernel
theorem dX12_four_16 : decode cX12_four 16 = .ok (.iload_n 2, 1) := by decide +kernel
theorem dX12_four_17 : decode cX12_four 17 = .ok (.ishr, 1) := by decide +kernel
theorem dX12_four_18 : decode cX12_four 18 = .ok (.i2b, 1) := by decide +kernel
theorem dX12_four_19 : decode cX12_four 19 = .ok (.bastore, 1) := by decide +kernel
theorem dX12_four_20 : decode cX12_four 20 = .ok (.aload_n 0, 1) := by decide +kernel
theorem dX12_four_21 : decode cX12_four 21 = .ok (.dup, 1) := by decide +kernel
theorem dX12_four_22 : decode cX12_four 22 = .ok (.getfield 129, 3) := by decide +kernel
theorem dX12_four_25 : decode cX12_four 25 = .ok (.iconst 1, 1) := by decide +kernel
theorem dX12_four_26 : decode cX12_four 26 = .ok (.iadd, 1) := by decide +kernel
theorem dX12_four_27 : decode cX12_four 27 = .ok (.putfield 129, 3) := by decide +kernel
theorem dX12_four_30 : decode cX12_four 30 = .ok (.iinc 2 (-8), 3) := by decide +kernel
theorem dX12_four_33 : decode cX12_four 33 = .ok (.goto (-30), 3) := by decide +kernel
theorem dX12_four_36 : decode cX12_four 36 = .ok (.return_, 1) := by decide +kernel
theorem dX12_byteAt_0 : decode cX12_byteAt 0 = .ok (.iload_n 1, 1) := by decide +kernel
theorem dX12_byteAt_1 : decode cX12_byteAt 1 = .ok (.aload_n 0, 1) := by decide +kernel
theorem dX12_byteAt_2 : decode cX12_byteAt 2 = .ok (.getfield 136, 3) := by decide +kernel
theorem dX12_byteAt_5 : decode cX12_byteAt 5 = .ok (.if_icmp .ge 16, 3) := by decide +kernel
theorem dX12_byteAt_8 : decode cX12_byteAt 8 = .ok (.aload_n 0, 1) := by decide +kernel
theorem dX12_byteAt_9 : decode cX12_byteAt 9 = .ok (.getfield 31, 3) := by decide +kernel
theorem dX12_byteAt_12 : decode cX12_byteAt 12 = .ok (.iload_n 1, 1) := by decide +kernel
theorem dX12_byteAt_13 : decode cX12_byteAt 13 = .ok (.baload, 1) := by decide +kernel
theorem dX12_byteAt_14 : decode cX12_byteAt 14 = .ok (.sipush 255, 3) := by decide +kernel
theorem dX12_byteAt_17 : decode cX12_byteAt 17 = .ok (.iand, 1) := by decide +kernel
theorem dX12_byteAt_18 : decode cX12_byteAt 18 = .ok (.goto 4, 3) := by decide +kernel
theorem dX12_byteAt_21 : decode cX12_byteAt 21 = .ok (.iconst (-1), 1) := by decide +kernel
theorem dX12_byteAt_22 : decode cX12_byteAt 22 = .ok (.ireturn, 1) := by decide +kernel
theorem dX12_isSmall_0 : decode cX12_isSmall 0 = .ok (.iload_n 0, 1) := by decide +kernel
theorem dX12_isSmall_1 : decode cX12_isSmall 1 = .ok (.bipush 97, 2) := by decide +kernel
theorem dX12_isSmall_3 : decode cX12_isSmall 3 = .ok (.if_icmp .lt 13, 3) := by decide +kernel
theorem dX12_isSmall_6 : decode cX12_isSmall 6 = .ok (.iload_n 0, 1) := by decide +kernel
theorem dX12_isSmall_7 : decode cX12_isSmall 7 = .ok (.bipush 122, 2) := by decide +kernel
theorem dX12_isSmall_9 : decode cX12_isSmall 9 = .ok (.if_icmp .gt 7, 3) := by decide +kernel
theorem dX12_isSmall_12 : decode cX12_isSmall 12 = .ok (.iconst 1, 1) := by decide +kernel
theorem dX12_isSmall_13 : decode cX12_isSmall 13 = .ok (.goto 4, 3) := by decide +kernel
theorem dX12_isSmall_16 : decode cX12_isSmall 16 = .ok (.iconst 0, 1) := by decide +kernel
theorem dX12_isSmall_17 : decode cX12_isSmall 17 = .ok (.ireturn, 1) := by decide +kernel
theorem dX12_isDigit_0 : decode cX12_isDigit 0 = .ok (.iload_n 0, 1) := by decide +kernel
theorem dX12_isDigit_1 : decode cX12_isDigit 1 = .ok (.bipush 48, 2) := by decide +kernel
theorem dX12_isDigit_3 : decode cX12_isDigit 3 = .ok (.if_icmp .lt 13, 3) := by decide +kernel
theorem dX12_isDigit_6 : decode cX12_isDigit 6 = .ok (.iload_n 0, 1) := by decide +kernel
theorem dX12_isDigit_7 : decode cX12_isDigit 7 = .ok (.bipush 57, 2) := by decide +kernel
theorem dX12_isDigit_9 : decode cX12_isDigit 9 = .ok (.if_icmp .gt 7, 3) := by decide +kernel
theorem dX12_isDigit_12 : decode cX12_isDigit 12 = .ok (.iconst 1, 1) := by decide +kernel
theorem dX12_isDigit_13 : decode cX12_isDigit 13 = .ok (.goto 4, 3) := by decide +kernel
theorem dX12_isDigit_16 : decode cX12_isDigit 16 = .ok (.iconst 0, 1) := by decide +kernel
theorem dX12_isDigit_17 : decode cX12_isDigit 17 = .ok (.ireturn, 1) := by decide +kernel
theorem dX12_ahead_0 : decode cX12_ahead 0 = .ok (.aload_n 0, 1) := by decide +kernel
theorem dX12_ahead_1 : decode cX12_ahead 1 = .ok (.aload_n 0, 1) := by decide +kernel
theorem dX12_ahead_2 : decode cX12_ahead 2 = .ok (.getfield 139, 3) := by decide +kernel
theorem dX12_ahead_5 : decode cX12_ahead 5 = .ok (.invokevirtual 142, 3) := by decide +kernel
theorem dX12_ahead_8 : decode cX12_ahead 8 = .ok (.bipush 32, 2) := by decide +kernel
theorem dX12_ahead_10 : decode cX12_ahead 10 = .ok (.if_icmp .eq 16, 3) := by decide +kernel
theorem dX12_ahead_13 : decode cX12_ahead 13 = .ok (.aload_n 0, 1) := by decide +kernel
theorem dX12_ahead_14 : decode cX12_ahead 14 = .ok (.aload_n 0, 1) := by decide +kernel
theorem dX12_ahead_15 : decode cX12_ahead 15 = .ok (.getfield 139, 3) := by decide +kernel
theorem dX12_ahead_18 : decode cX12_ahead 18 = .ok (.invokevirtual 142, 3) := by decide +kernel
theorem dX12_ahead_21 : decode cX12_ahead 21 = .ok (.bipush 10, 2) := by decide +kernel
theorem dX12_ahead_23 : decode cX12_ahead 23 = .ok (.if_icmp .ne 16, 3) := by decide +kernel
theorem dX12_ahead_26 : decode cX12_ahead 26 = .ok (.aload_n 0, 1) := by decide +kernel
theorem dX12_ahead_27 : decode cX12_ahead 27 = .ok (.dup, 1) := by decide +kernel
theorem dX12_ahead_28 : decode cX12_ahead 28 = .ok (.getfield 139, 3) := by decide +kernel
theorem dX12_ahead_31 : decode cX12_ahead 31 = .ok (.iconst 1, 1) := by decide +kernel
theorem dX12_ahead_32 : decode cX12_ahead 32 = .ok (.iadd, 1) := by decide +kernel
theorem dX12_ahead_33 : decode cX12_ahead 33 = .ok (.putfield 139, 3) := by decide +kernel
theorem dX12_ahead_36 : decode cX12_ahead 36 = .ok (.goto (-36), 3) := by decide +kernel
theorem dX12_ahead_39 : decode cX12_ahead 39 = .ok (.aload_n 0, 1) := by decide +kernel
theorem dX12_ahead_40 : decode cX12_ahead 40 = .ok (.aload_n 0, 1) := by decide +kernel
theorem dX12_ahead_41 : decode cX12_ahead 41 = .ok (.getfield 139, 3) := by decide +kernel
theorem dX12_ahead_44 : decode cX12_ahead 44 = .ok (.putfield 146, 3) := by decide +kernel
theorem dX12_ahead_47 : decode cX12_ahead 47 = .ok (.aload_n 0, 1) := by decide +kernel
theorem dX12_ahead_48 : decode cX12_ahead 48 = .ok (.aload_n 0, 1) := by decide +kernel
theorem dX12_ahead_49 : decode cX12_ahead 49 = .ok (.getfield 139, 3) := by decide +kernel
theorem dX12_ahead_52 : decode cX12_ahead 52 = .ok (.invokevirtual 142, 3) := by decide +kernel
theorem dX12_ahead_55 : decode cX12_ahead 55 = .ok (.istore_n 1, 1) := by decide +kernel
theorem dX12_ahead_56 : decode cX12_ahead 56 = .ok (.aload_n 0, 1) := by decide +kernel
theorem dX12_ahead_57 : decode cX12_ahead 57 = .ok (.iload_n 1, 1) := by decide +kernel
theorem dX12_ahead_58 : decode cX12_ahead 58 = .ok (.putfield 149, 3) := by decide +kernel
theorem dX12_ahead_61 : decode cX12_ahead 61 = .ok (.iload_n 1, 1) := by decide +kernel
theorem dX12_ahead_62 : decode cX12_ahead 62 = .ok (.iconst (-1), 1) := by decide +kernel
theorem dX12_ahead_63 : decode cX12_ahead 63 = .ok (.if_icmp .ne 11, 3) := by decide +kernel
theorem dX12_ahead_66 : decode cX12_ahead 66 = .ok (.aload_n 0, 1) := by decide +kernel
theorem dX12_ahead_67 : decode cX12_ahead 67 = .ok (.iconst 0, 1) := by decide +kernel
theorem dX12_ahead_68 : decode cX12_ahead 68 = .ok (.putfield 152, 3) := by decide +kernel
theorem dX12_ahead_71 : decode cX12_ahead 71 = .ok (.goto 162, 3) := by decide +kernel
theorem dX12_ahead_74 : decode cX12_ahead 74 = .ok (.iload_n 1, 1) := by decide +kernel
theorem dX12_ahead_75 : decode cX12_ahead 75 = .ok (.invokestatic 155, 3) := by decide +kernel
theorem dX12_ahead_78 : decode cX12_ahead 78 = .ok (.ifCond .eq 38, 3) := by decide +kernel
theorem dX12_ahead_81 : decode cX12_ahead 81 = .ok (.aload_n 0, 1) := by decide +kernel
theorem dX12_ahead_82 : decode cX12_ahead 82 = .ok (.aload_n 0, 1) := by decide +kernel
theorem dX12_ahead_83 : decode cX12_ahead 83 = .ok (.getfield 139, 3) := by decide +kernel
theorem dX12_ahead_86 : decode cX12_ahead 86 = .ok (.invokevirtual 142, 3) := by decide +kernel
theorem dX12_ahead_89 : decode cX12_ahead 89 = .ok (.invokestatic 155, 3) := by decide +kernel
theorem dX12_ahead_92 : decode cX12_ahead 92 = .ok (.ifCond .eq 16, 3) := by decide +kernel
theorem dX12_ahead_95 : decode cX12_ahead 95 = .ok (.aload_n 0, 1) := by decide +kernel
theorem dX12_ahead_96 : decode cX12_ahead 96 = .ok (.dup, 1) := by decide +kernel
theorem dX12_ahead_97 : decode cX12_ahead 97 = .ok (.getfield 139, 3) := by decide +kernel
theorem dX12_ahead_100 : decode cX12_ahead 100 = .ok (.iconst 1, 1) := by decide +kernel
theorem dX12_ahead_101 : decode cX12_ahead 101 = .ok (.iadd, 1) := by decide +kernel
theorem dX12_ahead_102 : decode cX12_ahead 102 = .ok (.putfield 139, 3) := by decide +kernel
theorem dX12_ahead_105 : decode cX12_ahead 105 = .ok (.goto (-24), 3) := by decide +kernel
theorem dX12_ahead_108 : decode cX12_ahead 108 = .ok (.aload_n 0, 1) := by decide +kernel
theorem dX12_ahead_109 : decode cX12_ahead 109 = .ok (.iconst 2, 1) := by decide +kernel
theorem dX12_ahead_110 : decode cX12_ahead 110 = .ok (.putfield 152, 3) := by decide +kernel
theorem dX12_ahead_113 : decode cX12_ahead 113 = .ok (.goto 120, 3) := by decide +kernel
theorem dX12_ahead_116 : decode cX12_ahead 116 = .ok (.iload_n 1, 1) := by decide +kernel
theorem dX12_ahead_117 : decode cX12_ahead 117 = .ok (.invokestatic 158, 3) := by decide +kernel
theorem dX12_ahead_120 : decode cX12_ahead 120 = .ok (.ifCond .eq 88, 3) := by decide +kernel
theorem dX12_ahead_123 : decode cX12_ahead 123 = .ok (.aload_n 0, 1) := by decide +kernel
theorem dX12_ahead_124 : decode cX12_ahead 124 = .ok (.iconst 0, 1) := by decide +kernel
theorem dX12_ahead_125 : decode cX12_ahead 125 = .ok (.putfield 149, 3) := by decide +kernel
theorem dX12_ahead_128 : decode cX12_ahead 128 = .ok (.aload_n 0, 1) := by decide +kernel
theorem dX12_ahead_129 : decode cX12_ahead 129 = .ok (.aload_n 0, 1) := by decide +kernel
theorem dX12_ahead_130 : decode cX12_ahead 130 = .ok (.getfield 139, 3) := by decide +kernel
theorem dX12_ahead_133 : decode cX12_ahead 133 = .ok (.invokevirtual 142, 3) := by decide +kernel
theorem dX12_ahead_136 : decode cX12_ahead 136 = .ok (.invokestatic 158, 3) := by decide +kernel
theorem dX12_ahead_139 : decode cX12_ahead 139 = .ok (.ifCond .eq 44, 3) := by decide +kernel
theorem dX12_ahead_142 : decode cX12_ahead 142 = .ok (.aload_n 0, 1) := by decide +kernel
theorem dX12_ahead_143 : decode cX12_ahead 143 = .ok (.ldc 161, 2) := by decide +kernel
theorem dX12_ahead_145 : decode cX12_ahead 145 = .ok (.bipush 10, 2) := by decide +kernel
theorem dX12_ahead_147 : decode cX12_ahead 147 = .ok (.aload_n 0, 1) := by decide +kernel
theorem dX12_ahead_148 : decode cX12_ahead 148 = .ok (.getfield 149, 3) := by decide +kernel
theorem dX12_ahead_151 : decode cX12_ahead 151 = .ok (.imul, 1) := by decide +kernel
theorem dX12_ahead_152 : decode cX12_ahead 152 = .ok (.aload_n 0, 1) := by decide +kernel
theorem dX12_ahead_153 : decode cX12_ahead 153 = .ok (.aload_n 0, 1) := by decide +kernel
theorem dX12_ahead_154 : decode cX12_ahead 154 = .ok (.getfield 139, 3) := by decide +kernel
theorem dX12_ahead_157 : decode cX12_ahead 157 = .ok (.invokevirtual 142, 3) := by decide +kernel
theorem dX12_ahead_160 : decode cX12_ahead 160 = .ok (.iadd, 1) := by decide +kernel
theorem dX12_ahead_161 : decode cX12_ahead 161 = .ok (.bipush 48, 2) := by decide +kernel
theorem dX12_ahead_163 : decode cX12_ahead 163 = .ok (.isub, 1) := by decide +kernel
theorem dX12_ahead_164 : decode cX12_ahead 164 = .ok (.invokestatic 162, 3) := by decide +kernel
theorem dX12_ahead_167 : decode cX12_ahead 167 = .ok (.putfield 149, 3) := by decide +kernel
theorem dX12_ahead_170 : decode cX12_ahead 170 = .ok (.aload_n 0, 1) := by decide +kernel
theorem dX12_ahead_171 : decode cX12_ahead 171 = .ok (.dup, 1) := by decide +kernel
theorem dX12_ahead_172 : decode cX12_ahead 172 = .ok (.getfield 139, 3) := by decide +kernel
theorem dX12_ahead_175 : decode cX12_ahead 175 = .ok (.iconst 1, 1) := by decide +kernel
theorem dX12_ahead_176 : decode cX12_ahead 176 = .ok (.iadd, 1) := by decide +kernel
theorem dX12_ahead_177 : decode cX12_ahead 177 = .ok (.putfield 139, 3) := by decide +kernel
theorem dX12_ahead_180 : decode cX12_ahead 180 = .ok (.goto (-52), 3) := by decide +kernel
theorem dX12_ahead_183 : decode cX12_ahead 183 = .ok (.aload_n 0, 1) := by decide +kernel
theorem dX12_ahead_184 : decode cX12_ahead 184 = .ok (.aload_n 0, 1) := by decide +kernel
theorem dX12_ahead_185 : decode cX12_ahead 185 = .ok (.getfield 139, 3) := by decide +kernel
theorem dX12_ahead_188 : decode cX12_ahead 188 = .ok (.aload_n 0, 1) := by decide +kernel
theorem dX12_ahead_189 : decode cX12_ahead 189 = .ok (.getfield 146, 3) := by decide +kernel
theorem dX12_ahead_192 : decode cX12_ahead 192 = .ok (.isub, 1) := by decide +kernel
theorem dX12_ahead_193 : decode cX12_ahead 193 = .ok (.iconst 4, 1) := by decide +kernel
theorem dX12_ahead_194 : decode cX12_ahead 194 = .ok (.if_icmp .le 7, 3) := by decide +kernel
theorem dX12_ahead_197 : decode cX12_ahead 197 = .ok (.iconst 1, 1) := by decide +kernel
theorem dX12_ahead_198 : decode cX12_ahead 198 = .ok (.goto 4, 3) := by decide +kernel
theorem dX12_ahead_201 : decode cX12_ahead 201 = .ok (.iconst 3, 1) := by decide +kernel
theorem dX12_ahead_202 : decode cX12_ahead 202 = .ok (.putfield 152, 3) := by decide +kernel
theorem dX12_ahead_205 : decode cX12_ahead 205 = .ok (.goto 28, 3) := by decide +kernel
theorem dX12_ahead_208 : decode cX12_ahead 208 = .ok (.aload_n 0, 1) := by decide +kernel
theorem dX12_ahead_209 : decode cX12_ahead 209 = .ok (.dup, 1) := by decide +kernel
theorem dX12_ahead_210 : decode cX12_ahead 210 = .ok (.getfield 139, 3) := by decide +kernel
theorem dX12_ahead_213 : decode cX12_ahead 213 = .ok (.iconst 1, 1) := by decide +kernel
theorem dX12_ahead_214 : decode cX12_ahead 214 = .ok (.iadd, 1) := by decide +kernel
theorem dX12_ahead_215 : decode cX12_ahead 215 = .ok (.putfield 139, 3) := by decide +kernel
theorem dX12_ahead_218 : decode cX12_ahead 218 = .ok (.aload_n 0, 1) := by decide +kernel
theorem dX12_ahead_219 : decode cX12_ahead 219 = .ok (.iload_n 1, 1) := by decide +kernel
theorem dX12_ahead_220 : decode cX12_ahead 220 = .ok (.bipush 59, 2) := by decide +kernel
theorem dX12_ahead_222 : decode cX12_ahead 222 = .ok (.if_icmp .ne 7, 3) := by decide +kernel
theorem dX12_ahead_225 : decode cX12_ahead 225 = .ok (.iconst 4, 1) := by decide +kernel
theorem dX12_ahead_226 : decode cX12_ahead 226 = .ok (.goto 4, 3) := by decide +kernel
theorem dX12_ahead_229 : decode cX12_ahead 229 = .ok (.iconst 1, 1) := by decide +kernel
theorem dX12_ahead_230 : decode cX12_ahead 230 = .ok (.putfield 152, 3) := by decide +kernel
theorem dX12_ahead_233 : decode cX12_ahead 233 = .ok (.return_, 1) := by decide +kernel
theorem dX12_inWords_0 : decode cX12_inWords 0 = .ok (.aload_n 0, 1) := by decide +kernel
theorem dX12_inWords_1 : decode cX12_inWords 1 = .ok (.getfield 152, 3) := by decide +kernel
theorem dX12_inWords_4 : decode cX12_inWords 4 = .ok (.iconst 2, 1) := by decide +kernel
theorem dX12_inWords_5 : decode cX12_inWords 5 = .ok (.if_icmp .eq 5, 3) := by decide +kernel
theorem dX12_inWords_8 : decode cX12_inWords 8 = .ok (.iconst (-1), 1) := by decide +kernel
theorem dX12_inWords_9 : decode cX12_inWords 9 = .ok (.ireturn, 1) := by decide +kernel
theorem dX12_inWords_10 : decode cX12_inWords 10 = .ok (.iconst 0, 1) := by decide +kernel
theorem dX12_inWords_11 : decode cX12_inWords 11 = .ok (.istore_n 2, 1) := by decide +kernel
theorem dX12_inWords_12 : decode cX12_inWords 12 = .ok (.iconst 1, 1) := by decide +kernel
theorem dX12_inWords_13 : decode cX12_inWords 13 = .ok (.istore_n 3, 1) := by decide +kernel
theorem dX12_inWords_14 : decode cX12_inWords 14 = .ok (.iload_n 3, 1) := by decide +kernel
theorem dX12_inWords_15 : decode cX12_inWords 15 = .ok (.aload_n 1, 1) := by decide +kernel
theorem dX12_inWords_16 : decode cX12_inWords 16 = .ok (.invokevirtual 167, 3) := by decide +kernel
theorem dX12_inWords_19 : decode cX12_inWords 19 = .ok (.if_icmp .ge 114, 3) := by decide +kernel
theorem dX12_inWords_22 : decode cX12_inWords 22 = .ok (.iload_n 3, 1) := by decide +kernel
theorem dX12_inWords_23 : decode cX12_inWords 23 = .ok (.istore 4, 2) := by decide +kernel
theorem dX12_inWords_25 : decode cX12_inWords 25 = .ok (.aload_n 1, 1) := by decide +kernel
theorem dX12_inWords_26 : decode cX12_inWords 26 = .ok (.iload 4, 2) := by decide +kernel
theorem dX12_inWords_28 : decode cX12_inWords 28 = .ok (.invokevirtual 173, 3) := by decide +kernel
theorem dX12_inWords_31 : decode cX12_inWords 31 = .ok (.bipush 32, 2) := by decide +kernel
theorem dX12_inWords_33 : decode cX12_inWords 33 = .ok (.if_icmp .eq 9, 3) := by decide +kernel
theorem dX12_inWords_36 : decode cX12_inWords 36 = .ok (.iinc 4 1, 3) := by decide +kernel
theorem dX12_inWords_39 : decode cX12_inWords 39 = .ok (.goto (-14), 3) := by decide +kernel
theorem dX12_inWords_42 : decode cX12_inWords 42 = .ok (.iload 4, 2) := by decide +kernel
theorem dX12_inWords_44 : decode cX12_inWords 44 = .ok (.iload_n 3, 1) := by decide +kernel
theorem dX12_inWords_45 : decode cX12_inWords 45 = .ok (.isub, 1) := by decide +kernel
theorem dX12_inWords_46 : decode cX12_inWords 46 = .ok (.aload_n 0, 1) := by decide +kernel
theorem dX12_inWords_47 : decode cX12_inWords 47 = .ok (.getfield 139, 3) := by decide +kernel
theorem dX12_inWords_50 : decode cX12_inWords 50 = .ok (.aload_n 0, 1) := by decide +kernel
theorem dX12_inWords_51 : decode cX12_inWords 51 = .ok (.getfield 146, 3) := by decide +kernel
theorem dX12_inWords_54 : decode cX12_inWords 54 = .ok (.isub, 1) := by decide +kernel
theorem dX12_inWords_55 : decode cX12_inWords 55 = .ok (.if_icmp .ne 7, 3) := by decide +kernel
theorem dX12_inWords_58 : decode cX12_inWords 58 = .ok (.iconst 1, 1) := by decide +kernel
theorem dX12_inWords_59 : decode cX12_inWords 59 = .ok (.goto 4, 3) := by decide +kernel
theorem dX12_inWords_62 : decode cX12_inWords 62 = .ok (.iconst 0, 1) := by decide +kernel
theorem dX12_inWords_63 : decode cX12_inWords 63 = .ok (.istore 5, 2) := by decide +kernel
theorem dX12_inWords_65 : decode cX12_inWords 65 = .ok (.iload_n 3, 1) := by decide +kernel
theorem dX12_inWords_66 : decode cX12_inWords 66 = .ok (.istore 6, 2) := by decide +kernel
theorem dX12_inWords_68 : decode cX12_inWords 68 = .ok (.iload 6, 2) := by decide +kernel
theorem dX12_inWords_70 : decode cX12_inWords 70 = .ok (.iload 4, 2) := by decide +kernel
theorem dX12_inWords_72 : decode cX12_inWords 72 = .ok (.if_icmp .ge 43, 3) := by decide +kernel
theorem dX12_inWords_75 : decode cX12_inWords 75 = .ok (.iload 5, 2) := by decide +kernel
theorem dX12_inWords_77 : decode cX12_inWords 77 = .ok (.ifCond .eq 38, 3) := by decide +kernel
theorem dX12_inWords_80 : decode cX12_inWords 80 = .ok (.aload_n 1, 1) := by decide +kernel
theorem dX12_inWords_81 : decode cX12_inWords 81 = .ok (.iload 6, 2) := by decide +kernel
theorem dX12_inWords_83 : decode cX12_inWords 83 = .ok (.invokevirtual 173, 3) := by decide +kernel
theorem dX12_inWords_86 : decode cX12_inWords 86 = .ok (.aload_n 0, 1) := by decide +kernel
theorem dX12_inWords_87 : decode cX12_inWords 87 = .ok (.aload_n 0, 1) := by decide +kernel
theorem dX12_inWords_88 : decode cX12_inWords 88 = .ok (.getfield 146, 3) := by decide +kernel
theorem dX12_inWords_91 : decode cX12_inWords 91 = .ok (.iload 6, 2) := by decide +kernel
theorem dX12_inWords_93 : decode cX12_inWords 93 = .ok (.iadd, 1) := by decide +kernel
theorem dX12_inWords_94 : decode cX12_inWords 94 = .ok (.iload_n 3, 1) := by decide +kernel
theorem dX12_inWords_95 : decode cX12_inWords 95 = .ok (.isub, 1) := by decide +kernel
theorem dX12_inWords_96 : decode cX12_inWords 96 = .ok (.invokevirtual 142, 3) := by decide +kernel
theorem dX12_inWords_99 : decode cX12_inWords 99 = .ok (.if_icmp .ne 7, 3) := by decide +kernel
theorem dX12_inWords_102 : decode cX12_inWords 102 = .ok (.iconst 1, 1) := by decide +kernel
theorem dX12_inWords_103 : decode cX12_inWords 103 = .ok (.goto 4, 3) := by decide +kernel
theorem dX12_inWords_106 : decode cX12_inWords 106 = .ok (.iconst 0, 1) := by decide +kernel
theorem dX12_inWords_107 : decode cX12_inWords 107 = .ok (.istore 5, 2) := by decide +kernel
theorem dX12_inWords_109 : decode cX12_inWords 109 = .ok (.iinc 6 1, 3) := by decide +kernel
theorem dX12_inWords_112 : decode cX12_inWords 112 = .ok (.goto (-44), 3) := by decide +kernel
theorem dX12_inWords_115 : decode cX12_inWords 115 = .ok (.iload 5, 2) := by decide +kernel
theorem dX12_inWords_117 : decode cX12_inWords 117 = .ok (.ifCond .eq 5, 3) := by decide +kernel
theorem dX12_inWords_120 : decode cX12_inWords 120 = .ok (.iload_n 2, 1) := by decide +kernel
theorem dX12_inWords_121 : decode cX12_inWords 121 = .ok (.ireturn, 1) := by decide +kernel
theorem dX12_inWords_122 : decode cX12_inWords 122 = .ok (.iinc 2 1, 3) := by decide +kernel
theorem dX12_inWords_125 : decode cX12_inWords 125 = .ok (.iload 4, 2) := by decide +kernel
theorem dX12_inWords_127 : decode cX12_inWords 127 = .ok (.iconst 1, 1) := by decide +kernel
theorem dX12_inWords_128 : decode cX12_inWords 128 = .ok (.iadd, 1) := by decide +kernel
theorem dX12_inWords_129 : decode cX12_inWords 129 = .ok (.istore_n 3, 1) := by decide +kernel
theorem dX12_inWords_130 : decode cX12_inWords 130 = .ok (.goto (-116), 3) := by decide +kernel
theorem dX12_inWords_133 : decode cX12_inWords 133 = .ok (.iconst (-1), 1) := by decide +kernel
theorem dX12_inWords_134 : decode cX12_inWords 134 = .ok (.ireturn, 1) := by decide +kernel
theorem dX12_fails_0 : decode cX12_fails 0 = .ok (.aload_n 0, 1) := by decide +kernel
theorem dX12_fails_1 : decode cX12_fails 1 = .ok (.getfield 177, 3) := by decide +kernel
theorem dX12_fails_4 : decode cX12_fails 4 = .ok (.ifCond .ne 28, 3) := by decide +kernel
theorem dX12_fails_7 : decode cX12_fails 7 = .ok (.aload_n 0, 1) := by decide +kernel
theorem dX12_fails_8 : decode cX12_fails 8 = .ok (.aload_n 0, 1) := by decide +kernel
theorem dX12_fails_9 : decode cX12_fails 9 = .ok (.getfield 152, 3) := by decide +kernel
theorem dX12_fails_12 : decode cX12_fails 12 = .ok (.iconst 1, 1) := by decide +kernel
theorem dX12_fails_13 : decode cX12_fails 13 = .ok (.if_icmp .ne 7, 3) := by decide +kernel
theorem dX12_fails_16 : decode cX12_fails 16 = .ok (.iconst 1, 1) := by decide +kernel
theorem dX12_fails_17 : decode cX12_fails 17 = .ok (.goto 4, 3) := by decide +kernel
theorem dX12_fails_20 : decode cX12_fails 20 = .ok (.iload_n 1, 1) := by decide +kernel
theorem dX12_fails_21 : decode cX12_fails 21 = .ok (.putfield 177, 3) := by decide +kernel
theorem dX12_fails_24 : decode cX12_fails 24 = .ok (.aload_n 0, 1) := by decide +kernel
theorem dX12_fails_25 : decode cX12_fails 25 = .ok (.aload_n 0, 1) := by decide +kernel
theorem dX12_fails_26 : decode cX12_fails 26 = .ok (.getfield 146, 3) := by decide +kernel
theorem dX12_fails_29 : decode cX12_fails 29 = .ok (.putfield 38, 3) := by decide +kernel
theorem dX12_fails_32 : decode cX12_fails 32 = .ok (.iconst 0, 1) := by decide +kernel
theorem dX12_fails_33 : decode cX12_fails 33 = .ok (.ireturn, 1) := by decide +kernel
theorem dX12_begins_0 : decode cX12_begins 0 = .ok (.aload_n 0, 1) := by decide +kernel
theorem dX12_begins_1 : decode cX12_begins 1 = .ok (.iload_n 1, 1) := by decide +kernel
theorem dX12_begins_2 : decode cX12_begins 2 = .ok (.putfield 136, 3) := by decide +kernel
theorem dX12_begins_5 : decode cX12_begins 5 = .ok (.iconst 0, 1) := by decide +kernel
theorem dX12_begins_6 : decode cX12_begins 6 = .ok (.istore_n 2, 1) := by decide +kernel
theorem dX12_begins_7 : decode cX12_begins 7 = .ok (.iload_n 2, 1) := by decide +kernel
theorem dX12_begins_8 : decode cX12_begins 8 = .ok (.iload_n 1, 1) := by decide +kernel
theorem dX12_begins_9 : decode cX12_begins 9 = .ok (.if_icmp .ge 21, 3) := by decide +kernel
theorem dX12_begins_12 : decode cX12_begins 12 = .ok (.aload_n 0, 1) := by decide +kernel
theorem dX12_begins_13 : decode cX12_begins 13 = .ok (.getfield 31, 3) := by decide +kernel
theorem dX12_begins_16 : decode cX12_begins 16 = .ok (.iload_n 2, 1) := by decide +kernel
theorem dX12_begins_17 : decode cX12_begins 17 = .ok (.aload_n 0, 1) := by decide +kernel
theorem dX12_begins_18 : decode cX12_begins 18 = .ok (.getfield 27, 3) := by decide +kernel
theorem dX12_begins_21 : decode cX12_begins 21 = .ok (.iload_n 2, 1) := by decide +kernel
theorem dX12_begins_22 : decode cX12_begins 22 = .ok (.baload, 1) := by decide +kernel
theorem dX12_begins_23 : decode cX12_begins 23 = .ok (.bastore, 1) := by decide +kernel
theorem dX12_begins_24 : decode cX12_begins 24 = .ok (.iinc 2 1, 3) := by decide +kernel
theorem dX12_begins_27 : decode cX12_begins 27 = .ok (.goto (-20), 3) := by decide +kernel
theorem dX12_begins_30 : decode cX12_begins 30 = .ok (.aload_n 0, 1) := by decide +kernel
theorem dX12_begins_31 : decode cX12_begins 31 = .ok (.iconst 0, 1) := by decide +kernel
theorem dX12_begins_32 : decode cX12_begins 32 = .ok (.putfield 129, 3) := by decide +kernel
theorem dX12_begins_35 : decode cX12_begins 35 = .ok (.aload_n 0, 1) := by decide +kernel
theorem dX12_begins_36 : decode cX12_begins 36 = .ok (.iconst 0, 1) := by decide +kernel
theorem dX12_begins_37 : decode cX12_begins 37 = .ok (.putfield 177, 3) := by decide +kernel
theorem dX12_begins_40 : decode cX12_begins 40 = .ok (.aload_n 0, 1) := by decide +kernel
theorem dX12_begins_41 : decode cX12_begins 41 = .ok (.iconst (-1), 1) := by decide +kernel
theorem dX12_begins_42 : decode cX12_begins 42 = .ok (.putfield 38, 3) := by decide +kernel
theorem dX12_begins_45 : decode cX12_begins 45 = .ok (.aload_n 0, 1) := by decide +kernel
theorem dX12_begins_46 : decode cX12_begins 46 = .ok (.iconst 0, 1) := by decide +kernel
theorem dX12_begins_47 : decode cX12_begins 47 = .ok (.putfield 139, 3) := by decide +kernel
theorem dX12_begins_50 : decode cX12_begins 50 = .ok (.aload_n 0, 1) := by decide +kernel
theorem dX12_begins_51 : decode cX12_begins 51 = .ok (.invokevirtual 180, 3) := by decide +kernel
theorem dX12_begins_54 : decode cX12_begins 54 = .ok (.return_, 1) := by decide +kernel
theorem dX12_ends_0 : decode cX12_ends 0 = .ok (.aload_n 0, 1) := by decide +kernel
theorem dX12_ends_1 : decode cX12_ends 1 = .ok (.getfield 152, 3) := by decide +kernel
theorem dX12_ends_4 : decode cX12_ends 4 = .ok (.iconst 4, 1) := by decide +kernel
theorem dX12_ends_5 : decode cX12_ends 5 = .ok (.if_icmp .eq 9, 3) := by decide +kernel
theorem dX12_ends_8 : decode cX12_ends 8 = .ok (.aload_n 0, 1) := by decide +kernel
theorem dX12_ends_9 : decode cX12_ends 9 = .ok (.iconst 2, 1) := by decide +kernel
theorem dX12_ends_10 : decode cX12_ends 10 = .ok (.invokevirtual 183, 3) := by decide +kernel
theorem dX12_ends_13 : decode cX12_ends 13 = .ok (.ireturn, 1) := by decide +kernel
theorem dX12_ends_14 : decode cX12_ends 14 = .ok (.aload_n 0, 1) := by decide +kernel
theorem dX12_ends_15 : decode cX12_ends 15 = .ok (.invokevirtual 180, 3) := by decide +kernel
theorem dX12_ends_18 : decode cX12_ends 18 = .ok (.iconst 1, 1) := by decide +kernel
theorem dX12_ends_19 : decode cX12_ends 19 = .ok (.ireturn, 1) := by decide +kernel
theorem dX12_number_0 : decode cX12_number 0 = .ok (.aload_n 0, 1) := by decide +kernel
theorem dX12_number_1 : decode cX12_number 1 = .ok (.getfield 152, 3) := by decide +kernel
theorem dX12_number_4 : decode cX12_number 4 = .ok (.iconst 3, 1) := by decide +kernel
theorem dX12_number_5 : decode cX12_number 5 = .ok (.if_icmp .eq 9, 3) := by decide +kernel
theorem dX12_number_8 : decode cX12_number 8 = .ok (.aload_n 0, 1) := by decide +kernel
theorem dX12_number_9 : decode cX12_number 9 = .ok (.iconst 2, 1) := by decide +kernel
theorem dX12_number_10 : decode cX12_number 10 = .ok (.invokevirtual 183, 3) := by decide +kernel
theorem dX12_number_13 : decode cX12_number 13 = .ok (.ireturn, 1) := by decide +kernel
theorem dX12_number_14 : decode cX12_number 14 = .ok (.aload_n 0, 1) := by decide +kernel
theorem dX12_number_15 : decode cX12_number 15 = .ok (.getfield 149, 3) := by decide +kernel
theorem dX12_number_18 : decode cX12_number 18 = .ok (.iload_n 2, 1) := by decide +kernel
theorem dX12_number_19 : decode cX12_number 19 = .ok (.if_icmp .lt 11, 3) := by decide +kernel
theorem dX12_number_22 : decode cX12_number 22 = .ok (.aload_n 0, 1) := by decide +kernel
theorem dX12_number_23 : decode cX12_number 23 = .ok (.getfield 149, 3) := by decide +kernel
theorem dX12_number_26 : decode cX12_number 26 = .ok (.iload_n 3, 1) := by decide +kernel
theorem dX12_number_27 : decode cX12_number 27 = .ok (.if_icmp .le 9, 3) := by decide +kernel
theorem dX12_number_30 : decode cX12_number 30 = .ok (.aload_n 0, 1) := by decide +kernel
theorem dX12_number_31 : decode cX12_number 31 = .ok (.iconst 4, 1) := by decide +kernel
theorem dX12_number_32 : decode cX12_number 32 = .ok (.invokevirtual 183, 3) := by decide +kernel
theorem dX12_number_35 : decode cX12_number 35 = .ok (.ireturn, 1) := by decide +kernel
theorem dX12_number_36 : decode cX12_number 36 = .ok (.aload_n 0, 1) := by decide +kernel
theorem dX12_number_37 : decode cX12_number 37 = .ok (.getfield 7, 3) := by decide +kernel
theorem dX12_number_40 : decode cX12_number 40 = .ok (.iload_n 1, 1) := by decide +kernel
theorem dX12_number_41 : decode cX12_number 41 = .ok (.aload_n 0, 1) := by decide +kernel
theorem dX12_number_42 : decode cX12_number 42 = .ok (.getfield 149, 3) := by decide +kernel
theorem dX12_number_45 : decode cX12_number 45 = .ok (.i2l, 1) := by decide +kernel
theorem dX12_number_46 : decode cX12_number 46 = .ok (.lastore, 1) := by decide +kernel
theorem dX12_number_47 : decode cX12_number 47 = .ok (.aload_n 0, 1) := by decide +kernel
theorem dX12_number_48 : decode cX12_number 48 = .ok (.invokevirtual 180, 3) := by decide +kernel
theorem dX12_number_51 : decode cX12_number 51 = .ok (.iconst 1, 1) := by decide +kernel
theorem dX12_number_52 : decode cX12_number 52 = .ok (.ireturn, 1) := by decide +kernel
theorem dX12_wantWord_0 : decode cX12_wantWord 0 = .ok (.aload_n 0, 1) := by decide +kernel
theorem dX12_wantWord_1 : decode cX12_wantWord 1 = .ok (.ldc 186, 2) := by decide +kernel
theorem dX12_wantWord_3 : decode cX12_wantWord 3 = .ok (.invokevirtual 188, 3) := by decide +kernel
theorem dX12_wantWord_6 : decode cX12_wantWord 6 = .ok (.iload_n 1, 1) := by decide +kernel
theorem dX12_wantWord_7 : decode cX12_wantWord 7 = .ok (.if_icmp .eq 9, 3) := by decide +kernel
theorem dX12_wantWord_10 : decode cX12_wantWord 10 = .ok (.aload_n 0, 1) := by decide +kernel
theorem dX12_wantWord_11 : decode cX12_wantWord 11 = .ok (.iconst 2, 1) := by decide +kernel
theorem dX12_wantWord_12 : decode cX12_wantWord 12 = .ok (.invokevirtual 183, 3) := by decide +kernel
theorem dX12_wantWord_15 : decode cX12_wantWord 15 = .ok (.ireturn, 1) := by decide +kernel
theorem dX12_wantWord_16 : decode cX12_wantWord 16 = .ok (.aload_n 0, 1) := by decide +kernel
theorem dX12_wantWord_17 : decode cX12_wantWord 17 = .ok (.invokevirtual 180, 3) := by decide +kernel
theorem dX12_wantWord_20 : decode cX12_wantWord 20 = .ok (.iconst 1, 1) := by decide +kernel
theorem dX12_wantWord_21 : decode cX12_wantWord 21 = .ok (.ireturn, 1) := by decide +kernel
theorem dX12_isName_0 : decode cX12_isName 0 = .ok (.aload_n 0, 1) := by decide +kernel
theorem dX12_isName_1 : decode cX12_isName 1 = .ok (.getfield 152, 3) := by decide +kernel
theorem dX12_isName_4 : decode cX12_isName 4 = .ok (.iconst 2, 1) := by decide +kernel
theorem dX12_isName_5 : decode cX12_isName 5 = .ok (.if_icmp .ne 30, 3) := by decide +kernel
theorem dX12_isName_8 : decode cX12_isName 8 = .ok (.aload_n 0, 1) := by decide +kernel
theorem dX12_isName_9 : decode cX12_isName 9 = .ok (.getfield 139, 3) := by decide +kernel
theorem dX12_isName_12 : decode cX12_isName 12 = .ok (.aload_n 0, 1) := by decide +kernel
theorem dX12_isName_13 : decode cX12_isName 13 = .ok (.getfield 146, 3) := by decide +kernel
theorem dX12_isName_16 : decode cX12_isName 16 = .ok (.isub, 1) := by decide +kernel
theorem dX12_isName_17 : decode cX12_isName 17 = .ok (.bipush 8, 2) := by decide +kernel
theorem dX12_isName_19 : decode cX12_isName 19 = .ok (.if_icmp .gt 16, 3) := by decide +kernel
theorem dX12_isName_22 : decode cX12_isName 22 = .ok (.aload_n 0, 1) := by decide +kernel
theorem dX12_isName_23 : decode cX12_isName 23 = .ok (.aload_n 1, 1) := by decide +kernel
theorem dX12_isName_24 : decode cX12_isName 24 = .ok (.invokevirtual 188, 3) := by decide +kernel
theorem dX12_isName_27 : decode cX12_isName 27 = .ok (.iconst (-1), 1) := by decide +kernel
theorem dX12_isName_28 : decode cX12_isName 28 = .ok (.if_icmp .ne 7, 3) := by decide +kernel
theorem dX12_isName_31 : decode cX12_isName 31 = .ok (.iconst 1, 1) := by decide +kernel
theorem dX12_isName_32 : decode cX12_isName 32 = .ok (.goto 4, 3) := by decide +kernel
theorem dX12_isName_35 : decode cX12_isName 35 = .ok (.iconst 0, 1) := by decide +kernel
theorem dX12_isName_36 : decode cX12_isName 36 = .ok (.ireturn, 1) := by decide +kernel
theorem dX12_nameHere_0 : decode cX12_nameHere 0 = .ok (.lconst 0, 1) := by decide +kernel
theorem dX12_nameHere_1 : decode cX12_nameHere 1 = .ok (.lstore_n 1, 1) := by decide +kernel
theorem dX12_nameHere_2 : decode cX12_nameHere 2 = .ok (.aload_n 0, 1) := by decide +kernel
theorem dX12_nameHere_3 : decode cX12_nameHere 3 = .ok (.getfield 146, 3) := by decide +kernel
theorem dX12_nameHere_6 : decode cX12_nameHere 6 = .ok (.istore_n 3, 1) := by decide +kernel
theorem dX12_nameHere_7 : decode cX12_nameHere 7 = .ok (.iload_n 3, 1) := by decide +kernel
theorem dX12_nameHere_8 : decode cX12_nameHere 8 = .ok (.aload_n 0, 1) := by decide +kernel
theorem dX12_nameHere_9 : decode cX12_nameHere 9 = .ok (.getfield 139, 3) := by decide +kernel
theorem dX12_nameHere_12 : decode cX12_nameHere 12 = .ok (.if_icmp .ge 21, 3) := by decide +kernel
theorem dX12_nameHere_15 : decode cX12_nameHere 15 = .ok (.lload_n 1, 1) := by decide +kernel
theorem dX12_nameHere_16 : decode cX12_nameHere 16 = .ok (.bipush 8, 2) := by decide +kernel
theorem dX12_nameHere_18 : decode cX12_nameHere 18 = .ok (.lshl, 1) := by decide +kernel
theorem dX12_nameHere_19 : decode cX12_nameHere 19 = .ok (.aload_n 0, 1) := by decide +kernel
theorem dX12_nameHere_20 : decode cX12_nameHere 20 = .ok (.iload_n 3, 1) := by decide +kernel
theorem dX12_nameHere_21 : decode cX12_nameHere 21 = .ok (.invokevirtual 142, 3) := by decide +kernel
theorem dX12_nameHere_24 : decode cX12_nameHere 24 = .ok (.i2l, 1) := by decide +kernel
theorem dX12_nameHere_25 : decode cX12_nameHere 25 = .ok (.lor, 1) := by decide +kernel
theorem dX12_nameHere_26 : decode cX12_nameHere 26 = .ok (.lstore_n 1, 1) := by decide +kernel
theorem dX12_nameHere_27 : decode cX12_nameHere 27 = .ok (.iinc 3 1, 3) := by decide +kernel
theorem dX12_nameHere_30 : decode cX12_nameHere 30 = .ok (.goto (-23), 3) := by decide +kernel
theorem dX12_nameHere_33 : decode cX12_nameHere 33 = .ok (.lload_n 1, 1) := by decide +kernel
theorem dX12_nameHere_34 : decode cX12_nameHere 34 = .ok (.lreturn, 1) := by decide +kernel
theorem dX12_fault_0 : decode cX12_fault 0 = .ok (.iload_n 1, 1) := by decide +kernel
theorem dX12_fault_1 : decode cX12_fault 1 = .ok (.ifCond .ne 10, 3) := by decide +kernel
theorem dX12_fault_4 : decode cX12_fault 4 = .ok (.aload_n 0, 1) := by decide +kernel
theorem dX12_fault_5 : decode cX12_fault 5 = .ok (.getfield 34, 3) := by decide +kernel
theorem dX12_fault_8 : decode cX12_fault 8 = .ok (.goto 16, 3) := by decide +kernel
theorem dX12_fault_11 : decode cX12_fault 11 = .ok (.iload_n 1, 1) := by decide +kernel
theorem dX12_fault_12 : decode cX12_fault 12 = .ok (.iconst 1, 1) := by decide +kernel
theorem dX12_fault_13 : decode cX12_fault 13 = .ok (.if_icmp .ne 10, 3) := by decide +kernel
theorem dX12_fault_16 : decode cX12_fault 16 = .ok (.aload_n 0, 1) := by decide +kernel
theorem dX12_fault_17 : decode cX12_fault 17 = .ok (.getfield 38, 3) := by decide +kernel
theorem dX12_fault_20 : decode cX12_fault 20 = .ok (.goto 4, 3) := by decide +kernel
theorem dX12_fault_23 : decode cX12_fault 23 = .ok (.iconst (-1), 1) := by decide +kernel
theorem dX12_fault_24 : decode cX12_fault 24 = .ok (.ireturn, 1) := by decide +kernel
theorem dX12_machineAt_0 : decode cX12_machineAt 0 = .ok (.iload_n 0, 1) := by decide +kernel
theorem dX12_machineAt_1 : decode cX12_machineAt 1 = .ok (.bipush 8, 2) := by decide +kernel
theorem dX12_machineAt_3 : decode cX12_machineAt 3 = .ok (.iadd, 1) := by decide +kernel
theorem dX12_machineAt_4 : decode cX12_machineAt 4 = .ok (.bipush 16, 2) := by decide +kernel
theorem dX12_machineAt_6 : decode cX12_machineAt 6 = .ok (.iload_n 1, 1) := by decide +kernel
theorem dX12_machineAt_7 : decode cX12_machineAt 7 = .ok (.imul, 1) := by decide +kernel
theorem dX12_machineAt_8 : decode cX12_machineAt 8 = .ok (.iadd, 1) := by decide +kernel
theorem dX12_machineAt_9 : decode cX12_machineAt 9 = .ok (.ireturn, 1) := by decide +kernel
theorem dX12_machineNamed_0 : decode cX12_machineNamed 0 = .ok (.iconst 0, 1) := by decide +kernel
theorem dX12_machineNamed_1 : decode cX12_machineNamed 1 = .ok (.istore 4, 2) := by decide +kernel
theorem dX12_machineNamed_3 : decode cX12_machineNamed 3 = .ok (.iload 4, 2) := by decide +kernel
theorem dX12_machineNamed_5 : decode cX12_machineNamed 5 = .ok (.i2l, 1) := by decide +kernel
theorem dX12_machineNamed_6 : decode cX12_machineNamed 6 = .ok (.aload_n 0, 1) := by decide +kernel
theorem dX12_machineNamed_7 : decode cX12_machineNamed 7 = .ok (.getfield 7, 3) := by decide +kernel
theorem dX12_machineNamed_10 : decode cX12_machineNamed 10 = .ok (.iload_n 1, 1) := by decide +kernel
theorem dX12_machineNamed_11 : decode cX12_machineNamed 11 = .ok (.iconst 0, 1) := by decide +kernel
theorem dX12_machineNamed_12 : decode cX12_machineNamed 12 = .ok (.iadd, 1) := by decide +kernel
theorem dX12_machineNamed_13 : decode cX12_machineNamed 13 = .ok (.laload, 1) := by decide +kernel
theorem dX12_machineNamed_14 : decode cX12_machineNamed 14 = .ok (.lcmp, 1) := by decide +kernel
theorem dX12_machineNamed_15 : decode cX12_machineNamed 15 = .ok (.ifCond .ge 31, 3) := by decide +kernel
theorem dX12_machineNamed_18 : decode cX12_machineNamed 18 = .ok (.aload_n 0, 1) := by decide +kernel
theorem dX12_machineNamed_19 : decode cX12_machineNamed 19 = .ok (.getfield 7, 3) := by decide +kernel
theorem dX12_machineNamed_22 : decode cX12_machineNamed 22 = .ok (.iload_n 1, 1) := by decide +kernel
theorem dX12_machineNamed_23 : decode cX12_machineNamed 23 = .ok (.iload 4, 2) := by decide +kernel
theorem dX12_machineNamed_25 : decode cX12_machineNamed 25 = .ok (.invokestatic 192, 3) := by decide +kernel
theorem dX12_machineNamed_28 : decode cX12_machineNamed 28 = .ok (.bipush 13, 2) := by decide +kernel
theorem dX12_machineNamed_30 : decode cX12_machineNamed 30 = .ok (.iadd, 1) := by decide +kernel
theorem dX12_machineNamed_31 : decode cX12_machineNamed 31 = .ok (.laload, 1) := by decide +kernel
theorem dX12_machineNamed_32 : decode cX12_machineNamed 32 = .ok (.lload_n 2, 1) := by decide +kernel
theorem dX12_machineNamed_33 : decode cX12_machineNamed 33 = .ok (.lcmp, 1) := by decide +kernel
theorem dX12_machineNamed_34 : decode cX12_machineNamed 34 = .ok (.ifCond .ne 6, 3) := by decide +kernel
theorem dX12_machineNamed_37 : decode cX12_machineNamed 37 = .ok (.iload 4, 2) := by decide +kernel
theorem dX12_machineNamed_39 : decode cX12_machineNamed 39 = .ok (.ireturn, 1) := by decide +kernel
theorem dX12_machineNamed_40 : decode cX12_machineNamed 40 = .ok (.iinc 4 1, 3) := by decide +kernel
theorem dX12_machineNamed_43 : decode cX12_machineNamed 43 = .ok (.goto (-40), 3) := by decide +kernel
theorem dX12_machineNamed_46 : decode cX12_machineNamed 46 = .ok (.iconst (-1), 1) := by decide +kernel
theorem dX12_machineNamed_47 : decode cX12_machineNamed 47 = .ok (.ireturn, 1) := by decide +kernel
theorem dX12_sortHere_0 : decode cX12_sortHere 0 = .ok (.iconst 0, 1) := by decide +kernel
theorem dX12_sortHere_1 : decode cX12_sortHere 1 = .ok (.istore_n 1, 1) := by decide +kernel
theorem dX12_sortHere_2 : decode cX12_sortHere 2 = .ok (.iload_n 1, 1) := by decide +kernel
theorem dX12_sortHere_3 : decode cX12_sortHere 3 = .ok (.i2l, 1) := by decide +kernel
theorem dX12_sortHere_4 : decode cX12_sortHere 4 = .ok (.aload_n 0, 1) := by decide +kernel
theorem dX12_sortHere_5 : decode cX12_sortHere 5 = .ok (.getfield 7, 3) := by decide +kernel
theorem dX12_sortHere_8 : decode cX12_sortHere 8 = .ok (.sipush 1761, 3) := by decide +kernel
theorem dX12_sortHere_11 : decode cX12_sortHere 11 = .ok (.laload, 1) := by decide +kernel
theorem dX12_sortHere_12 : decode cX12_sortHere 12 = .ok (.lcmp, 1) := by decide +kernel
theorem dX12_sortHere_13 : decode cX12_sortHere 13 = .ok (.ifCond .ge 25, 3) := by decide +kernel
theorem dX12_sortHere_16 : decode cX12_sortHere 16 = .ok (.aload_n 0, 1) := by decide +kernel
theorem dX12_sortHere_17 : decode cX12_sortHere 17 = .ok (.getfield 41, 3) := by decide +kernel
theorem dX12_sortHere_20 : decode cX12_sortHere 20 = .ok (.iload_n 1, 1) := by decide +kernel
theorem dX12_sortHere_21 : decode cX12_sortHere 21 = .ok (.laload, 1) := by decide +kernel
theorem dX12_sortHere_22 : decode cX12_sortHere 22 = .ok (.aload_n 0, 1) := by decide +kernel
theorem dX12_sortHere_23 : decode cX12_sortHere 23 = .ok (.invokevirtual 195, 3) := by decide +kernel
theorem dX12_sortHere_26 : decode cX12_sortHere 26 = .ok (.lcmp, 1) := by decide +kernel
theorem dX12_sortHere_27 : decode cX12_sortHere 27 = .ok (.ifCond .ne 5, 3) := by decide +kernel
theorem dX12_sortHere_30 : decode cX12_sortHere 30 = .ok (.iload_n 1, 1) := by decide +kernel
theorem dX12_sortHere_31 : decode cX12_sortHere 31 = .ok (.ireturn, 1) := by decide +kernel
theorem dX12_sortHere_32 : decode cX12_sortHere 32 = .ok (.iinc 1 1, 3) := by decide +kernel
theorem dX12_sortHere_35 : decode cX12_sortHere 35 = .ok (.goto (-33), 3) := by decide +kernel
theorem dX12_sortHere_38 : decode cX12_sortHere 38 = .ok (.iconst (-1), 1) := by decide +kernel
theorem dX12_sortHere_39 : decode cX12_sortHere 39 = .ok (.ireturn, 1) := by decide +kernel
theorem dX12_aMachine_0 : decode cX12_aMachine 0 = .ok (.aload_n 0, 1) := by decide +kernel
theorem dX12_aMachine_1 : decode cX12_aMachine 1 = .ok (.getfield 7, 3) := by decide +kernel
theorem dX12_aMachine_4 : decode cX12_aMachine 4 = .ok (.sipush 1760, 3) := by decide +kernel
theorem dX12_aMachine_7 : decode cX12_aMachine 7 = .ok (.laload, 1) := by decide +kernel
theorem dX12_aMachine_8 : decode cX12_aMachine 8 = .ok (.l2i, 1) := by decide +kernel
theorem dX12_aMachine_9 : decode cX12_aMachine 9 = .ok (.istore_n 1, 1) := by decide +kernel
theorem dX12_aMachine_10 : decode cX12_aMachine 10 = .ok (.iload_n 1, 1) := by decide +kernel
theorem dX12_aMachine_11 : decode cX12_aMachine 11 = .ok (.bipush 6, 2) := by decide +kernel
theorem dX12_aMachine_13 : decode cX12_aMachine 13 = .ok (.if_icmp .ne 10, 3) := by decide +kernel
theorem dX12_aMachine_16 : decode cX12_aMachine 16 = .ok (.aload_n 0, 1) := by decide +kernel
theorem dX12_aMachine_17 : decode cX12_aMachine 17 = .ok (.bipush 6, 2) := by decide +kernel
theorem dX12_aMachine_19 : decode cX12_aMachine 19 = .ok (.invokevirtual 183, 3) := by decide +kernel
theorem dX12_aMachine_22 : decode cX12_aMachine 22 = .ok (.ireturn, 1) := by decide +kernel
theorem dX12_aMachine_23 : decode cX12_aMachine 23 = .ok (.aload_n 0, 1) := by decide +kernel
theorem dX12_aMachine_24 : decode cX12_aMachine 24 = .ok (.invokevirtual 180, 3) := by decide +kernel
theorem dX12_aMachine_27 : decode cX12_aMachine 27 = .ok (.aload_n 0, 1) := by decide +kernel
theorem dX12_aMachine_28 : decode cX12_aMachine 28 = .ok (.ldc 186, 2) := by decide +kernel
theorem dX12_aMachine_30 : decode cX12_aMachine 30 = .ok (.invokevirtual 199, 3) := by decide +kernel
theorem dX12_aMachine_33 : decode cX12_aMachine 33 = .ok (.ifCond .ne 9, 3) := by decide +kernel
theorem dX12_aMachine_36 : decode cX12_aMachine 36 = .ok (.aload_n 0, 1) := by decide +kernel
theorem dX12_aMachine_37 : decode cX12_aMachine 37 = .ok (.iconst 2, 1) := by decide +kernel
theorem dX12_aMachine_38 : decode cX12_aMachine 38 = .ok (.invokevirtual 183, 3) := by decide +kernel
theorem dX12_aMachine_41 : decode cX12_aMachine 41 = .ok (.ireturn, 1) := by decide +kernel
theorem dX12_aMachine_42 : decode cX12_aMachine 42 = .ok (.aload_n 0, 1) := by decide +kernel
theorem dX12_aMachine_43 : decode cX12_aMachine 43 = .ok (.sipush 1760, 3) := by decide +kernel
theorem dX12_aMachine_46 : decode cX12_aMachine 46 = .ok (.aload_n 0, 1) := by decide +kernel
theorem dX12_aMachine_47 : decode cX12_aMachine 47 = .ok (.invokevirtual 195, 3) := by decide +kernel
theorem dX12_aMachine_50 : decode cX12_aMachine 50 = .ok (.invokevirtual 203, 3) := by decide +kernel
theorem dX12_aMachine_53 : decode cX12_aMachine 53 = .ok (.iconst (-1), 1) := by decide +kernel
theorem dX12_aMachine_54 : decode cX12_aMachine 54 = .ok (.if_icmp .eq 9, 3) := by decide +kernel
theorem dX12_aMachine_57 : decode cX12_aMachine 57 = .ok (.aload_n 0, 1) := by decide +kernel
theorem dX12_aMachine_58 : decode cX12_aMachine 58 = .ok (.iconst 3, 1) := by decide +kernel
theorem dX12_aMachine_59 : decode cX12_aMachine 59 = .ok (.invokevirtual 183, 3) := by decide +kernel
theorem dX12_aMachine_62 : decode cX12_aMachine 62 = .ok (.ireturn, 1) := by decide +kernel
theorem dX12_aMachine_63 : decode cX12_aMachine 63 = .ok (.sipush 1760, 3) := by decide +kernel
theorem dX12_aMachine_66 : decode cX12_aMachine 66 = .ok (.iload_n 1, 1) := by decide +kernel
theorem dX12_aMachine_67 : decode cX12_aMachine 67 = .ok (.invokestatic 192, 3) := by decide +kernel
theorem dX12_aMachine_70 : decode cX12_aMachine 70 = .ok (.istore_n 2, 1) := by decide +kernel
theorem dX12_aMachine_71 : decode cX12_aMachine 71 = .ok (.aload_n 0, 1) := by decide +kernel
theorem dX12_aMachine_72 : decode cX12_aMachine 72 = .ok (.getfield 7, 3) := by decide +kernel
theorem dX12_aMachine_75 : decode cX12_aMachine 75 = .ok (.iload_n 2, 1) := by decide +kernel
theorem dX12_aMachine_76 : decode cX12_aMachine 76 = .ok (.bipush 13, 2) := by decide +kernel
theorem dX12_aMachine_78 : decode cX12_aMachine 78 = .ok (.iadd, 1) := by decide +kernel
theorem dX12_aMachine_79 : decode cX12_aMachine 79 = .ok (.aload_n 0, 1) := by decide +kernel
theorem dX12_aMachine_80 : decode cX12_aMachine 80 = .ok (.invokevirtual 195, 3) := by decide +kernel
theorem dX12_aMachine_83 : decode cX12_aMachine 83 = .ok (.lastore, 1) := by decide +kernel
theorem dX12_aMachine_84 : decode cX12_aMachine 84 = .ok (.aload_n 0, 1) := by decide +kernel
theorem dX12_aMachine_85 : decode cX12_aMachine 85 = .ok (.getfield 7, 3) := by decide +kernel
theorem dX12_aMachine_88 : decode cX12_aMachine 88 = .ok (.iload_n 2, 1) := by decide +kernel
theorem dX12_aMachine_89 : decode cX12_aMachine 89 = .ok (.iconst 1, 1) := by decide +kernel
theorem dX12_aMachine_90 : decode cX12_aMachine 90 = .ok (.iadd, 1) := by decide +kernel
theorem dX12_aMachine_91 : decode cX12_aMachine 91 = .ok (.lconst 1, 1) := by decide +kernel
theorem dX12_aMachine_92 : decode cX12_aMachine 92 = .ok (.lastore, 1) := by decide +kernel
theorem dX12_aMachine_93 : decode cX12_aMachine 93 = .ok (.aload_n 0, 1) := by decide +kernel
theorem dX12_aMachine_94 : decode cX12_aMachine 94 = .ok (.getfield 7, 3) := by decide +kernel
theorem dX12_aMachine_97 : decode cX12_aMachine 97 = .ok (.iload_n 2, 1) := by decide +kernel
theorem dX12_aMachine_98 : decode cX12_aMachine 98 = .ok (.bipush 11, 2) := by decide +kernel
theorem dX12_aMachine_100 : decode cX12_aMachine 100 = .ok (.iadd, 1) := by decide +kernel
theorem dX12_aMachine_101 : decode cX12_aMachine 101 = .ok (.ldc2_w 207, 3) := by decide +kernel
theorem dX12_aMachine_104 : decode cX12_aMachine 104 = .ok (.lastore, 1) := by decide +kernel
theorem dX12_aMachine_105 : decode cX12_aMachine 105 = .ok (.aload_n 0, 1) := by decide +kernel
theorem dX12_aMachine_106 : decode cX12_aMachine 106 = .ok (.invokevirtual 180, 3) := by decide +kernel
theorem dX12_aMachine_109 : decode cX12_aMachine 109 = .ok (.aload_n 0, 1) := by decide +kernel
theorem dX12_aMachine_110 : decode cX12_aMachine 110 = .ok (.iconst 4, 1) := by decide +kernel
theorem dX12_aMachine_111 : decode cX12_aMachine 111 = .ok (.invokevirtual 209, 3) := by decide +kernel
theorem dX12_aMachine_114 : decode cX12_aMachine 114 = .ok (.ifCond .eq 16, 3) := by decide +kernel
theorem dX12_aMachine_117 : decode cX12_aMachine 117 = .ok (.aload_n 0, 1) := by decide +kernel
theorem dX12_aMachine_118 : decode cX12_aMachine 118 = .ok (.iload_n 2, 1) := by decide +kernel
theorem dX12_aMachine_119 : decode cX12_aMachine 119 = .ok (.iconst 0, 1) := by decide +kernel
theorem dX12_aMachine_120 : decode cX12_aMachine 120 = .ok (.iadd, 1) := by decide +kernel
theorem dX12_aMachine_121 : decode cX12_aMachine 121 = .ok (.iconst 1, 1) := by decide +kernel
theorem dX12_aMachine_122 : decode cX12_aMachine 122 = .ok (.bipush 99, 2) := by decide +kernel
theorem dX12_aMachine_124 : decode cX12_aMachine 124 = .ok (.invokevirtual 212, 3) := by decide +kernel
theorem dX12_aMachine_127 : decode cX12_aMachine 127 = .ok (.ifCond .ne 5, 3) := by decide +kernel
theorem dX12_aMachine_130 : decode cX12_aMachine 130 = .ok (.iconst 0, 1) := by decide +kernel
theorem dX12_aMachine_131 : decode cX12_aMachine 131 = .ok (.ireturn, 1) := by decide +kernel
theorem dX12_aMachine_132 : decode cX12_aMachine 132 = .ok (.iconst 0, 1) := by decide +kernel
theorem dX12_aMachine_133 : decode cX12_aMachine 133 = .ok (.istore_n 3, 1) := by decide +kernel
theorem dX12_aMachine_134 : decode cX12_aMachine 134 = .ok (.iconst 0, 1) := by decide +kernel
theorem dX12_aMachine_135 : decode cX12_aMachine 135 = .ok (.istore 4, 2) := by decide +kernel
theorem dX12_aMachine_137 : decode cX12_aMachine 137 = .ok (.aload_n 0, 1) := by decide +kernel
theorem dX12_aMachine_138 : decode cX12_aMachine 138 = .ok (.ldc 186, 2) := by decide +kernel
theorem dX12_aMachine_140 : decode cX12_aMachine 140 = .ok (.invokevirtual 188, 3) := by decide +kernel
theorem dX12_aMachine_143 : decode cX12_aMachine 143 = .ok (.istore 5, 2) := by decide +kernel
theorem dX12_aMachine_145 : decode cX12_aMachine 145 = .ok (.iload 5, 2) := by decide +kernel
theorem dX12_aMachine_147 : decode cX12_aMachine 147 = .ok (.iconst 5, 1) := by decide +kernel
theorem dX12_aMachine_148 : decode cX12_aMachine 148 = .ok (.if_icmp .eq 10, 3) := by decide +kernel
theorem dX12_aMachine_151 : decode cX12_aMachine 151 = .ok (.iload 5, 2) := by decide +kernel
theorem dX12_aMachine_153 : decode cX12_aMachine 153 = .ok (.bipush 6, 2) := by decide +kernel
theorem dX12_aMachine_155 : decode cX12_aMachine 155 = .ok (.if_icmp .ne 142, 3) := by decide +kernel
theorem dX12_aMachine_158 : decode cX12_aMachine 158 = .ok (.iload 5, 2) := by decide +kernel
theorem dX12_aMachine_160 : decode cX12_aMachine 160 = .ok (.iconst 5, 1) := by decide +kernel
theorem dX12_aMachine_161 : decode cX12_aMachine 161 = .ok (.if_icmp .ne 10, 3) := by decide +kernel
theorem dX12_aMachine_164 : decode cX12_aMachine 164 = .ok (.iload_n 3, 1) := by decide +kernel
theorem dX12_aMachine_165 : decode cX12_aMachine 165 = .ok (.ifCond .eq 17, 3) := by decide +kernel
theorem dX12_aMachine_168 : decode cX12_aMachine 168 = .ok (.goto 8, 3) := by decide +kernel
theorem dX12_aMachine_171 : decode cX12_aMachine 171 = .ok (.iload 4, 2) := by decide +kernel
theorem dX12_aMachine_173 : decode cX12_aMachine 173 = .ok (.ifCond .eq 9, 3) := by decide +kernel
theorem dX12_aMachine_176 : decode cX12_aMachine 176 = .ok (.aload_n 0, 1) := by decide +kernel
theorem dX12_aMachine_177 : decode cX12_aMachine 177 = .ok (.iconst 5, 1) := by decide +kernel
theorem dX12_aMachine_178 : decode cX12_aMachine 178 = .ok (.invokevirtual 183, 3) := by decide +kernel
theorem dX12_aMachine_181 : decode cX12_aMachine 181 = .ok (.ireturn, 1) := by decide +kernel
theorem dX12_aMachine_182 : decode cX12_aMachine 182 = .ok (.iload_n 3, 1) := by decide +kernel
theorem dX12_aMachine_183 : decode cX12_aMachine 183 = .ok (.ifCond .ne 9, 3) := by decide +kernel
theorem dX12_aMachine_186 : decode cX12_aMachine 186 = .ok (.iload 5, 2) := by decide +kernel
theorem dX12_aMachine_188 : decode cX12_aMachine 188 = .ok (.iconst 5, 1) := by decide +kernel
theorem dX12_aMachine_189 : decode cX12_aMachine 189 = .ok (.if_icmp .ne 7, 3) := by decide +kernel
theorem dX12_aMachine_192 : decode cX12_aMachine 192 = .ok (.iconst 1, 1) := by decide +kernel
theorem dX12_aMachine_193 : decode cX12_aMachine 193 = .ok (.goto 4, 3) := by decide +kernel
theorem dX12_aMachine_196 : decode cX12_aMachine 196 = .ok (.iconst 0, 1) := by decide +kernel
theorem dX12_aMachine_197 : decode cX12_aMachine 197 = .ok (.istore_n 3, 1) := by decide +kernel
theorem dX12_aMachine_198 : decode cX12_aMachine 198 = .ok (.iload 4, 2) := by decide +kernel
theorem dX12_aMachine_200 : decode cX12_aMachine 200 = .ok (.ifCond .ne 10, 3) := by decide +kernel
theorem dX12_aMachine_203 : decode cX12_aMachine 203 = .ok (.iload 5, 2) := by decide +kernel
theorem dX12_aMachine_205 : decode cX12_aMachine 205 = .ok (.bipush 6, 2) := by decide +kernel
theorem dX12_aMachine_207 : decode cX12_aMachine 207 = .ok (.if_icmp .ne 7, 3) := by decide +kernel
theorem dX12_aMachine_210 : decode cX12_aMachine 210 = .ok (.iconst 1, 1) := by decide +kernel
theorem dX12_aMachine_211 : decode cX12_aMachine 211 = .ok (.goto 4, 3) := by decide +kernel
theorem dX12_aMachine_214 : decode cX12_aMachine 214 = .ok (.iconst 0, 1) := by decide +kernel
theorem dX12_aMachine_215 : decode cX12_aMachine 215 = .ok (.istore 4, 2) := by decide +kernel
theorem dX12_aMachine_217 : decode cX12_aMachine 217 = .ok (.aload_n 0, 1) := by decide +kernel
theorem dX12_aMachine_218 : decode cX12_aMachine 218 = .ok (.invokevirtual 180, 3) := by decide +kernel
theorem dX12_aMachine_221 : decode cX12_aMachine 221 = .ok (.iload 5, 2) := by decide +kernel
theorem dX12_aMachine_223 : decode cX12_aMachine 223 = .ok (.iconst 5, 1) := by decide +kernel
theorem dX12_aMachine_224 : decode cX12_aMachine 224 = .ok (.if_icmp .ne 18, 3) := by decide +kernel
theorem dX12_aMachine_227 : decode cX12_aMachine 227 = .ok (.aload_n 0, 1) := by decide +kernel
theorem dX12_aMachine_228 : decode cX12_aMachine 228 = .ok (.iload_n 2, 1) := by decide +kernel
theorem dX12_aMachine_229 : decode cX12_aMachine 229 = .ok (.iconst 1, 1) := by decide +kernel
theorem dX12_aMachine_230 : decode cX12_aMachine 230 = .ok (.iadd, 1) := by decide +kernel
theorem dX12_aMachine_231 : decode cX12_aMachine 231 = .ok (.iconst 1, 1) := by decide +kernel
theorem dX12_aMachine_232 : decode cX12_aMachine 232 = .ok (.bipush 24, 2) := by decide +kernel
theorem dX12_aMachine_234 : decode cX12_aMachine 234 = .ok (.invokevirtual 212, 3) := by decide +kernel
theorem dX12_aMachine_237 : decode cX12_aMachine 237 = .ok (.ifCond .ne 5, 3) := by decide +kernel
theorem dX12_aMachine_240 : decode cX12_aMachine 240 = .ok (.iconst 0, 1) := by decide +kernel
theorem dX12_aMachine_241 : decode cX12_aMachine 241 = .ok (.ireturn, 1) := by decide +kernel
theorem dX12_aMachine_242 : decode cX12_aMachine 242 = .ok (.iload 5, 2) := by decide +kernel
theorem dX12_aMachine_244 : decode cX12_aMachine 244 = .ok (.bipush 6, 2) := by decide +kernel
theorem dX12_aMachine_246 : decode cX12_aMachine 246 = .ok (.if_icmp .ne 40, 3) := by decide +kernel
theorem dX12_aMachine_249 : decode cX12_aMachine 249 = .ok (.aload_n 0, 1) := by decide +kernel
theorem dX12_aMachine_250 : decode cX12_aMachine 250 = .ok (.iload_n 2, 1) := by decide +kernel
theorem dX12_aMachine_251 : decode cX12_aMachine 251 = .ok (.iconst 2, 1) := by decide +kernel
theorem dX12_aMachine_252 : decode cX12_aMachine 252 = .ok (.iadd, 1) := by decide +kernel
theorem dX12_aMachine_253 : decode cX12_aMachine 253 = .ok (.iconst 0, 1) := by decide +kernel
theorem dX12_aMachine_254 : decode cX12_aMachine 254 = .ok (.bipush 64, 2) := by decide +kernel
theorem dX12_aMachine_256 : decode cX12_aMachine 256 = .ok (.invokevirtual 212, 3) := by decide +kernel
theorem dX12_aMachine_259 : decode cX12_aMachine 259 = .ok (.ifCond .eq 25, 3) := by decide +kernel
theorem dX12_aMachine_262 : decode cX12_aMachine 262 = .ok (.aload_n 0, 1) := by decide +kernel
theorem dX12_aMachine_263 : decode cX12_aMachine 263 = .ok (.bipush 7, 2) := by decide +kernel
theorem dX12_aMachine_265 : decode cX12_aMachine 265 = .ok (.invokevirtual 209, 3) := by decide +kernel
theorem dX12_aMachine_268 : decode cX12_aMachine 268 = .ok (.ifCond .eq 16, 3) := by decide +kernel
theorem dX12_aMachine_271 : decode cX12_aMachine 271 = .ok (.aload_n 0, 1) := by decide +kernel
theorem dX12_aMachine_272 : decode cX12_aMachine 272 = .ok (.iload_n 2, 1) := by decide +kernel
theorem dX12_aMachine_273 : decode cX12_aMachine 273 = .ok (.iconst 3, 1) := by decide +kernel
theorem dX12_aMachine_274 : decode cX12_aMachine 274 = .ok (.iadd, 1) := by decide +kernel
theorem dX12_aMachine_275 : decode cX12_aMachine 275 = .ok (.iconst 1, 1) := by decide +kernel
theorem dX12_aMachine_276 : decode cX12_aMachine 276 = .ok (.bipush 99, 2) := by decide +kernel
theorem dX12_aMachine_278 : decode cX12_aMachine 278 = .ok (.invokevirtual 212, 3) := by decide +kernel
theorem dX12_aMachine_281 : decode cX12_aMachine 281 = .ok (.ifCond .ne 5, 3) := by decide +kernel
theorem dX12_aMachine_284 : decode cX12_aMachine 284 = .ok (.iconst 0, 1) := by decide +kernel
theorem dX12_aMachine_285 : decode cX12_aMachine 285 = .ok (.ireturn, 1) := by decide +kernel
theorem dX12_aMachine_286 : decode cX12_aMachine 286 = .ok (.aload_n 0, 1) := by decide +kernel
theorem dX12_aMachine_287 : decode cX12_aMachine 287 = .ok (.ldc 186, 2) := by decide +kernel
theorem dX12_aMachine_289 : decode cX12_aMachine 289 = .ok (.invokevirtual 188, 3) := by decide +kernel
theorem dX12_aMachine_292 : decode cX12_aMachine 292 = .ok (.istore 5, 2) := by decide +kernel
theorem dX12_aMachine_294 : decode cX12_aMachine 294 = .ok (.goto (-149), 3) := by decide +kernel
theorem dX12_aMachine_297 : decode cX12_aMachine 297 = .ok (.aload_n 0, 1) := by decide +kernel
theorem dX12_aMachine_298 : decode cX12_aMachine 298 = .ok (.getfield 7, 3) := by decide +kernel
theorem dX12_aMachine_301 : decode cX12_aMachine 301 = .ok (.sipush 1760, 3) := by decide +kernel
theorem dX12_aMachine_304 : decode cX12_aMachine 304 = .ok (.dup2, 1) := by decide +kernel
theorem dX12_aMachine_305 : decode cX12_aMachine 305 = .ok (.laload, 1) := by decide +kernel
theorem dX12_aMachine_306 : decode cX12_aMachine 306 = .ok (.lconst 1, 1) := by decide +kernel
theorem dX12_aMachine_307 : decode cX12_aMachine 307 = .ok (.ladd, 1) := by decide +kernel
theorem dX12_aMachine_308 : decode cX12_aMachine 308 = .ok (.lastore, 1) := by decide +kernel
theorem dX12_aMachine_309 : decode cX12_aMachine 309 = .ok (.iconst 1, 1) := by decide +kernel
theorem dX12_aMachine_310 : decode cX12_aMachine 310 = .ok (.ireturn, 1) := by decide +kernel
theorem dX12_aTable_0 : decode cX12_aTable 0 = .ok (.sipush 1760, 3) := by decide +kernel
theorem dX12_aTable_3 : decode cX12_aTable 3 = .ok (.aload_n 0, 1) := by decide +kernel
theorem dX12_aTable_4 : decode cX12_aTable 4 = .ok (.getfield 7, 3) := by decide +kernel
theorem dX12_aTable_7 : decode cX12_aTable 7 = .ok (.sipush 1760, 3) := by decide +kernel
theorem dX12_aTable_10 : decode cX12_aTable 10 = .ok (.laload, 1) := by decide +kernel
theorem dX12_aTable_11 : decode cX12_aTable 11 = .ok (.l2i, 1) := by decide +kernel
theorem dX12_aTable_12 : decode cX12_aTable 12 = .ok (.iconst 1, 1) := by decide +kernel
theorem dX12_aTable_13 : decode cX12_aTable 13 = .ok (.isub, 1) := by decide +kernel
theorem dX12_aTable_14 : decode cX12_aTable 14 = .ok (.invokestatic 192, 3) := by decide +kernel
theorem dX12_aTable_17 : decode cX12_aTable 17 = .ok (.istore_n 1, 1) := by decide +kernel
theorem dX12_aTable_18 : decode cX12_aTable 18 = .ok (.aload_n 0, 1) := by decide +kernel
theorem dX12_aTable_19 : decode cX12_aTable 19 = .ok (.getfield 7, 3) := by decide +kernel
theorem dX12_aTable_22 : decode cX12_aTable 22 = .ok (.sipush 1760, 3) := by decide +kernel
theorem dX12_aTable_25 : decode cX12_aTable 25 = .ok (.laload, 1) := by decide +kernel
theorem dX12_aTable_26 : decode cX12_aTable 26 = .ok (.lconst 0, 1) := by decide +kernel
theorem dX12_aTable_27 : decode cX12_aTable 27 = .ok (.lcmp, 1) := by decide +kernel
theorem dX12_aTable_28 : decode cX12_aTable 28 = .ok (.ifCond .eq 17, 3) := by decide +kernel
theorem dX12_aTable_31 : decode cX12_aTable 31 = .ok (.aload_n 0, 1) := by decide +kernel
theorem dX12_aTable_32 : decode cX12_aTable 32 = .ok (.getfield 7, 3) := by decide +kernel
theorem dX12_aTable_35 : decode cX12_aTable 35 = .ok (.iload_n 1, 1) := by decide +kernel
theorem dX12_aTable_36 : decode cX12_aTable 36 = .ok (.bipush 14, 2) := by decide +kernel
theorem dX12_aTable_38 : decode cX12_aTable 38 = .ok (.iadd, 1) := by decide +kernel
theorem dX12_aTable_39 : decode cX12_aTable 39 = .ok (.laload, 1) := by decide +kernel
theorem dX12_aTable_40 : decode cX12_aTable 40 = .ok (.lconst 1, 1) := by decide +kernel
theorem dX12_aTable_41 : decode cX12_aTable 41 = .ok (.lcmp, 1) := by decide +kernel
theorem dX12_aTable_42 : decode cX12_aTable 42 = .ok (.ifCond .ne 9, 3) := by decide +kernel
theorem dX12_aTable_45 : decode cX12_aTable 45 = .ok (.aload_n 0, 1) := by decide +kernel
theorem dX12_aTable_46 : decode cX12_aTable 46 = .ok (.iconst 5, 1) := by decide +kernel
theorem dX12_aTable_47 : decode cX12_aTable 47 = .ok (.invokevirtual 183, 3) := by decide +kernel
theorem dX12_aTable_50 : decode cX12_aTable 50 = .ok (.ireturn, 1) := by decide +kernel
theorem dX12_aTable_51 : decode cX12_aTable 51 = .ok (.aload_n 0, 1) := by decide +kernel
theorem dX12_aTable_52 : decode cX12_aTable 52 = .ok (.getfield 7, 3) := by decide +kernel
theorem dX12_aTable_55 : decode cX12_aTable 55 = .ok (.iload_n 1, 1) := by decide +kernel
theorem dX12_aTable_56 : decode cX12_aTable 56 = .ok (.bipush 14, 2) := by decide +kernel
theorem dX12_aTable_58 : decode cX12_aTable 58 = .ok (.iadd, 1) := by decide +kernel
theorem dX12_aTable_59 : decode cX12_aTable 59 = .ok (.lconst 1, 1) := by decide +kernel
theorem dX12_aTable_60 : decode cX12_aTable 60 = .ok (.lastore, 1) := by decide +kernel
theorem dX12_aTable_61 : decode cX12_aTable 61 = .ok (.aload_n 0, 1) := by decide +kernel
theorem dX12_aTable_62 : decode cX12_aTable 62 = .ok (.invokevirtual 180, 3) := by decide +kernel
theorem dX12_aTable_65 : decode cX12_aTable 65 = .ok (.aload_n 0, 1) := by decide +kernel
theorem dX12_aTable_66 : decode cX12_aTable 66 = .ok (.iload_n 1, 1) := by decide +kernel
theorem dX12_aTable_67 : decode cX12_aTable 67 = .ok (.bipush 11, 2) := by decide +kernel
theorem dX12_aTable_69 : decode cX12_aTable 69 = .ok (.iadd, 1) := by decide +kernel
theorem dX12_aTable_70 : decode cX12_aTable 70 = .ok (.iconst 0, 1) := by decide +kernel
theorem dX12_aTable_71 : decode cX12_aTable 71 = .ok (.sipush 999, 3) := by decide +kernel
theorem dX12_aTable_74 : decode cX12_aTable 74 = .ok (.invokevirtual 212, 3) := by decide +kernel
theorem dX12_aTable_77 : decode cX12_aTable 77 = .ok (.ireturn, 1) := by decide +kernel
theorem dX12_aSort_0 : decode cX12_aSort 0 = .ok (.aload_n 0, 1) := by decide +kernel
theorem dX12_aSort_1 : decode cX12_aSort 1 = .ok (.getfield 7, 3) := by decide +kernel
theorem dX12_aSort_4 : decode cX12_aSort 4 = .ok (.sipush 1761, 3) := by decide +kernel
theorem dX12_aSort_7 : decode cX12_aSort 7 = .ok (.laload, 1) := by decide +kernel
theorem dX12_aSort_8 : decode cX12_aSort 8 = .ok (.l2i, 1) := by decide +kernel
theorem dX12_aSort_9 : decode cX12_aSort 9 = .ok (.istore_n 1, 1) := by decide +kernel
theorem dX12_aSort_10 : decode cX12_aSort 10 = .ok (.iload_n 1, 1) := by decide +kernel
theorem dX12_aSort_11 : decode cX12_aSort 11 = .ok (.bipush 7, 2) := by decide +kernel
theorem dX12_aSort_13 : decode cX12_aSort 13 = .ok (.if_icmp .ne 10, 3) := by decide +kernel
theorem dX12_aSort_16 : decode cX12_aSort 16 = .ok (.aload_n 0, 1) := by decide +kernel
theorem dX12_aSort_17 : decode cX12_aSort 17 = .ok (.bipush 6, 2) := by decide +kernel
theorem dX12_aSort_19 : decode cX12_aSort 19 = .ok (.invokevirtual 183, 3) := by decide +kernel
theorem dX12_aSort_22 : decode cX12_aSort 22 = .ok (.ireturn, 1) := by decide +kernel
theorem dX12_aSort_23 : decode cX12_aSort 23 = .ok (.aload_n 0, 1) := by decide +kernel
theorem dX12_aSort_24 : decode cX12_aSort 24 = .ok (.invokevirtual 180, 3) := by decide +kernel
theorem dX12_aSort_27 : decode cX12_aSort 27 = .ok (.aload_n 0, 1) := by decide +kernel
theorem dX12_aSort_28 : decode cX12_aSort 28 = .ok (.ldc 186, 2) := by decide +kernel
theorem dX12_aSort_30 : decode cX12_aSort 30 = .ok (.invokevirtual 199, 3) := by decide +kernel
theorem dX12_aSort_33 : decode cX12_aSort 33 = .ok (.ifCond .ne 9, 3) := by decide +kernel
theorem dX12_aSort_36 : decode cX12_aSort 36 = .ok (.aload_n 0, 1) := by decide +kernel
theorem dX12_aSort_37 : decode cX12_aSort 37 = .ok (.iconst 2, 1) := by decide +kernel
theorem dX12_aSort_38 : decode cX12_aSort 38 = .ok (.invokevirtual 183, 3) := by decide +kernel
theorem dX12_aSort_41 : decode cX12_aSort 41 = .ok (.ireturn, 1) := by decide +kernel
theorem dX12_aSort_42 : decode cX12_aSort 42 = .ok (.aload_n 0, 1) := by decide +kernel
theorem dX12_aSort_43 : decode cX12_aSort 43 = .ok (.invokevirtual 216, 3) := by decide +kernel
theorem dX12_aSort_46 : decode cX12_aSort 46 = .ok (.iconst (-1), 1) := by decide +kernel
theorem dX12_aSort_47 : decode cX12_aSort 47 = .ok (.if_icmp .eq 9, 3) := by decide +kernel
theorem dX12_aSort_50 : decode cX12_aSort 50 = .ok (.aload_n 0, 1) := by decide +kernel
theorem dX12_aSort_51 : decode cX12_aSort 51 = .ok (.iconst 3, 1) := by decide +kernel
theorem dX12_aSort_52 : decode cX12_aSort 52 = .ok (.invokevirtual 183, 3) := by decide +kernel
theorem dX12_aSort_55 : decode cX12_aSort 55 = .ok (.ireturn, 1) := by decide +kernel
theorem dX12_aSort_56 : decode cX12_aSort 56 = .ok (.aload_n 0, 1) := by decide +kernel
theorem dX12_aSort_57 : decode cX12_aSort 57 = .ok (.getfield 41, 3) := by decide +kernel
theorem dX12_aSort_60 : decode cX12_aSort 60 = .ok (.iload_n 1, 1) := by decide +kernel
theorem dX12_aSort_61 : decode cX12_aSort 61 = .ok (.aload_n 0, 1) := by decide +kernel
theorem dX12_aSort_62 : decode cX12_aSort 62 = .ok (.invokevirtual 195, 3) := by decide +kernel
theorem dX12_aSort_65 : decode cX12_aSort 65 = .ok (.lastore, 1) := by decide +kernel
theorem dX12_aSort_66 : decode cX12_aSort 66 = .ok (.aload_n 0, 1) := by decide +kernel
theorem dX12_aSort_67 : decode cX12_aSort 67 = .ok (.getfield 7, 3) := by decide +kernel
theorem dX12_aSort_70 : decode cX12_aSort 70 = .ok (.sipush 1761, 3) := by decide +kernel
theorem dX12_aSort_73 : decode cX12_aSort 73 = .ok (.dup2, 1) := by decide +kernel
theorem dX12_aSort_74 : decode cX12_aSort 74 = .ok (.laload, 1) := by decide +kernel
theorem dX12_aSort_75 : decode cX12_aSort 75 = .ok (.lconst 1, 1) := by decide +kernel
theorem dX12_aSort_76 : decode cX12_aSort 76 = .ok (.ladd, 1) := by decide +kernel
theorem dX12_aSort_77 : decode cX12_aSort 77 = .ok (.lastore, 1) := by decide +kernel
theorem dX12_aSort_78 : decode cX12_aSort 78 = .ok (.aload_n 0, 1) := by decide +kernel
theorem dX12_aSort_79 : decode cX12_aSort 79 = .ok (.invokevirtual 180, 3) := by decide +kernel
theorem dX12_aSort_82 : decode cX12_aSort 82 = .ok (.iconst 1, 1) := by decide +kernel
theorem dX12_aSort_83 : decode cX12_aSort 83 = .ok (.ireturn, 1) := by decide +kernel
theorem dX12_aWash_0 : decode cX12_aWash 0 = .ok (.aload_n 0, 1) := by decide +kernel
theorem dX12_aWash_1 : decode cX12_aWash 1 = .ok (.invokevirtual 180, 3) := by decide +kernel
theorem dX12_aWash_4 : decode cX12_aWash 4 = .ok (.iconst (-1), 1) := by decide +kernel
theorem dX12_aWash_5 : decode cX12_aWash 5 = .ok (.istore_n 1, 1) := by decide +kernel
theorem dX12_aWash_6 : decode cX12_aWash 6 = .ok (.iconst 0, 1) := by decide +kernel
theorem dX12_aWash_7 : decode cX12_aWash 7 = .ok (.istore_n 2, 1) := by decide +kernel
theorem dX12_aWash_8 : decode cX12_aWash 8 = .ok (.iconst 0, 1) := by decide +kernel
theorem dX12_aWash_9 : decode cX12_aWash 9 = .ok (.istore_n 3, 1) := by decide +kernel
theorem dX12_aWash_10 : decode cX12_aWash 10 = .ok (.iload_n 3, 1) := by decide +kernel
theorem dX12_aWash_11 : decode cX12_aWash 11 = .ok (.iconst 2, 1) := by decide +kernel
theorem dX12_aWash_12 : decode cX12_aWash 12 = .ok (.if_icmp .ge 83, 3) := by decide +kernel
theorem dX12_aWash_15 : decode cX12_aWash 15 = .ok (.aload_n 0, 1) := by decide +kernel
theorem dX12_aWash_16 : decode cX12_aWash 16 = .ok (.ldc 186, 2) := by decide +kernel
theorem dX12_aWash_18 : decode cX12_aWash 18 = .ok (.invokevirtual 199, 3) := by decide +kernel
theorem dX12_aWash_21 : decode cX12_aWash 21 = .ok (.ifCond .ne 9, 3) := by decide +kernel
theorem dX12_aWash_24 : decode cX12_aWash 24 = .ok (.aload_n 0, 1) := by decide +kernel
theorem dX12_aWash_25 : decode cX12_aWash 25 = .ok (.iconst 2, 1) := by decide +kernel
theorem dX12_aWash_26 : decode cX12_aWash 26 = .ok (.invokevirtual 183, 3) := by decide +kernel
theorem dX12_aWash_29 : decode cX12_aWash 29 = .ok (.ireturn, 1) := by decide +kernel
theorem dX12_aWash_30 : decode cX12_aWash 30 = .ok (.aload_n 0, 1) := by decide +kernel
theorem dX12_aWash_31 : decode cX12_aWash 31 = .ok (.invokevirtual 216, 3) := by decide +kernel
theorem dX12_aWash_34 : decode cX12_aWash 34 = .ok (.istore 4, 2) := by decide +kernel
theorem dX12_aWash_36 : decode cX12_aWash 36 = .ok (.iload 4, 2) := by decide +kernel
theorem dX12_aWash_38 : decode cX12_aWash 38 = .ok (.iconst (-1), 1) := by decide +kernel
theorem dX12_aWash_39 : decode cX12_aWash 39 = .ok (.if_icmp .ne 9, 3) := by decide +kernel
theorem dX12_aWash_42 : decode cX12_aWash 42 = .ok (.aload_n 0, 1) := by decide +kernel
theorem dX12_aWash_43 : decode cX12_aWash 43 = .ok (.iconst 3, 1) := by decide +kernel
theorem dX12_aWash_44 : decode cX12_aWash 44 = .ok (.invokevirtual 183, 3) := by decide +kernel
theorem dX12_aWash_47 : decode cX12_aWash 47 = .ok (.ireturn, 1) := by decide +kernel
theorem dX12_aWash_48 : decode cX12_aWash 48 = .ok (.bipush 7, 2) := by decide +kernel
theorem dX12_aWash_50 : decode cX12_aWash 50 = .ok (.iload_n 1, 1) := by decide +kernel
theorem dX12_aWash_51 : decode cX12_aWash 51 = .ok (.imul, 1) := by decide +kernel
theorem dX12_aWash_52 : decode cX12_aWash 52 = .ok (.iload 4, 2) := by decide +kernel
theorem dX12_aWash_54 : decode cX12_aWash 54 = .ok (.iadd, 1) := by decide +kernel
theorem dX12_aWash_55 : decode cX12_aWash 55 = .ok (.istore_n 2, 1) := by decide +kernel
theorem dX12_aWash_56 : decode cX12_aWash 56 = .ok (.iload_n 3, 1) := by decide +kernel
theorem dX12_aWash_57 : decode cX12_aWash 57 = .ok (.iconst 1, 1) := by decide +kernel
theorem dX12_aWash_58 : decode cX12_aWash 58 = .ok (.if_icmp .ne 24, 3) := by decide +kernel
theorem dX12_aWash_61 : decode cX12_aWash 61 = .ok (.iload 4, 2) := by decide +kernel
theorem dX12_aWash_63 : decode cX12_aWash 63 = .ok (.iload_n 1, 1) := by decide +kernel
theorem dX12_aWash_64 : decode cX12_aWash 64 = .ok (.if_icmp .eq 12, 3) := by decide +kernel
theorem dX12_aWash_67 : decode cX12_aWash 67 = .ok (.aload_n 0, 1) := by decide +kernel
theorem dX12_aWash_68 : decode cX12_aWash 68 = .ok (.getfield 44, 3) := by decide +kernel
theorem dX12_aWash_71 : decode cX12_aWash 71 = .ok (.iload_n 2, 1) := by decide +kernel
theorem dX12_aWash_72 : decode cX12_aWash 72 = .ok (.baload, 1) := by decide +kernel
theorem dX12_aWash_73 : decode cX12_aWash 73 = .ok (.ifCond .eq 9, 3) := by decide +kernel
theorem dX12_aWash_76 : decode cX12_aWash 76 = .ok (.aload_n 0, 1) := by decide +kernel
theorem dX12_aWash_77 : decode cX12_aWash 77 = .ok (.iconst 5, 1) := by decide +kernel
theorem dX12_aWash_78 : decode cX12_aWash 78 = .ok (.invokevirtual 183, 3) := by decide +kernel
theorem dX12_aWash_81 : decode cX12_aWash 81 = .ok (.ireturn, 1) := by decide +kernel
theorem dX12_aWash_82 : decode cX12_aWash 82 = .ok (.iload 4, 2) := by decide +kernel
theorem dX12_aWash_84 : decode cX12_aWash 84 = .ok (.istore_n 1, 1) := by decide +kernel
theorem dX12_aWash_85 : decode cX12_aWash 85 = .ok (.aload_n 0, 1) := by decide +kernel
theorem dX12_aWash_86 : decode cX12_aWash 86 = .ok (.invokevirtual 180, 3) := by decide +kernel
theorem dX12_aWash_89 : decode cX12_aWash 89 = .ok (.iinc 3 1, 3) := by decide +kernel
theorem dX12_aWash_92 : decode cX12_aWash 92 = .ok (.goto (-82), 3) := by decide +kernel
theorem dX12_aWash_95 : decode cX12_aWash 95 = .ok (.aload_n 0, 1) := by decide +kernel
theorem dX12_aWash_96 : decode cX12_aWash 96 = .ok (.getfield 44, 3) := by decide +kernel
theorem dX12_aWash_99 : decode cX12_aWash 99 = .ok (.iload_n 2, 1) := by decide +kernel
theorem dX12_aWash_100 : decode cX12_aWash 100 = .ok (.iconst 1, 1) := by decide +kernel
theorem dX12_aWash_101 : decode cX12_aWash 101 = .ok (.bastore, 1) := by decide +kernel
theorem dX12_aWash_102 : decode cX12_aWash 102 = .ok (.aload_n 0, 1) := by decide +kernel
theorem dX12_aWash_103 : decode cX12_aWash 103 = .ok (.sipush 1900, 3) := by decide +kernel
theorem dX12_aWash_106 : decode cX12_aWash 106 = .ok (.iload_n 2, 1) := by decide +kernel
theorem dX12_aWash_107 : decode cX12_aWash 107 = .ok (.iadd, 1) := by decide +kernel
theorem dX12_aWash_108 : decode cX12_aWash 108 = .ok (.iconst 0, 1) := by decide +kernel
theorem dX12_aWash_109 : decode cX12_aWash 109 = .ok (.sipush 999, 3) := by decide +kernel
theorem dX12_aWash_112 : decode cX12_aWash 112 = .ok (.invokevirtual 212, 3) := by decide +kernel
theorem dX12_aWash_115 : decode cX12_aWash 115 = .ok (.ireturn, 1) := by decide +kernel
theorem dX12_part_0 : decode cX12_part 0 = .ok (.aload_n 0, 1) := by decide +kernel
theorem dX12_part_1 : decode cX12_part 1 = .ok (.ldc 186, 2) := by decide +kernel
theorem dX12_part_3 : decode cX12_part 3 = .ok (.invokevirtual 188, 3) := by decide +kernel
theorem dX12_part_6 : decode cX12_part 6 = .ok (.istore_n 1, 1) := by decide +kernel
theorem dX12_part_7 : decode cX12_part 7 = .ok (.iload_n 1, 1) := by decide +kernel
theorem dX12_part_8 : decode cX12_part 8 = .ok (.ifCond .ne 10, 3) := by decide +kernel
theorem dX12_part_11 : decode cX12_part 11 = .ok (.aload_n 0, 1) := by decide +kernel
theorem dX12_part_12 : decode cX12_part 12 = .ok (.invokevirtual 219, 3) := by decide +kernel
theorem dX12_part_15 : decode cX12_part 15 = .ok (.goto 44, 3) := by decide +kernel
theorem dX12_part_18 : decode cX12_part 18 = .ok (.iload_n 1, 1) := by decide +kernel
theorem dX12_part_19 : decode cX12_part 19 = .ok (.iconst 1, 1) := by decide +kernel
theorem dX12_part_20 : decode cX12_part 20 = .ok (.if_icmp .ne 10, 3) := by decide +kernel
theorem dX12_part_23 : decode cX12_part 23 = .ok (.aload_n 0, 1) := by decide +kernel
theorem dX12_part_24 : decode cX12_part 24 = .ok (.invokevirtual 223, 3) := by decide +kernel
theorem dX12_part_27 : decode cX12_part 27 = .ok (.goto 32, 3) := by decide +kernel
theorem dX12_part_30 : decode cX12_part 30 = .ok (.iload_n 1, 1) := by decide +kernel
theorem dX12_part_31 : decode cX12_part 31 = .ok (.iconst 2, 1) := by decide +kernel
theorem dX12_part_32 : decode cX12_part 32 = .ok (.if_icmp .ne 10, 3) := by decide +kernel
theorem dX12_part_35 : decode cX12_part 35 = .ok (.aload_n 0, 1) := by decide +kernel
theorem dX12_part_36 : decode cX12_part 36 = .ok (.invokevirtual 226, 3) := by decide +kernel
theorem dX12_part_39 : decode cX12_part 39 = .ok (.goto 20, 3) := by decide +kernel
theorem dX12_part_42 : decode cX12_part 42 = .ok (.iload_n 1, 1) := by decide +kernel
theorem dX12_part_43 : decode cX12_part 43 = .ok (.iconst 3, 1) := by decide +kernel
theorem dX12_part_44 : decode cX12_part 44 = .ok (.if_icmp .ne 10, 3) := by decide +kernel
theorem dX12_part_47 : decode cX12_part 47 = .ok (.aload_n 0, 1) := by decide +kernel
theorem dX12_part_48 : decode cX12_part 48 = .ok (.invokevirtual 229, 3) := by decide +kernel
theorem dX12_part_51 : decode cX12_part 51 = .ok (.goto 8, 3) := by decide +kernel
theorem dX12_part_54 : decode cX12_part 54 = .ok (.aload_n 0, 1) := by decide +kernel
theorem dX12_part_55 : decode cX12_part 55 = .ok (.iconst 2, 1) := by decide +kernel
theorem dX12_part_56 : decode cX12_part 56 = .ok (.invokevirtual 183, 3) := by decide +kernel
theorem dX12_part_59 : decode cX12_part 59 = .ok (.istore_n 2, 1) := by decide +kernel
theorem dX12_part_60 : decode cX12_part 60 = .ok (.iload_n 2, 1) := by decide +kernel
theorem dX12_part_61 : decode cX12_part 61 = .ok (.ifCond .eq 14, 3) := by decide +kernel
theorem dX12_part_64 : decode cX12_part 64 = .ok (.aload_n 0, 1) := by decide +kernel
theorem dX12_part_65 : decode cX12_part 65 = .ok (.invokevirtual 232, 3) := by decide +kernel
theorem dX12_part_68 : decode cX12_part 68 = .ok (.ifCond .eq 7, 3) := by decide +kernel
theorem dX12_part_71 : decode cX12_part 71 = .ok (.iconst 1, 1) := by decide +kernel
theorem dX12_part_72 : decode cX12_part 72 = .ok (.goto 4, 3) := by decide +kernel
theorem dX12_part_75 : decode cX12_part 75 = .ok (.iconst 0, 1) := by decide +kernel
theorem dX12_part_76 : decode cX12_part 76 = .ok (.ireturn, 1) := by decide +kernel
theorem dX12_fresh_0 : decode cX12_fresh 0 = .ok (.aload_n 0, 1) := by decide +kernel
theorem dX12_fresh_1 : decode cX12_fresh 1 = .ok (.getfield 7, 3) := by decide +kernel
theorem dX12_fresh_4 : decode cX12_fresh 4 = .ok (.iload_n 1, 1) := by decide +kernel
theorem dX12_fresh_5 : decode cX12_fresh 5 = .ok (.iconst 2, 1) := by decide +kernel
theorem dX12_fresh_6 : decode cX12_fresh 6 = .ok (.iadd, 1) := by decide +kernel
theorem dX12_fresh_7 : decode cX12_fresh 7 = .ok (.lconst 0, 1) := by decide +kernel
theorem dX12_fresh_8 : decode cX12_fresh 8 = .ok (.lastore, 1) := by decide +kernel
theorem dX12_fresh_9 : decode cX12_fresh 9 = .ok (.aload_n 0, 1) := by decide +kernel
theorem dX12_fresh_10 : decode cX12_fresh 10 = .ok (.getfield 7, 3) := by decide +kernel
theorem dX12_fresh_13 : decode cX12_fresh 13 = .ok (.iload_n 1, 1) := by decide +kernel
theorem dX12_fresh_14 : decode cX12_fresh 14 = .ok (.iconst 3, 1) := by decide +kernel
theorem dX12_fresh_15 : decode cX12_fresh 15 = .ok (.iadd, 1) := by decide +kernel
theorem dX12_fresh_16 : decode cX12_fresh 16 = .ok (.iload_n 2, 1) := by decide +kernel
theorem dX12_fresh_17 : decode cX12_fresh 17 = .ok (.i2l, 1) := by decide +kernel
theorem dX12_fresh_18 : decode cX12_fresh 18 = .ok (.lastore, 1) := by decide +kernel
theorem dX12_fresh_19 : decode cX12_fresh 19 = .ok (.aload_n 0, 1) := by decide +kernel
theorem dX12_fresh_20 : decode cX12_fresh 20 = .ok (.getfield 7, 3) := by decide +kernel
theorem dX12_fresh_23 : decode cX12_fresh 23 = .ok (.iload_n 1, 1) := by decide +kernel
theorem dX12_fresh_24 : decode cX12_fresh 24 = .ok (.iconst 4, 1) := by decide +kernel
theorem dX12_fresh_25 : decode cX12_fresh 25 = .ok (.iadd, 1) := by decide +kernel
theorem dX12_fresh_26 : decode cX12_fresh 26 = .ok (.iload_n 2, 1) := by decide +kernel
theorem dX12_fresh_27 : decode cX12_fresh 27 = .ok (.i2l, 1) := by decide +kernel
theorem dX12_fresh_28 : decode cX12_fresh 28 = .ok (.lastore, 1) := by decide +kernel
theorem dX12_fresh_29 : decode cX12_fresh 29 = .ok (.iconst 0, 1) := by decide +kernel
theorem dX12_fresh_30 : decode cX12_fresh 30 = .ok (.istore_n 3, 1) := by decide +kernel
theorem dX12_fresh_31 : decode cX12_fresh 31 = .ok (.iload_n 3, 1) := by decide +kernel
theorem dX12_fresh_32 : decode cX12_fresh 32 = .ok (.bipush 6, 2) := by decide +kernel
theorem dX12_fresh_34 : decode cX12_fresh 34 = .ok (.if_icmp .ge 66, 3) := by decide +kernel
theorem dX12_fresh_37 : decode cX12_fresh 37 = .ok (.iload_n 1, 1) := by decide +kernel
theorem dX12_fresh_38 : decode cX12_fresh 38 = .ok (.iload_n 3, 1) := by decide +kernel
theorem dX12_fresh_39 : decode cX12_fresh 39 = .ok (.invokestatic 192, 3) := by decide +kernel
theorem dX12_fresh_42 : decode cX12_fresh 42 = .ok (.istore 4, 2) := by decide +kernel
theorem dX12_fresh_44 : decode cX12_fresh 44 = .ok (.iconst 4, 1) := by decide +kernel
theorem dX12_fresh_45 : decode cX12_fresh 45 = .ok (.istore 5, 2) := by decide +kernel
theorem dX12_fresh_47 : decode cX12_fresh 47 = .ok (.iload 5, 2) := by decide +kernel
theorem dX12_fresh_49 : decode cX12_fresh 49 = .ok (.bipush 11, 2) := by decide +kernel
theorem dX12_fresh_51 : decode cX12_fresh 51 = .ok (.if_icmp .ge 20, 3) := by decide +kernel
theorem dX12_fresh_54 : decode cX12_fresh 54 = .ok (.aload_n 0, 1) := by decide +kernel
theorem dX12_fresh_55 : decode cX12_fresh 55 = .ok (.getfield 7, 3) := by decide +kernel
theorem dX12_fresh_58 : decode cX12_fresh 58 = .ok (.iload 4, 2) := by decide +kernel
theorem dX12_fresh_60 : decode cX12_fresh 60 = .ok (.iload 5, 2) := by decide +kernel
theorem dX12_fresh_62 : decode cX12_fresh 62 = .ok (.iadd, 1) := by decide +kernel
theorem dX12_fresh_63 : decode cX12_fresh 63 = .ok (.lconst 0, 1) := by decide +kernel
theorem dX12_fresh_64 : decode cX12_fresh 64 = .ok (.lastore, 1) := by decide +kernel
theorem dX12_fresh_65 : decode cX12_fresh 65 = .ok (.iinc 5 1, 3) := by decide +kernel
theorem dX12_fresh_68 : decode cX12_fresh 68 = .ok (.goto (-21), 3) := by decide +kernel
theorem dX12_fresh_71 : decode cX12_fresh 71 = .ok (.aload_n 0, 1) := by decide +kernel
theorem dX12_fresh_72 : decode cX12_fresh 72 = .ok (.getfield 7, 3) := by decide +kernel
theorem dX12_fresh_75 : decode cX12_fresh 75 = .ok (.iload 4, 2) := by decide +kernel
theorem dX12_fresh_77 : decode cX12_fresh 77 = .ok (.iconst 5, 1) := by decide +kernel
theorem dX12_fresh_78 : decode cX12_fresh 78 = .ok (.iadd, 1) := by decide +kernel
theorem dX12_fresh_79 : decode cX12_fresh 79 = .ok (.ldc2_w 123, 3) := by decide +kernel
theorem dX12_fresh_82 : decode cX12_fresh 82 = .ok (.lastore, 1) := by decide +kernel
theorem dX12_fresh_83 : decode cX12_fresh 83 = .ok (.aload_n 0, 1) := by decide +kernel
theorem dX12_fresh_84 : decode cX12_fresh 84 = .ok (.getfield 7, 3) := by decide +kernel
theorem dX12_fresh_87 : decode cX12_fresh 87 = .ok (.iload 4, 2) := by decide +kernel
theorem dX12_fresh_89 : decode cX12_fresh 89 = .ok (.bipush 12, 2) := by decide +kernel
theorem dX12_fresh_91 : decode cX12_fresh 91 = .ok (.iadd, 1) := by decide +kernel
theorem dX12_fresh_92 : decode cX12_fresh 92 = .ok (.lconst 0, 1) := by decide +kernel
theorem dX12_fresh_93 : decode cX12_fresh 93 = .ok (.lastore, 1) := by decide +kernel
theorem dX12_fresh_94 : decode cX12_fresh 94 = .ok (.iinc 3 1, 3) := by decide +kernel
theorem dX12_fresh_97 : decode cX12_fresh 97 = .ok (.goto (-66), 3) := by decide +kernel
theorem dX12_fresh_100 : decode cX12_fresh 100 = .ok (.iconst 0, 1) := by decide +kernel
theorem dX12_fresh_101 : decode cX12_fresh 101 = .ok (.istore_n 3, 1) := by decide +kernel
theorem dX12_fresh_102 : decode cX12_fresh 102 = .ok (.iload_n 3, 1) := by decide +kernel
theorem dX12_fresh_103 : decode cX12_fresh 103 = .ok (.bipush 36, 2) := by decide +kernel
theorem dX12_fresh_105 : decode cX12_fresh 105 = .ok (.if_icmp .ge 21, 3) := by decide +kernel
theorem dX12_fresh_108 : decode cX12_fresh 108 = .ok (.aload_n 0, 1) := by decide +kernel
theorem dX12_fresh_109 : decode cX12_fresh 109 = .ok (.getfield 7, 3) := by decide +kernel
theorem dX12_fresh_112 : decode cX12_fresh 112 = .ok (.iload_n 1, 1) := by decide +kernel
theorem dX12_fresh_113 : decode cX12_fresh 113 = .ok (.bipush 104, 2) := by decide +kernel
theorem dX12_fresh_115 : decode cX12_fresh 115 = .ok (.iadd, 1) := by decide +kernel
theorem dX12_fresh_116 : decode cX12_fresh 116 = .ok (.iload_n 3, 1) := by decide +kernel
theorem dX12_fresh_117 : decode cX12_fresh 117 = .ok (.iadd, 1) := by decide +kernel
theorem dX12_fresh_118 : decode cX12_fresh 118 = .ok (.lconst 0, 1) := by decide +kernel
theorem dX12_fresh_119 : decode cX12_fresh 119 = .ok (.lastore, 1) := by decide +kernel
theorem dX12_fresh_120 : decode cX12_fresh 120 = .ok (.iinc 3 1, 3) := by decide +kernel
theorem dX12_fresh_123 : decode cX12_fresh 123 = .ok (.goto (-21), 3) := by decide +kernel
theorem dX12_fresh_126 : decode cX12_fresh 126 = .ok (.return_, 1) := by decide +kernel
theorem dX12_line_0 : decode cX12_line 0 = .ok (.iload_n 1, 1) := by decide +kernel
theorem dX12_line_1 : decode cX12_line 1 = .ok (.ifCond .lt 11, 3) := by decide +kernel
theorem dX12_line_4 : decode cX12_line 4 = .ok (.iload_n 1, 1) := by decide +kernel
theorem dX12_line_5 : decode cX12_line 5 = .ok (.aload_n 0, 1) := by decide +kernel
theorem dX12_line_6 : decode cX12_line 6 = .ok (.getfield 129, 3) := by decide +kernel
theorem dX12_line_9 : decode cX12_line 9 = .ok (.if_icmp .le 9, 3) := by decide +kernel
theorem dX12_line_12 : decode cX12_line 12 = .ok (.aload_n 0, 1) := by decide +kernel
theorem dX12_line_13 : decode cX12_line 13 = .ok (.iconst 1, 1) := by decide +kernel
theorem dX12_line_14 : decode cX12_line 14 = .ok (.invokevirtual 235, 3) := by decide +kernel
theorem dX12_line_17 : decode cX12_line 17 = .ok (.ireturn, 1) := by decide +kernel
theorem dX12_line_18 : decode cX12_line 18 = .ok (.aload_n 0, 1) := by decide +kernel
theorem dX12_line_19 : decode cX12_line 19 = .ok (.iload_n 1, 1) := by decide +kernel
theorem dX12_line_20 : decode cX12_line 20 = .ok (.invokevirtual 238, 3) := by decide +kernel
theorem dX12_line_23 : decode cX12_line 23 = .ok (.iconst 0, 1) := by decide +kernel
theorem dX12_line_24 : decode cX12_line 24 = .ok (.istore_n 2, 1) := by decide +kernel
theorem dX12_line_25 : decode cX12_line 25 = .ok (.iload_n 2, 1) := by decide +kernel
theorem dX12_line_26 : decode cX12_line 26 = .ok (.sipush 190, 3) := by decide +kernel
theorem dX12_line_29 : decode cX12_line 29 = .ok (.if_icmp .ge 40, 3) := by decide +kernel
theorem dX12_line_32 : decode cX12_line 32 = .ok (.aload_n 0, 1) := by decide +kernel
theorem dX12_line_33 : decode cX12_line 33 = .ok (.getfield 7, 3) := by decide +kernel
theorem dX12_line_36 : decode cX12_line 36 = .ok (.sipush 1760, 3) := by decide +kernel
theorem dX12_line_39 : decode cX12_line 39 = .ok (.iload_n 2, 1) := by decide +kernel
theorem dX12_line_40 : decode cX12_line 40 = .ok (.iadd, 1) := by decide +kernel
theorem dX12_line_41 : decode cX12_line 41 = .ok (.iload_n 2, 1) := by decide +kernel
theorem dX12_line_42 : decode cX12_line 42 = .ok (.sipush 140, 3) := by decide +kernel
theorem dX12_line_45 : decode cX12_line 45 = .ok (.if_icmp .lt 16, 3) := by decide +kernel
theorem dX12_line_48 : decode cX12_line 48 = .ok (.iload_n 2, 1) := by decide +kernel
theorem dX12_line_49 : decode cX12_line 49 = .ok (.sipush 189, 3) := by decide +kernel
theorem dX12_line_52 : decode cX12_line 52 = .ok (.if_icmp .ge 9, 3) := by decide +kernel
theorem dX12_line_55 : decode cX12_line 55 = .ok (.ldc2_w 241, 3) := by decide +kernel
theorem dX12_line_58 : decode cX12_line 58 = .ok (.goto 4, 3) := by decide +kernel
theorem dX12_line_61 : decode cX12_line 61 = .ok (.lconst 0, 1) := by decide +kernel
theorem dX12_line_62 : decode cX12_line 62 = .ok (.lastore, 1) := by decide +kernel
theorem dX12_line_63 : decode cX12_line 63 = .ok (.iinc 2 1, 3) := by decide +kernel
theorem dX12_line_66 : decode cX12_line 66 = .ok (.goto (-41), 3) := by decide +kernel
theorem dX12_line_69 : decode cX12_line 69 = .ok (.iconst 0, 1) := by decide +kernel
theorem dX12_line_70 : decode cX12_line 70 = .ok (.istore_n 2, 1) := by decide +kernel
theorem dX12_line_71 : decode cX12_line 71 = .ok (.iload_n 2, 1) := by decide +kernel
theorem dX12_line_72 : decode cX12_line 72 = .ok (.bipush 49, 2) := by decide +kernel
theorem dX12_line_74 : decode cX12_line 74 = .ok (.if_icmp .ge 16, 3) := by decide +kernel
theorem dX12_line_77 : decode cX12_line 77 = .ok (.aload_n 0, 1) := by decide +kernel
theorem dX12_line_78 : decode cX12_line 78 = .ok (.getfield 44, 3) := by decide +kernel
theorem dX12_line_81 : decode cX12_line 81 = .ok (.iload_n 2, 1) := by decide +kernel
theorem dX12_line_82 : decode cX12_line 82 = .ok (.iconst 0, 1) := by decide +kernel
theorem dX12_line_83 : decode cX12_line 83 = .ok (.bastore, 1) := by decide +kernel
theorem dX12_line_84 : decode cX12_line 84 = .ok (.iinc 2 1, 3) := by decide +kernel
theorem dX12_line_87 : decode cX12_line 87 = .ok (.goto (-16), 3) := by decide +kernel
theorem dX12_line_90 : decode cX12_line 90 = .ok (.aload_n 0, 1) := by decide +kernel
theorem dX12_line_91 : decode cX12_line 91 = .ok (.getfield 152, 3) := by decide +kernel
theorem dX12_line_94 : decode cX12_line 94 = .ok (.ifCond .eq 7, 3) := by decide +kernel
theorem dX12_line_97 : decode cX12_line 97 = .ok (.iconst 1, 1) := by decide +kernel
theorem dX12_line_98 : decode cX12_line 98 = .ok (.goto 4, 3) := by decide +kernel
theorem dX12_line_101 : decode cX12_line 101 = .ok (.iconst 0, 1) := by decide +kernel
theorem dX12_line_102 : decode cX12_line 102 = .ok (.istore_n 2, 1) := by decide +kernel
theorem dX12_line_103 : decode cX12_line 103 = .ok (.iload_n 2, 1) := by decide +kernel
theorem dX12_line_104 : decode cX12_line 104 = .ok (.ifCond .eq 26, 3) := by decide +kernel
theorem dX12_line_107 : decode cX12_line 107 = .ok (.aload_n 0, 1) := by decide +kernel
theorem dX12_line_108 : decode cX12_line 108 = .ok (.invokevirtual 243, 3) := by decide +kernel
theorem dX12_line_111 : decode cX12_line 111 = .ok (.ifCond .eq 14, 3) := by decide +kernel
theorem dX12_line_114 : decode cX12_line 114 = .ok (.aload_n 0, 1) := by decide +kernel
theorem dX12_line_115 : decode cX12_line 115 = .ok (.getfield 152, 3) := by decide +kernel
theorem dX12_line_118 : decode cX12_line 118 = .ok (.ifCond .eq 7, 3) := by decide +kernel
theorem dX12_line_121 : decode cX12_line 121 = .ok (.iconst 1, 1) := by decide +kernel
theorem dX12_line_122 : decode cX12_line 122 = .ok (.goto 4, 3) := by decide +kernel
theorem dX12_line_125 : decode cX12_line 125 = .ok (.iconst 0, 1) := by decide +kernel
theorem dX12_line_126 : decode cX12_line 126 = .ok (.istore_n 2, 1) := by decide +kernel
theorem dX12_line_127 : decode cX12_line 127 = .ok (.goto (-24), 3) := by decide +kernel
theorem dX12_line_130 : decode cX12_line 130 = .ok (.aload_n 0, 1) := by decide +kernel
theorem dX12_line_131 : decode cX12_line 131 = .ok (.aload_n 0, 1) := by decide +kernel
theorem dX12_line_132 : decode cX12_line 132 = .ok (.getfield 177, 3) := by decide +kernel
theorem dX12_line_135 : decode cX12_line 135 = .ok (.putfield 34, 3) := by decide +kernel
theorem dX12_line_138 : decode cX12_line 138 = .ok (.aload_n 0, 1) := by decide +kernel
theorem dX12_line_139 : decode cX12_line 139 = .ok (.getfield 177, 3) := by decide +kernel
theorem dX12_line_142 : decode cX12_line 142 = .ok (.ifCond .le 10, 3) := by decide +kernel
theorem dX12_line_145 : decode cX12_line 145 = .ok (.aload_n 0, 1) := by decide +kernel
theorem dX12_line_146 : decode cX12_line 146 = .ok (.bipush 9, 2) := by decide +kernel
theorem dX12_line_148 : decode cX12_line 148 = .ok (.invokevirtual 235, 3) := by decide +kernel
theorem dX12_line_151 : decode cX12_line 151 = .ok (.ireturn, 1) := by decide +kernel
theorem dX12_line_152 : decode cX12_line 152 = .ok (.aload_n 0, 1) := by decide +kernel
theorem dX12_line_153 : decode cX12_line 153 = .ok (.sipush 1760, 3) := by decide +kernel
theorem dX12_line_156 : decode cX12_line 156 = .ok (.iconst 0, 1) := by decide +kernel
theorem dX12_line_157 : decode cX12_line 157 = .ok (.invokevirtual 246, 3) := by decide +kernel
theorem dX12_line_160 : decode cX12_line 160 = .ok (.aload_n 0, 1) := by decide +kernel
theorem dX12_line_161 : decode cX12_line 161 = .ok (.getfield 7, 3) := by decide +kernel
theorem dX12_line_164 : decode cX12_line 164 = .ok (.sipush 1765, 3) := by decide +kernel
theorem dX12_line_167 : decode cX12_line 167 = .ok (.aload_n 0, 1) := by decide +kernel
theorem dX12_line_168 : decode cX12_line 168 = .ok (.getfield 7, 3) := by decide +kernel
theorem dX12_line_171 : decode cX12_line 171 = .ok (.iconst 5, 1) := by decide +kernel
theorem dX12_line_172 : decode cX12_line 172 = .ok (.laload, 1) := by decide +kernel
theorem dX12_line_173 : decode cX12_line 173 = .ok (.lastore, 1) := by decide +kernel
theorem dX12_line_174 : decode cX12_line 174 = .ok (.iconst 0, 1) := by decide +kernel
theorem dX12_line_175 : decode cX12_line 175 = .ok (.istore_n 3, 1) := by decide +kernel
theorem dX12_line_176 : decode cX12_line 176 = .ok (.iload_n 3, 1) := by decide +kernel
theorem dX12_line_177 : decode cX12_line 177 = .ok (.sipush 190, 3) := by decide +kernel
theorem dX12_line_180 : decode cX12_line 180 = .ok (.if_icmp .ge 25, 3) := by decide +kernel
theorem dX12_line_183 : decode cX12_line 183 = .ok (.aload_n 0, 1) := by decide +kernel
theorem dX12_line_184 : decode cX12_line 184 = .ok (.getfield 7, 3) := by decide +kernel
theorem dX12_line_187 : decode cX12_line 187 = .ok (.iload_n 3, 1) := by decide +kernel
theorem dX12_line_188 : decode cX12_line 188 = .ok (.aload_n 0, 1) := by decide +kernel
theorem dX12_line_189 : decode cX12_line 189 = .ok (.getfield 7, 3) := by decide +kernel
theorem dX12_line_192 : decode cX12_line 192 = .ok (.sipush 1760, 3) := by decide +kernel
theorem dX12_line_195 : decode cX12_line 195 = .ok (.iload_n 3, 1) := by decide +kernel
theorem dX12_line_196 : decode cX12_line 196 = .ok (.iadd, 1) := by decide +kernel
theorem dX12_line_197 : decode cX12_line 197 = .ok (.laload, 1) := by decide +kernel
theorem dX12_line_198 : decode cX12_line 198 = .ok (.lastore, 1) := by decide +kernel
theorem dX12_line_199 : decode cX12_line 199 = .ok (.iinc 3 1, 3) := by decide +kernel
theorem dX12_line_202 : decode cX12_line 202 = .ok (.goto (-26), 3) := by decide +kernel
theorem dX12_line_205 : decode cX12_line 205 = .ok (.aload_n 0, 1) := by decide +kernel
theorem dX12_line_206 : decode cX12_line 206 = .ok (.aload_n 0, 1) := by decide +kernel
theorem dX12_line_207 : decode cX12_line 207 = .ok (.getfield 7, 3) := by decide +kernel
theorem dX12_line_210 : decode cX12_line 210 = .ok (.iconst 0, 1) := by decide +kernel
theorem dX12_line_211 : decode cX12_line 211 = .ok (.laload, 1) := by decide +kernel
theorem dX12_line_212 : decode cX12_line 212 = .ok (.invokevirtual 250, 3) := by decide +kernel
theorem dX12_line_215 : decode cX12_line 215 = .ok (.ireturn, 1) := by decide +kernel
theorem dX12_step_0 : decode cX12_step 0 = .ok (.aload_n 0, 1) := by decide +kernel
theorem dX12_step_1 : decode cX12_step 1 = .ok (.ldc 254, 2) := by decide +kernel
theorem dX12_step_3 : decode cX12_step 3 = .ok (.invokevirtual 188, 3) := by decide +kernel
theorem dX12_step_6 : decode cX12_step 6 = .ok (.istore_n 1, 1) := by decide +kernel
theorem dX12_step_7 : decode cX12_step 7 = .ok (.aload_n 0, 1) := by decide +kernel
theorem dX12_step_8 : decode cX12_step 8 = .ok (.getfield 7, 3) := by decide +kernel
theorem dX12_step_11 : decode cX12_step 11 = .ok (.sipush 1765, 3) := by decide +kernel
theorem dX12_step_14 : decode cX12_step 14 = .ok (.laload, 1) := by decide +kernel
theorem dX12_step_15 : decode cX12_step 15 = .ok (.l2i, 1) := by decide +kernel
theorem dX12_step_16 : decode cX12_step 16 = .ok (.istore_n 2, 1) := by decide +kernel
theorem dX12_step_17 : decode cX12_step 17 = .ok (.sipush 1950, 3) := by decide +kernel
theorem dX12_step_20 : decode cX12_step 20 = .ok (.iconst 4, 1) := by decide +kernel
theorem dX12_step_21 : decode cX12_step 21 = .ok (.iload_n 2, 1) := by decide +kernel
theorem dX12_step_22 : decode cX12_step 22 = .ok (.imul, 1) := by decide +kernel
theorem dX12_step_23 : decode cX12_step 23 = .ok (.iadd, 1) := by decide +kernel
theorem dX12_step_24 : decode cX12_step 24 = .ok (.istore_n 3, 1) := by decide +kernel
theorem dX12_step_25 : decode cX12_step 25 = .ok (.iload_n 1, 1) := by decide +kernel
theorem dX12_step_26 : decode cX12_step 26 = .ok (.iconst (-1), 1) := by decide +kernel
theorem dX12_step_27 : decode cX12_step 27 = .ok (.if_icmp .eq 22, 3) := by decide +kernel
theorem dX12_step_30 : decode cX12_step 30 = .ok (.iload_n 1, 1) := by decide +kernel
theorem dX12_step_31 : decode cX12_step 31 = .ok (.bipush 7, 2) := by decide +kernel
theorem dX12_step_33 : decode cX12_step 33 = .ok (.if_icmp .ge 16, 3) := by decide +kernel
theorem dX12_step_36 : decode cX12_step 36 = .ok (.iload_n 1, 1) := by decide +kernel
theorem dX12_step_37 : decode cX12_step 37 = .ok (.bipush 6, 2) := by decide +kernel
theorem dX12_step_39 : decode cX12_step 39 = .ok (.if_icmp .ne 16, 3) := by decide +kernel
theorem dX12_step_42 : decode cX12_step 42 = .ok (.aload_n 0, 1) := by decide +kernel
theorem dX12_step_43 : decode cX12_step 43 = .ok (.getfield 256, 3) := by decide +kernel
theorem dX12_step_46 : decode cX12_step 46 = .ok (.ifCond .ne 9, 3) := by decide +kernel
theorem dX12_step_49 : decode cX12_step 49 = .ok (.aload_n 0, 1) := by decide +kernel
theorem dX12_step_50 : decode cX12_step 50 = .ok (.iconst 2, 1) := by decide +kernel
theorem dX12_step_51 : decode cX12_step 51 = .ok (.invokevirtual 183, 3) := by decide +kernel
theorem dX12_step_54 : decode cX12_step 54 = .ok (.ireturn, 1) := by decide +kernel
theorem dX12_step_55 : decode cX12_step 55 = .ok (.iload_n 1, 1) := by decide +kernel
theorem dX12_step_56 : decode cX12_step 56 = .ok (.iconst 4, 1) := by decide +kernel
theorem dX12_step_57 : decode cX12_step 57 = .ok (.if_icmp .eq 8, 3) := by decide +kernel
theorem dX12_step_60 : decode cX12_step 60 = .ok (.iload_n 1, 1) := by decide +kernel
theorem dX12_step_61 : decode cX12_step 61 = .ok (.iconst 5, 1) := by decide +kernel
theorem dX12_step_62 : decode cX12_step 62 = .ok (.if_icmp .ne 17, 3) := by decide +kernel
theorem dX12_step_65 : decode cX12_step 65 = .ok (.aload_n 0, 1) := by decide +kernel
theorem dX12_step_66 : decode cX12_step 66 = .ok (.getfield 256, 3) := by decide +kernel
theorem dX12_step_69 : decode cX12_step 69 = .ok (.iconst 3, 1) := by decide +kernel
theorem dX12_step_70 : decode cX12_step 70 = .ok (.if_icmp .ne 9, 3) := by decide +kernel
theorem dX12_step_73 : decode cX12_step 73 = .ok (.aload_n 0, 1) := by decide +kernel
theorem dX12_step_74 : decode cX12_step 74 = .ok (.iconst 5, 1) := by decide +kernel
theorem dX12_step_75 : decode cX12_step 75 = .ok (.invokevirtual 183, 3) := by decide +kernel
theorem dX12_step_78 : decode cX12_step 78 = .ok (.ireturn, 1) := by decide +kernel
theorem dX12_step_79 : decode cX12_step 79 = .ok (.iload_n 1, 1) := by decide +kernel
theorem dX12_step_80 : decode cX12_step 80 = .ok (.bipush 6, 2) := by decide +kernel
theorem dX12_step_82 : decode cX12_step 82 = .ok (.if_icmp .eq 19, 3) := by decide +kernel
theorem dX12_step_85 : decode cX12_step 85 = .ok (.aload_n 0, 1) := by decide +kernel
theorem dX12_step_86 : decode cX12_step 86 = .ok (.getfield 259, 3) := by decide +kernel
theorem dX12_step_89 : decode cX12_step 89 = .ok (.bipush 30, 2) := by decide +kernel
theorem dX12_step_91 : decode cX12_step 91 = .ok (.if_icmp .ne 10, 3) := by decide +kernel
theorem dX12_step_94 : decode cX12_step 94 = .ok (.aload_n 0, 1) := by decide +kernel
theorem dX12_step_95 : decode cX12_step 95 = .ok (.bipush 6, 2) := by decide +kernel
theorem dX12_step_97 : decode cX12_step 97 = .ok (.invokevirtual 183, 3) := by decide +kernel
theorem dX12_step_100 : decode cX12_step 100 = .ok (.ireturn, 1) := by decide +kernel
theorem dX12_step_101 : decode cX12_step 101 = .ok (.aload_n 0, 1) := by decide +kernel
theorem dX12_step_102 : decode cX12_step 102 = .ok (.dup, 1) := by decide +kernel
theorem dX12_step_103 : decode cX12_step 103 = .ok (.getfield 259, 3) := by decide +kernel
theorem dX12_step_106 : decode cX12_step 106 = .ok (.iload_n 1, 1) := by decide +kernel
theorem dX12_step_107 : decode cX12_step 107 = .ok (.bipush 6, 2) := by decide +kernel
theorem dX12_step_109 : decode cX12_step 109 = .ok (.if_icmp .eq 7, 3) := by decide +kernel
theorem dX12_step_112 : decode cX12_step 112 = .ok (.iconst 1, 1) := by decide +kernel
theorem dX12_step_113 : decode cX12_step 113 = .ok (.goto 4, 3) := by decide +kernel
theorem dX12_step_116 : decode cX12_step 116 = .ok (.iconst 0, 1) := by decide +kernel
theorem dX12_step_117 : decode cX12_step 117 = .ok (.iadd, 1) := by decide +kernel
theorem dX12_step_118 : decode cX12_step 118 = .ok (.putfield 259, 3) := by decide +kernel
theorem dX12_step_121 : decode cX12_step 121 = .ok (.iconst 1, 1) := by decide +kernel
theorem dX12_step_122 : decode cX12_step 122 = .ok (.istore 4, 2) := by decide +kernel
theorem dX12_step_124 : decode cX12_step 124 = .ok (.iload 4, 2) := by decide +kernel
theorem dX12_step_126 : decode cX12_step 126 = .ok (.iconst 4, 1) := by decide +kernel
theorem dX12_step_127 : decode cX12_step 127 = .ok (.if_icmp .ge 19, 3) := by decide +kernel
theorem dX12_step_130 : decode cX12_step 130 = .ok (.aload_n 0, 1) := by decide +kernel
theorem dX12_step_131 : decode cX12_step 131 = .ok (.getfield 7, 3) := by decide +kernel
theorem dX12_step_134 : decode cX12_step 134 = .ok (.iload_n 3, 1) := by decide +kernel
theorem dX12_step_135 : decode cX12_step 135 = .ok (.iload 4, 2) := by decide +kernel
theorem dX12_step_137 : decode cX12_step 137 = .ok (.iadd, 1) := by decide +kernel
theorem dX12_step_138 : decode cX12_step 138 = .ok (.lconst 0, 1) := by decide +kernel
theorem dX12_step_139 : decode cX12_step 139 = .ok (.lastore, 1) := by decide +kernel
theorem dX12_step_140 : decode cX12_step 140 = .ok (.iinc 4 1, 3) := by decide +kernel
theorem dX12_step_143 : decode cX12_step 143 = .ok (.goto (-19), 3) := by decide +kernel
theorem dX12_step_146 : decode cX12_step 146 = .ok (.aload_n 0, 1) := by decide +kernel
theorem dX12_step_147 : decode cX12_step 147 = .ok (.getfield 7, 3) := by decide +kernel
theorem dX12_step_150 : decode cX12_step 150 = .ok (.iload_n 3, 1) := by decide +kernel
theorem dX12_step_151 : decode cX12_step 151 = .ok (.iload_n 1, 1) := by decide +kernel
theorem dX12_step_152 : decode cX12_step 152 = .ok (.i2l, 1) := by decide +kernel
theorem dX12_step_153 : decode cX12_step 153 = .ok (.lastore, 1) := by decide +kernel
theorem dX12_step_154 : decode cX12_step 154 = .ok (.aload_n 0, 1) := by decide +kernel
theorem dX12_step_155 : decode cX12_step 155 = .ok (.getfield 7, 3) := by decide +kernel
theorem dX12_step_158 : decode cX12_step 158 = .ok (.sipush 1765, 3) := by decide +kernel
theorem dX12_step_161 : decode cX12_step 161 = .ok (.dup2, 1) := by decide +kernel
theorem dX12_step_162 : decode cX12_step 162 = .ok (.laload, 1) := by decide +kernel
theorem dX12_step_163 : decode cX12_step 163 = .ok (.lconst 1, 1) := by decide +kernel
theorem dX12_step_164 : decode cX12_step 164 = .ok (.ladd, 1) := by decide +kernel
theorem dX12_step_165 : decode cX12_step 165 = .ok (.lastore, 1) := by decide +kernel
theorem dX12_step_166 : decode cX12_step 166 = .ok (.aload_n 0, 1) := by decide +kernel
theorem dX12_step_167 : decode cX12_step 167 = .ok (.invokevirtual 180, 3) := by decide +kernel
theorem dX12_step_170 : decode cX12_step 170 = .ok (.iload_n 1, 1) := by decide +kernel
theorem dX12_step_171 : decode cX12_step 171 = .ok (.iconst 1, 1) := by decide +kernel
theorem dX12_step_172 : decode cX12_step 172 = .ok (.if_icmp .eq 18, 3) := by decide +kernel
theorem dX12_step_175 : decode cX12_step 175 = .ok (.iload_n 1, 1) := by decide +kernel
theorem dX12_step_176 : decode cX12_step 176 = .ok (.iconst 2, 1) := by decide +kernel
theorem dX12_step_177 : decode cX12_step 177 = .ok (.if_icmp .eq 13, 3) := by decide +kernel
theorem dX12_step_180 : decode cX12_step 180 = .ok (.iload_n 1, 1) := by decide +kernel
theorem dX12_step_181 : decode cX12_step 181 = .ok (.iconst 3, 1) := by decide +kernel
theorem dX12_step_182 : decode cX12_step 182 = .ok (.if_icmp .eq 8, 3) := by decide +kernel
theorem dX12_step_185 : decode cX12_step 185 = .ok (.iload_n 1, 1) := by decide +kernel
theorem dX12_step_186 : decode cX12_step 186 = .ok (.iconst 5, 1) := by decide +kernel
theorem dX12_step_187 : decode cX12_step 187 = .ok (.if_icmp .ne 34, 3) := by decide +kernel
theorem dX12_step_190 : decode cX12_step 190 = .ok (.aload_n 0, 1) := by decide +kernel
theorem dX12_step_191 : decode cX12_step 191 = .ok (.ldc 254, 2) := by decide +kernel
theorem dX12_step_193 : decode cX12_step 193 = .ok (.invokevirtual 199, 3) := by decide +kernel
theorem dX12_step_196 : decode cX12_step 196 = .ok (.ifCond .ne 9, 3) := by decide +kernel
theorem dX12_step_199 : decode cX12_step 199 = .ok (.aload_n 0, 1) := by decide +kernel
theorem dX12_step_200 : decode cX12_step 200 = .ok (.iconst 2, 1) := by decide +kernel
theorem dX12_step_201 : decode cX12_step 201 = .ok (.invokevirtual 183, 3) := by decide +kernel
theorem dX12_step_204 : decode cX12_step 204 = .ok (.ireturn, 1) := by decide +kernel
theorem dX12_step_205 : decode cX12_step 205 = .ok (.aload_n 0, 1) := by decide +kernel
theorem dX12_step_206 : decode cX12_step 206 = .ok (.getfield 7, 3) := by decide +kernel
theorem dX12_step_209 : decode cX12_step 209 = .ok (.iload_n 3, 1) := by decide +kernel
theorem dX12_step_210 : decode cX12_step 210 = .ok (.iconst 1, 1) := by decide +kernel
theorem dX12_step_211 : decode cX12_step 211 = .ok (.iadd, 1) := by decide +kernel
theorem dX12_step_212 : decode cX12_step 212 = .ok (.aload_n 0, 1) := by decide +kernel
theorem dX12_step_213 : decode cX12_step 213 = .ok (.invokevirtual 195, 3) := by decide +kernel
theorem dX12_step_216 : decode cX12_step 216 = .ok (.lastore, 1) := by decide +kernel
theorem dX12_step_217 : decode cX12_step 217 = .ok (.aload_n 0, 1) := by decide +kernel
theorem dX12_step_218 : decode cX12_step 218 = .ok (.invokevirtual 180, 3) := by decide +kernel
theorem dX12_step_221 : decode cX12_step 221 = .ok (.iconst 1, 1) := by decide +kernel
theorem dX12_step_222 : decode cX12_step 222 = .ok (.istore 4, 2) := by decide +kernel
theorem dX12_step_224 : decode cX12_step 224 = .ok (.iload_n 1, 1) := by decide +kernel
theorem dX12_step_225 : decode cX12_step 225 = .ok (.ifCond .ne 15, 3) := by decide +kernel
theorem dX12_step_228 : decode cX12_step 228 = .ok (.aload_n 0, 1) := by decide +kernel
theorem dX12_step_229 : decode cX12_step 229 = .ok (.iload_n 3, 1) := by decide +kernel
theorem dX12_step_230 : decode cX12_step 230 = .ok (.iconst 2, 1) := by decide +kernel
theorem dX12_step_231 : decode cX12_step 231 = .ok (.iadd, 1) := by decide +kernel
theorem dX12_step_232 : decode cX12_step 232 = .ok (.iconst 1, 1) := by decide +kernel
theorem dX12_step_233 : decode cX12_step 233 = .ok (.bipush 60, 2) := by decide +kernel
theorem dX12_step_235 : decode cX12_step 235 = .ok (.invokevirtual 212, 3) := by decide +kernel
theorem dX12_step_238 : decode cX12_step 238 = .ok (.istore 4, 2) := by decide +kernel
theorem dX12_step_240 : decode cX12_step 240 = .ok (.iload_n 1, 1) := by decide +kernel
theorem dX12_step_241 : decode cX12_step 241 = .ok (.iconst 1, 1) := by decide +kernel
theorem dX12_step_242 : decode cX12_step 242 = .ok (.if_icmp .ne 15, 3) := by decide +kernel
theorem dX12_step_245 : decode cX12_step 245 = .ok (.aload_n 0, 1) := by decide +kernel
theorem dX12_step_246 : decode cX12_step 246 = .ok (.iload_n 3, 1) := by decide +kernel
theorem dX12_step_247 : decode cX12_step 247 = .ok (.iconst 2, 1) := by decide +kernel
theorem dX12_step_248 : decode cX12_step 248 = .ok (.iadd, 1) := by decide +kernel
theorem dX12_step_249 : decode cX12_step 249 = .ok (.iconst 1, 1) := by decide +kernel
theorem dX12_step_250 : decode cX12_step 250 = .ok (.bipush 99, 2) := by decide +kernel
theorem dX12_step_252 : decode cX12_step 252 = .ok (.invokevirtual 212, 3) := by decide +kernel
theorem dX12_step_255 : decode cX12_step 255 = .ok (.istore 4, 2) := by decide +kernel
theorem dX12_step_257 : decode cX12_step 257 = .ok (.iload_n 1, 1) := by decide +kernel
theorem dX12_step_258 : decode cX12_step 258 = .ok (.iconst 2, 1) := by decide +kernel
theorem dX12_step_259 : decode cX12_step 259 = .ok (.if_icmp .ne 15, 3) := by decide +kernel
theorem dX12_step_262 : decode cX12_step 262 = .ok (.aload_n 0, 1) := by decide +kernel
theorem dX12_step_263 : decode cX12_step 263 = .ok (.iload_n 3, 1) := by decide +kernel
theorem dX12_step_264 : decode cX12_step 264 = .ok (.iconst 2, 1) := by decide +kernel
theorem dX12_step_265 : decode cX12_step 265 = .ok (.iadd, 1) := by decide +kernel
theorem dX12_step_266 : decode cX12_step 266 = .ok (.iconst 0, 1) := by decide +kernel
theorem dX12_step_267 : decode cX12_step 267 = .ok (.bipush 99, 2) := by decide +kernel
theorem dX12_step_269 : decode cX12_step 269 = .ok (.invokevirtual 212, 3) := by decide +kernel
theorem dX12_step_272 : decode cX12_step 272 = .ok (.istore 4, 2) := by decide +kernel
theorem dX12_step_274 : decode cX12_step 274 = .ok (.iload_n 1, 1) := by decide +kernel
theorem dX12_step_275 : decode cX12_step 275 = .ok (.iconst 4, 1) := by decide +kernel
theorem dX12_step_276 : decode cX12_step 276 = .ok (.if_icmp .ne 15, 3) := by decide +kernel
theorem dX12_step_279 : decode cX12_step 279 = .ok (.aload_n 0, 1) := by decide +kernel
theorem dX12_step_280 : decode cX12_step 280 = .ok (.iload_n 3, 1) := by decide +kernel
theorem dX12_step_281 : decode cX12_step 281 = .ok (.iconst 2, 1) := by decide +kernel
theorem dX12_step_282 : decode cX12_step 282 = .ok (.iadd, 1) := by decide +kernel
theorem dX12_step_283 : decode cX12_step 283 = .ok (.iconst 1, 1) := by decide +kernel
theorem dX12_step_284 : decode cX12_step 284 = .ok (.bipush 9, 2) := by decide +kernel
theorem dX12_step_286 : decode cX12_step 286 = .ok (.invokevirtual 212, 3) := by decide +kernel
theorem dX12_step_289 : decode cX12_step 289 = .ok (.istore 4, 2) := by decide +kernel
theorem dX12_step_291 : decode cX12_step 291 = .ok (.iload_n 1, 1) := by decide +kernel
theorem dX12_step_292 : decode cX12_step 292 = .ok (.iconst 5, 1) := by decide +kernel
theorem dX12_step_293 : decode cX12_step 293 = .ok (.if_icmp .ne 40, 3) := by decide +kernel
theorem dX12_step_296 : decode cX12_step 296 = .ok (.aload_n 0, 1) := by decide +kernel
theorem dX12_step_297 : decode cX12_step 297 = .ok (.ldc 254, 2) := by decide +kernel
theorem dX12_step_299 : decode cX12_step 299 = .ok (.invokevirtual 188, 3) := by decide +kernel
theorem dX12_step_302 : decode cX12_step 302 = .ok (.bipush 7, 2) := by decide +kernel
theorem dX12_step_304 : decode cX12_step 304 = .ok (.isub, 1) := by decide +kernel
theorem dX12_step_305 : decode cX12_step 305 = .ok (.istore 5, 2) := by decide +kernel
theorem dX12_step_307 : decode cX12_step 307 = .ok (.iload 5, 2) := by decide +kernel
theorem dX12_step_309 : decode cX12_step 309 = .ok (.ifCond .ge 9, 3) := by decide +kernel
theorem dX12_step_312 : decode cX12_step 312 = .ok (.aload_n 0, 1) := by decide +kernel
theorem dX12_step_313 : decode cX12_step 313 = .ok (.iconst 2, 1) := by decide +kernel
theorem dX12_step_314 : decode cX12_step 314 = .ok (.invokevirtual 183, 3) := by decide +kernel
theorem dX12_step_317 : decode cX12_step 317 = .ok (.ireturn, 1) := by decide +kernel
theorem dX12_step_318 : decode cX12_step 318 = .ok (.aload_n 0, 1) := by decide +kernel
theorem dX12_step_319 : decode cX12_step 319 = .ok (.getfield 7, 3) := by decide +kernel
theorem dX12_step_322 : decode cX12_step 322 = .ok (.iload_n 3, 1) := by decide +kernel
theorem dX12_step_323 : decode cX12_step 323 = .ok (.iconst 2, 1) := by decide +kernel
theorem dX12_step_324 : decode cX12_step 324 = .ok (.iadd, 1) := by decide +kernel
theorem dX12_step_325 : decode cX12_step 325 = .ok (.iload 5, 2) := by decide +kernel
theorem dX12_step_327 : decode cX12_step 327 = .ok (.i2l, 1) := by decide +kernel
theorem dX12_step_328 : decode cX12_step 328 = .ok (.lastore, 1) := by decide +kernel
theorem dX12_step_329 : decode cX12_step 329 = .ok (.aload_n 0, 1) := by decide +kernel
theorem dX12_step_330 : decode cX12_step 330 = .ok (.invokevirtual 180, 3) := by decide +kernel
theorem dX12_step_333 : decode cX12_step 333 = .ok (.iload_n 1, 1) := by decide +kernel
theorem dX12_step_334 : decode cX12_step 334 = .ok (.iconst 4, 1) := by decide +kernel
theorem dX12_step_335 : decode cX12_step 335 = .ok (.if_icmp .eq 8, 3) := by decide +kernel
theorem dX12_step_338 : decode cX12_step 338 = .ok (.iload_n 1, 1) := by decide +kernel
theorem dX12_step_339 : decode cX12_step 339 = .ok (.iconst 5, 1) := by decide +kernel
theorem dX12_step_340 : decode cX12_step 340 = .ok (.if_icmp .ne 23, 3) := by decide +kernel
theorem dX12_step_343 : decode cX12_step 343 = .ok (.aload_n 0, 1) := by decide +kernel
theorem dX12_step_344 : decode cX12_step 344 = .ok (.getfield 48, 3) := by decide +kernel
theorem dX12_step_347 : decode cX12_step 347 = .ok (.aload_n 0, 1) := by decide +kernel
theorem dX12_step_348 : decode cX12_step 348 = .ok (.getfield 256, 3) := by decide +kernel
theorem dX12_step_351 : decode cX12_step 351 = .ok (.iload_n 2, 1) := by decide +kernel
theorem dX12_step_352 : decode cX12_step 352 = .ok (.iastore, 1) := by decide +kernel
theorem dX12_step_353 : decode cX12_step 353 = .ok (.aload_n 0, 1) := by decide +kernel
theorem dX12_step_354 : decode cX12_step 354 = .ok (.dup, 1) := by decide +kernel
theorem dX12_step_355 : decode cX12_step 355 = .ok (.getfield 256, 3) := by decide +kernel
theorem dX12_step_358 : decode cX12_step 358 = .ok (.iconst 1, 1) := by decide +kernel
theorem dX12_step_359 : decode cX12_step 359 = .ok (.iadd, 1) := by decide +kernel
theorem dX12_step_360 : decode cX12_step 360 = .ok (.putfield 256, 3) := by decide +kernel
theorem dX12_step_363 : decode cX12_step 363 = .ok (.iload_n 1, 1) := by decide +kernel
theorem dX12_step_364 : decode cX12_step 364 = .ok (.bipush 6, 2) := by decide +kernel
theorem dX12_step_366 : decode cX12_step 366 = .ok (.if_icmp .ne 55, 3) := by decide +kernel
theorem dX12_step_369 : decode cX12_step 369 = .ok (.aload_n 0, 1) := by decide +kernel
theorem dX12_step_370 : decode cX12_step 370 = .ok (.dup, 1) := by decide +kernel
theorem dX12_step_371 : decode cX12_step 371 = .ok (.getfield 256, 3) := by decide +kernel
theorem dX12_step_374 : decode cX12_step 374 = .ok (.iconst 1, 1) := by decide +kernel
theorem dX12_step_375 : decode cX12_step 375 = .ok (.isub, 1) := by decide +kernel
theorem dX12_step_376 : decode cX12_step 376 = .ok (.putfield 256, 3) := by decide +kernel
theorem dX12_step_379 : decode cX12_step 379 = .ok (.aload_n 0, 1) := by decide +kernel
theorem dX12_step_380 : decode cX12_step 380 = .ok (.getfield 7, 3) := by decide +kernel
theorem dX12_step_383 : decode cX12_step 383 = .ok (.iload_n 3, 1) := by decide +kernel
theorem dX12_step_384 : decode cX12_step 384 = .ok (.iconst 3, 1) := by decide +kernel
theorem dX12_step_385 : decode cX12_step 385 = .ok (.iadd, 1) := by decide +kernel
theorem dX12_step_386 : decode cX12_step 386 = .ok (.aload_n 0, 1) := by decide +kernel
theorem dX12_step_387 : decode cX12_step 387 = .ok (.getfield 48, 3) := by decide +kernel
theorem dX12_step_390 : decode cX12_step 390 = .ok (.aload_n 0, 1) := by decide +kernel
theorem dX12_step_391 : decode cX12_step 391 = .ok (.getfield 256, 3) := by decide +kernel
theorem dX12_step_394 : decode cX12_step 394 = .ok (.iaload, 1) := by decide +kernel
theorem dX12_step_395 : decode cX12_step 395 = .ok (.i2l, 1) := by decide +kernel
theorem dX12_step_396 : decode cX12_step 396 = .ok (.lastore, 1) := by decide +kernel
theorem dX12_step_397 : decode cX12_step 397 = .ok (.aload_n 0, 1) := by decide +kernel
theorem dX12_step_398 : decode cX12_step 398 = .ok (.getfield 7, 3) := by decide +kernel
theorem dX12_step_401 : decode cX12_step 401 = .ok (.sipush 1950, 3) := by decide +kernel
theorem dX12_step_404 : decode cX12_step 404 = .ok (.iconst 4, 1) := by decide +kernel
theorem dX12_step_405 : decode cX12_step 405 = .ok (.aload_n 0, 1) := by decide +kernel
theorem dX12_step_406 : decode cX12_step 406 = .ok (.getfield 48, 3) := by decide +kernel
theorem dX12_step_409 : decode cX12_step 409 = .ok (.aload_n 0, 1) := by decide +kernel
theorem dX12_step_410 : decode cX12_step 410 = .ok (.getfield 256, 3) := by decide +kernel
theorem dX12_step_413 : decode cX12_step 413 = .ok (.iaload, 1) := by decide +kernel
theorem dX12_step_414 : decode cX12_step 414 = .ok (.imul, 1) := by decide +kernel
theorem dX12_step_415 : decode cX12_step 415 = .ok (.iadd, 1) := by decide +kernel
theorem dX12_step_416 : decode cX12_step 416 = .ok (.iconst 3, 1) := by decide +kernel
theorem dX12_step_417 : decode cX12_step 417 = .ok (.iadd, 1) := by decide +kernel
theorem dX12_step_418 : decode cX12_step 418 = .ok (.iload_n 2, 1) := by decide +kernel
theorem dX12_step_419 : decode cX12_step 419 = .ok (.i2l, 1) := by decide +kernel
theorem dX12_step_420 : decode cX12_step 420 = .ok (.lastore, 1) := by decide +kernel
theorem dX12_step_421 : decode cX12_step 421 = .ok (.iload 4, 2) := by decide +kernel
theorem dX12_step_423 : decode cX12_step 423 = .ok (.ifCond .eq 14, 3) := by decide +kernel
theorem dX12_step_426 : decode cX12_step 426 = .ok (.aload_n 0, 1) := by decide +kernel
theorem dX12_step_427 : decode cX12_step 427 = .ok (.invokevirtual 232, 3) := by decide +kernel
theorem dX12_step_430 : decode cX12_step 430 = .ok (.ifCond .eq 7, 3) := by decide +kernel
theorem dX12_step_433 : decode cX12_step 433 = .ok (.iconst 1, 1) := by decide +kernel
theorem dX12_step_434 : decode cX12_step 434 = .ok (.goto 4, 3) := by decide +kernel
theorem dX12_step_437 : decode cX12_step 437 = .ok (.iconst 0, 1) := by decide +kernel
theorem dX12_step_438 : decode cX12_step 438 = .ok (.ireturn, 1) := by decide +kernel
theorem dX12_shift_0 : decode cX12_shift 0 = .ok (.iload_n 1, 1) := by decide +kernel
theorem dX12_shift_1 : decode cX12_shift 1 = .ok (.ifCond .lt 18, 3) := by decide +kernel
theorem dX12_shift_4 : decode cX12_shift 4 = .ok (.iload_n 1, 1) := by decide +kernel
theorem dX12_shift_5 : decode cX12_shift 5 = .ok (.aload_n 0, 1) := by decide +kernel
theorem dX12_shift_6 : decode cX12_shift 6 = .ok (.getfield 129, 3) := by decide +kernel
theorem dX12_shift_9 : decode cX12_shift 9 = .ok (.if_icmp .gt 10, 3) := by decide +kernel
theorem dX12_shift_12 : decode cX12_shift 12 = .ok (.iload_n 1, 1) := by decide +kernel
theorem dX12_shift_13 : decode cX12_shift 13 = .ok (.sipush 300, 3) := by decide +kernel
theorem dX12_shift_16 : decode cX12_shift 16 = .ok (.if_icmp .le 9, 3) := by decide +kernel
theorem dX12_shift_19 : decode cX12_shift 19 = .ok (.aload_n 0, 1) := by decide +kernel
theorem dX12_shift_20 : decode cX12_shift 20 = .ok (.iconst 1, 1) := by decide +kernel
theorem dX12_shift_21 : decode cX12_shift 21 = .ok (.invokevirtual 235, 3) := by decide +kernel
theorem dX12_shift_24 : decode cX12_shift 24 = .ok (.ireturn, 1) := by decide +kernel
theorem dX12_shift_25 : decode cX12_shift 25 = .ok (.aload_n 0, 1) := by decide +kernel
theorem dX12_shift_26 : decode cX12_shift 26 = .ok (.iload_n 1, 1) := by decide +kernel
theorem dX12_shift_27 : decode cX12_shift 27 = .ok (.invokevirtual 238, 3) := by decide +kernel
theorem dX12_shift_30 : decode cX12_shift 30 = .ok (.aload_n 0, 1) := by decide +kernel
theorem dX12_shift_31 : decode cX12_shift 31 = .ok (.getfield 7, 3) := by decide +kernel
theorem dX12_shift_34 : decode cX12_shift 34 = .ok (.sipush 1765, 3) := by decide +kernel
theorem dX12_shift_37 : decode cX12_shift 37 = .ok (.lconst 0, 1) := by decide +kernel
theorem dX12_shift_38 : decode cX12_shift 38 = .ok (.lastore, 1) := by decide +kernel
theorem dX12_shift_39 : decode cX12_shift 39 = .ok (.aload_n 0, 1) := by decide +kernel
theorem dX12_shift_40 : decode cX12_shift 40 = .ok (.iconst 0, 1) := by decide +kernel
theorem dX12_shift_41 : decode cX12_shift 41 = .ok (.putfield 256, 3) := by decide +kernel
theorem dX12_shift_44 : decode cX12_shift 44 = .ok (.aload_n 0, 1) := by decide +kernel
theorem dX12_shift_45 : decode cX12_shift 45 = .ok (.iconst 0, 1) := by decide +kernel
theorem dX12_shift_46 : decode cX12_shift 46 = .ok (.putfield 259, 3) := by decide +kernel
theorem dX12_shift_49 : decode cX12_shift 49 = .ok (.aload_n 0, 1) := by decide +kernel
theorem dX12_shift_50 : decode cX12_shift 50 = .ok (.getfield 152, 3) := by decide +kernel
theorem dX12_shift_53 : decode cX12_shift 53 = .ok (.ifCond .eq 7, 3) := by decide +kernel
theorem dX12_shift_56 : decode cX12_shift 56 = .ok (.iconst 1, 1) := by decide +kernel
theorem dX12_shift_57 : decode cX12_shift 57 = .ok (.goto 4, 3) := by decide +kernel
theorem dX12_shift_60 : decode cX12_shift 60 = .ok (.iconst 0, 1) := by decide +kernel
theorem dX12_shift_61 : decode cX12_shift 61 = .ok (.istore_n 2, 1) := by decide +kernel
theorem dX12_shift_62 : decode cX12_shift 62 = .ok (.iload_n 2, 1) := by decide +kernel
theorem dX12_shift_63 : decode cX12_shift 63 = .ok (.ifCond .eq 26, 3) := by decide +kernel
theorem dX12_shift_66 : decode cX12_shift 66 = .ok (.aload_n 0, 1) := by decide +kernel
theorem dX12_shift_67 : decode cX12_shift 67 = .ok (.invokevirtual 262, 3) := by decide +kernel
theorem dX12_shift_70 : decode cX12_shift 70 = .ok (.ifCond .eq 14, 3) := by decide +kernel
theorem dX12_shift_73 : decode cX12_shift 73 = .ok (.aload_n 0, 1) := by decide +kernel
theorem dX12_shift_74 : decode cX12_shift 74 = .ok (.getfield 152, 3) := by decide +kernel
theorem dX12_shift_77 : decode cX12_shift 77 = .ok (.ifCond .eq 7, 3) := by decide +kernel
theorem dX12_shift_80 : decode cX12_shift 80 = .ok (.iconst 1, 1) := by decide +kernel
theorem dX12_shift_81 : decode cX12_shift 81 = .ok (.goto 4, 3) := by decide +kernel
theorem dX12_shift_84 : decode cX12_shift 84 = .ok (.iconst 0, 1) := by decide +kernel
theorem dX12_shift_85 : decode cX12_shift 85 = .ok (.istore_n 2, 1) := by decide +kernel
theorem dX12_shift_86 : decode cX12_shift 86 = .ok (.goto (-24), 3) := by decide +kernel
theorem dX12_shift_89 : decode cX12_shift 89 = .ok (.aload_n 0, 1) := by decide +kernel
theorem dX12_shift_90 : decode cX12_shift 90 = .ok (.getfield 177, 3) := by decide +kernel
theorem dX12_shift_93 : decode cX12_shift 93 = .ok (.ifCond .ne 16, 3) := by decide +kernel
theorem dX12_shift_96 : decode cX12_shift 96 = .ok (.aload_n 0, 1) := by decide +kernel
theorem dX12_shift_97 : decode cX12_shift 97 = .ok (.getfield 256, 3) := by decide +kernel
theorem dX12_shift_100 : decode cX12_shift 100 = .ok (.ifCond .le 9, 3) := by decide +kernel
theorem dX12_shift_103 : decode cX12_shift 103 = .ok (.aload_n 0, 1) := by decide +kernel
theorem dX12_shift_104 : decode cX12_shift 104 = .ok (.iconst 2, 1) := by decide +kernel
theorem dX12_shift_105 : decode cX12_shift 105 = .ok (.invokevirtual 183, 3) := by decide +kernel
theorem dX12_shift_108 : decode cX12_shift 108 = .ok (.pop, 1) := by decide +kernel
theorem dX12_shift_109 : decode cX12_shift 109 = .ok (.aload_n 0, 1) := by decide +kernel
theorem dX12_shift_110 : decode cX12_shift 110 = .ok (.aload_n 0, 1) := by decide +kernel
theorem dX12_shift_111 : decode cX12_shift 111 = .ok (.getfield 177, 3) := by decide +kernel
theorem dX12_shift_114 : decode cX12_shift 114 = .ok (.putfield 34, 3) := by decide +kernel
theorem dX12_shift_117 : decode cX12_shift 117 = .ok (.aload_n 0, 1) := by decide +kernel
theorem dX12_shift_118 : decode cX12_shift 118 = .ok (.getfield 177, 3) := by decide +kernel
theorem dX12_shift_121 : decode cX12_shift 121 = .ok (.ifCond .le 10, 3) := by decide +kernel
theorem dX12_shift_124 : decode cX12_shift 124 = .ok (.aload_n 0, 1) := by decide +kernel
theorem dX12_shift_125 : decode cX12_shift 125 = .ok (.bipush 9, 2) := by decide +kernel
theorem dX12_shift_127 : decode cX12_shift 127 = .ok (.invokevirtual 235, 3) := by decide +kernel
theorem dX12_shift_130 : decode cX12_shift 130 = .ok (.ireturn, 1) := by decide +kernel
theorem dX12_shift_131 : decode cX12_shift 131 = .ok (.aload_n 0, 1) := by decide +kernel
theorem dX12_shift_132 : decode cX12_shift 132 = .ok (.getfield 7, 3) := by decide +kernel
theorem dX12_shift_135 : decode cX12_shift 135 = .ok (.iconst 5, 1) := by decide +kernel
theorem dX12_shift_136 : decode cX12_shift 136 = .ok (.aload_n 0, 1) := by decide +kernel
theorem dX12_shift_137 : decode cX12_shift 137 = .ok (.getfield 7, 3) := by decide +kernel
theorem dX12_shift_140 : decode cX12_shift 140 = .ok (.sipush 1765, 3) := by decide +kernel
theorem dX12_shift_143 : decode cX12_shift 143 = .ok (.laload, 1) := by decide +kernel
theorem dX12_shift_144 : decode cX12_shift 144 = .ok (.lastore, 1) := by decide +kernel
theorem dX12_shift_145 : decode cX12_shift 145 = .ok (.sipush 190, 3) := by decide +kernel
theorem dX12_shift_148 : decode cX12_shift 148 = .ok (.istore_n 3, 1) := by decide +kernel
theorem dX12_shift_149 : decode cX12_shift 149 = .ok (.iload_n 3, 1) := by decide +kernel
theorem dX12_shift_150 : decode cX12_shift 150 = .ok (.sipush 440, 3) := by decide +kernel
theorem dX12_shift_153 : decode cX12_shift 153 = .ok (.if_icmp .ge 25, 3) := by decide +kernel
theorem dX12_shift_156 : decode cX12_shift 156 = .ok (.aload_n 0, 1) := by decide +kernel
theorem dX12_shift_157 : decode cX12_shift 157 = .ok (.getfield 7, 3) := by decide +kernel
theorem dX12_shift_160 : decode cX12_shift 160 = .ok (.iload_n 3, 1) := by decide +kernel
theorem dX12_shift_161 : decode cX12_shift 161 = .ok (.aload_n 0, 1) := by decide +kernel
theorem dX12_shift_162 : decode cX12_shift 162 = .ok (.getfield 7, 3) := by decide +kernel
theorem dX12_shift_165 : decode cX12_shift 165 = .ok (.sipush 1760, 3) := by decide +kernel
theorem dX12_shift_168 : decode cX12_shift 168 = .ok (.iload_n 3, 1) := by decide +kernel
theorem dX12_shift_169 : decode cX12_shift 169 = .ok (.iadd, 1) := by decide +kernel
theorem dX12_shift_170 : decode cX12_shift 170 = .ok (.laload, 1) := by decide +kernel
theorem dX12_shift_171 : decode cX12_shift 171 = .ok (.lastore, 1) := by decide +kernel
theorem dX12_shift_172 : decode cX12_shift 172 = .ok (.iinc 3 1, 3) := by decide +kernel
theorem dX12_shift_175 : decode cX12_shift 175 = .ok (.goto (-26), 3) := by decide +kernel
theorem dX12_shift_178 : decode cX12_shift 178 = .ok (.aload_n 0, 1) := by decide +kernel
theorem dX12_shift_179 : decode cX12_shift 179 = .ok (.aload_n 0, 1) := by decide +kernel
theorem dX12_shift_180 : decode cX12_shift 180 = .ok (.getfield 259, 3) := by decide +kernel
theorem dX12_shift_183 : decode cX12_shift 183 = .ok (.i2l, 1) := by decide +kernel
theorem dX12_shift_184 : decode cX12_shift 184 = .ok (.invokevirtual 250, 3) := by decide +kernel
theorem dX12_shift_187 : decode cX12_shift 187 = .ok (.ireturn, 1) := by decide +kernel
theorem dX12_isMachine_0 : decode cX12_isMachine 0 = .ok (.lload_n 1, 1) := by decide +kernel
theorem dX12_isMachine_1 : decode cX12_isMachine 1 = .ok (.lconst 0, 1) := by decide +kernel
theorem dX12_isMachine_2 : decode cX12_isMachine 2 = .ok (.lcmp, 1) := by decide +kernel
theorem dX12_isMachine_3 : decode cX12_isMachine 3 = .ok (.ifCond .lt 18, 3) := by decide +kernel
theorem dX12_isMachine_6 : decode cX12_isMachine 6 = .ok (.lload_n 1, 1) := by decide +kernel
theorem dX12_isMachine_7 : decode cX12_isMachine 7 = .ok (.aload_n 0, 1) := by decide +kernel
theorem dX12_isMachine_8 : decode cX12_isMachine 8 = .ok (.getfield 7, 3) := by decide +kernel
theorem dX12_isMachine_11 : decode cX12_isMachine 11 = .ok (.iconst 0, 1) := by decide +kernel
theorem dX12_isMachine_12 : decode cX12_isMachine 12 = .ok (.laload, 1) := by decide +kernel
theorem dX12_isMachine_13 : decode cX12_isMachine 13 = .ok (.lcmp, 1) := by decide +kernel
theorem dX12_isMachine_14 : decode cX12_isMachine 14 = .ok (.ifCond .ge 7, 3) := by decide +kernel
theorem dX12_isMachine_17 : decode cX12_isMachine 17 = .ok (.iconst 1, 1) := by decide +kernel
theorem dX12_isMachine_18 : decode cX12_isMachine 18 = .ok (.goto 4, 3) := by decide +kernel
theorem dX12_isMachine_21 : decode cX12_isMachine 21 = .ok (.iconst 0, 1) := by decide +kernel
theorem dX12_isMachine_22 : decode cX12_isMachine 22 = .ok (.ireturn, 1) := by decide +kernel
theorem dX12_ofMachine_0 : decode cX12_ofMachine 0 = .ok (.aload_n 0, 1) := by decide +kernel
theorem dX12_ofMachine_1 : decode cX12_ofMachine 1 = .ok (.getfield 7, 3) := by decide +kernel
theorem dX12_ofMachine_4 : decode cX12_ofMachine 4 = .ok (.iconst 0, 1) := by decide +kernel
theorem dX12_ofMachine_5 : decode cX12_ofMachine 5 = .ok (.iload_n 1, 1) := by decide +kernel
theorem dX12_ofMachine_6 : decode cX12_ofMachine 6 = .ok (.invokestatic 192, 3) := by decide +kernel
theorem dX12_ofMachine_9 : decode cX12_ofMachine 9 = .ok (.iload_n 2, 1) := by decide +kernel
theorem dX12_ofMachine_10 : decode cX12_ofMachine 10 = .ok (.iadd, 1) := by decide +kernel
theorem dX12_ofMachine_11 : decode cX12_ofMachine 11 = .ok (.laload, 1) := by decide +kernel
theorem dX12_ofMachine_12 : decode cX12_ofMachine 12 = .ok (.lreturn, 1) := by decide +kernel
theorem dX12_tables_0 : decode cX12_tables 0 = .ok (.lconst 0, 1) := by decide +kernel
theorem dX12_tables_1 : decode cX12_tables 1 = .ok (.aload_n 0, 1) := by decide +kernel
theorem dX12_tables_2 : decode cX12_tables 2 = .ok (.getfield 7, 3) := by decide +kernel
theorem dX12_tables_5 : decode cX12_tables 5 = .ok (.iconst 0, 1) := by decide +kernel
theorem dX12_tables_6 : decode cX12_tables 6 = .ok (.laload, 1) := by decide +kernel
theorem dX12_tables_7 : decode cX12_tables 7 = .ok (.lconst 1, 1) := by decide +kernel
theorem dX12_tables_8 : decode cX12_tables 8 = .ok (.lsub, 1) := by decide +kernel
theorem dX12_tables_9 : decode cX12_tables 9 = .ok (.invokestatic 265, 3) := by decide +kernel
theorem dX12_tables_12 : decode cX12_tables 12 = .ok (.l2i, 1) := by decide +kernel
theorem dX12_tables_13 : decode cX12_tables 13 = .ok (.ireturn, 1) := by decide +kernel
theorem dX12_isSort_0 : decode cX12_isSort 0 = .ok (.iload_n 1, 1) := by decide +kernel
theorem dX12_isSort_1 : decode cX12_isSort 1 = .ok (.ifCond .lt 19, 3) := by decide +kernel
theorem dX12_isSort_4 : decode cX12_isSort 4 = .ok (.iload_n 1, 1) := by decide +kernel
theorem dX12_isSort_5 : decode cX12_isSort 5 = .ok (.i2l, 1) := by decide +kernel
theorem dX12_isSort_6 : decode cX12_isSort 6 = .ok (.aload_n 0, 1) := by decide +kernel
theorem dX12_isSort_7 : decode cX12_isSort 7 = .ok (.getfield 7, 3) := by decide +kernel
theorem dX12_isSort_10 : decode cX12_isSort 10 = .ok (.iconst 1, 1) := by decide +kernel
theorem dX12_isSort_11 : decode cX12_isSort 11 = .ok (.laload, 1) := by decide +kernel
theorem dX12_isSort_12 : decode cX12_isSort 12 = .ok (.lcmp, 1) := by decide +kernel
theorem dX12_isSort_13 : decode cX12_isSort 13 = .ok (.ifCond .ge 7, 3) := by decide +kernel
theorem dX12_isSort_16 : decode cX12_isSort 16 = .ok (.iconst 1, 1) := by decide +kernel
theorem dX12_isSort_17 : decode cX12_isSort 17 = .ok (.goto 4, 3) := by decide +kernel
theorem dX12_isSort_20 : decode cX12_isSort 20 = .ok (.iconst 0, 1) := by decide +kernel
theorem dX12_isSort_21 : decode cX12_isSort 21 = .ok (.ireturn, 1) := by decide +kernel
theorem dX12_made_0 : decode cX12_made 0 = .ok (.aload_n 0, 1) := by decide +kernel
theorem dX12_made_1 : decode cX12_made 1 = .ok (.getfield 7, 3) := by decide +kernel
theorem dX12_made_4 : decode cX12_made 4 = .ok (.iconst 0, 1) := by decide +kernel
theorem dX12_made_5 : decode cX12_made 5 = .ok (.laload, 1) := by decide +kernel
theorem dX12_made_6 : decode cX12_made 6 = .ok (.lconst 0, 1) := by decide +kernel
theorem dX12_made_7 : decode cX12_made 7 = .ok (.lcmp, 1) := by decide +kernel
theorem dX12_made_8 : decode cX12_made 8 = .ok (.ifCond .ne 7, 3) := by decide +kernel
theorem dX12_made_11 : decode cX12_made 11 = .ok (.lconst 0, 1) := by decide +kernel
theorem dX12_made_12 : decode cX12_made 12 = .ok (.goto 18, 3) := by decide +kernel
theorem dX12_made_15 : decode cX12_made 15 = .ok (.aload_n 0, 1) := by decide +kernel
theorem dX12_made_16 : decode cX12_made 16 = .ok (.aload_n 0, 1) := by decide +kernel
theorem dX12_made_17 : decode cX12_made 17 = .ok (.getfield 7, 3) := by decide +kernel
theorem dX12_made_20 : decode cX12_made 20 = .ok (.iconst 0, 1) := by decide +kernel
theorem dX12_made_21 : decode cX12_made 21 = .ok (.laload, 1) := by decide +kernel
theorem dX12_made_22 : decode cX12_made 22 = .ok (.l2i, 1) := by decide +kernel
theorem dX12_made_23 : decode cX12_made 23 = .ok (.iconst 1, 1) := by decide +kernel
theorem dX12_made_24 : decode cX12_made 24 = .ok (.isub, 1) := by decide +kernel
theorem dX12_made_25 : decode cX12_made 25 = .ok (.bipush 6, 2) := by decide +kernel
theorem dX12_made_27 : decode cX12_made 27 = .ok (.invokevirtual 269, 3) := by decide +kernel
theorem dX12_made_30 : decode cX12_made 30 = .ok (.lreturn, 1) := by decide +kernel
theorem dX12_many_0 : decode cX12_many 0 = .ok (.iload_n 1, 1) := by decide +kernel
theorem dX12_many_1 : decode cX12_many 1 = .ok (.ifCond .lt 8, 3) := by decide +kernel
theorem dX12_many_4 : decode cX12_many 4 = .ok (.iload_n 1, 1) := by decide +kernel
theorem dX12_many_5 : decode cX12_many 5 = .ok (.iconst 3, 1) := by decide +kernel
theorem dX12_many_6 : decode cX12_many 6 = .ok (.if_icmp .le 9, 3) := by decide +kernel
theorem dX12_many_9 : decode cX12_many 9 = .ok (.aload_n 0, 1) := by decide +kernel
theorem dX12_many_10 : decode cX12_many 10 = .ok (.iconst 1, 1) := by decide +kernel
theorem dX12_many_11 : decode cX12_many 11 = .ok (.invokevirtual 235, 3) := by decide +kernel
theorem dX12_many_14 : decode cX12_many 14 = .ok (.ireturn, 1) := by decide +kernel
theorem dX12_many_15 : decode cX12_many 15 = .ok (.aload_n 0, 1) := by decide +kernel
theorem dX12_many_16 : decode cX12_many 16 = .ok (.iload_n 1, 1) := by decide +kernel
theorem dX12_many_17 : decode cX12_many 17 = .ok (.iconst 3, 1) := by decide +kernel
theorem dX12_many_18 : decode cX12_many 18 = .ok (.if_icmp .ne 10, 3) := by decide +kernel
theorem dX12_many_21 : decode cX12_many 21 = .ok (.aload_n 0, 1) := by decide +kernel
theorem dX12_many_22 : decode cX12_many 22 = .ok (.invokevirtual 273, 3) := by decide +kernel
theorem dX12_many_25 : decode cX12_many 25 = .ok (.goto 9, 3) := by decide +kernel
theorem dX12_many_28 : decode cX12_many 28 = .ok (.aload_n 0, 1) := by decide +kernel
theorem dX12_many_29 : decode cX12_many 29 = .ok (.getfield 7, 3) := by decide +kernel
theorem dX12_many_32 : decode cX12_many 32 = .ok (.iload_n 1, 1) := by decide +kernel
theorem dX12_many_33 : decode cX12_many 33 = .ok (.laload, 1) := by decide +kernel
theorem dX12_many_34 : decode cX12_many 34 = .ok (.invokevirtual 250, 3) := by decide +kernel
theorem dX12_many_37 : decode cX12_many 37 = .ok (.ireturn, 1) := by decide +kernel
theorem dX12_machine_0 : decode cX12_machine 0 = .ok (.aload_n 0, 1) := by decide +kernel
theorem dX12_machine_1 : decode cX12_machine 1 = .ok (.iload_n 1, 1) := by decide +kernel
theorem dX12_machine_2 : decode cX12_machine 2 = .ok (.i2l, 1) := by decide +kernel
theorem dX12_machine_3 : decode cX12_machine 3 = .ok (.invokevirtual 276, 3) := by decide +kernel
theorem dX12_machine_6 : decode cX12_machine 6 = .ok (.ifCond .eq 13, 3) := by decide +kernel
theorem dX12_machine_9 : decode cX12_machine 9 = .ok (.iload_n 2, 1) := by decide +kernel
theorem dX12_machine_10 : decode cX12_machine 10 = .ok (.ifCond .lt 9, 3) := by decide +kernel
theorem dX12_machine_13 : decode cX12_machine 13 = .ok (.iload_n 2, 1) := by decide +kernel
theorem dX12_machine_14 : decode cX12_machine 14 = .ok (.bipush 6, 2) := by decide +kernel
theorem dX12_machine_16 : decode cX12_machine 16 = .ok (.if_icmp .le 9, 3) := by decide +kernel
theorem dX12_machine_19 : decode cX12_machine 19 = .ok (.aload_n 0, 1) := by decide +kernel
theorem dX12_machine_20 : decode cX12_machine 20 = .ok (.iconst 1, 1) := by decide +kernel
theorem dX12_machine_21 : decode cX12_machine 21 = .ok (.invokevirtual 235, 3) := by decide +kernel
theorem dX12_machine_24 : decode cX12_machine 24 = .ok (.ireturn, 1) := by decide +kernel
theorem dX12_machine_25 : decode cX12_machine 25 = .ok (.iload_n 2, 1) := by decide +kernel
theorem dX12_machine_26 : decode cX12_machine 26 = .ok (.iconst 5, 1) := by decide +kernel
theorem dX12_machine_27 : decode cX12_machine 27 = .ok (.if_icmp .ne 23, 3) := by decide +kernel
theorem dX12_machine_30 : decode cX12_machine 30 = .ok (.aload_n 0, 1) := by decide +kernel
theorem dX12_machine_31 : decode cX12_machine 31 = .ok (.iload_n 1, 1) := by decide +kernel
theorem dX12_machine_32 : decode cX12_machine 32 = .ok (.iconst 5, 1) := by decide +kernel
theorem dX12_machine_33 : decode cX12_machine 33 = .ok (.invokevirtual 269, 3) := by decide +kernel
theorem dX12_machine_36 : decode cX12_machine 36 = .ok (.ldc2_w 123, 3) := by decide +kernel
theorem dX12_machine_39 : decode cX12_machine 39 = .ok (.lcmp, 1) := by decide +kernel
theorem dX12_machine_40 : decode cX12_machine 40 = .ok (.ifCond .ne 10, 3) := by decide +kernel
theorem dX12_machine_43 : decode cX12_machine 43 = .ok (.aload_n 0, 1) := by decide +kernel
theorem dX12_machine_44 : decode cX12_machine 44 = .ok (.bipush 6, 2) := by decide +kernel
theorem dX12_machine_46 : decode cX12_machine 46 = .ok (.invokevirtual 235, 3) := by decide +kernel
theorem dX12_machine_49 : decode cX12_machine 49 = .ok (.ireturn, 1) := by decide +kernel
theorem dX12_machine_50 : decode cX12_machine 50 = .ok (.aload_n 0, 1) := by decide +kernel
theorem dX12_machine_51 : decode cX12_machine 51 = .ok (.aload_n 0, 1) := by decide +kernel
theorem dX12_machine_52 : decode cX12_machine 52 = .ok (.iload_n 1, 1) := by decide +kernel
theorem dX12_machine_53 : decode cX12_machine 53 = .ok (.iload_n 2, 1) := by decide +kernel
theorem dX12_machine_54 : decode cX12_machine 54 = .ok (.invokevirtual 269, 3) := by decide +kernel
theorem dX12_machine_57 : decode cX12_machine 57 = .ok (.invokevirtual 250, 3) := by decide +kernel
theorem dX12_machine_60 : decode cX12_machine 60 = .ok (.ireturn, 1) := by decide +kernel
theorem dX12_table_0 : decode cX12_table 0 = .ok (.iload_n 1, 1) := by decide +kernel
theorem dX12_table_1 : decode cX12_table 1 = .ok (.ifCond .lt 20, 3) := by decide +kernel
theorem dX12_table_4 : decode cX12_table 4 = .ok (.iload_n 1, 1) := by decide +kernel
theorem dX12_table_5 : decode cX12_table 5 = .ok (.aload_n 0, 1) := by decide +kernel
theorem dX12_table_6 : decode cX12_table 6 = .ok (.invokevirtual 280, 3) := by decide +kernel
theorem dX12_table_9 : decode cX12_table 9 = .ok (.if_icmp .ge 12, 3) := by decide +kernel
theorem dX12_table_12 : decode cX12_table 12 = .ok (.iload_n 2, 1) := by decide +kernel
theorem dX12_table_13 : decode cX12_table 13 = .ok (.ifCond .lt 8, 3) := by decide +kernel
theorem dX12_table_16 : decode cX12_table 16 = .ok (.iload_n 2, 1) := by decide +kernel
theorem dX12_table_17 : decode cX12_table 17 = .ok (.iconst 1, 1) := by decide +kernel
theorem dX12_table_18 : decode cX12_table 18 = .ok (.if_icmp .le 9, 3) := by decide +kernel
theorem dX12_table_21 : decode cX12_table 21 = .ok (.aload_n 0, 1) := by decide +kernel
theorem dX12_table_22 : decode cX12_table 22 = .ok (.iconst 1, 1) := by decide +kernel
theorem dX12_table_23 : decode cX12_table 23 = .ok (.invokevirtual 235, 3) := by decide +kernel
theorem dX12_table_26 : decode cX12_table 26 = .ok (.ireturn, 1) := by decide +kernel
theorem dX12_table_27 : decode cX12_table 27 = .ok (.aload_n 0, 1) := by decide +kernel
theorem dX12_table_28 : decode cX12_table 28 = .ok (.aload_n 0, 1) := by decide +kernel
theorem dX12_table_29 : decode cX12_table 29 = .ok (.iload_n 1, 1) := by decide +kernel
theorem dX12_table_30 : decode cX12_table 30 = .ok (.iload_n 2, 1) := by decide +kernel
theorem dX12_table_31 : decode cX12_table 31 = .ok (.ifCond .ne 8, 3) := by decide +kernel
theorem dX12_table_34 : decode cX12_table 34 = .ok (.bipush 11, 2) := by decide +kernel
theorem dX12_table_36 : decode cX12_table 36 = .ok (.goto 5, 3) := by decide +kernel
theorem dX12_table_39 : decode cX12_table 39 = .ok (.bipush 12, 2) := by decide +kernel
theorem dX12_table_41 : decode cX12_table 41 = .ok (.invokevirtual 269, 3) := by decide +kernel
theorem dX12_table_44 : decode cX12_table 44 = .ok (.invokevirtual 250, 3) := by decide +kernel
theorem dX12_table_47 : decode cX12_table 47 = .ok (.ireturn, 1) := by decide +kernel
theorem dX12_wash_0 : decode cX12_wash 0 = .ok (.aload_n 0, 1) := by decide +kernel
theorem dX12_wash_1 : decode cX12_wash 1 = .ok (.iload_n 1, 1) := by decide +kernel
theorem dX12_wash_2 : decode cX12_wash 2 = .ok (.invokevirtual 283, 3) := by decide +kernel
theorem dX12_wash_5 : decode cX12_wash 5 = .ok (.ifCond .eq 38, 3) := by decide +kernel
theorem dX12_wash_8 : decode cX12_wash 8 = .ok (.aload_n 0, 1) := by decide +kernel
theorem dX12_wash_9 : decode cX12_wash 9 = .ok (.iload_n 2, 1) := by decide +kernel
theorem dX12_wash_10 : decode cX12_wash 10 = .ok (.invokevirtual 283, 3) := by decide +kernel
theorem dX12_wash_13 : decode cX12_wash 13 = .ok (.ifCond .eq 30, 3) := by decide +kernel
theorem dX12_wash_16 : decode cX12_wash 16 = .ok (.iload_n 1, 1) := by decide +kernel
theorem dX12_wash_17 : decode cX12_wash 17 = .ok (.iload_n 2, 1) := by decide +kernel
theorem dX12_wash_18 : decode cX12_wash 18 = .ok (.if_icmp .eq 25, 3) := by decide +kernel
theorem dX12_wash_21 : decode cX12_wash 21 = .ok (.aload_n 0, 1) := by decide +kernel
theorem dX12_wash_22 : decode cX12_wash 22 = .ok (.aload_n 0, 1) := by decide +kernel
theorem dX12_wash_23 : decode cX12_wash 23 = .ok (.getfield 7, 3) := by decide +kernel
theorem dX12_wash_26 : decode cX12_wash 26 = .ok (.sipush 140, 3) := by decide +kernel
theorem dX12_wash_29 : decode cX12_wash 29 = .ok (.bipush 7, 2) := by decide +kernel
theorem dX12_wash_31 : decode cX12_wash 31 = .ok (.iload_n 1, 1) := by decide +kernel
theorem dX12_wash_32 : decode cX12_wash 32 = .ok (.imul, 1) := by decide +kernel
theorem dX12_wash_33 : decode cX12_wash 33 = .ok (.iadd, 1) := by decide +kernel
theorem dX12_wash_34 : decode cX12_wash 34 = .ok (.iload_n 2, 1) := by decide +kernel
theorem dX12_wash_35 : decode cX12_wash 35 = .ok (.iadd, 1) := by decide +kernel
theorem dX12_wash_36 : decode cX12_wash 36 = .ok (.laload, 1) := by decide +kernel
theorem dX12_wash_37 : decode cX12_wash 37 = .ok (.invokevirtual 250, 3) := by decide +kernel
theorem dX12_wash_40 : decode cX12_wash 40 = .ok (.goto 8, 3) := by decide +kernel
theorem dX12_wash_43 : decode cX12_wash 43 = .ok (.aload_n 0, 1) := by decide +kernel
theorem dX12_wash_44 : decode cX12_wash 44 = .ok (.iconst 1, 1) := by decide +kernel
theorem dX12_wash_45 : decode cX12_wash 45 = .ok (.invokevirtual 235, 3) := by decide +kernel
theorem dX12_wash_48 : decode cX12_wash 48 = .ok (.ireturn, 1) := by decide +kernel
theorem dX12_begin_0 : decode cX12_begin 0 = .ok (.iload_n 1, 1) := by decide +kernel
theorem dX12_begin_1 : decode cX12_begin 1 = .ok (.i2l, 1) := by decide +kernel
theorem dX12_begin_2 : decode cX12_begin 2 = .ok (.lconst 0, 1) := by decide +kernel
theorem dX12_begin_3 : decode cX12_begin 3 = .ok (.ldc2_w 286, 3) := by decide +kernel
theorem dX12_begin_6 : decode cX12_begin 6 = .ok (.invokestatic 125, 3) := by decide +kernel
theorem dX12_begin_9 : decode cX12_begin 9 = .ok (.ifCond .ne 9, 3) := by decide +kernel
theorem dX12_begin_12 : decode cX12_begin 12 = .ok (.aload_n 0, 1) := by decide +kernel
theorem dX12_begin_13 : decode cX12_begin 13 = .ok (.iconst 1, 1) := by decide +kernel
theorem dX12_begin_14 : decode cX12_begin 14 = .ok (.invokevirtual 112, 3) := by decide +kernel
theorem dX12_begin_17 : decode cX12_begin 17 = .ok (.ireturn, 1) := by decide +kernel
theorem dX12_begin_18 : decode cX12_begin 18 = .ok (.aload_n 0, 1) := by decide +kernel
theorem dX12_begin_19 : decode cX12_begin 19 = .ok (.iconst 0, 1) := by decide +kernel
theorem dX12_begin_20 : decode cX12_begin 20 = .ok (.iload_n 1, 1) := by decide +kernel
theorem dX12_begin_21 : decode cX12_begin 21 = .ok (.invokevirtual 246, 3) := by decide +kernel
theorem dX12_begin_24 : decode cX12_begin 24 = .ok (.aload_n 0, 1) := by decide +kernel
theorem dX12_begin_25 : decode cX12_begin 25 = .ok (.iconst 0, 1) := by decide +kernel
theorem dX12_begin_26 : decode cX12_begin 26 = .ok (.invokevirtual 112, 3) := by decide +kernel
theorem dX12_begin_29 : decode cX12_begin 29 = .ok (.ireturn, 1) := by decide +kernel
theorem dX12_draw_0 : decode cX12_draw 0 = .ok (.aload_n 0, 1) := by decide +kernel
theorem dX12_draw_1 : decode cX12_draw 1 = .ok (.getfield 7, 3) := by decide +kernel
theorem dX12_draw_4 : decode cX12_draw 4 = .ok (.iconst 4, 1) := by decide +kernel
theorem dX12_draw_5 : decode cX12_draw 5 = .ok (.aload_n 0, 1) := by decide +kernel
theorem dX12_draw_6 : decode cX12_draw 6 = .ok (.getfield 7, 3) := by decide +kernel
theorem dX12_draw_9 : decode cX12_draw 9 = .ok (.iconst 4, 1) := by decide +kernel
theorem dX12_draw_10 : decode cX12_draw 10 = .ok (.laload, 1) := by decide +kernel
theorem dX12_draw_11 : decode cX12_draw 11 = .ok (.ldc2_w 288, 3) := by decide +kernel
theorem dX12_draw_14 : decode cX12_draw 14 = .ok (.lmul, 1) := by decide +kernel
theorem dX12_draw_15 : decode cX12_draw 15 = .ok (.ldc2_w 290, 3) := by decide +kernel
theorem dX12_draw_18 : decode cX12_draw 18 = .ok (.ladd, 1) := by decide +kernel
theorem dX12_draw_19 : decode cX12_draw 19 = .ok (.ldc2_w 292, 3) := by decide +kernel
theorem dX12_draw_22 : decode cX12_draw 22 = .ok (.lrem, 1) := by decide +kernel
theorem dX12_draw_23 : decode cX12_draw 23 = .ok (.lastore, 1) := by decide +kernel
theorem dX12_draw_24 : decode cX12_draw 24 = .ok (.aload_n 0, 1) := by decide +kernel
theorem dX12_draw_25 : decode cX12_draw 25 = .ok (.getfield 7, 3) := by decide +kernel
theorem dX12_draw_28 : decode cX12_draw 28 = .ok (.iconst 4, 1) := by decide +kernel
theorem dX12_draw_29 : decode cX12_draw 29 = .ok (.laload, 1) := by decide +kernel
theorem dX12_draw_30 : decode cX12_draw 30 = .ok (.ldc2_w 294, 3) := by decide +kernel
theorem dX12_draw_33 : decode cX12_draw 33 = .ok (.ldiv, 1) := by decide +kernel
theorem dX12_draw_34 : decode cX12_draw 34 = .ok (.iload_n 1, 1) := by decide +kernel
theorem dX12_draw_35 : decode cX12_draw 35 = .ok (.i2l, 1) := by decide +kernel
theorem dX12_draw_36 : decode cX12_draw 36 = .ok (.lrem, 1) := by decide +kernel
theorem dX12_draw_37 : decode cX12_draw 37 = .ok (.lreturn, 1) := by decide +kernel
theorem dX12_stops_0 : decode cX12_stops 0 = .ok (.iconst 0, 1) := by decide +kernel
theorem dX12_stops_1 : decode cX12_stops 1 = .ok (.iload_n 1, 1) := by decide +kernel
theorem dX12_stops_2 : decode cX12_stops 2 = .ok (.invokestatic 192, 3) := by decide +kernel
theorem dX12_stops_5 : decode cX12_stops 5 = .ok (.istore_n 2, 1) := by decide +kernel
theorem dX12_stops_6 : decode cX12_stops 6 = .ok (.aload_n 0, 1) := by decide +kernel
theorem dX12_stops_7 : decode cX12_stops 7 = .ok (.getfield 7, 3) := by decide +kernel
theorem dX12_stops_10 : decode cX12_stops 10 = .ok (.iload_n 2, 1) := by decide +kernel
theorem dX12_stops_11 : decode cX12_stops 11 = .ok (.iconst 4, 1) := by decide +kernel
theorem dX12_stops_12 : decode cX12_stops 12 = .ok (.iadd, 1) := by decide +kernel
theorem dX12_stops_13 : decode cX12_stops 13 = .ok (.laload, 1) := by decide +kernel
theorem dX12_stops_14 : decode cX12_stops 14 = .ok (.lconst 0, 1) := by decide +kernel
theorem dX12_stops_15 : decode cX12_stops 15 = .ok (.lcmp, 1) := by decide +kernel
theorem dX12_stops_16 : decode cX12_stops 16 = .ok (.ifCond .le 7, 3) := by decide +kernel
theorem dX12_stops_19 : decode cX12_stops 19 = .ok (.iconst 1, 1) := by decide +kernel
theorem dX12_stops_20 : decode cX12_stops 20 = .ok (.goto 4, 3) := by decide +kernel
theorem dX12_stops_23 : decode cX12_stops 23 = .ok (.iconst 0, 1) := by decide +kernel
theorem dX12_stops_24 : decode cX12_stops 24 = .ok (.istore_n 3, 1) := by decide +kernel
theorem dX12_stops_25 : decode cX12_stops 25 = .ok (.aload_n 0, 1) := by decide +kernel
theorem dX12_stops_26 : decode cX12_stops 26 = .ok (.getfield 7, 3) := by decide +kernel
theorem dX12_stops_29 : decode cX12_stops 29 = .ok (.iload_n 2, 1) := by decide +kernel
theorem dX12_stops_30 : decode cX12_stops 30 = .ok (.iconst 5, 1) := by decide +kernel
theorem dX12_stops_31 : decode cX12_stops 31 = .ok (.iadd, 1) := by decide +kernel
theorem dX12_stops_32 : decode cX12_stops 32 = .ok (.lconst 0, 1) := by decide +kernel
theorem dX12_stops_33 : decode cX12_stops 33 = .ok (.lastore, 1) := by decide +kernel
theorem dX12_stops_34 : decode cX12_stops 34 = .ok (.iload_n 3, 1) := by decide +kernel
theorem dX12_stops_35 : decode cX12_stops 35 = .ok (.ifCond .eq 18, 3) := by decide +kernel
theorem dX12_stops_38 : decode cX12_stops 38 = .ok (.aload_n 0, 1) := by decide +kernel
theorem dX12_stops_39 : decode cX12_stops 39 = .ok (.getfield 7, 3) := by decide +kernel
theorem dX12_stops_42 : decode cX12_stops 42 = .ok (.iload_n 2, 1) := by decide +kernel
theorem dX12_stops_43 : decode cX12_stops 43 = .ok (.iconst 4, 1) := by decide +kernel
theorem dX12_stops_44 : decode cX12_stops 44 = .ok (.iadd, 1) := by decide +kernel
theorem dX12_stops_45 : decode cX12_stops 45 = .ok (.dup2, 1) := by decide +kernel
theorem dX12_stops_46 : decode cX12_stops 46 = .ok (.laload, 1) := by decide +kernel
theorem dX12_stops_47 : decode cX12_stops 47 = .ok (.lconst 1, 1) := by decide +kernel
theorem dX12_stops_48 : decode cX12_stops 48 = .ok (.lsub, 1) := by decide +kernel
theorem dX12_stops_49 : decode cX12_stops 49 = .ok (.lastore, 1) := by decide +kernel
theorem dX12_stops_50 : decode cX12_stops 50 = .ok (.goto 54, 3) := by decide +kernel
theorem dX12_stops_53 : decode cX12_stops 53 = .ok (.aload_n 0, 1) := by decide +kernel
theorem dX12_stops_54 : decode cX12_stops 54 = .ok (.getfield 7, 3) := by decide +kernel
theorem dX12_stops_57 : decode cX12_stops 57 = .ok (.iload_n 2, 1) := by decide +kernel
theorem dX12_stops_58 : decode cX12_stops 58 = .ok (.iconst 2, 1) := by decide +kernel
theorem dX12_stops_59 : decode cX12_stops 59 = .ok (.iadd, 1) := by decide +kernel
theorem dX12_stops_60 : decode cX12_stops 60 = .ok (.laload, 1) := by decide +kernel
theorem dX12_stops_61 : decode cX12_stops 61 = .ok (.lconst 0, 1) := by decide +kernel
theorem dX12_stops_62 : decode cX12_stops 62 = .ok (.lcmp, 1) := by decide +kernel
theorem dX12_stops_63 : decode cX12_stops 63 = .ok (.ifCond .le 41, 3) := by decide +kernel
theorem dX12_stops_66 : decode cX12_stops 66 = .ok (.aload_n 0, 1) := by decide +kernel
theorem dX12_stops_67 : decode cX12_stops 67 = .ok (.bipush 64, 2) := by decide +kernel
theorem dX12_stops_69 : decode cX12_stops 69 = .ok (.invokevirtual 296, 3) := by decide +kernel
theorem dX12_stops_72 : decode cX12_stops 72 = .ok (.aload_n 0, 1) := by decide +kernel
theorem dX12_stops_73 : decode cX12_stops 73 = .ok (.getfield 7, 3) := by decide +kernel
theorem dX12_stops_76 : decode cX12_stops 76 = .ok (.iload_n 2, 1) := by decide +kernel
theorem dX12_stops_77 : decode cX12_stops 77 = .ok (.iconst 2, 1) := by decide +kernel
theorem dX12_stops_78 : decode cX12_stops 78 = .ok (.iadd, 1) := by decide +kernel
theorem dX12_stops_79 : decode cX12_stops 79 = .ok (.laload, 1) := by decide +kernel
theorem dX12_stops_80 : decode cX12_stops 80 = .ok (.lcmp, 1) := by decide +kernel
theorem dX12_stops_81 : decode cX12_stops 81 = .ok (.ifCond .ge 23, 3) := by decide +kernel
theorem dX12_stops_84 : decode cX12_stops 84 = .ok (.aload_n 0, 1) := by decide +kernel
theorem dX12_stops_85 : decode cX12_stops 85 = .ok (.getfield 7, 3) := by decide +kernel
theorem dX12_stops_88 : decode cX12_stops 88 = .ok (.iload_n 2, 1) := by decide +kernel
theorem dX12_stops_89 : decode cX12_stops 89 = .ok (.iconst 4, 1) := by decide +kernel
theorem dX12_stops_90 : decode cX12_stops 90 = .ok (.iadd, 1) := by decide +kernel
theorem dX12_stops_91 : decode cX12_stops 91 = .ok (.aload_n 0, 1) := by decide +kernel
theorem dX12_stops_92 : decode cX12_stops 92 = .ok (.getfield 7, 3) := by decide +kernel
theorem dX12_stops_95 : decode cX12_stops 95 = .ok (.iload_n 2, 1) := by decide +kernel
theorem dX12_stops_96 : decode cX12_stops 96 = .ok (.iconst 3, 1) := by decide +kernel
theorem dX12_stops_97 : decode cX12_stops 97 = .ok (.iadd, 1) := by decide +kernel
theorem dX12_stops_98 : decode cX12_stops 98 = .ok (.laload, 1) := by decide +kernel
theorem dX12_stops_99 : decode cX12_stops 99 = .ok (.lconst 1, 1) := by decide +kernel
theorem dX12_stops_100 : decode cX12_stops 100 = .ok (.lsub, 1) := by decide +kernel
theorem dX12_stops_101 : decode cX12_stops 101 = .ok (.lastore, 1) := by decide +kernel
theorem dX12_stops_102 : decode cX12_stops 102 = .ok (.iconst 1, 1) := by decide +kernel
theorem dX12_stops_103 : decode cX12_stops 103 = .ok (.istore_n 3, 1) := by decide +kernel
theorem dX12_stops_104 : decode cX12_stops 104 = .ok (.iload_n 3, 1) := by decide +kernel
theorem dX12_stops_105 : decode cX12_stops 105 = .ok (.ifCond .eq 14, 3) := by decide +kernel
theorem dX12_stops_108 : decode cX12_stops 108 = .ok (.aload_n 0, 1) := by decide +kernel
theorem dX12_stops_109 : decode cX12_stops 109 = .ok (.getfield 7, 3) := by decide +kernel
theorem dX12_stops_112 : decode cX12_stops 112 = .ok (.iload_n 2, 1) := by decide +kernel
theorem dX12_stops_113 : decode cX12_stops 113 = .ok (.iconst 5, 1) := by decide +kernel
theorem dX12_stops_114 : decode cX12_stops 114 = .ok (.iadd, 1) := by decide +kernel
theorem dX12_stops_115 : decode cX12_stops 115 = .ok (.ldc2_w 300, 3) := by decide +kernel
theorem dX12_stops_118 : decode cX12_stops 118 = .ok (.lastore, 1) := by decide +kernel
theorem dX12_stops_119 : decode cX12_stops 119 = .ok (.return_, 1) := by decide +kernel
theorem dX12_moves_0 : decode cX12_moves 0 = .ok (.iconst 0, 1) := by decide +kernel
theorem dX12_moves_1 : decode cX12_moves 1 = .ok (.iload_n 1, 1) := by decide +kernel
theorem dX12_moves_2 : decode cX12_moves 2 = .ok (.invokestatic 192, 3) := by decide +kernel
theorem dX12_moves_5 : decode cX12_moves 5 = .ok (.istore_n 3, 1) := by decide +kernel
theorem dX12_moves_6 : decode cX12_moves 6 = .ok (.aload_n 0, 1) := by decide +kernel
theorem dX12_moves_7 : decode cX12_moves 7 = .ok (.getfield 7, 3) := by decide +kernel
theorem dX12_moves_10 : decode cX12_moves 10 = .ok (.iload_n 3, 1) := by decide +kernel
theorem dX12_moves_11 : decode cX12_moves 11 = .ok (.iconst 0, 1) := by decide +kernel
theorem dX12_moves_12 : decode cX12_moves 12 = .ok (.iadd, 1) := by decide +kernel
theorem dX12_moves_13 : decode cX12_moves 13 = .ok (.laload, 1) := by decide +kernel
theorem dX12_moves_14 : decode cX12_moves 14 = .ok (.lstore 4, 2) := by decide +kernel
theorem dX12_moves_16 : decode cX12_moves 16 = .ok (.aload_n 0, 1) := by decide +kernel
theorem dX12_moves_17 : decode cX12_moves 17 = .ok (.getfield 7, 3) := by decide +kernel
theorem dX12_moves_20 : decode cX12_moves 20 = .ok (.iload_n 3, 1) := by decide +kernel
theorem dX12_moves_21 : decode cX12_moves 21 = .ok (.iconst 5, 1) := by decide +kernel
theorem dX12_moves_22 : decode cX12_moves 22 = .ok (.iadd, 1) := by decide +kernel
theorem dX12_moves_23 : decode cX12_moves 23 = .ok (.laload, 1) := by decide +kernel
theorem dX12_moves_24 : decode cX12_moves 24 = .ok (.ldc2_w 300, 3) := by decide +kernel
theorem dX12_moves_27 : decode cX12_moves 27 = .ok (.lcmp, 1) := by decide +kernel
theorem dX12_moves_28 : decode cX12_moves 28 = .ok (.ifCond .ne 4, 3) := by decide +kernel
theorem dX12_moves_31 : decode cX12_moves 31 = .ok (.return_, 1) := by decide +kernel
theorem dX12_moves_32 : decode cX12_moves 32 = .ok (.iload_n 1, 1) := by decide +kernel
theorem dX12_moves_33 : decode cX12_moves 33 = .ok (.ifCond .ne 8, 3) := by decide +kernel
theorem dX12_moves_36 : decode cX12_moves 36 = .ok (.lload 4, 2) := by decide +kernel
theorem dX12_moves_38 : decode cX12_moves 38 = .ok (.goto 18, 3) := by decide +kernel
theorem dX12_moves_41 : decode cX12_moves 41 = .ok (.aload_n 0, 1) := by decide +kernel
theorem dX12_moves_42 : decode cX12_moves 42 = .ok (.getfield 7, 3) := by decide +kernel
theorem dX12_moves_45 : decode cX12_moves 45 = .ok (.iconst 0, 1) := by decide +kernel
theorem dX12_moves_46 : decode cX12_moves 46 = .ok (.iload_n 1, 1) := by decide +kernel
theorem dX12_moves_47 : decode cX12_moves 47 = .ok (.iconst 1, 1) := by decide +kernel
theorem dX12_moves_48 : decode cX12_moves 48 = .ok (.isub, 1) := by decide +kernel
theorem dX12_moves_49 : decode cX12_moves 49 = .ok (.invokestatic 192, 3) := by decide +kernel
theorem dX12_moves_52 : decode cX12_moves 52 = .ok (.bipush 12, 2) := by decide +kernel
theorem dX12_moves_54 : decode cX12_moves 54 = .ok (.iadd, 1) := by decide +kernel
theorem dX12_moves_55 : decode cX12_moves 55 = .ok (.laload, 1) := by decide +kernel
theorem dX12_moves_56 : decode cX12_moves 56 = .ok (.lstore 6, 2) := by decide +kernel
theorem dX12_moves_58 : decode cX12_moves 58 = .ok (.iload_n 1, 1) := by decide +kernel
theorem dX12_moves_59 : decode cX12_moves 59 = .ok (.iload_n 2, 1) := by decide +kernel
theorem dX12_moves_60 : decode cX12_moves 60 = .ok (.if_icmp .ne 8, 3) := by decide +kernel
theorem dX12_moves_63 : decode cX12_moves 63 = .ok (.lload 4, 2) := by decide +kernel
theorem dX12_moves_65 : decode cX12_moves 65 = .ok (.goto 22, 3) := by decide +kernel
theorem dX12_moves_68 : decode cX12_moves 68 = .ok (.aload_n 0, 1) := by decide +kernel
theorem dX12_moves_69 : decode cX12_moves 69 = .ok (.getfield 7, 3) := by decide +kernel
theorem dX12_moves_72 : decode cX12_moves 72 = .ok (.iload_n 3, 1) := by decide +kernel
theorem dX12_moves_73 : decode cX12_moves 73 = .ok (.bipush 11, 2) := by decide +kernel
theorem dX12_moves_75 : decode cX12_moves 75 = .ok (.iadd, 1) := by decide +kernel
theorem dX12_moves_76 : decode cX12_moves 76 = .ok (.laload, 1) := by decide +kernel
theorem dX12_moves_77 : decode cX12_moves 77 = .ok (.aload_n 0, 1) := by decide +kernel
theorem dX12_moves_78 : decode cX12_moves 78 = .ok (.getfield 7, 3) := by decide +kernel
theorem dX12_moves_81 : decode cX12_moves 81 = .ok (.iload_n 3, 1) := by decide +kernel
theorem dX12_moves_82 : decode cX12_moves 82 = .ok (.bipush 12, 2) := by decide +kernel
theorem dX12_moves_84 : decode cX12_moves 84 = .ok (.iadd, 1) := by decide +kernel
theorem dX12_moves_85 : decode cX12_moves 85 = .ok (.laload, 1) := by decide +kernel
theorem dX12_moves_86 : decode cX12_moves 86 = .ok (.lsub, 1) := by decide +kernel
theorem dX12_moves_87 : decode cX12_moves 87 = .ok (.lstore 8, 2) := by decide +kernel
theorem dX12_moves_89 : decode cX12_moves 89 = .ok (.lload 4, 2) := by decide +kernel
theorem dX12_moves_91 : decode cX12_moves 91 = .ok (.lload 6, 2) := by decide +kernel
theorem dX12_moves_93 : decode cX12_moves 93 = .ok (.lload 8, 2) := by decide +kernel
theorem dX12_moves_95 : decode cX12_moves 95 = .ok (.invokestatic 302, 3) := by decide +kernel
theorem dX12_moves_98 : decode cX12_moves 98 = .ok (.invokestatic 302, 3) := by decide +kernel
theorem dX12_moves_101 : decode cX12_moves 101 = .ok (.lstore 10, 2) := by decide +kernel
theorem dX12_moves_103 : decode cX12_moves 103 = .ok (.iload_n 1, 1) := by decide +kernel
theorem dX12_moves_104 : decode cX12_moves 104 = .ok (.ifCond .le 23, 3) := by decide +kernel
theorem dX12_moves_107 : decode cX12_moves 107 = .ok (.aload_n 0, 1) := by decide +kernel
theorem dX12_moves_108 : decode cX12_moves 108 = .ok (.getfield 7, 3) := by decide +kernel
theorem dX12_moves_111 : decode cX12_moves 111 = .ok (.iconst 0, 1) := by decide +kernel
theorem dX12_moves_112 : decode cX12_moves 112 = .ok (.iload_n 1, 1) := by decide +kernel
theorem dX12_moves_113 : decode cX12_moves 113 = .ok (.iconst 1, 1) := by decide +kernel
theorem dX12_moves_114 : decode cX12_moves 114 = .ok (.isub, 1) := by decide +kernel
theorem dX12_moves_115 : decode cX12_moves 115 = .ok (.invokestatic 192, 3) := by decide +kernel
theorem dX12_moves_118 : decode cX12_moves 118 = .ok (.bipush 12, 2) := by decide +kernel
theorem dX12_moves_120 : decode cX12_moves 120 = .ok (.iadd, 1) := by decide +kernel
theorem dX12_moves_121 : decode cX12_moves 121 = .ok (.dup2, 1) := by decide +kernel
theorem dX12_moves_122 : decode cX12_moves 122 = .ok (.laload, 1) := by decide +kernel
theorem dX12_moves_123 : decode cX12_moves 123 = .ok (.lload 10, 2) := by decide +kernel
theorem dX12_moves_125 : decode cX12_moves 125 = .ok (.lsub, 1) := by decide +kernel
theorem dX12_moves_126 : decode cX12_moves 126 = .ok (.lastore, 1) := by decide +kernel
theorem dX12_moves_127 : decode cX12_moves 127 = .ok (.iload_n 1, 1) := by decide +kernel
theorem dX12_moves_128 : decode cX12_moves 128 = .ok (.iload_n 2, 1) := by decide +kernel
theorem dX12_moves_129 : decode cX12_moves 129 = .ok (.if_icmp .ge 17, 3) := by decide +kernel
theorem dX12_moves_132 : decode cX12_moves 132 = .ok (.aload_n 0, 1) := by decide +kernel
theorem dX12_moves_133 : decode cX12_moves 133 = .ok (.getfield 7, 3) := by decide +kernel
theorem dX12_moves_136 : decode cX12_moves 136 = .ok (.iload_n 3, 1) := by decide +kernel
theorem dX12_moves_137 : decode cX12_moves 137 = .ok (.bipush 12, 2) := by decide +kernel
theorem dX12_moves_139 : decode cX12_moves 139 = .ok (.iadd, 1) := by decide +kernel
theorem dX12_moves_140 : decode cX12_moves 140 = .ok (.dup2, 1) := by decide +kernel
theorem dX12_moves_141 : decode cX12_moves 141 = .ok (.laload, 1) := by decide +kernel
theorem dX12_moves_142 : decode cX12_moves 142 = .ok (.lload 10, 2) := by decide +kernel
theorem dX12_moves_144 : decode cX12_moves 144 = .ok (.ladd, 1) := by decide +kernel
theorem dX12_moves_145 : decode cX12_moves 145 = .ok (.lastore, 1) := by decide +kernel
theorem dX12_moves_146 : decode cX12_moves 146 = .ok (.aload_n 0, 1) := by decide +kernel
theorem dX12_moves_147 : decode cX12_moves 147 = .ok (.getfield 7, 3) := by decide +kernel
theorem dX12_moves_150 : decode cX12_moves 150 = .ok (.iload_n 3, 1) := by decide +kernel
theorem dX12_moves_151 : decode cX12_moves 151 = .ok (.bipush 6, 2) := by decide +kernel
theorem dX12_moves_153 : decode cX12_moves 153 = .ok (.iadd, 1) := by decide +kernel
theorem dX12_moves_154 : decode cX12_moves 154 = .ok (.dup2, 1) := by decide +kernel
theorem dX12_moves_155 : decode cX12_moves 155 = .ok (.laload, 1) := by decide +kernel
theorem dX12_moves_156 : decode cX12_moves 156 = .ok (.lload 10, 2) := by decide +kernel
theorem dX12_moves_158 : decode cX12_moves 158 = .ok (.ladd, 1) := by decide +kernel
theorem dX12_moves_159 : decode cX12_moves 159 = .ok (.lastore, 1) := by decide +kernel
theorem dX12_moves_160 : decode cX12_moves 160 = .ok (.lload 10, 2) := by decide +kernel
theorem dX12_moves_162 : decode cX12_moves 162 = .ok (.lload 4, 2) := by decide +kernel
theorem dX12_moves_164 : decode cX12_moves 164 = .ok (.lcmp, 1) := by decide +kernel
theorem dX12_moves_165 : decode cX12_moves 165 = .ok (.ifCond .ge 39, 3) := by decide +kernel
theorem dX12_moves_168 : decode cX12_moves 168 = .ok (.aload_n 0, 1) := by decide +kernel
theorem dX12_moves_169 : decode cX12_moves 169 = .ok (.getfield 7, 3) := by decide +kernel
theorem dX12_moves_172 : decode cX12_moves 172 = .ok (.iload_n 3, 1) := by decide +kernel
theorem dX12_moves_173 : decode cX12_moves 173 = .ok (.iconst 5, 1) := by decide +kernel
theorem dX12_moves_174 : decode cX12_moves 174 = .ok (.iadd, 1) := by decide +kernel
theorem dX12_moves_175 : decode cX12_moves 175 = .ok (.lload 6, 2) := by decide +kernel
theorem dX12_moves_177 : decode cX12_moves 177 = .ok (.lload 4, 2) := by decide +kernel
theorem dX12_moves_179 : decode cX12_moves 179 = .ok (.lcmp, 1) := by decide +kernel
theorem dX12_moves_180 : decode cX12_moves 180 = .ok (.ifCond .ge 20, 3) := by decide +kernel
theorem dX12_moves_183 : decode cX12_moves 183 = .ok (.iload_n 1, 1) := by decide +kernel
theorem dX12_moves_184 : decode cX12_moves 184 = .ok (.iload_n 2, 1) := by decide +kernel
theorem dX12_moves_185 : decode cX12_moves 185 = .ok (.if_icmp .eq 11, 3) := by decide +kernel
theorem dX12_moves_188 : decode cX12_moves 188 = .ok (.lload 6, 2) := by decide +kernel
theorem dX12_moves_190 : decode cX12_moves 190 = .ok (.lload 8, 2) := by decide +kernel
theorem dX12_moves_192 : decode cX12_moves 192 = .ok (.lcmp, 1) := by decide +kernel
theorem dX12_moves_193 : decode cX12_moves 193 = .ok (.ifCond .gt 7, 3) := by decide +kernel
theorem dX12_moves_196 : decode cX12_moves 196 = .ok (.lconst 1, 1) := by decide +kernel
theorem dX12_moves_197 : decode cX12_moves 197 = .ok (.goto 6, 3) := by decide +kernel
theorem dX12_moves_200 : decode cX12_moves 200 = .ok (.ldc2_w 304, 3) := by decide +kernel
theorem dX12_moves_203 : decode cX12_moves 203 = .ok (.lastore, 1) := by decide +kernel
theorem dX12_moves_204 : decode cX12_moves 204 = .ok (.return_, 1) := by decide +kernel
theorem dX12_minute_0 : decode cX12_minute 0 = .ok (.aload_n 0, 1) := by decide +kernel
theorem dX12_minute_1 : decode cX12_minute 1 = .ok (.getfield 7, 3) := by decide +kernel
theorem dX12_minute_4 : decode cX12_minute 4 = .ok (.iconst 0, 1) := by decide +kernel
theorem dX12_minute_5 : decode cX12_minute 5 = .ok (.laload, 1) := by decide +kernel
theorem dX12_minute_6 : decode cX12_minute 6 = .ok (.l2i, 1) := by decide +kernel
theorem dX12_minute_7 : decode cX12_minute 7 = .ok (.iconst 1, 1) := by decide +kernel
theorem dX12_minute_8 : decode cX12_minute 8 = .ok (.isub, 1) := by decide +kernel
theorem dX12_minute_9 : decode cX12_minute 9 = .ok (.istore_n 1, 1) := by decide +kernel
theorem dX12_minute_10 : decode cX12_minute 10 = .ok (.iconst 0, 1) := by decide +kernel
theorem dX12_minute_11 : decode cX12_minute 11 = .ok (.istore_n 2, 1) := by decide +kernel
theorem dX12_minute_12 : decode cX12_minute 12 = .ok (.iload_n 2, 1) := by decide +kernel
theorem dX12_minute_13 : decode cX12_minute 13 = .ok (.iload_n 1, 1) := by decide +kernel
theorem dX12_minute_14 : decode cX12_minute 14 = .ok (.if_icmp .gt 14, 3) := by decide +kernel
theorem dX12_minute_17 : decode cX12_minute 17 = .ok (.aload_n 0, 1) := by decide +kernel
theorem dX12_minute_18 : decode cX12_minute 18 = .ok (.iload_n 2, 1) := by decide +kernel
theorem dX12_minute_19 : decode cX12_minute 19 = .ok (.invokevirtual 306, 3) := by decide +kernel
theorem dX12_minute_22 : decode cX12_minute 22 = .ok (.iinc 2 1, 3) := by decide +kernel
theorem dX12_minute_25 : decode cX12_minute 25 = .ok (.goto (-13), 3) := by decide +kernel
theorem dX12_minute_28 : decode cX12_minute 28 = .ok (.iload_n 1, 1) := by decide +kernel
theorem dX12_minute_29 : decode cX12_minute 29 = .ok (.istore_n 2, 1) := by decide +kernel
theorem dX12_minute_30 : decode cX12_minute 30 = .ok (.iload_n 2, 1) := by decide +kernel
theorem dX12_minute_31 : decode cX12_minute 31 = .ok (.ifCond .lt 15, 3) := by decide +kernel
theorem dX12_minute_34 : decode cX12_minute 34 = .ok (.aload_n 0, 1) := by decide +kernel
theorem dX12_minute_35 : decode cX12_minute 35 = .ok (.iload_n 2, 1) := by decide +kernel
theorem dX12_minute_36 : decode cX12_minute 36 = .ok (.iload_n 1, 1) := by decide +kernel
theorem dX12_minute_37 : decode cX12_minute 37 = .ok (.invokevirtual 309, 3) := by decide +kernel
theorem dX12_minute_40 : decode cX12_minute 40 = .ok (.iinc 2 (-1), 3) := by decide +kernel
theorem dX12_minute_43 : decode cX12_minute 43 = .ok (.goto (-13), 3) := by decide +kernel
theorem dX12_minute_46 : decode cX12_minute 46 = .ok (.iconst 0, 1) := by decide +kernel
theorem dX12_minute_47 : decode cX12_minute 47 = .ok (.istore_n 2, 1) := by decide +kernel
theorem dX12_minute_48 : decode cX12_minute 48 = .ok (.iload_n 2, 1) := by decide +kernel
theorem dX12_minute_49 : decode cX12_minute 49 = .ok (.iload_n 1, 1) := by decide +kernel
theorem dX12_minute_50 : decode cX12_minute 50 = .ok (.if_icmp .gt 102, 3) := by decide +kernel
theorem dX12_minute_53 : decode cX12_minute 53 = .ok (.aload_n 0, 1) := by decide +kernel
theorem dX12_minute_54 : decode cX12_minute 54 = .ok (.iload_n 2, 1) := by decide +kernel
theorem dX12_minute_55 : decode cX12_minute 55 = .ok (.iconst 5, 1) := by decide +kernel
theorem dX12_minute_56 : decode cX12_minute 56 = .ok (.invokevirtual 269, 3) := by decide +kernel
theorem dX12_minute_59 : decode cX12_minute 59 = .ok (.l2i, 1) := by decide +kernel
theorem dX12_minute_60 : decode cX12_minute 60 = .ok (.istore_n 3, 1) := by decide +kernel
theorem dX12_minute_61 : decode cX12_minute 61 = .ok (.aload_n 0, 1) := by decide +kernel
theorem dX12_minute_62 : decode cX12_minute 62 = .ok (.getfield 7, 3) := by decide +kernel
theorem dX12_minute_65 : decode cX12_minute 65 = .ok (.iconst 0, 1) := by decide +kernel
theorem dX12_minute_66 : decode cX12_minute 66 = .ok (.iload_n 2, 1) := by decide +kernel
theorem dX12_minute_67 : decode cX12_minute 67 = .ok (.invokestatic 192, 3) := by decide +kernel
theorem dX12_minute_70 : decode cX12_minute 70 = .ok (.bipush 7, 2) := by decide +kernel
theorem dX12_minute_72 : decode cX12_minute 72 = .ok (.iadd, 1) := by decide +kernel
theorem dX12_minute_73 : decode cX12_minute 73 = .ok (.iload_n 3, 1) := by decide +kernel
theorem dX12_minute_74 : decode cX12_minute 74 = .ok (.iadd, 1) := by decide +kernel
theorem dX12_minute_75 : decode cX12_minute 75 = .ok (.dup2, 1) := by decide +kernel
theorem dX12_minute_76 : decode cX12_minute 76 = .ok (.laload, 1) := by decide +kernel
theorem dX12_minute_77 : decode cX12_minute 77 = .ok (.lconst 1, 1) := by decide +kernel
theorem dX12_minute_78 : decode cX12_minute 78 = .ok (.ladd, 1) := by decide +kernel
theorem dX12_minute_79 : decode cX12_minute 79 = .ok (.lastore, 1) := by decide +kernel
theorem dX12_minute_80 : decode cX12_minute 80 = .ok (.iload_n 3, 1) := by decide +kernel
theorem dX12_minute_81 : decode cX12_minute 81 = .ok (.iconst 1, 1) := by decide +kernel
theorem dX12_minute_82 : decode cX12_minute 82 = .ok (.if_icmp .eq 11, 3) := by decide +kernel
theorem dX12_minute_85 : decode cX12_minute 85 = .ok (.iload_n 3, 1) := by decide +kernel
theorem dX12_minute_86 : decode cX12_minute 86 = .ok (.iconst 2, 1) := by decide +kernel
theorem dX12_minute_87 : decode cX12_minute 87 = .ok (.if_icmp .eq 6, 3) := by decide +kernel
theorem dX12_minute_90 : decode cX12_minute 90 = .ok (.goto 56, 3) := by decide +kernel
theorem dX12_minute_93 : decode cX12_minute 93 = .ok (.iload_n 2, 1) := by decide +kernel
theorem dX12_minute_94 : decode cX12_minute 94 = .ok (.istore 4, 2) := by decide +kernel
theorem dX12_minute_96 : decode cX12_minute 96 = .ok (.aload_n 0, 1) := by decide +kernel
theorem dX12_minute_97 : decode cX12_minute 97 = .ok (.iload 4, 2) := by decide +kernel
theorem dX12_minute_99 : decode cX12_minute 99 = .ok (.iconst 5, 1) := by decide +kernel
theorem dX12_minute_100 : decode cX12_minute 100 = .ok (.invokevirtual 269, 3) := by decide +kernel
theorem dX12_minute_103 : decode cX12_minute 103 = .ok (.iload_n 3, 1) := by decide +kernel
theorem dX12_minute_104 : decode cX12_minute 104 = .ok (.i2l, 1) := by decide +kernel
theorem dX12_minute_105 : decode cX12_minute 105 = .ok (.lcmp, 1) := by decide +kernel
theorem dX12_minute_106 : decode cX12_minute 106 = .ok (.ifCond .ne 21, 3) := by decide +kernel
theorem dX12_minute_109 : decode cX12_minute 109 = .ok (.iload 4, 2) := by decide +kernel
theorem dX12_minute_111 : decode cX12_minute 111 = .ok (.iload_n 3, 1) := by decide +kernel
theorem dX12_minute_112 : decode cX12_minute 112 = .ok (.iconst 1, 1) := by decide +kernel
theorem dX12_minute_113 : decode cX12_minute 113 = .ok (.if_icmp .ne 7, 3) := by decide +kernel
theorem dX12_minute_116 : decode cX12_minute 116 = .ok (.iconst (-1), 1) := by decide +kernel
theorem dX12_minute_117 : decode cX12_minute 117 = .ok (.goto 4, 3) := by decide +kernel
theorem dX12_minute_120 : decode cX12_minute 120 = .ok (.iconst 1, 1) := by decide +kernel
theorem dX12_minute_121 : decode cX12_minute 121 = .ok (.iadd, 1) := by decide +kernel
theorem dX12_minute_122 : decode cX12_minute 122 = .ok (.istore 4, 2) := by decide +kernel
theorem dX12_minute_124 : decode cX12_minute 124 = .ok (.goto (-28), 3) := by decide +kernel
theorem dX12_minute_127 : decode cX12_minute 127 = .ok (.aload_n 0, 1) := by decide +kernel
theorem dX12_minute_128 : decode cX12_minute 128 = .ok (.getfield 7, 3) := by decide +kernel
theorem dX12_minute_131 : decode cX12_minute 131 = .ok (.bipush 104, 2) := by decide +kernel
theorem dX12_minute_133 : decode cX12_minute 133 = .ok (.bipush 6, 2) := by decide +kernel
theorem dX12_minute_135 : decode cX12_minute 135 = .ok (.iload_n 2, 1) := by decide +kernel
theorem dX12_minute_136 : decode cX12_minute 136 = .ok (.imul, 1) := by decide +kernel
theorem dX12_minute_137 : decode cX12_minute 137 = .ok (.iadd, 1) := by decide +kernel
theorem dX12_minute_138 : decode cX12_minute 138 = .ok (.iload 4, 2) := by decide +kernel
theorem dX12_minute_140 : decode cX12_minute 140 = .ok (.iadd, 1) := by decide +kernel
theorem dX12_minute_141 : decode cX12_minute 141 = .ok (.dup2, 1) := by decide +kernel
theorem dX12_minute_142 : decode cX12_minute 142 = .ok (.laload, 1) := by decide +kernel
theorem dX12_minute_143 : decode cX12_minute 143 = .ok (.lconst 1, 1) := by decide +kernel
theorem dX12_minute_144 : decode cX12_minute 144 = .ok (.ladd, 1) := by decide +kernel
theorem dX12_minute_145 : decode cX12_minute 145 = .ok (.lastore, 1) := by decide +kernel
theorem dX12_minute_146 : decode cX12_minute 146 = .ok (.iinc 2 1, 3) := by decide +kernel
theorem dX12_minute_149 : decode cX12_minute 149 = .ok (.goto (-101), 3) := by decide +kernel
theorem dX12_minute_152 : decode cX12_minute 152 = .ok (.aload_n 0, 1) := by decide +kernel
theorem dX12_minute_153 : decode cX12_minute 153 = .ok (.getfield 7, 3) := by decide +kernel
theorem dX12_minute_156 : decode cX12_minute 156 = .ok (.iconst 2, 1) := by decide +kernel
theorem dX12_minute_157 : decode cX12_minute 157 = .ok (.dup2, 1) := by decide +kernel
theorem dX12_minute_158 : decode cX12_minute 158 = .ok (.laload, 1) := by decide +kernel
theorem dX12_minute_159 : decode cX12_minute 159 = .ok (.lconst 1, 1) := by decide +kernel
theorem dX12_minute_160 : decode cX12_minute 160 = .ok (.ladd, 1) := by decide +kernel
theorem dX12_minute_161 : decode cX12_minute 161 = .ok (.lastore, 1) := by decide +kernel
theorem dX12_minute_162 : decode cX12_minute 162 = .ok (.return_, 1) := by decide +kernel
theorem dX12_runs_0 : decode cX12_runs 0 = .ok (.aload_n 0, 1) := by decide +kernel
theorem dX12_runs_1 : decode cX12_runs 1 = .ok (.invokevirtual 273, 3) := by decide +kernel
theorem dX12_runs_4 : decode cX12_runs 4 = .ok (.lstore_n 2, 1) := by decide +kernel
theorem dX12_runs_5 : decode cX12_runs 5 = .ok (.iconst 0, 1) := by decide +kernel
theorem dX12_runs_6 : decode cX12_runs 6 = .ok (.istore 4, 2) := by decide +kernel
theorem dX12_runs_8 : decode cX12_runs 8 = .ok (.iload 4, 2) := by decide +kernel
theorem dX12_runs_10 : decode cX12_runs 10 = .ok (.iload_n 1, 1) := by decide +kernel
theorem dX12_runs_11 : decode cX12_runs 11 = .ok (.if_icmp .ge 13, 3) := by decide +kernel
theorem dX12_runs_14 : decode cX12_runs 14 = .ok (.aload_n 0, 1) := by decide +kernel
theorem dX12_runs_15 : decode cX12_runs 15 = .ok (.invokevirtual 312, 3) := by decide +kernel
theorem dX12_runs_18 : decode cX12_runs 18 = .ok (.iinc 4 1, 3) := by decide +kernel
theorem dX12_runs_21 : decode cX12_runs 21 = .ok (.goto (-13), 3) := by decide +kernel
theorem dX12_runs_24 : decode cX12_runs 24 = .ok (.aload_n 0, 1) := by decide +kernel
theorem dX12_runs_25 : decode cX12_runs 25 = .ok (.invokevirtual 273, 3) := by decide +kernel
theorem dX12_runs_28 : decode cX12_runs 28 = .ok (.lload_n 2, 1) := by decide +kernel
theorem dX12_runs_29 : decode cX12_runs 29 = .ok (.lsub, 1) := by decide +kernel
theorem dX12_runs_30 : decode cX12_runs 30 = .ok (.lreturn, 1) := by decide +kernel
theorem dX12_run_0 : decode cX12_run 0 = .ok (.iload_n 1, 1) := by decide +kernel
theorem dX12_run_1 : decode cX12_run 1 = .ok (.i2l, 1) := by decide +kernel
theorem dX12_run_2 : decode cX12_run 2 = .ok (.lconst 1, 1) := by decide +kernel
theorem dX12_run_3 : decode cX12_run 3 = .ok (.ldc2_w 315, 3) := by decide +kernel
theorem dX12_run_6 : decode cX12_run 6 = .ok (.invokestatic 125, 3) := by decide +kernel
theorem dX12_run_9 : decode cX12_run 9 = .ok (.ifCond .ne 9, 3) := by decide +kernel
theorem dX12_run_12 : decode cX12_run 12 = .ok (.aload_n 0, 1) := by decide +kernel
theorem dX12_run_13 : decode cX12_run 13 = .ok (.iconst 1, 1) := by decide +kernel
theorem dX12_run_14 : decode cX12_run 14 = .ok (.invokevirtual 235, 3) := by decide +kernel
theorem dX12_run_17 : decode cX12_run 17 = .ok (.ireturn, 1) := by decide +kernel
theorem dX12_run_18 : decode cX12_run 18 = .ok (.aload_n 0, 1) := by decide +kernel
theorem dX12_run_19 : decode cX12_run 19 = .ok (.getfield 7, 3) := by decide +kernel
theorem dX12_run_22 : decode cX12_run 22 = .ok (.iconst 0, 1) := by decide +kernel
theorem dX12_run_23 : decode cX12_run 23 = .ok (.laload, 1) := by decide +kernel
theorem dX12_run_24 : decode cX12_run 24 = .ok (.lconst 0, 1) := by decide +kernel
theorem dX12_run_25 : decode cX12_run 25 = .ok (.lcmp, 1) := by decide +kernel
theorem dX12_run_26 : decode cX12_run 26 = .ok (.ifCond .ne 12, 3) := by decide +kernel
theorem dX12_run_29 : decode cX12_run 29 = .ok (.aload_n 0, 1) := by decide +kernel
theorem dX12_run_30 : decode cX12_run 30 = .ok (.bipush 6, 2) := by decide +kernel
theorem dX12_run_32 : decode cX12_run 32 = .ok (.invokevirtual 235, 3) := by decide +kernel
theorem dX12_run_35 : decode cX12_run 35 = .ok (.goto 12, 3) := by decide +kernel
theorem dX12_run_38 : decode cX12_run 38 = .ok (.aload_n 0, 1) := by decide +kernel
theorem dX12_run_39 : decode cX12_run 39 = .ok (.aload_n 0, 1) := by decide +kernel
theorem dX12_run_40 : decode cX12_run 40 = .ok (.iload_n 1, 1) := by decide +kernel
theorem dX12_run_41 : decode cX12_run 41 = .ok (.invokevirtual 317, 3) := by decide +kernel
theorem dX12_run_44 : decode cX12_run 44 = .ok (.invokevirtual 250, 3) := by decide +kernel
theorem dX12_run_47 : decode cX12_run 47 = .ok (.ireturn, 1) := by decide +kernel
theorem dX12_minutes_0 : decode cX12_minutes 0 = .ok (.aload_n 0, 1) := by decide +kernel
theorem dX12_minutes_1 : decode cX12_minutes 1 = .ok (.iload_n 1, 1) := by decide +kernel
theorem dX12_minutes_2 : decode cX12_minutes 2 = .ok (.i2l, 1) := by decide +kernel
theorem dX12_minutes_3 : decode cX12_minutes 3 = .ok (.invokevirtual 276, 3) := by decide +kernel
theorem dX12_minutes_6 : decode cX12_minutes 6 = .ok (.ifCond .eq 28, 3) := by decide +kernel
theorem dX12_minutes_9 : decode cX12_minutes 9 = .ok (.iload_n 2, 1) := by decide +kernel
theorem dX12_minutes_10 : decode cX12_minutes 10 = .ok (.ifCond .lt 24, 3) := by decide +kernel
theorem dX12_minutes_13 : decode cX12_minutes 13 = .ok (.iload_n 2, 1) := by decide +kernel
theorem dX12_minutes_14 : decode cX12_minutes 14 = .ok (.iconst 3, 1) := by decide +kernel
theorem dX12_minutes_15 : decode cX12_minutes 15 = .ok (.if_icmp .gt 19, 3) := by decide +kernel
theorem dX12_minutes_18 : decode cX12_minutes 18 = .ok (.aload_n 0, 1) := by decide +kernel
theorem dX12_minutes_19 : decode cX12_minutes 19 = .ok (.aload_n 0, 1) := by decide +kernel
theorem dX12_minutes_20 : decode cX12_minutes 20 = .ok (.iload_n 1, 1) := by decide +kernel
theorem dX12_minutes_21 : decode cX12_minutes 21 = .ok (.bipush 7, 2) := by decide +kernel
theorem dX12_minutes_23 : decode cX12_minutes 23 = .ok (.iload_n 2, 1) := by decide +kernel
theorem dX12_minutes_24 : decode cX12_minutes 24 = .ok (.iadd, 1) := by decide +kernel
theorem dX12_minutes_25 : decode cX12_minutes 25 = .ok (.invokevirtual 269, 3) := by decide +kernel
theorem dX12_minutes_28 : decode cX12_minutes 28 = .ok (.invokevirtual 250, 3) := by decide +kernel
theorem dX12_minutes_31 : decode cX12_minutes 31 = .ok (.goto 8, 3) := by decide +kernel
theorem dX12_minutes_34 : decode cX12_minutes 34 = .ok (.aload_n 0, 1) := by decide +kernel
theorem dX12_minutes_35 : decode cX12_minutes 35 = .ok (.iconst 1, 1) := by decide +kernel
theorem dX12_minutes_36 : decode cX12_minutes 36 = .ok (.invokevirtual 235, 3) := by decide +kernel
theorem dX12_minutes_39 : decode cX12_minutes 39 = .ok (.ireturn, 1) := by decide +kernel
theorem dX12_blame_0 : decode cX12_blame 0 = .ok (.aload_n 0, 1) := by decide +kernel
theorem dX12_blame_1 : decode cX12_blame 1 = .ok (.iload_n 1, 1) := by decide +kernel
theorem dX12_blame_2 : decode cX12_blame 2 = .ok (.i2l, 1) := by decide +kernel
theorem dX12_blame_3 : decode cX12_blame 3 = .ok (.invokevirtual 276, 3) := by decide +kernel
theorem dX12_blame_6 : decode cX12_blame 6 = .ok (.ifCond .eq 33, 3) := by decide +kernel
theorem dX12_blame_9 : decode cX12_blame 9 = .ok (.aload_n 0, 1) := by decide +kernel
theorem dX12_blame_10 : decode cX12_blame 10 = .ok (.iload_n 2, 1) := by decide +kernel
theorem dX12_blame_11 : decode cX12_blame 11 = .ok (.i2l, 1) := by decide +kernel
theorem dX12_blame_12 : decode cX12_blame 12 = .ok (.invokevirtual 276, 3) := by decide +kernel
theorem dX12_blame_15 : decode cX12_blame 15 = .ok (.ifCond .eq 24, 3) := by decide +kernel
theorem dX12_blame_18 : decode cX12_blame 18 = .ok (.aload_n 0, 1) := by decide +kernel
theorem dX12_blame_19 : decode cX12_blame 19 = .ok (.aload_n 0, 1) := by decide +kernel
theorem dX12_blame_20 : decode cX12_blame 20 = .ok (.getfield 7, 3) := by decide +kernel
theorem dX12_blame_23 : decode cX12_blame 23 = .ok (.bipush 104, 2) := by decide +kernel
theorem dX12_blame_25 : decode cX12_blame 25 = .ok (.bipush 6, 2) := by decide +kernel
theorem dX12_blame_27 : decode cX12_blame 27 = .ok (.iload_n 1, 1) := by decide +kernel
theorem dX12_blame_28 : decode cX12_blame 28 = .ok (.imul, 1) := by decide +kernel
theorem dX12_blame_29 : decode cX12_blame 29 = .ok (.iadd, 1) := by decide +kernel
theorem dX12_blame_30 : decode cX12_blame 30 = .ok (.iload_n 2, 1) := by decide +kernel
theorem dX12_blame_31 : decode cX12_blame 31 = .ok (.iadd, 1) := by decide +kernel
theorem dX12_blame_32 : decode cX12_blame 32 = .ok (.laload, 1) := by decide +kernel
theorem dX12_blame_33 : decode cX12_blame 33 = .ok (.invokevirtual 250, 3) := by decide +kernel
theorem dX12_blame_36 : decode cX12_blame 36 = .ok (.goto 8, 3) := by decide +kernel
theorem dX12_blame_39 : decode cX12_blame 39 = .ok (.aload_n 0, 1) := by decide +kernel
theorem dX12_blame_40 : decode cX12_blame 40 = .ok (.iconst 1, 1) := by decide +kernel
theorem dX12_blame_41 : decode cX12_blame 41 = .ok (.invokevirtual 235, 3) := by decide +kernel
theorem dX12_blame_44 : decode cX12_blame 44 = .ok (.ireturn, 1) := by decide +kernel
theorem dX12_share_0 : decode cX12_share 0 = .ok (.aload_n 0, 1) := by decide +kernel
theorem dX12_share_1 : decode cX12_share 1 = .ok (.iload_n 1, 1) := by decide +kernel
theorem dX12_share_2 : decode cX12_share 2 = .ok (.i2l, 1) := by decide +kernel
theorem dX12_share_3 : decode cX12_share 3 = .ok (.invokevirtual 276, 3) := by decide +kernel
theorem dX12_share_6 : decode cX12_share 6 = .ok (.ifCond .ne 9, 3) := by decide +kernel
theorem dX12_share_9 : decode cX12_share 9 = .ok (.aload_n 0, 1) := by decide +kernel
theorem dX12_share_10 : decode cX12_share 10 = .ok (.iconst 1, 1) := by decide +kernel
theorem dX12_share_11 : decode cX12_share 11 = .ok (.invokevirtual 112, 3) := by decide +kernel
theorem dX12_share_14 : decode cX12_share 14 = .ok (.ireturn, 1) := by decide +kernel
theorem dX12_share_15 : decode cX12_share 15 = .ok (.aload_n 0, 1) := by decide +kernel
theorem dX12_share_16 : decode cX12_share 16 = .ok (.getfield 7, 3) := by decide +kernel
theorem dX12_share_19 : decode cX12_share 19 = .ok (.iconst 2, 1) := by decide +kernel
theorem dX12_share_20 : decode cX12_share 20 = .ok (.laload, 1) := by decide +kernel
theorem dX12_share_21 : decode cX12_share 21 = .ok (.lstore_n 2, 1) := by decide +kernel
theorem dX12_share_22 : decode cX12_share 22 = .ok (.aload_n 0, 1) := by decide +kernel
theorem dX12_share_23 : decode cX12_share 23 = .ok (.iload_n 1, 1) := by decide +kernel
theorem dX12_share_24 : decode cX12_share 24 = .ok (.bipush 7, 2) := by decide +kernel
theorem dX12_share_26 : decode cX12_share 26 = .ok (.invokevirtual 269, 3) := by decide +kernel
theorem dX12_share_29 : decode cX12_share 29 = .ok (.lstore 4, 2) := by decide +kernel
theorem dX12_share_31 : decode cX12_share 31 = .ok (.lload_n 2, 1) := by decide +kernel
theorem dX12_share_32 : decode cX12_share 32 = .ok (.lconst 0, 1) := by decide +kernel
theorem dX12_share_33 : decode cX12_share 33 = .ok (.lcmp, 1) := by decide +kernel
theorem dX12_share_34 : decode cX12_share 34 = .ok (.ifCond .ne 10, 3) := by decide +kernel
theorem dX12_share_37 : decode cX12_share 37 = .ok (.aload_n 0, 1) := by decide +kernel
theorem dX12_share_38 : decode cX12_share 38 = .ok (.bipush 6, 2) := by decide +kernel
theorem dX12_share_40 : decode cX12_share 40 = .ok (.invokevirtual 112, 3) := by decide +kernel
theorem dX12_share_43 : decode cX12_share 43 = .ok (.ireturn, 1) := by decide +kernel
theorem dX12_share_44 : decode cX12_share 44 = .ok (.aload_n 0, 1) := by decide +kernel
theorem dX12_share_45 : decode cX12_share 45 = .ok (.lload 4, 2) := by decide +kernel
theorem dX12_share_47 : decode cX12_share 47 = .ok (.lload_n 2, 1) := by decide +kernel
theorem dX12_share_48 : decode cX12_share 48 = .ok (.invokevirtual 320, 3) := by decide +kernel
theorem dX12_share_51 : decode cX12_share 51 = .ok (.ireturn, 1) := by decide +kernel
theorem dX12_tells_0 : decode cX12_tells 0 = .ok (.lload_n 1, 1) := by decide +kernel
theorem dX12_tells_1 : decode cX12_tells 1 = .ok (.lstore 5, 2) := by decide +kernel
theorem dX12_tells_3 : decode cX12_tells 3 = .ok (.lload_n 3, 1) := by decide +kernel
theorem dX12_tells_4 : decode cX12_tells 4 = .ok (.lstore 7, 2) := by decide +kernel
theorem dX12_tells_6 : decode cX12_tells 6 = .ok (.lload 7, 2) := by decide +kernel
theorem dX12_tells_8 : decode cX12_tells 8 = .ok (.lconst 0, 1) := by decide +kernel
theorem dX12_tells_9 : decode cX12_tells 9 = .ok (.lcmp, 1) := by decide +kernel
theorem dX12_tells_10 : decode cX12_tells 10 = .ok (.ifCond .eq 21, 3) := by decide +kernel
theorem dX12_tells_13 : decode cX12_tells 13 = .ok (.lload 5, 2) := by decide +kernel
theorem dX12_tells_15 : decode cX12_tells 15 = .ok (.lload 7, 2) := by decide +kernel
theorem dX12_tells_17 : decode cX12_tells 17 = .ok (.lrem, 1) := by decide +kernel
theorem dX12_tells_18 : decode cX12_tells 18 = .ok (.lstore 9, 2) := by decide +kernel
theorem dX12_tells_20 : decode cX12_tells 20 = .ok (.lload 7, 2) := by decide +kernel
theorem dX12_tells_22 : decode cX12_tells 22 = .ok (.lstore 5, 2) := by decide +kernel
theorem dX12_tells_24 : decode cX12_tells 24 = .ok (.lload 9, 2) := by decide +kernel
theorem dX12_tells_26 : decode cX12_tells 26 = .ok (.lstore 7, 2) := by decide +kernel
theorem dX12_tells_28 : decode cX12_tells 28 = .ok (.goto (-22), 3) := by decide +kernel
theorem dX12_tells_31 : decode cX12_tells 31 = .ok (.aload_n 0, 1) := by decide +kernel
theorem dX12_tells_32 : decode cX12_tells 32 = .ok (.lload_n 1, 1) := by decide +kernel
theorem dX12_tells_33 : decode cX12_tells 33 = .ok (.lload 5, 2) := by decide +kernel
theorem dX12_tells_35 : decode cX12_tells 35 = .ok (.ldiv, 1) := by decide +kernel
theorem dX12_tells_36 : decode cX12_tells 36 = .ok (.putfield 105, 3) := by decide +kernel
theorem dX12_tells_39 : decode cX12_tells 39 = .ok (.aload_n 0, 1) := by decide +kernel
theorem dX12_tells_40 : decode cX12_tells 40 = .ok (.lload_n 3, 1) := by decide +kernel
theorem dX12_tells_41 : decode cX12_tells 41 = .ok (.lload 5, 2) := by decide +kernel
theorem dX12_tells_43 : decode cX12_tells 43 = .ok (.ldiv, 1) := by decide +kernel
theorem dX12_tells_44 : decode cX12_tells 44 = .ok (.putfield 13, 3) := by decide +kernel
theorem dX12_tells_47 : decode cX12_tells 47 = .ok (.aload_n 0, 1) := by decide +kernel
theorem dX12_tells_48 : decode cX12_tells 48 = .ok (.iconst 0, 1) := by decide +kernel
theorem dX12_tells_49 : decode cX12_tells 49 = .ok (.invokevirtual 112, 3) := by decide +kernel
theorem dX12_tells_52 : decode cX12_tells 52 = .ok (.ireturn, 1) := by decide +kernel
theorem dX12_copies_0 : decode cX12_copies 0 = .ok (.iconst 0, 1) := by decide +kernel
theorem dX12_copies_1 : decode cX12_copies 1 = .ok (.istore_n 3, 1) := by decide +kernel
theorem dX12_copies_2 : decode cX12_copies 2 = .ok (.iload_n 3, 1) := by decide +kernel
theorem dX12_copies_3 : decode cX12_copies 3 = .ok (.sipush 440, 3) := by decide +kernel
theorem dX12_copies_6 : decode cX12_copies 6 = .ok (.if_icmp .ge 25, 3) := by decide +kernel
theorem dX12_copies_9 : decode cX12_copies 9 = .ok (.aload_n 0, 1) := by decide +kernel
theorem dX12_copies_10 : decode cX12_copies 10 = .ok (.getfield 7, 3) := by decide +kernel
theorem dX12_copies_13 : decode cX12_copies 13 = .ok (.iload_n 2, 1) := by decide +kernel
theorem dX12_copies_14 : decode cX12_copies 14 = .ok (.iload_n 3, 1) := by decide +kernel
theorem dX12_copies_15 : decode cX12_copies 15 = .ok (.iadd, 1) := by decide +kernel
theorem dX12_copies_16 : decode cX12_copies 16 = .ok (.aload_n 0, 1) := by decide +kernel
theorem dX12_copies_17 : decode cX12_copies 17 = .ok (.getfield 7, 3) := by decide +kernel
theorem dX12_copies_20 : decode cX12_copies 20 = .ok (.iload_n 1, 1) := by decide +kernel
theorem dX12_copies_21 : decode cX12_copies 21 = .ok (.iload_n 3, 1) := by decide +kernel
theorem dX12_copies_22 : decode cX12_copies 22 = .ok (.iadd, 1) := by decide +kernel
theorem dX12_copies_23 : decode cX12_copies 23 = .ok (.laload, 1) := by decide +kernel
theorem dX12_copies_24 : decode cX12_copies 24 = .ok (.lastore, 1) := by decide +kernel
theorem dX12_copies_25 : decode cX12_copies 25 = .ok (.iinc 3 1, 3) := by decide +kernel
theorem dX12_copies_28 : decode cX12_copies 28 = .ok (.goto (-26), 3) := by decide +kernel
theorem dX12_copies_31 : decode cX12_copies 31 = .ok (.return_, 1) := by decide +kernel
theorem dX12_tries_0 : decode cX12_tries 0 = .ok (.aload_n 0, 1) := by decide +kernel
theorem dX12_tries_1 : decode cX12_tries 1 = .ok (.iconst 0, 1) := by decide +kernel
theorem dX12_tries_2 : decode cX12_tries 2 = .ok (.sipush 2200, 3) := by decide +kernel
theorem dX12_tries_5 : decode cX12_tries 5 = .ok (.invokevirtual 324, 3) := by decide +kernel
theorem dX12_tries_8 : decode cX12_tries 8 = .ok (.aload_n 0, 1) := by decide +kernel
