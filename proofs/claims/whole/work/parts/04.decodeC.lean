theorem dX12_tries_9 : decode cX12_tries 9 = .ok (.getfield 7, 3) := by decide +kernel
theorem dX12_tries_12 : decode cX12_tries 12 = .ok (.iconst 0, 1) := by decide +kernel
theorem dX12_tries_13 : decode cX12_tries 13 = .ok (.iload_n 1, 1) := by decide +kernel
theorem dX12_tries_14 : decode cX12_tries 14 = .ok (.invokestatic 192, 3) := by decide +kernel
theorem dX12_tries_17 : decode cX12_tries 17 = .ok (.iconst 0, 1) := by decide +kernel
theorem dX12_tries_18 : decode cX12_tries 18 = .ok (.iadd, 1) := by decide +kernel
theorem dX12_tries_19 : decode cX12_tries 19 = .ok (.lload_n 2, 1) := by decide +kernel
theorem dX12_tries_20 : decode cX12_tries 20 = .ok (.lastore, 1) := by decide +kernel
theorem dX12_tries_21 : decode cX12_tries 21 = .ok (.aload_n 0, 1) := by decide +kernel
theorem dX12_tries_22 : decode cX12_tries 22 = .ok (.iload 4, 2) := by decide +kernel
theorem dX12_tries_24 : decode cX12_tries 24 = .ok (.invokevirtual 317, 3) := by decide +kernel
theorem dX12_tries_27 : decode cX12_tries 27 = .ok (.lstore 5, 2) := by decide +kernel
theorem dX12_tries_29 : decode cX12_tries 29 = .ok (.aload_n 0, 1) := by decide +kernel
theorem dX12_tries_30 : decode cX12_tries 30 = .ok (.sipush 2200, 3) := by decide +kernel
theorem dX12_tries_33 : decode cX12_tries 33 = .ok (.iconst 0, 1) := by decide +kernel
theorem dX12_tries_34 : decode cX12_tries 34 = .ok (.invokevirtual 324, 3) := by decide +kernel
theorem dX12_tries_37 : decode cX12_tries 37 = .ok (.lload 5, 2) := by decide +kernel
theorem dX12_tries_39 : decode cX12_tries 39 = .ok (.lreturn, 1) := by decide +kernel
theorem dX12_tried_0 : decode cX12_tried 0 = .ok (.aload_n 0, 1) := by decide +kernel
theorem dX12_tried_1 : decode cX12_tried 1 = .ok (.iload_n 1, 1) := by decide +kernel
theorem dX12_tried_2 : decode cX12_tried 2 = .ok (.i2l, 1) := by decide +kernel
theorem dX12_tried_3 : decode cX12_tried 3 = .ok (.invokevirtual 276, 3) := by decide +kernel
theorem dX12_tried_6 : decode cX12_tried 6 = .ok (.ifCond .eq 42, 3) := by decide +kernel
theorem dX12_tried_9 : decode cX12_tried 9 = .ok (.iload_n 2, 1) := by decide +kernel
theorem dX12_tried_10 : decode cX12_tried 10 = .ok (.i2l, 1) := by decide +kernel
theorem dX12_tried_11 : decode cX12_tried 11 = .ok (.lconst 1, 1) := by decide +kernel
theorem dX12_tried_12 : decode cX12_tried 12 = .ok (.ldc2_w 327, 3) := by decide +kernel
theorem dX12_tried_15 : decode cX12_tried 15 = .ok (.invokestatic 125, 3) := by decide +kernel
theorem dX12_tried_18 : decode cX12_tried 18 = .ok (.ifCond .eq 30, 3) := by decide +kernel
theorem dX12_tried_21 : decode cX12_tried 21 = .ok (.iload_n 3, 1) := by decide +kernel
theorem dX12_tried_22 : decode cX12_tried 22 = .ok (.i2l, 1) := by decide +kernel
theorem dX12_tried_23 : decode cX12_tried 23 = .ok (.lconst 1, 1) := by decide +kernel
theorem dX12_tried_24 : decode cX12_tried 24 = .ok (.ldc2_w 315, 3) := by decide +kernel
theorem dX12_tried_27 : decode cX12_tried 27 = .ok (.invokestatic 125, 3) := by decide +kernel
theorem dX12_tried_30 : decode cX12_tried 30 = .ok (.ifCond .eq 18, 3) := by decide +kernel
theorem dX12_tried_33 : decode cX12_tried 33 = .ok (.aload_n 0, 1) := by decide +kernel
theorem dX12_tried_34 : decode cX12_tried 34 = .ok (.aload_n 0, 1) := by decide +kernel
theorem dX12_tried_35 : decode cX12_tried 35 = .ok (.iload_n 1, 1) := by decide +kernel
theorem dX12_tried_36 : decode cX12_tried 36 = .ok (.iload_n 2, 1) := by decide +kernel
theorem dX12_tried_37 : decode cX12_tried 37 = .ok (.i2l, 1) := by decide +kernel
theorem dX12_tried_38 : decode cX12_tried 38 = .ok (.iload_n 3, 1) := by decide +kernel
theorem dX12_tried_39 : decode cX12_tried 39 = .ok (.invokevirtual 329, 3) := by decide +kernel
theorem dX12_tried_42 : decode cX12_tried 42 = .ok (.invokevirtual 250, 3) := by decide +kernel
theorem dX12_tried_45 : decode cX12_tried 45 = .ok (.goto 8, 3) := by decide +kernel
theorem dX12_tried_48 : decode cX12_tried 48 = .ok (.aload_n 0, 1) := by decide +kernel
theorem dX12_tried_49 : decode cX12_tried 49 = .ok (.iconst 1, 1) := by decide +kernel
theorem dX12_tried_50 : decode cX12_tried 50 = .ok (.invokevirtual 235, 3) := by decide +kernel
theorem dX12_tried_53 : decode cX12_tried 53 = .ok (.ireturn, 1) := by decide +kernel
theorem dX12_holder_0 : decode cX12_holder 0 = .ok (.iload_n 1, 1) := by decide +kernel
theorem dX12_holder_1 : decode cX12_holder 1 = .ok (.i2l, 1) := by decide +kernel
theorem dX12_holder_2 : decode cX12_holder 2 = .ok (.lconst 1, 1) := by decide +kernel
theorem dX12_holder_3 : decode cX12_holder 3 = .ok (.ldc2_w 207, 3) := by decide +kernel
theorem dX12_holder_6 : decode cX12_holder 6 = .ok (.invokestatic 125, 3) := by decide +kernel
theorem dX12_holder_9 : decode cX12_holder 9 = .ok (.ifCond .eq 15, 3) := by decide +kernel
theorem dX12_holder_12 : decode cX12_holder 12 = .ok (.iload_n 2, 1) := by decide +kernel
theorem dX12_holder_13 : decode cX12_holder 13 = .ok (.i2l, 1) := by decide +kernel
theorem dX12_holder_14 : decode cX12_holder 14 = .ok (.lconst 1, 1) := by decide +kernel
theorem dX12_holder_15 : decode cX12_holder 15 = .ok (.ldc2_w 315, 3) := by decide +kernel
theorem dX12_holder_18 : decode cX12_holder 18 = .ok (.invokestatic 125, 3) := by decide +kernel
theorem dX12_holder_21 : decode cX12_holder 21 = .ok (.ifCond .ne 9, 3) := by decide +kernel
theorem dX12_holder_24 : decode cX12_holder 24 = .ok (.aload_n 0, 1) := by decide +kernel
theorem dX12_holder_25 : decode cX12_holder 25 = .ok (.iconst 1, 1) := by decide +kernel
theorem dX12_holder_26 : decode cX12_holder 26 = .ok (.invokevirtual 235, 3) := by decide +kernel
theorem dX12_holder_29 : decode cX12_holder 29 = .ok (.ireturn, 1) := by decide +kernel
theorem dX12_holder_30 : decode cX12_holder 30 = .ok (.aload_n 0, 1) := by decide +kernel
theorem dX12_holder_31 : decode cX12_holder 31 = .ok (.getfield 7, 3) := by decide +kernel
theorem dX12_holder_34 : decode cX12_holder 34 = .ok (.iconst 0, 1) := by decide +kernel
theorem dX12_holder_35 : decode cX12_holder 35 = .ok (.laload, 1) := by decide +kernel
theorem dX12_holder_36 : decode cX12_holder 36 = .ok (.lconst 0, 1) := by decide +kernel
theorem dX12_holder_37 : decode cX12_holder 37 = .ok (.lcmp, 1) := by decide +kernel
theorem dX12_holder_38 : decode cX12_holder 38 = .ok (.ifCond .ne 10, 3) := by decide +kernel
theorem dX12_holder_41 : decode cX12_holder 41 = .ok (.aload_n 0, 1) := by decide +kernel
theorem dX12_holder_42 : decode cX12_holder 42 = .ok (.bipush 6, 2) := by decide +kernel
theorem dX12_holder_44 : decode cX12_holder 44 = .ok (.invokevirtual 235, 3) := by decide +kernel
theorem dX12_holder_47 : decode cX12_holder 47 = .ok (.ireturn, 1) := by decide +kernel
theorem dX12_holder_48 : decode cX12_holder 48 = .ok (.iconst (-1), 1) := by decide +kernel
theorem dX12_holder_49 : decode cX12_holder 49 = .ok (.istore_n 3, 1) := by decide +kernel
theorem dX12_holder_50 : decode cX12_holder 50 = .ok (.lconst 0, 1) := by decide +kernel
theorem dX12_holder_51 : decode cX12_holder 51 = .ok (.lstore 4, 2) := by decide +kernel
theorem dX12_holder_53 : decode cX12_holder 53 = .ok (.iconst 0, 1) := by decide +kernel
theorem dX12_holder_54 : decode cX12_holder 54 = .ok (.istore 6, 2) := by decide +kernel
theorem dX12_holder_56 : decode cX12_holder 56 = .ok (.iload 6, 2) := by decide +kernel
theorem dX12_holder_58 : decode cX12_holder 58 = .ok (.i2l, 1) := by decide +kernel
theorem dX12_holder_59 : decode cX12_holder 59 = .ok (.aload_n 0, 1) := by decide +kernel
theorem dX12_holder_60 : decode cX12_holder 60 = .ok (.getfield 7, 3) := by decide +kernel
theorem dX12_holder_63 : decode cX12_holder 63 = .ok (.iconst 0, 1) := by decide +kernel
theorem dX12_holder_64 : decode cX12_holder 64 = .ok (.laload, 1) := by decide +kernel
theorem dX12_holder_65 : decode cX12_holder 65 = .ok (.lcmp, 1) := by decide +kernel
theorem dX12_holder_66 : decode cX12_holder 66 = .ok (.ifCond .ge 57, 3) := by decide +kernel
theorem dX12_holder_69 : decode cX12_holder 69 = .ok (.aload_n 0, 1) := by decide +kernel
theorem dX12_holder_70 : decode cX12_holder 70 = .ok (.iload 6, 2) := by decide +kernel
theorem dX12_holder_72 : decode cX12_holder 72 = .ok (.ldc2_w 327, 3) := by decide +kernel
theorem dX12_holder_75 : decode cX12_holder 75 = .ok (.aload_n 0, 1) := by decide +kernel
theorem dX12_holder_76 : decode cX12_holder 76 = .ok (.iload 6, 2) := by decide +kernel
theorem dX12_holder_78 : decode cX12_holder 78 = .ok (.iconst 0, 1) := by decide +kernel
theorem dX12_holder_79 : decode cX12_holder 79 = .ok (.invokevirtual 269, 3) := by decide +kernel
theorem dX12_holder_82 : decode cX12_holder 82 = .ok (.iload_n 1, 1) := by decide +kernel
theorem dX12_holder_83 : decode cX12_holder 83 = .ok (.i2l, 1) := by decide +kernel
theorem dX12_holder_84 : decode cX12_holder 84 = .ok (.ladd, 1) := by decide +kernel
theorem dX12_holder_85 : decode cX12_holder 85 = .ok (.invokestatic 302, 3) := by decide +kernel
theorem dX12_holder_88 : decode cX12_holder 88 = .ok (.iload_n 2, 1) := by decide +kernel
theorem dX12_holder_89 : decode cX12_holder 89 = .ok (.invokevirtual 329, 3) := by decide +kernel
theorem dX12_holder_92 : decode cX12_holder 92 = .ok (.lstore 7, 2) := by decide +kernel
theorem dX12_holder_94 : decode cX12_holder 94 = .ok (.iload_n 3, 1) := by decide +kernel
theorem dX12_holder_95 : decode cX12_holder 95 = .ok (.iconst (-1), 1) := by decide +kernel
theorem dX12_holder_96 : decode cX12_holder 96 = .ok (.if_icmp .eq 14, 3) := by decide +kernel
theorem dX12_holder_99 : decode cX12_holder 99 = .ok (.lload 7, 2) := by decide +kernel
theorem dX12_holder_101 : decode cX12_holder 101 = .ok (.lload 4, 2) := by decide +kernel
theorem dX12_holder_103 : decode cX12_holder 103 = .ok (.lcmp, 1) := by decide +kernel
theorem dX12_holder_104 : decode cX12_holder 104 = .ok (.ifCond .gt 6, 3) := by decide +kernel
theorem dX12_holder_107 : decode cX12_holder 107 = .ok (.goto 10, 3) := by decide +kernel
theorem dX12_holder_110 : decode cX12_holder 110 = .ok (.iload 6, 2) := by decide +kernel
theorem dX12_holder_112 : decode cX12_holder 112 = .ok (.istore_n 3, 1) := by decide +kernel
theorem dX12_holder_113 : decode cX12_holder 113 = .ok (.lload 7, 2) := by decide +kernel
theorem dX12_holder_115 : decode cX12_holder 115 = .ok (.lstore 4, 2) := by decide +kernel
theorem dX12_holder_117 : decode cX12_holder 117 = .ok (.iinc 6 1, 3) := by decide +kernel
theorem dX12_holder_120 : decode cX12_holder 120 = .ok (.goto (-64), 3) := by decide +kernel
theorem dX12_holder_123 : decode cX12_holder 123 = .ok (.aload_n 0, 1) := by decide +kernel
theorem dX12_holder_124 : decode cX12_holder 124 = .ok (.lload 4, 2) := by decide +kernel
theorem dX12_holder_126 : decode cX12_holder 126 = .ok (.aload_n 0, 1) := by decide +kernel
theorem dX12_holder_127 : decode cX12_holder 127 = .ok (.iconst 0, 1) := by decide +kernel
theorem dX12_holder_128 : decode cX12_holder 128 = .ok (.aload_n 0, 1) := by decide +kernel
theorem dX12_holder_129 : decode cX12_holder 129 = .ok (.iconst 0, 1) := by decide +kernel
theorem dX12_holder_130 : decode cX12_holder 130 = .ok (.iconst 0, 1) := by decide +kernel
theorem dX12_holder_131 : decode cX12_holder 131 = .ok (.invokevirtual 269, 3) := by decide +kernel
theorem dX12_holder_134 : decode cX12_holder 134 = .ok (.iload_n 2, 1) := by decide +kernel
theorem dX12_holder_135 : decode cX12_holder 135 = .ok (.invokevirtual 329, 3) := by decide +kernel
theorem dX12_holder_138 : decode cX12_holder 138 = .ok (.lsub, 1) := by decide +kernel
theorem dX12_holder_139 : decode cX12_holder 139 = .ok (.putfield 333, 3) := by decide +kernel
theorem dX12_holder_142 : decode cX12_holder 142 = .ok (.aload_n 0, 1) := by decide +kernel
theorem dX12_holder_143 : decode cX12_holder 143 = .ok (.iconst 1, 1) := by decide +kernel
theorem dX12_holder_144 : decode cX12_holder 144 = .ok (.putfield 336, 3) := by decide +kernel
theorem dX12_holder_147 : decode cX12_holder 147 = .ok (.aload_n 0, 1) := by decide +kernel
theorem dX12_holder_148 : decode cX12_holder 148 = .ok (.iload_n 3, 1) := by decide +kernel
theorem dX12_holder_149 : decode cX12_holder 149 = .ok (.i2l, 1) := by decide +kernel
theorem dX12_holder_150 : decode cX12_holder 150 = .ok (.invokevirtual 250, 3) := by decide +kernel
theorem dX12_holder_153 : decode cX12_holder 153 = .ok (.ireturn, 1) := by decide +kernel
theorem dX12_gained_0 : decode cX12_gained 0 = .ok (.aload_n 0, 1) := by decide +kernel
theorem dX12_gained_1 : decode cX12_gained 1 = .ok (.getfield 336, 3) := by decide +kernel
theorem dX12_gained_4 : decode cX12_gained 4 = .ok (.ifCond .eq 14, 3) := by decide +kernel
theorem dX12_gained_7 : decode cX12_gained 7 = .ok (.aload_n 0, 1) := by decide +kernel
theorem dX12_gained_8 : decode cX12_gained 8 = .ok (.aload_n 0, 1) := by decide +kernel
theorem dX12_gained_9 : decode cX12_gained 9 = .ok (.getfield 333, 3) := by decide +kernel
theorem dX12_gained_12 : decode cX12_gained 12 = .ok (.invokevirtual 250, 3) := by decide +kernel
theorem dX12_gained_15 : decode cX12_gained 15 = .ok (.goto 9, 3) := by decide +kernel
theorem dX12_gained_18 : decode cX12_gained 18 = .ok (.aload_n 0, 1) := by decide +kernel
theorem dX12_gained_19 : decode cX12_gained 19 = .ok (.bipush 6, 2) := by decide +kernel
theorem dX12_gained_21 : decode cX12_gained 21 = .ok (.invokevirtual 235, 3) := by decide +kernel
theorem dX12_gained_24 : decode cX12_gained 24 = .ok (.ireturn, 1) := by decide +kernel
theorem dX12_waitsFor_0 : decode cX12_waitsFor 0 = .ok (.aload_n 0, 1) := by decide +kernel
theorem dX12_waitsFor_1 : decode cX12_waitsFor 1 = .ok (.iconst 0, 1) := by decide +kernel
theorem dX12_waitsFor_2 : decode cX12_waitsFor 2 = .ok (.sipush 2200, 3) := by decide +kernel
theorem dX12_waitsFor_5 : decode cX12_waitsFor 5 = .ok (.invokevirtual 324, 3) := by decide +kernel
theorem dX12_waitsFor_8 : decode cX12_waitsFor 8 = .ok (.iconst 0, 1) := by decide +kernel
theorem dX12_waitsFor_9 : decode cX12_waitsFor 9 = .ok (.istore 4, 2) := by decide +kernel
theorem dX12_waitsFor_11 : decode cX12_waitsFor 11 = .ok (.iload 4, 2) := by decide +kernel
theorem dX12_waitsFor_13 : decode cX12_waitsFor 13 = .ok (.i2l, 1) := by decide +kernel
theorem dX12_waitsFor_14 : decode cX12_waitsFor 14 = .ok (.aload_n 0, 1) := by decide +kernel
theorem dX12_waitsFor_15 : decode cX12_waitsFor 15 = .ok (.getfield 7, 3) := by decide +kernel
theorem dX12_waitsFor_18 : decode cX12_waitsFor 18 = .ok (.iconst 0, 1) := by decide +kernel
theorem dX12_waitsFor_19 : decode cX12_waitsFor 19 = .ok (.laload, 1) := by decide +kernel
theorem dX12_waitsFor_20 : decode cX12_waitsFor 20 = .ok (.lcmp, 1) := by decide +kernel
theorem dX12_waitsFor_21 : decode cX12_waitsFor 21 = .ok (.ifCond .ge 44, 3) := by decide +kernel
theorem dX12_waitsFor_24 : decode cX12_waitsFor 24 = .ok (.iload 4, 2) := by decide +kernel
theorem dX12_waitsFor_26 : decode cX12_waitsFor 26 = .ok (.iload_n 1, 1) := by decide +kernel
theorem dX12_waitsFor_27 : decode cX12_waitsFor 27 = .ok (.if_icmp .eq 32, 3) := by decide +kernel
theorem dX12_waitsFor_30 : decode cX12_waitsFor 30 = .ok (.aload_n 0, 1) := by decide +kernel
theorem dX12_waitsFor_31 : decode cX12_waitsFor 31 = .ok (.getfield 7, 3) := by decide +kernel
theorem dX12_waitsFor_34 : decode cX12_waitsFor 34 = .ok (.iconst 0, 1) := by decide +kernel
theorem dX12_waitsFor_35 : decode cX12_waitsFor 35 = .ok (.iload 4, 2) := by decide +kernel
theorem dX12_waitsFor_37 : decode cX12_waitsFor 37 = .ok (.invokestatic 192, 3) := by decide +kernel
theorem dX12_waitsFor_40 : decode cX12_waitsFor 40 = .ok (.iconst 0, 1) := by decide +kernel
theorem dX12_waitsFor_41 : decode cX12_waitsFor 41 = .ok (.iadd, 1) := by decide +kernel
theorem dX12_waitsFor_42 : decode cX12_waitsFor 42 = .ok (.ldc2_w 327, 3) := by decide +kernel
theorem dX12_waitsFor_45 : decode cX12_waitsFor 45 = .ok (.aload_n 0, 1) := by decide +kernel
theorem dX12_waitsFor_46 : decode cX12_waitsFor 46 = .ok (.iload 4, 2) := by decide +kernel
theorem dX12_waitsFor_48 : decode cX12_waitsFor 48 = .ok (.iconst 0, 1) := by decide +kernel
theorem dX12_waitsFor_49 : decode cX12_waitsFor 49 = .ok (.invokevirtual 269, 3) := by decide +kernel
theorem dX12_waitsFor_52 : decode cX12_waitsFor 52 = .ok (.iload_n 2, 1) := by decide +kernel
theorem dX12_waitsFor_53 : decode cX12_waitsFor 53 = .ok (.i2l, 1) := by decide +kernel
theorem dX12_waitsFor_54 : decode cX12_waitsFor 54 = .ok (.ladd, 1) := by decide +kernel
theorem dX12_waitsFor_55 : decode cX12_waitsFor 55 = .ok (.invokestatic 302, 3) := by decide +kernel
theorem dX12_waitsFor_58 : decode cX12_waitsFor 58 = .ok (.lastore, 1) := by decide +kernel
theorem dX12_waitsFor_59 : decode cX12_waitsFor 59 = .ok (.iinc 4 1, 3) := by decide +kernel
theorem dX12_waitsFor_62 : decode cX12_waitsFor 62 = .ok (.goto (-51), 3) := by decide +kernel
theorem dX12_waitsFor_65 : decode cX12_waitsFor 65 = .ok (.aload_n 0, 1) := by decide +kernel
theorem dX12_waitsFor_66 : decode cX12_waitsFor 66 = .ok (.iload_n 1, 1) := by decide +kernel
theorem dX12_waitsFor_67 : decode cX12_waitsFor 67 = .ok (.bipush 8, 2) := by decide +kernel
theorem dX12_waitsFor_69 : decode cX12_waitsFor 69 = .ok (.invokevirtual 269, 3) := by decide +kernel
theorem dX12_waitsFor_72 : decode cX12_waitsFor 72 = .ok (.aload_n 0, 1) := by decide +kernel
theorem dX12_waitsFor_73 : decode cX12_waitsFor 73 = .ok (.iload_n 1, 1) := by decide +kernel
theorem dX12_waitsFor_74 : decode cX12_waitsFor 74 = .ok (.bipush 9, 2) := by decide +kernel
theorem dX12_waitsFor_76 : decode cX12_waitsFor 76 = .ok (.invokevirtual 269, 3) := by decide +kernel
theorem dX12_waitsFor_79 : decode cX12_waitsFor 79 = .ok (.ladd, 1) := by decide +kernel
theorem dX12_waitsFor_80 : decode cX12_waitsFor 80 = .ok (.lstore 4, 2) := by decide +kernel
theorem dX12_waitsFor_82 : decode cX12_waitsFor 82 = .ok (.aload_n 0, 1) := by decide +kernel
theorem dX12_waitsFor_83 : decode cX12_waitsFor 83 = .ok (.iload_n 3, 1) := by decide +kernel
theorem dX12_waitsFor_84 : decode cX12_waitsFor 84 = .ok (.invokevirtual 317, 3) := by decide +kernel
theorem dX12_waitsFor_87 : decode cX12_waitsFor 87 = .ok (.pop2, 1) := by decide +kernel
theorem dX12_waitsFor_88 : decode cX12_waitsFor 88 = .ok (.aload_n 0, 1) := by decide +kernel
theorem dX12_waitsFor_89 : decode cX12_waitsFor 89 = .ok (.iload_n 1, 1) := by decide +kernel
theorem dX12_waitsFor_90 : decode cX12_waitsFor 90 = .ok (.bipush 8, 2) := by decide +kernel
theorem dX12_waitsFor_92 : decode cX12_waitsFor 92 = .ok (.invokevirtual 269, 3) := by decide +kernel
theorem dX12_waitsFor_95 : decode cX12_waitsFor 95 = .ok (.aload_n 0, 1) := by decide +kernel
theorem dX12_waitsFor_96 : decode cX12_waitsFor 96 = .ok (.iload_n 1, 1) := by decide +kernel
theorem dX12_waitsFor_97 : decode cX12_waitsFor 97 = .ok (.bipush 9, 2) := by decide +kernel
theorem dX12_waitsFor_99 : decode cX12_waitsFor 99 = .ok (.invokevirtual 269, 3) := by decide +kernel
theorem dX12_waitsFor_102 : decode cX12_waitsFor 102 = .ok (.ladd, 1) := by decide +kernel
theorem dX12_waitsFor_103 : decode cX12_waitsFor 103 = .ok (.lload 4, 2) := by decide +kernel
theorem dX12_waitsFor_105 : decode cX12_waitsFor 105 = .ok (.lsub, 1) := by decide +kernel
theorem dX12_waitsFor_106 : decode cX12_waitsFor 106 = .ok (.lstore 6, 2) := by decide +kernel
theorem dX12_waitsFor_108 : decode cX12_waitsFor 108 = .ok (.aload_n 0, 1) := by decide +kernel
theorem dX12_waitsFor_109 : decode cX12_waitsFor 109 = .ok (.sipush 2200, 3) := by decide +kernel
theorem dX12_waitsFor_112 : decode cX12_waitsFor 112 = .ok (.iconst 0, 1) := by decide +kernel
theorem dX12_waitsFor_113 : decode cX12_waitsFor 113 = .ok (.invokevirtual 324, 3) := by decide +kernel
theorem dX12_waitsFor_116 : decode cX12_waitsFor 116 = .ok (.lload 6, 2) := by decide +kernel
theorem dX12_waitsFor_118 : decode cX12_waitsFor 118 = .ok (.lreturn, 1) := by decide +kernel
theorem dX12_waits_0 : decode cX12_waits 0 = .ok (.aload_n 0, 1) := by decide +kernel
theorem dX12_waits_1 : decode cX12_waits 1 = .ok (.iload_n 1, 1) := by decide +kernel
theorem dX12_waits_2 : decode cX12_waits 2 = .ok (.i2l, 1) := by decide +kernel
theorem dX12_waits_3 : decode cX12_waits 3 = .ok (.invokevirtual 276, 3) := by decide +kernel
theorem dX12_waits_6 : decode cX12_waits 6 = .ok (.ifCond .eq 41, 3) := by decide +kernel
theorem dX12_waits_9 : decode cX12_waits 9 = .ok (.iload_n 2, 1) := by decide +kernel
theorem dX12_waits_10 : decode cX12_waits 10 = .ok (.i2l, 1) := by decide +kernel
theorem dX12_waits_11 : decode cX12_waits 11 = .ok (.lconst 0, 1) := by decide +kernel
theorem dX12_waits_12 : decode cX12_waits 12 = .ok (.ldc2_w 207, 3) := by decide +kernel
theorem dX12_waits_15 : decode cX12_waits 15 = .ok (.invokestatic 125, 3) := by decide +kernel
theorem dX12_waits_18 : decode cX12_waits 18 = .ok (.ifCond .eq 29, 3) := by decide +kernel
theorem dX12_waits_21 : decode cX12_waits 21 = .ok (.iload_n 3, 1) := by decide +kernel
theorem dX12_waits_22 : decode cX12_waits 22 = .ok (.i2l, 1) := by decide +kernel
theorem dX12_waits_23 : decode cX12_waits 23 = .ok (.lconst 1, 1) := by decide +kernel
theorem dX12_waits_24 : decode cX12_waits 24 = .ok (.ldc2_w 315, 3) := by decide +kernel
theorem dX12_waits_27 : decode cX12_waits 27 = .ok (.invokestatic 125, 3) := by decide +kernel
theorem dX12_waits_30 : decode cX12_waits 30 = .ok (.ifCond .eq 17, 3) := by decide +kernel
theorem dX12_waits_33 : decode cX12_waits 33 = .ok (.aload_n 0, 1) := by decide +kernel
theorem dX12_waits_34 : decode cX12_waits 34 = .ok (.aload_n 0, 1) := by decide +kernel
theorem dX12_waits_35 : decode cX12_waits 35 = .ok (.iload_n 1, 1) := by decide +kernel
theorem dX12_waits_36 : decode cX12_waits 36 = .ok (.iload_n 2, 1) := by decide +kernel
theorem dX12_waits_37 : decode cX12_waits 37 = .ok (.iload_n 3, 1) := by decide +kernel
theorem dX12_waits_38 : decode cX12_waits 38 = .ok (.invokevirtual 340, 3) := by decide +kernel
theorem dX12_waits_41 : decode cX12_waits 41 = .ok (.invokevirtual 250, 3) := by decide +kernel
theorem dX12_waits_44 : decode cX12_waits 44 = .ok (.goto 8, 3) := by decide +kernel
theorem dX12_waits_47 : decode cX12_waits 47 = .ok (.aload_n 0, 1) := by decide +kernel
theorem dX12_waits_48 : decode cX12_waits 48 = .ok (.iconst 1, 1) := by decide +kernel
theorem dX12_waits_49 : decode cX12_waits 49 = .ok (.invokevirtual 235, 3) := by decide +kernel
theorem dX12_waits_52 : decode cX12_waits 52 = .ok (.ireturn, 1) := by decide +kernel
theorem dX12_unwaited_0 : decode cX12_unwaited 0 = .ok (.aload_n 0, 1) := by decide +kernel
theorem dX12_unwaited_1 : decode cX12_unwaited 1 = .ok (.iload_n 1, 1) := by decide +kernel
theorem dX12_unwaited_2 : decode cX12_unwaited 2 = .ok (.i2l, 1) := by decide +kernel
theorem dX12_unwaited_3 : decode cX12_unwaited 3 = .ok (.invokevirtual 276, 3) := by decide +kernel
theorem dX12_unwaited_6 : decode cX12_unwaited 6 = .ok (.ifCond .eq 15, 3) := by decide +kernel
theorem dX12_unwaited_9 : decode cX12_unwaited 9 = .ok (.iload_n 2, 1) := by decide +kernel
theorem dX12_unwaited_10 : decode cX12_unwaited 10 = .ok (.i2l, 1) := by decide +kernel
theorem dX12_unwaited_11 : decode cX12_unwaited 11 = .ok (.lconst 1, 1) := by decide +kernel
theorem dX12_unwaited_12 : decode cX12_unwaited 12 = .ok (.ldc2_w 344, 3) := by decide +kernel
theorem dX12_unwaited_15 : decode cX12_unwaited 15 = .ok (.invokestatic 125, 3) := by decide +kernel
theorem dX12_unwaited_18 : decode cX12_unwaited 18 = .ok (.ifCond .ne 9, 3) := by decide +kernel
theorem dX12_unwaited_21 : decode cX12_unwaited 21 = .ok (.aload_n 0, 1) := by decide +kernel
theorem dX12_unwaited_22 : decode cX12_unwaited 22 = .ok (.iconst 1, 1) := by decide +kernel
theorem dX12_unwaited_23 : decode cX12_unwaited 23 = .ok (.invokevirtual 235, 3) := by decide +kernel
theorem dX12_unwaited_26 : decode cX12_unwaited 26 = .ok (.ireturn, 1) := by decide +kernel
theorem dX12_unwaited_27 : decode cX12_unwaited 27 = .ok (.iconst 0, 1) := by decide +kernel
theorem dX12_unwaited_28 : decode cX12_unwaited 28 = .ok (.istore_n 3, 1) := by decide +kernel
theorem dX12_unwaited_29 : decode cX12_unwaited 29 = .ok (.iload_n 3, 1) := by decide +kernel
theorem dX12_unwaited_30 : decode cX12_unwaited 30 = .ok (.bipush 20, 2) := by decide +kernel
theorem dX12_unwaited_32 : decode cX12_unwaited 32 = .ok (.if_icmp .gt 28, 3) := by decide +kernel
theorem dX12_unwaited_35 : decode cX12_unwaited 35 = .ok (.aload_n 0, 1) := by decide +kernel
theorem dX12_unwaited_36 : decode cX12_unwaited 36 = .ok (.iload_n 1, 1) := by decide +kernel
theorem dX12_unwaited_37 : decode cX12_unwaited 37 = .ok (.iload_n 3, 1) := by decide +kernel
theorem dX12_unwaited_38 : decode cX12_unwaited 38 = .ok (.iload_n 2, 1) := by decide +kernel
theorem dX12_unwaited_39 : decode cX12_unwaited 39 = .ok (.invokevirtual 340, 3) := by decide +kernel
theorem dX12_unwaited_42 : decode cX12_unwaited 42 = .ok (.lconst 0, 1) := by decide +kernel
theorem dX12_unwaited_43 : decode cX12_unwaited 43 = .ok (.lcmp, 1) := by decide +kernel
theorem dX12_unwaited_44 : decode cX12_unwaited 44 = .ok (.ifCond .ne 10, 3) := by decide +kernel
theorem dX12_unwaited_47 : decode cX12_unwaited 47 = .ok (.aload_n 0, 1) := by decide +kernel
theorem dX12_unwaited_48 : decode cX12_unwaited 48 = .ok (.iload_n 3, 1) := by decide +kernel
theorem dX12_unwaited_49 : decode cX12_unwaited 49 = .ok (.i2l, 1) := by decide +kernel
theorem dX12_unwaited_50 : decode cX12_unwaited 50 = .ok (.invokevirtual 250, 3) := by decide +kernel
theorem dX12_unwaited_53 : decode cX12_unwaited 53 = .ok (.ireturn, 1) := by decide +kernel
theorem dX12_unwaited_54 : decode cX12_unwaited 54 = .ok (.iinc 3 1, 3) := by decide +kernel
theorem dX12_unwaited_57 : decode cX12_unwaited 57 = .ok (.goto (-28), 3) := by decide +kernel
theorem dX12_unwaited_60 : decode cX12_unwaited 60 = .ok (.aload_n 0, 1) := by decide +kernel
theorem dX12_unwaited_61 : decode cX12_unwaited 61 = .ok (.bipush 6, 2) := by decide +kernel
theorem dX12_unwaited_63 : decode cX12_unwaited 63 = .ok (.invokevirtual 235, 3) := by decide +kernel
theorem dX12_unwaited_66 : decode cX12_unwaited 66 = .ok (.ireturn, 1) := by decide +kernel
theorem dX12_shared_0 : decode cX12_shared 0 = .ok (.iload_n 1, 1) := by decide +kernel
theorem dX12_shared_1 : decode cX12_shared 1 = .ok (.i2l, 1) := by decide +kernel
theorem dX12_shared_2 : decode cX12_shared 2 = .ok (.lconst 0, 1) := by decide +kernel
theorem dX12_shared_3 : decode cX12_shared 3 = .ok (.ldc2_w 294, 3) := by decide +kernel
theorem dX12_shared_6 : decode cX12_shared 6 = .ok (.invokestatic 125, 3) := by decide +kernel
theorem dX12_shared_9 : decode cX12_shared 9 = .ok (.ifCond .eq 27, 3) := by decide +kernel
theorem dX12_shared_12 : decode cX12_shared 12 = .ok (.iload_n 2, 1) := by decide +kernel
theorem dX12_shared_13 : decode cX12_shared 13 = .ok (.i2l, 1) := by decide +kernel
theorem dX12_shared_14 : decode cX12_shared 14 = .ok (.lconst 1, 1) := by decide +kernel
theorem dX12_shared_15 : decode cX12_shared 15 = .ok (.ldc2_w 327, 3) := by decide +kernel
theorem dX12_shared_18 : decode cX12_shared 18 = .ok (.invokestatic 125, 3) := by decide +kernel
theorem dX12_shared_21 : decode cX12_shared 21 = .ok (.ifCond .eq 15, 3) := by decide +kernel
theorem dX12_shared_24 : decode cX12_shared 24 = .ok (.iload_n 3, 1) := by decide +kernel
theorem dX12_shared_25 : decode cX12_shared 25 = .ok (.i2l, 1) := by decide +kernel
theorem dX12_shared_26 : decode cX12_shared 26 = .ok (.lconst 1, 1) := by decide +kernel
theorem dX12_shared_27 : decode cX12_shared 27 = .ok (.ldc2_w 344, 3) := by decide +kernel
theorem dX12_shared_30 : decode cX12_shared 30 = .ok (.invokestatic 125, 3) := by decide +kernel
theorem dX12_shared_33 : decode cX12_shared 33 = .ok (.ifCond .ne 9, 3) := by decide +kernel
theorem dX12_shared_36 : decode cX12_shared 36 = .ok (.aload_n 0, 1) := by decide +kernel
theorem dX12_shared_37 : decode cX12_shared 37 = .ok (.iconst 1, 1) := by decide +kernel
theorem dX12_shared_38 : decode cX12_shared 38 = .ok (.invokevirtual 235, 3) := by decide +kernel
theorem dX12_shared_41 : decode cX12_shared 41 = .ok (.ireturn, 1) := by decide +kernel
theorem dX12_shared_42 : decode cX12_shared 42 = .ok (.aload_n 0, 1) := by decide +kernel
theorem dX12_shared_43 : decode cX12_shared 43 = .ok (.invokevirtual 280, 3) := by decide +kernel
theorem dX12_shared_46 : decode cX12_shared 46 = .ok (.istore 4, 2) := by decide +kernel
theorem dX12_shared_48 : decode cX12_shared 48 = .ok (.iload 4, 2) := by decide +kernel
theorem dX12_shared_50 : decode cX12_shared 50 = .ok (.ifCond .ne 10, 3) := by decide +kernel
theorem dX12_shared_53 : decode cX12_shared 53 = .ok (.aload_n 0, 1) := by decide +kernel
theorem dX12_shared_54 : decode cX12_shared 54 = .ok (.bipush 6, 2) := by decide +kernel
theorem dX12_shared_56 : decode cX12_shared 56 = .ok (.invokevirtual 235, 3) := by decide +kernel
theorem dX12_shared_59 : decode cX12_shared 59 = .ok (.ireturn, 1) := by decide +kernel
theorem dX12_shared_60 : decode cX12_shared 60 = .ok (.aload_n 0, 1) := by decide +kernel
theorem dX12_shared_61 : decode cX12_shared 61 = .ok (.iconst 0, 1) := by decide +kernel
theorem dX12_shared_62 : decode cX12_shared 62 = .ok (.sipush 2200, 3) := by decide +kernel
theorem dX12_shared_65 : decode cX12_shared 65 = .ok (.invokevirtual 324, 3) := by decide +kernel
theorem dX12_shared_68 : decode cX12_shared 68 = .ok (.iconst 1, 1) := by decide +kernel
theorem dX12_shared_69 : decode cX12_shared 69 = .ok (.istore 5, 2) := by decide +kernel
theorem dX12_shared_71 : decode cX12_shared 71 = .ok (.iconst 1, 1) := by decide +kernel
theorem dX12_shared_72 : decode cX12_shared 72 = .ok (.istore 6, 2) := by decide +kernel
theorem dX12_shared_74 : decode cX12_shared 74 = .ok (.iload 6, 2) := by decide +kernel
theorem dX12_shared_76 : decode cX12_shared 76 = .ok (.iload 4, 2) := by decide +kernel
theorem dX12_shared_78 : decode cX12_shared 78 = .ok (.if_icmp .ge 17, 3) := by decide +kernel
theorem dX12_shared_81 : decode cX12_shared 81 = .ok (.iload 5, 2) := by decide +kernel
theorem dX12_shared_83 : decode cX12_shared 83 = .ok (.iload_n 1, 1) := by decide +kernel
theorem dX12_shared_84 : decode cX12_shared 84 = .ok (.iconst 1, 1) := by decide +kernel
theorem dX12_shared_85 : decode cX12_shared 85 = .ok (.iadd, 1) := by decide +kernel
theorem dX12_shared_86 : decode cX12_shared 86 = .ok (.imul, 1) := by decide +kernel
theorem dX12_shared_87 : decode cX12_shared 87 = .ok (.istore 5, 2) := by decide +kernel
theorem dX12_shared_89 : decode cX12_shared 89 = .ok (.iinc 6 1, 3) := by decide +kernel
theorem dX12_shared_92 : decode cX12_shared 92 = .ok (.goto (-18), 3) := by decide +kernel
theorem dX12_shared_95 : decode cX12_shared 95 = .ok (.ldc2_w 123, 3) := by decide +kernel
theorem dX12_shared_98 : decode cX12_shared 98 = .ok (.lstore 6, 2) := by decide +kernel
theorem dX12_shared_100 : decode cX12_shared 100 = .ok (.iconst 0, 1) := by decide +kernel
theorem dX12_shared_101 : decode cX12_shared 101 = .ok (.istore 8, 2) := by decide +kernel
theorem dX12_shared_103 : decode cX12_shared 103 = .ok (.iload 8, 2) := by decide +kernel
theorem dX12_shared_105 : decode cX12_shared 105 = .ok (.iload 5, 2) := by decide +kernel
theorem dX12_shared_107 : decode cX12_shared 107 = .ok (.if_icmp .ge 195, 3) := by decide +kernel
theorem dX12_shared_110 : decode cX12_shared 110 = .ok (.iload 8, 2) := by decide +kernel
theorem dX12_shared_112 : decode cX12_shared 112 = .ok (.istore 9, 2) := by decide +kernel
theorem dX12_shared_114 : decode cX12_shared 114 = .ok (.iconst 0, 1) := by decide +kernel
theorem dX12_shared_115 : decode cX12_shared 115 = .ok (.istore 10, 2) := by decide +kernel
theorem dX12_shared_117 : decode cX12_shared 117 = .ok (.iload 4, 2) := by decide +kernel
theorem dX12_shared_119 : decode cX12_shared 119 = .ok (.iconst 2, 1) := by decide +kernel
theorem dX12_shared_120 : decode cX12_shared 120 = .ok (.isub, 1) := by decide +kernel
theorem dX12_shared_121 : decode cX12_shared 121 = .ok (.istore 11, 2) := by decide +kernel
theorem dX12_shared_123 : decode cX12_shared 123 = .ok (.iload 11, 2) := by decide +kernel
theorem dX12_shared_125 : decode cX12_shared 125 = .ok (.ifCond .lt 42, 3) := by decide +kernel
theorem dX12_shared_128 : decode cX12_shared 128 = .ok (.aload_n 0, 1) := by decide +kernel
theorem dX12_shared_129 : decode cX12_shared 129 = .ok (.getfield 51, 3) := by decide +kernel
theorem dX12_shared_132 : decode cX12_shared 132 = .ok (.iload 11, 2) := by decide +kernel
theorem dX12_shared_134 : decode cX12_shared 134 = .ok (.iload 9, 2) := by decide +kernel
theorem dX12_shared_136 : decode cX12_shared 136 = .ok (.iload_n 1, 1) := by decide +kernel
theorem dX12_shared_137 : decode cX12_shared 137 = .ok (.iconst 1, 1) := by decide +kernel
theorem dX12_shared_138 : decode cX12_shared 138 = .ok (.iadd, 1) := by decide +kernel
theorem dX12_shared_139 : decode cX12_shared 139 = .ok (.irem, 1) := by decide +kernel
theorem dX12_shared_140 : decode cX12_shared 140 = .ok (.iastore, 1) := by decide +kernel
theorem dX12_shared_141 : decode cX12_shared 141 = .ok (.iload 10, 2) := by decide +kernel
theorem dX12_shared_143 : decode cX12_shared 143 = .ok (.aload_n 0, 1) := by decide +kernel
theorem dX12_shared_144 : decode cX12_shared 144 = .ok (.getfield 51, 3) := by decide +kernel
theorem dX12_shared_147 : decode cX12_shared 147 = .ok (.iload 11, 2) := by decide +kernel
theorem dX12_shared_149 : decode cX12_shared 149 = .ok (.iaload, 1) := by decide +kernel
theorem dX12_shared_150 : decode cX12_shared 150 = .ok (.iadd, 1) := by decide +kernel
theorem dX12_shared_151 : decode cX12_shared 151 = .ok (.istore 10, 2) := by decide +kernel
theorem dX12_shared_153 : decode cX12_shared 153 = .ok (.iload 9, 2) := by decide +kernel
theorem dX12_shared_155 : decode cX12_shared 155 = .ok (.iload_n 1, 1) := by decide +kernel
theorem dX12_shared_156 : decode cX12_shared 156 = .ok (.iconst 1, 1) := by decide +kernel
theorem dX12_shared_157 : decode cX12_shared 157 = .ok (.iadd, 1) := by decide +kernel
theorem dX12_shared_158 : decode cX12_shared 158 = .ok (.idiv, 1) := by decide +kernel
theorem dX12_shared_159 : decode cX12_shared 159 = .ok (.istore 9, 2) := by decide +kernel
theorem dX12_shared_161 : decode cX12_shared 161 = .ok (.iinc 11 (-1), 3) := by decide +kernel
theorem dX12_shared_164 : decode cX12_shared 164 = .ok (.goto (-41), 3) := by decide +kernel
theorem dX12_shared_167 : decode cX12_shared 167 = .ok (.iload 10, 2) := by decide +kernel
theorem dX12_shared_169 : decode cX12_shared 169 = .ok (.iload_n 1, 1) := by decide +kernel
theorem dX12_shared_170 : decode cX12_shared 170 = .ok (.if_icmp .le 6, 3) := by decide +kernel
theorem dX12_shared_173 : decode cX12_shared 173 = .ok (.goto 123, 3) := by decide +kernel
theorem dX12_shared_176 : decode cX12_shared 176 = .ok (.aload_n 0, 1) := by decide +kernel
theorem dX12_shared_177 : decode cX12_shared 177 = .ok (.getfield 51, 3) := by decide +kernel
theorem dX12_shared_180 : decode cX12_shared 180 = .ok (.iload 4, 2) := by decide +kernel
theorem dX12_shared_182 : decode cX12_shared 182 = .ok (.iconst 1, 1) := by decide +kernel
theorem dX12_shared_183 : decode cX12_shared 183 = .ok (.isub, 1) := by decide +kernel
theorem dX12_shared_184 : decode cX12_shared 184 = .ok (.iload_n 1, 1) := by decide +kernel
theorem dX12_shared_185 : decode cX12_shared 185 = .ok (.iload 10, 2) := by decide +kernel
theorem dX12_shared_187 : decode cX12_shared 187 = .ok (.isub, 1) := by decide +kernel
theorem dX12_shared_188 : decode cX12_shared 188 = .ok (.iastore, 1) := by decide +kernel
theorem dX12_shared_189 : decode cX12_shared 189 = .ok (.aload_n 0, 1) := by decide +kernel
theorem dX12_shared_190 : decode cX12_shared 190 = .ok (.iconst 0, 1) := by decide +kernel
theorem dX12_shared_191 : decode cX12_shared 191 = .ok (.aload_n 0, 1) := by decide +kernel
theorem dX12_shared_192 : decode cX12_shared 192 = .ok (.getfield 7, 3) := by decide +kernel
theorem dX12_shared_195 : decode cX12_shared 195 = .ok (.sipush 2203, 3) := by decide +kernel
theorem dX12_shared_198 : decode cX12_shared 198 = .ok (.laload, 1) := by decide +kernel
theorem dX12_shared_199 : decode cX12_shared 199 = .ok (.l2i, 1) := by decide +kernel
theorem dX12_shared_200 : decode cX12_shared 200 = .ok (.invokevirtual 246, 3) := by decide +kernel
theorem dX12_shared_203 : decode cX12_shared 203 = .ok (.iconst 0, 1) := by decide +kernel
theorem dX12_shared_204 : decode cX12_shared 204 = .ok (.istore 11, 2) := by decide +kernel
theorem dX12_shared_206 : decode cX12_shared 206 = .ok (.iload 11, 2) := by decide +kernel
theorem dX12_shared_208 : decode cX12_shared 208 = .ok (.iload 4, 2) := by decide +kernel
theorem dX12_shared_210 : decode cX12_shared 210 = .ok (.if_icmp .ge 34, 3) := by decide +kernel
theorem dX12_shared_213 : decode cX12_shared 213 = .ok (.aload_n 0, 1) := by decide +kernel
theorem dX12_shared_214 : decode cX12_shared 214 = .ok (.getfield 7, 3) := by decide +kernel
theorem dX12_shared_217 : decode cX12_shared 217 = .ok (.iconst 0, 1) := by decide +kernel
theorem dX12_shared_218 : decode cX12_shared 218 = .ok (.iload 11, 2) := by decide +kernel
theorem dX12_shared_220 : decode cX12_shared 220 = .ok (.invokestatic 192, 3) := by decide +kernel
theorem dX12_shared_223 : decode cX12_shared 223 = .ok (.bipush 11, 2) := by decide +kernel
theorem dX12_shared_225 : decode cX12_shared 225 = .ok (.iadd, 1) := by decide +kernel
theorem dX12_shared_226 : decode cX12_shared 226 = .ok (.aload_n 0, 1) := by decide +kernel
theorem dX12_shared_227 : decode cX12_shared 227 = .ok (.getfield 51, 3) := by decide +kernel
theorem dX12_shared_230 : decode cX12_shared 230 = .ok (.iload 11, 2) := by decide +kernel
theorem dX12_shared_232 : decode cX12_shared 232 = .ok (.iaload, 1) := by decide +kernel
theorem dX12_shared_233 : decode cX12_shared 233 = .ok (.i2l, 1) := by decide +kernel
theorem dX12_shared_234 : decode cX12_shared 234 = .ok (.iload_n 2, 1) := by decide +kernel
theorem dX12_shared_235 : decode cX12_shared 235 = .ok (.i2l, 1) := by decide +kernel
theorem dX12_shared_236 : decode cX12_shared 236 = .ok (.lmul, 1) := by decide +kernel
theorem dX12_shared_237 : decode cX12_shared 237 = .ok (.lastore, 1) := by decide +kernel
theorem dX12_shared_238 : decode cX12_shared 238 = .ok (.iinc 11 1, 3) := by decide +kernel
theorem dX12_shared_241 : decode cX12_shared 241 = .ok (.goto (-35), 3) := by decide +kernel
theorem dX12_shared_244 : decode cX12_shared 244 = .ok (.aload_n 0, 1) := by decide +kernel
theorem dX12_shared_245 : decode cX12_shared 245 = .ok (.iload_n 3, 1) := by decide +kernel
theorem dX12_shared_246 : decode cX12_shared 246 = .ok (.invokevirtual 317, 3) := by decide +kernel
theorem dX12_shared_249 : decode cX12_shared 249 = .ok (.lstore 11, 2) := by decide +kernel
theorem dX12_shared_251 : decode cX12_shared 251 = .ok (.lload 11, 2) := by decide +kernel
theorem dX12_shared_253 : decode cX12_shared 253 = .ok (.lload 6, 2) := by decide +kernel
theorem dX12_shared_255 : decode cX12_shared 255 = .ok (.lcmp, 1) := by decide +kernel
theorem dX12_shared_256 : decode cX12_shared 256 = .ok (.ifCond .gt 6, 3) := by decide +kernel
theorem dX12_shared_259 : decode cX12_shared 259 = .ok (.goto 37, 3) := by decide +kernel
theorem dX12_shared_262 : decode cX12_shared 262 = .ok (.lload 11, 2) := by decide +kernel
theorem dX12_shared_264 : decode cX12_shared 264 = .ok (.lstore 6, 2) := by decide +kernel
theorem dX12_shared_266 : decode cX12_shared 266 = .ok (.iconst 0, 1) := by decide +kernel
theorem dX12_shared_267 : decode cX12_shared 267 = .ok (.istore 13, 2) := by decide +kernel
theorem dX12_shared_269 : decode cX12_shared 269 = .ok (.iload 13, 2) := by decide +kernel
theorem dX12_shared_271 : decode cX12_shared 271 = .ok (.iload 4, 2) := by decide +kernel
theorem dX12_shared_273 : decode cX12_shared 273 = .ok (.if_icmp .ge 23, 3) := by decide +kernel
theorem dX12_shared_276 : decode cX12_shared 276 = .ok (.aload_n 0, 1) := by decide +kernel
theorem dX12_shared_277 : decode cX12_shared 277 = .ok (.getfield 54, 3) := by decide +kernel
theorem dX12_shared_280 : decode cX12_shared 280 = .ok (.iload 13, 2) := by decide +kernel
theorem dX12_shared_282 : decode cX12_shared 282 = .ok (.aload_n 0, 1) := by decide +kernel
theorem dX12_shared_283 : decode cX12_shared 283 = .ok (.getfield 51, 3) := by decide +kernel
theorem dX12_shared_286 : decode cX12_shared 286 = .ok (.iload 13, 2) := by decide +kernel
theorem dX12_shared_288 : decode cX12_shared 288 = .ok (.iaload, 1) := by decide +kernel
theorem dX12_shared_289 : decode cX12_shared 289 = .ok (.iastore, 1) := by decide +kernel
theorem dX12_shared_290 : decode cX12_shared 290 = .ok (.iinc 13 1, 3) := by decide +kernel
theorem dX12_shared_293 : decode cX12_shared 293 = .ok (.goto (-24), 3) := by decide +kernel
theorem dX12_shared_296 : decode cX12_shared 296 = .ok (.iinc 8 1, 3) := by decide +kernel
theorem dX12_shared_299 : decode cX12_shared 299 = .ok (.goto (-196), 3) := by decide +kernel
theorem dX12_shared_302 : decode cX12_shared 302 = .ok (.aload_n 0, 1) := by decide +kernel
theorem dX12_shared_303 : decode cX12_shared 303 = .ok (.sipush 2200, 3) := by decide +kernel
theorem dX12_shared_306 : decode cX12_shared 306 = .ok (.iconst 0, 1) := by decide +kernel
theorem dX12_shared_307 : decode cX12_shared 307 = .ok (.invokevirtual 324, 3) := by decide +kernel
theorem dX12_shared_310 : decode cX12_shared 310 = .ok (.aload_n 0, 1) := by decide +kernel
theorem dX12_shared_311 : decode cX12_shared 311 = .ok (.iload 4, 2) := by decide +kernel
theorem dX12_shared_313 : decode cX12_shared 313 = .ok (.putfield 346, 3) := by decide +kernel
theorem dX12_shared_316 : decode cX12_shared 316 = .ok (.aload_n 0, 1) := by decide +kernel
theorem dX12_shared_317 : decode cX12_shared 317 = .ok (.lload 6, 2) := by decide +kernel
theorem dX12_shared_319 : decode cX12_shared 319 = .ok (.invokevirtual 250, 3) := by decide +kernel
theorem dX12_shared_322 : decode cX12_shared 322 = .ok (.ireturn, 1) := by decide +kernel
theorem dX12_unit_0 : decode cX12_unit 0 = .ok (.aload_n 0, 1) := by decide +kernel
theorem dX12_unit_1 : decode cX12_unit 1 = .ok (.getfield 346, 3) := by decide +kernel
theorem dX12_unit_4 : decode cX12_unit 4 = .ok (.ifCond .ne 10, 3) := by decide +kernel
theorem dX12_unit_7 : decode cX12_unit 7 = .ok (.aload_n 0, 1) := by decide +kernel
theorem dX12_unit_8 : decode cX12_unit 8 = .ok (.bipush 6, 2) := by decide +kernel
theorem dX12_unit_10 : decode cX12_unit 10 = .ok (.invokevirtual 235, 3) := by decide +kernel
theorem dX12_unit_13 : decode cX12_unit 13 = .ok (.ireturn, 1) := by decide +kernel
theorem dX12_unit_14 : decode cX12_unit 14 = .ok (.iload_n 1, 1) := by decide +kernel
theorem dX12_unit_15 : decode cX12_unit 15 = .ok (.ifCond .lt 11, 3) := by decide +kernel
theorem dX12_unit_18 : decode cX12_unit 18 = .ok (.iload_n 1, 1) := by decide +kernel
theorem dX12_unit_19 : decode cX12_unit 19 = .ok (.aload_n 0, 1) := by decide +kernel
theorem dX12_unit_20 : decode cX12_unit 20 = .ok (.getfield 346, 3) := by decide +kernel
theorem dX12_unit_23 : decode cX12_unit 23 = .ok (.if_icmp .lt 11, 3) := by decide +kernel
theorem dX12_unit_26 : decode cX12_unit 26 = .ok (.aload_n 0, 1) := by decide +kernel
theorem dX12_unit_27 : decode cX12_unit 27 = .ok (.iconst 1, 1) := by decide +kernel
theorem dX12_unit_28 : decode cX12_unit 28 = .ok (.invokevirtual 235, 3) := by decide +kernel
theorem dX12_unit_31 : decode cX12_unit 31 = .ok (.goto 14, 3) := by decide +kernel
theorem dX12_unit_34 : decode cX12_unit 34 = .ok (.aload_n 0, 1) := by decide +kernel
theorem dX12_unit_35 : decode cX12_unit 35 = .ok (.aload_n 0, 1) := by decide +kernel
theorem dX12_unit_36 : decode cX12_unit 36 = .ok (.getfield 54, 3) := by decide +kernel
theorem dX12_unit_39 : decode cX12_unit 39 = .ok (.iload_n 1, 1) := by decide +kernel
theorem dX12_unit_40 : decode cX12_unit 40 = .ok (.iaload, 1) := by decide +kernel
theorem dX12_unit_41 : decode cX12_unit 41 = .ok (.i2l, 1) := by decide +kernel
theorem dX12_unit_42 : decode cX12_unit 42 = .ok (.invokevirtual 250, 3) := by decide +kernel
theorem dX12_unit_45 : decode cX12_unit 45 = .ok (.ireturn, 1) := by decide +kernel
theorem dX12_goes_0 : decode cX12_goes 0 = .ok (.iload_n 1, 1) := by decide +kernel
theorem dX12_goes_1 : decode cX12_goes 1 = .ok (.sipush 1000, 3) := by decide +kernel
theorem dX12_goes_4 : decode cX12_goes 4 = .ok (.aload_n 0, 1) := by decide +kernel
theorem dX12_goes_5 : decode cX12_goes 5 = .ok (.getfield 349, 3) := by decide +kernel
theorem dX12_goes_8 : decode cX12_goes 8 = .ok (.isub, 1) := by decide +kernel
theorem dX12_goes_9 : decode cX12_goes 9 = .ok (.invokestatic 162, 3) := by decide +kernel
theorem dX12_goes_12 : decode cX12_goes 12 = .ok (.istore_n 2, 1) := by decide +kernel
theorem dX12_goes_13 : decode cX12_goes 13 = .ok (.aload_n 0, 1) := by decide +kernel
theorem dX12_goes_14 : decode cX12_goes 14 = .ok (.iload_n 2, 1) := by decide +kernel
theorem dX12_goes_15 : decode cX12_goes 15 = .ok (.iload_n 1, 1) := by decide +kernel
theorem dX12_goes_16 : decode cX12_goes 16 = .ok (.if_icmp .ge 7, 3) := by decide +kernel
theorem dX12_goes_19 : decode cX12_goes 19 = .ok (.iconst 1, 1) := by decide +kernel
theorem dX12_goes_20 : decode cX12_goes 20 = .ok (.goto 4, 3) := by decide +kernel
theorem dX12_goes_23 : decode cX12_goes 23 = .ok (.iconst 0, 1) := by decide +kernel
theorem dX12_goes_24 : decode cX12_goes 24 = .ok (.putfield 352, 3) := by decide +kernel
theorem dX12_goes_27 : decode cX12_goes 27 = .ok (.aload_n 0, 1) := by decide +kernel
theorem dX12_goes_28 : decode cX12_goes 28 = .ok (.dup, 1) := by decide +kernel
theorem dX12_goes_29 : decode cX12_goes 29 = .ok (.getfield 355, 3) := by decide +kernel
theorem dX12_goes_32 : decode cX12_goes 32 = .ok (.aload_n 0, 1) := by decide +kernel
theorem dX12_goes_33 : decode cX12_goes 33 = .ok (.iload_n 2, 1) := by decide +kernel
theorem dX12_goes_34 : decode cX12_goes 34 = .ok (.invokevirtual 317, 3) := by decide +kernel
theorem dX12_goes_37 : decode cX12_goes 37 = .ok (.ladd, 1) := by decide +kernel
theorem dX12_goes_38 : decode cX12_goes 38 = .ok (.putfield 355, 3) := by decide +kernel
theorem dX12_goes_41 : decode cX12_goes 41 = .ok (.aload_n 0, 1) := by decide +kernel
theorem dX12_goes_42 : decode cX12_goes 42 = .ok (.dup, 1) := by decide +kernel
theorem dX12_goes_43 : decode cX12_goes 43 = .ok (.getfield 349, 3) := by decide +kernel
theorem dX12_goes_46 : decode cX12_goes 46 = .ok (.iload_n 2, 1) := by decide +kernel
theorem dX12_goes_47 : decode cX12_goes 47 = .ok (.iadd, 1) := by decide +kernel
theorem dX12_goes_48 : decode cX12_goes 48 = .ok (.putfield 349, 3) := by decide +kernel
theorem dX12_goes_51 : decode cX12_goes 51 = .ok (.return_, 1) := by decide +kernel
theorem dX12_does_0 : decode cX12_does 0 = .ok (.sipush 190, 3) := by decide +kernel
theorem dX12_does_3 : decode cX12_does 3 = .ok (.iconst 4, 1) := by decide +kernel
theorem dX12_does_4 : decode cX12_does 4 = .ok (.iload_n 1, 1) := by decide +kernel
theorem dX12_does_5 : decode cX12_does 5 = .ok (.imul, 1) := by decide +kernel
theorem dX12_does_6 : decode cX12_does 6 = .ok (.iadd, 1) := by decide +kernel
theorem dX12_does_7 : decode cX12_does 7 = .ok (.istore_n 2, 1) := by decide +kernel
theorem dX12_does_8 : decode cX12_does 8 = .ok (.aload_n 0, 1) := by decide +kernel
theorem dX12_does_9 : decode cX12_does 9 = .ok (.getfield 7, 3) := by decide +kernel
theorem dX12_does_12 : decode cX12_does 12 = .ok (.iload_n 2, 1) := by decide +kernel
theorem dX12_does_13 : decode cX12_does 13 = .ok (.laload, 1) := by decide +kernel
theorem dX12_does_14 : decode cX12_does 14 = .ok (.l2i, 1) := by decide +kernel
theorem dX12_does_15 : decode cX12_does 15 = .ok (.istore_n 3, 1) := by decide +kernel
theorem dX12_does_16 : decode cX12_does 16 = .ok (.aload_n 0, 1) := by decide +kernel
theorem dX12_does_17 : decode cX12_does 17 = .ok (.getfield 7, 3) := by decide +kernel
theorem dX12_does_20 : decode cX12_does 20 = .ok (.iload_n 2, 1) := by decide +kernel
theorem dX12_does_21 : decode cX12_does 21 = .ok (.iconst 2, 1) := by decide +kernel
theorem dX12_does_22 : decode cX12_does 22 = .ok (.iadd, 1) := by decide +kernel
theorem dX12_does_23 : decode cX12_does 23 = .ok (.laload, 1) := by decide +kernel
theorem dX12_does_24 : decode cX12_does 24 = .ok (.l2i, 1) := by decide +kernel
theorem dX12_does_25 : decode cX12_does 25 = .ok (.istore 4, 2) := by decide +kernel
theorem dX12_does_27 : decode cX12_does 27 = .ok (.iload_n 3, 1) := by decide +kernel
theorem dX12_does_28 : decode cX12_does 28 = .ok (.ifCond .eq 8, 3) := by decide +kernel
theorem dX12_does_31 : decode cX12_does 31 = .ok (.iload_n 3, 1) := by decide +kernel
theorem dX12_does_32 : decode cX12_does 32 = .ok (.iconst 4, 1) := by decide +kernel
theorem dX12_does_33 : decode cX12_does 33 = .ok (.if_icmp .ne 7, 3) := by decide +kernel
theorem dX12_does_36 : decode cX12_does 36 = .ok (.iconst (-1), 1) := by decide +kernel
theorem dX12_does_37 : decode cX12_does 37 = .ok (.goto 16, 3) := by decide +kernel
theorem dX12_does_40 : decode cX12_does 40 = .ok (.aload_n 0, 1) := by decide +kernel
theorem dX12_does_41 : decode cX12_does 41 = .ok (.iconst 0, 1) := by decide +kernel
theorem dX12_does_42 : decode cX12_does 42 = .ok (.aload_n 0, 1) := by decide +kernel
theorem dX12_does_43 : decode cX12_does 43 = .ok (.getfield 7, 3) := by decide +kernel
theorem dX12_does_46 : decode cX12_does 46 = .ok (.iload_n 2, 1) := by decide +kernel
theorem dX12_does_47 : decode cX12_does 47 = .ok (.iconst 1, 1) := by decide +kernel
theorem dX12_does_48 : decode cX12_does 48 = .ok (.iadd, 1) := by decide +kernel
theorem dX12_does_49 : decode cX12_does 49 = .ok (.laload, 1) := by decide +kernel
theorem dX12_does_50 : decode cX12_does 50 = .ok (.invokevirtual 203, 3) := by decide +kernel
theorem dX12_does_53 : decode cX12_does 53 = .ok (.istore 5, 2) := by decide +kernel
theorem dX12_does_55 : decode cX12_does 55 = .ok (.iload_n 3, 1) := by decide +kernel
theorem dX12_does_56 : decode cX12_does 56 = .ok (.ifCond .ne 9, 3) := by decide +kernel
theorem dX12_does_59 : decode cX12_does 59 = .ok (.aload_n 0, 1) := by decide +kernel
theorem dX12_does_60 : decode cX12_does 60 = .ok (.iload 4, 2) := by decide +kernel
theorem dX12_does_62 : decode cX12_does 62 = .ok (.invokevirtual 358, 3) := by decide +kernel
theorem dX12_does_65 : decode cX12_does 65 = .ok (.iload_n 3, 1) := by decide +kernel
theorem dX12_does_66 : decode cX12_does 66 = .ok (.iconst 4, 1) := by decide +kernel
theorem dX12_does_67 : decode cX12_does 67 = .ok (.if_icmp .ne 13, 3) := by decide +kernel
theorem dX12_does_70 : decode cX12_does 70 = .ok (.aload_n 0, 1) := by decide +kernel
theorem dX12_does_71 : decode cX12_does 71 = .ok (.getfield 57, 3) := by decide +kernel
theorem dX12_does_74 : decode cX12_does 74 = .ok (.iload_n 1, 1) := by decide +kernel
theorem dX12_does_75 : decode cX12_does 75 = .ok (.iload 4, 2) := by decide +kernel
theorem dX12_does_77 : decode cX12_does 77 = .ok (.iconst 1, 1) := by decide +kernel
theorem dX12_does_78 : decode cX12_does 78 = .ok (.isub, 1) := by decide +kernel
theorem dX12_does_79 : decode cX12_does 79 = .ok (.iastore, 1) := by decide +kernel
theorem dX12_does_80 : decode cX12_does 80 = .ok (.iload_n 3, 1) := by decide +kernel
theorem dX12_does_81 : decode cX12_does 81 = .ok (.iconst 5, 1) := by decide +kernel
theorem dX12_does_82 : decode cX12_does 82 = .ok (.if_icmp .ne 35, 3) := by decide +kernel
theorem dX12_does_85 : decode cX12_does 85 = .ok (.iload 5, 2) := by decide +kernel
theorem dX12_does_87 : decode cX12_does 87 = .ok (.iconst (-1), 1) := by decide +kernel
theorem dX12_does_88 : decode cX12_does 88 = .ok (.if_icmp .eq 17, 3) := by decide +kernel
theorem dX12_does_91 : decode cX12_does 91 = .ok (.aload_n 0, 1) := by decide +kernel
theorem dX12_does_92 : decode cX12_does 92 = .ok (.iload 5, 2) := by decide +kernel
theorem dX12_does_94 : decode cX12_does 94 = .ok (.iconst 5, 1) := by decide +kernel
theorem dX12_does_95 : decode cX12_does 95 = .ok (.invokevirtual 269, 3) := by decide +kernel
theorem dX12_does_98 : decode cX12_does 98 = .ok (.iload 4, 2) := by decide +kernel
theorem dX12_does_100 : decode cX12_does 100 = .ok (.i2l, 1) := by decide +kernel
theorem dX12_does_101 : decode cX12_does 101 = .ok (.lcmp, 1) := by decide +kernel
theorem dX12_does_102 : decode cX12_does 102 = .ok (.ifCond .eq 15, 3) := by decide +kernel
theorem dX12_does_105 : decode cX12_does 105 = .ok (.aload_n 0, 1) := by decide +kernel
theorem dX12_does_106 : decode cX12_does 106 = .ok (.getfield 7, 3) := by decide +kernel
theorem dX12_does_109 : decode cX12_does 109 = .ok (.iload_n 2, 1) := by decide +kernel
theorem dX12_does_110 : decode cX12_does 110 = .ok (.iconst 3, 1) := by decide +kernel
theorem dX12_does_111 : decode cX12_does 111 = .ok (.iadd, 1) := by decide +kernel
theorem dX12_does_112 : decode cX12_does 112 = .ok (.laload, 1) := by decide +kernel
theorem dX12_does_113 : decode cX12_does 113 = .ok (.l2i, 1) := by decide +kernel
theorem dX12_does_114 : decode cX12_does 114 = .ok (.iconst 1, 1) := by decide +kernel
theorem dX12_does_115 : decode cX12_does 115 = .ok (.iadd, 1) := by decide +kernel
theorem dX12_does_116 : decode cX12_does 116 = .ok (.ireturn, 1) := by decide +kernel
theorem dX12_does_117 : decode cX12_does 117 = .ok (.iload 5, 2) := by decide +kernel
theorem dX12_does_119 : decode cX12_does 119 = .ok (.iconst (-1), 1) := by decide +kernel
theorem dX12_does_120 : decode cX12_does 120 = .ok (.if_icmp .eq 24, 3) := by decide +kernel
theorem dX12_does_123 : decode cX12_does 123 = .ok (.iload_n 3, 1) := by decide +kernel
theorem dX12_does_124 : decode cX12_does 124 = .ok (.iconst 1, 1) := by decide +kernel
theorem dX12_does_125 : decode cX12_does 125 = .ok (.if_icmp .ne 19, 3) := by decide +kernel
theorem dX12_does_128 : decode cX12_does 128 = .ok (.aload_n 0, 1) := by decide +kernel
theorem dX12_does_129 : decode cX12_does 129 = .ok (.getfield 7, 3) := by decide +kernel
theorem dX12_does_132 : decode cX12_does 132 = .ok (.iconst 0, 1) := by decide +kernel
theorem dX12_does_133 : decode cX12_does 133 = .ok (.iload 5, 2) := by decide +kernel
theorem dX12_does_135 : decode cX12_does 135 = .ok (.invokestatic 192, 3) := by decide +kernel
theorem dX12_does_138 : decode cX12_does 138 = .ok (.iconst 0, 1) := by decide +kernel
theorem dX12_does_139 : decode cX12_does 139 = .ok (.iadd, 1) := by decide +kernel
theorem dX12_does_140 : decode cX12_does 140 = .ok (.iload 4, 2) := by decide +kernel
theorem dX12_does_142 : decode cX12_does 142 = .ok (.i2l, 1) := by decide +kernel
theorem dX12_does_143 : decode cX12_does 143 = .ok (.lastore, 1) := by decide +kernel
theorem dX12_does_144 : decode cX12_does 144 = .ok (.iload 5, 2) := by decide +kernel
theorem dX12_does_146 : decode cX12_does 146 = .ok (.iconst (-1), 1) := by decide +kernel
theorem dX12_does_147 : decode cX12_does 147 = .ok (.if_icmp .eq 29, 3) := by decide +kernel
theorem dX12_does_150 : decode cX12_does 150 = .ok (.iload_n 3, 1) := by decide +kernel
theorem dX12_does_151 : decode cX12_does 151 = .ok (.iconst 2, 1) := by decide +kernel
theorem dX12_does_152 : decode cX12_does 152 = .ok (.if_icmp .eq 8, 3) := by decide +kernel
theorem dX12_does_155 : decode cX12_does 155 = .ok (.iload_n 3, 1) := by decide +kernel
theorem dX12_does_156 : decode cX12_does 156 = .ok (.iconst 3, 1) := by decide +kernel
theorem dX12_does_157 : decode cX12_does 157 = .ok (.if_icmp .ne 19, 3) := by decide +kernel
theorem dX12_does_160 : decode cX12_does 160 = .ok (.aload_n 0, 1) := by decide +kernel
theorem dX12_does_161 : decode cX12_does 161 = .ok (.getfield 7, 3) := by decide +kernel
theorem dX12_does_164 : decode cX12_does 164 = .ok (.iconst 0, 1) := by decide +kernel
theorem dX12_does_165 : decode cX12_does 165 = .ok (.iload 5, 2) := by decide +kernel
theorem dX12_does_167 : decode cX12_does 167 = .ok (.invokestatic 192, 3) := by decide +kernel
theorem dX12_does_170 : decode cX12_does 170 = .ok (.iconst 4, 1) := by decide +kernel
theorem dX12_does_171 : decode cX12_does 171 = .ok (.iadd, 1) := by decide +kernel
theorem dX12_does_172 : decode cX12_does 172 = .ok (.iload 4, 2) := by decide +kernel
theorem dX12_does_174 : decode cX12_does 174 = .ok (.i2l, 1) := by decide +kernel
theorem dX12_does_175 : decode cX12_does 175 = .ok (.lastore, 1) := by decide +kernel
theorem dX12_does_176 : decode cX12_does 176 = .ok (.iload_n 1, 1) := by decide +kernel
theorem dX12_does_177 : decode cX12_does 177 = .ok (.iconst 1, 1) := by decide +kernel
theorem dX12_does_178 : decode cX12_does 178 = .ok (.iadd, 1) := by decide +kernel
theorem dX12_does_179 : decode cX12_does 179 = .ok (.ireturn, 1) := by decide +kernel
theorem dX12_behindEnds_0 : decode cX12_behindEnds 0 = .ok (.iload_n 1, 1) := by decide +kernel
theorem dX12_behindEnds_1 : decode cX12_behindEnds 1 = .ok (.istore_n 2, 1) := by decide +kernel
theorem dX12_behindEnds_2 : decode cX12_behindEnds 2 = .ok (.iload_n 2, 1) := by decide +kernel
theorem dX12_behindEnds_3 : decode cX12_behindEnds 3 = .ok (.i2l, 1) := by decide +kernel
theorem dX12_behindEnds_4 : decode cX12_behindEnds 4 = .ok (.aload_n 0, 1) := by decide +kernel
theorem dX12_behindEnds_5 : decode cX12_behindEnds 5 = .ok (.getfield 7, 3) := by decide +kernel
theorem dX12_behindEnds_8 : decode cX12_behindEnds 8 = .ok (.iconst 5, 1) := by decide +kernel
theorem dX12_behindEnds_9 : decode cX12_behindEnds 9 = .ok (.laload, 1) := by decide +kernel
theorem dX12_behindEnds_10 : decode cX12_behindEnds 10 = .ok (.lcmp, 1) := by decide +kernel
theorem dX12_behindEnds_11 : decode cX12_behindEnds 11 = .ok (.ifCond .ge 106, 3) := by decide +kernel
theorem dX12_behindEnds_14 : decode cX12_behindEnds 14 = .ok (.aload_n 0, 1) := by decide +kernel
theorem dX12_behindEnds_15 : decode cX12_behindEnds 15 = .ok (.getfield 7, 3) := by decide +kernel
theorem dX12_behindEnds_18 : decode cX12_behindEnds 18 = .ok (.sipush 190, 3) := by decide +kernel
theorem dX12_behindEnds_21 : decode cX12_behindEnds 21 = .ok (.iconst 4, 1) := by decide +kernel
theorem dX12_behindEnds_22 : decode cX12_behindEnds 22 = .ok (.iload_n 2, 1) := by decide +kernel
theorem dX12_behindEnds_23 : decode cX12_behindEnds 23 = .ok (.imul, 1) := by decide +kernel
theorem dX12_behindEnds_24 : decode cX12_behindEnds 24 = .ok (.iadd, 1) := by decide +kernel
theorem dX12_behindEnds_25 : decode cX12_behindEnds 25 = .ok (.laload, 1) := by decide +kernel
theorem dX12_behindEnds_26 : decode cX12_behindEnds 26 = .ok (.ldc2_w 361, 3) := by decide +kernel
theorem dX12_behindEnds_29 : decode cX12_behindEnds 29 = .ok (.lcmp, 1) := by decide +kernel
theorem dX12_behindEnds_30 : decode cX12_behindEnds 30 = .ok (.ifCond .ne 87, 3) := by decide +kernel
theorem dX12_behindEnds_33 : decode cX12_behindEnds 33 = .ok (.aload_n 0, 1) := by decide +kernel
theorem dX12_behindEnds_34 : decode cX12_behindEnds 34 = .ok (.getfield 7, 3) := by decide +kernel
theorem dX12_behindEnds_37 : decode cX12_behindEnds 37 = .ok (.sipush 190, 3) := by decide +kernel
theorem dX12_behindEnds_40 : decode cX12_behindEnds 40 = .ok (.iconst 4, 1) := by decide +kernel
theorem dX12_behindEnds_41 : decode cX12_behindEnds 41 = .ok (.iload_n 2, 1) := by decide +kernel
theorem dX12_behindEnds_42 : decode cX12_behindEnds 42 = .ok (.imul, 1) := by decide +kernel
theorem dX12_behindEnds_43 : decode cX12_behindEnds 43 = .ok (.iadd, 1) := by decide +kernel
theorem dX12_behindEnds_44 : decode cX12_behindEnds 44 = .ok (.iconst 3, 1) := by decide +kernel
theorem dX12_behindEnds_45 : decode cX12_behindEnds 45 = .ok (.iadd, 1) := by decide +kernel
theorem dX12_behindEnds_46 : decode cX12_behindEnds 46 = .ok (.laload, 1) := by decide +kernel
theorem dX12_behindEnds_47 : decode cX12_behindEnds 47 = .ok (.l2i, 1) := by decide +kernel
theorem dX12_behindEnds_48 : decode cX12_behindEnds 48 = .ok (.istore_n 3, 1) := by decide +kernel
theorem dX12_behindEnds_49 : decode cX12_behindEnds 49 = .ok (.aload_n 0, 1) := by decide +kernel
theorem dX12_behindEnds_50 : decode cX12_behindEnds 50 = .ok (.getfield 7, 3) := by decide +kernel
theorem dX12_behindEnds_53 : decode cX12_behindEnds 53 = .ok (.sipush 190, 3) := by decide +kernel
theorem dX12_behindEnds_56 : decode cX12_behindEnds 56 = .ok (.iconst 4, 1) := by decide +kernel
theorem dX12_behindEnds_57 : decode cX12_behindEnds 57 = .ok (.iload_n 3, 1) := by decide +kernel
theorem dX12_behindEnds_58 : decode cX12_behindEnds 58 = .ok (.imul, 1) := by decide +kernel
theorem dX12_behindEnds_59 : decode cX12_behindEnds 59 = .ok (.iadd, 1) := by decide +kernel
theorem dX12_behindEnds_60 : decode cX12_behindEnds 60 = .ok (.laload, 1) := by decide +kernel
theorem dX12_behindEnds_61 : decode cX12_behindEnds 61 = .ok (.ldc2_w 363, 3) := by decide +kernel
theorem dX12_behindEnds_64 : decode cX12_behindEnds 64 = .ok (.lcmp, 1) := by decide +kernel
theorem dX12_behindEnds_65 : decode cX12_behindEnds 65 = .ok (.ifCond .ne 16, 3) := by decide +kernel
theorem dX12_behindEnds_68 : decode cX12_behindEnds 68 = .ok (.aload_n 0, 1) := by decide +kernel
theorem dX12_behindEnds_69 : decode cX12_behindEnds 69 = .ok (.getfield 57, 3) := by decide +kernel
theorem dX12_behindEnds_72 : decode cX12_behindEnds 72 = .ok (.iload_n 3, 1) := by decide +kernel
theorem dX12_behindEnds_73 : decode cX12_behindEnds 73 = .ok (.iaload, 1) := by decide +kernel
theorem dX12_behindEnds_74 : decode cX12_behindEnds 74 = .ok (.ifCond .le 7, 3) := by decide +kernel
theorem dX12_behindEnds_77 : decode cX12_behindEnds 77 = .ok (.iconst 1, 1) := by decide +kernel
theorem dX12_behindEnds_78 : decode cX12_behindEnds 78 = .ok (.goto 4, 3) := by decide +kernel
theorem dX12_behindEnds_81 : decode cX12_behindEnds 81 = .ok (.iconst 0, 1) := by decide +kernel
theorem dX12_behindEnds_82 : decode cX12_behindEnds 82 = .ok (.istore 4, 2) := by decide +kernel
theorem dX12_behindEnds_84 : decode cX12_behindEnds 84 = .ok (.iload 4, 2) := by decide +kernel
theorem dX12_behindEnds_86 : decode cX12_behindEnds 86 = .ok (.ifCond .eq 13, 3) := by decide +kernel
theorem dX12_behindEnds_89 : decode cX12_behindEnds 89 = .ok (.aload_n 0, 1) := by decide +kernel
theorem dX12_behindEnds_90 : decode cX12_behindEnds 90 = .ok (.getfield 57, 3) := by decide +kernel
theorem dX12_behindEnds_93 : decode cX12_behindEnds 93 = .ok (.iload_n 3, 1) := by decide +kernel
theorem dX12_behindEnds_94 : decode cX12_behindEnds 94 = .ok (.dup2, 1) := by decide +kernel
theorem dX12_behindEnds_95 : decode cX12_behindEnds 95 = .ok (.iaload, 1) := by decide +kernel
theorem dX12_behindEnds_96 : decode cX12_behindEnds 96 = .ok (.iconst 1, 1) := by decide +kernel
theorem dX12_behindEnds_97 : decode cX12_behindEnds 97 = .ok (.isub, 1) := by decide +kernel
theorem dX12_behindEnds_98 : decode cX12_behindEnds 98 = .ok (.iastore, 1) := by decide +kernel
theorem dX12_behindEnds_99 : decode cX12_behindEnds 99 = .ok (.iload 4, 2) := by decide +kernel
theorem dX12_behindEnds_101 : decode cX12_behindEnds 101 = .ok (.ifCond .eq 9, 3) := by decide +kernel
theorem dX12_behindEnds_104 : decode cX12_behindEnds 104 = .ok (.iload_n 3, 1) := by decide +kernel
theorem dX12_behindEnds_105 : decode cX12_behindEnds 105 = .ok (.iconst 1, 1) := by decide +kernel
theorem dX12_behindEnds_106 : decode cX12_behindEnds 106 = .ok (.iadd, 1) := by decide +kernel
theorem dX12_behindEnds_107 : decode cX12_behindEnds 107 = .ok (.goto 6, 3) := by decide +kernel
theorem dX12_behindEnds_110 : decode cX12_behindEnds 110 = .ok (.iload_n 2, 1) := by decide +kernel
theorem dX12_behindEnds_111 : decode cX12_behindEnds 111 = .ok (.iconst 1, 1) := by decide +kernel
theorem dX12_behindEnds_112 : decode cX12_behindEnds 112 = .ok (.iadd, 1) := by decide +kernel
theorem dX12_behindEnds_113 : decode cX12_behindEnds 113 = .ok (.istore_n 2, 1) := by decide +kernel
theorem dX12_behindEnds_114 : decode cX12_behindEnds 114 = .ok (.goto (-112), 3) := by decide +kernel
theorem dX12_behindEnds_117 : decode cX12_behindEnds 117 = .ok (.iload_n 2, 1) := by decide +kernel
theorem dX12_behindEnds_118 : decode cX12_behindEnds 118 = .ok (.ireturn, 1) := by decide +kernel
theorem dX12_work_0 : decode cX12_work 0 = .ok (.aload_n 0, 1) := by decide +kernel
theorem dX12_work_1 : decode cX12_work 1 = .ok (.iconst 0, 1) := by decide +kernel
theorem dX12_work_2 : decode cX12_work 2 = .ok (.putfield 349, 3) := by decide +kernel
theorem dX12_work_5 : decode cX12_work 5 = .ok (.aload_n 0, 1) := by decide +kernel
theorem dX12_work_6 : decode cX12_work 6 = .ok (.lconst 0, 1) := by decide +kernel
theorem dX12_work_7 : decode cX12_work 7 = .ok (.putfield 355, 3) := by decide +kernel
theorem dX12_work_10 : decode cX12_work 10 = .ok (.aload_n 0, 1) := by decide +kernel
theorem dX12_work_11 : decode cX12_work 11 = .ok (.iconst 0, 1) := by decide +kernel
theorem dX12_work_12 : decode cX12_work 12 = .ok (.putfield 352, 3) := by decide +kernel
theorem dX12_work_15 : decode cX12_work 15 = .ok (.iconst 0, 1) := by decide +kernel
theorem dX12_work_16 : decode cX12_work 16 = .ok (.istore_n 1, 1) := by decide +kernel
theorem dX12_work_17 : decode cX12_work 17 = .ok (.iconst 0, 1) := by decide +kernel
theorem dX12_work_18 : decode cX12_work 18 = .ok (.istore_n 2, 1) := by decide +kernel
theorem dX12_work_19 : decode cX12_work 19 = .ok (.iload_n 2, 1) := by decide +kernel
theorem dX12_work_20 : decode cX12_work 20 = .ok (.i2l, 1) := by decide +kernel
theorem dX12_work_21 : decode cX12_work 21 = .ok (.aload_n 0, 1) := by decide +kernel
theorem dX12_work_22 : decode cX12_work 22 = .ok (.getfield 7, 3) := by decide +kernel
theorem dX12_work_25 : decode cX12_work 25 = .ok (.iconst 5, 1) := by decide +kernel
theorem dX12_work_26 : decode cX12_work 26 = .ok (.laload, 1) := by decide +kernel
theorem dX12_work_27 : decode cX12_work 27 = .ok (.lcmp, 1) := by decide +kernel
theorem dX12_work_28 : decode cX12_work 28 = .ok (.ifCond .ge 35, 3) := by decide +kernel
theorem dX12_work_31 : decode cX12_work 31 = .ok (.iload_n 1, 1) := by decide +kernel
theorem dX12_work_32 : decode cX12_work 32 = .ok (.bipush 100, 2) := by decide +kernel
theorem dX12_work_34 : decode cX12_work 34 = .ok (.if_icmp .ge 29, 3) := by decide +kernel
theorem dX12_work_37 : decode cX12_work 37 = .ok (.aload_n 0, 1) := by decide +kernel
theorem dX12_work_38 : decode cX12_work 38 = .ok (.getfield 349, 3) := by decide +kernel
theorem dX12_work_41 : decode cX12_work 41 = .ok (.sipush 1000, 3) := by decide +kernel
theorem dX12_work_44 : decode cX12_work 44 = .ok (.if_icmp .ge 19, 3) := by decide +kernel
theorem dX12_work_47 : decode cX12_work 47 = .ok (.aload_n 0, 1) := by decide +kernel
theorem dX12_work_48 : decode cX12_work 48 = .ok (.aload_n 0, 1) := by decide +kernel
theorem dX12_work_49 : decode cX12_work 49 = .ok (.iload_n 2, 1) := by decide +kernel
theorem dX12_work_50 : decode cX12_work 50 = .ok (.invokevirtual 365, 3) := by decide +kernel
theorem dX12_work_53 : decode cX12_work 53 = .ok (.invokevirtual 368, 3) := by decide +kernel
theorem dX12_work_56 : decode cX12_work 56 = .ok (.istore_n 2, 1) := by decide +kernel
theorem dX12_work_57 : decode cX12_work 57 = .ok (.iinc 1 1, 3) := by decide +kernel
theorem dX12_work_60 : decode cX12_work 60 = .ok (.goto (-41), 3) := by decide +kernel
theorem dX12_work_63 : decode cX12_work 63 = .ok (.aload_n 0, 1) := by decide +kernel
theorem dX12_work_64 : decode cX12_work 64 = .ok (.aload_n 0, 1) := by decide +kernel
theorem dX12_work_65 : decode cX12_work 65 = .ok (.getfield 352, 3) := by decide +kernel
theorem dX12_work_68 : decode cX12_work 68 = .ok (.ifCond .ne 15, 3) := by decide +kernel
theorem dX12_work_71 : decode cX12_work 71 = .ok (.iload_n 2, 1) := by decide +kernel
theorem dX12_work_72 : decode cX12_work 72 = .ok (.i2l, 1) := by decide +kernel
theorem dX12_work_73 : decode cX12_work 73 = .ok (.aload_n 0, 1) := by decide +kernel
theorem dX12_work_74 : decode cX12_work 74 = .ok (.getfield 7, 3) := by decide +kernel
theorem dX12_work_77 : decode cX12_work 77 = .ok (.iconst 5, 1) := by decide +kernel
theorem dX12_work_78 : decode cX12_work 78 = .ok (.laload, 1) := by decide +kernel
theorem dX12_work_79 : decode cX12_work 79 = .ok (.lcmp, 1) := by decide +kernel
theorem dX12_work_80 : decode cX12_work 80 = .ok (.ifCond .ge 7, 3) := by decide +kernel
theorem dX12_work_83 : decode cX12_work 83 = .ok (.iconst 1, 1) := by decide +kernel
theorem dX12_work_84 : decode cX12_work 84 = .ok (.goto 4, 3) := by decide +kernel
theorem dX12_work_87 : decode cX12_work 87 = .ok (.iconst 0, 1) := by decide +kernel
theorem dX12_work_88 : decode cX12_work 88 = .ok (.putfield 60, 3) := by decide +kernel
theorem dX12_work_91 : decode cX12_work 91 = .ok (.aload_n 0, 1) := by decide +kernel
theorem dX12_work_92 : decode cX12_work 92 = .ok (.iload_n 1, 1) := by decide +kernel
theorem dX12_work_93 : decode cX12_work 93 = .ok (.i2l, 1) := by decide +kernel
theorem dX12_work_94 : decode cX12_work 94 = .ok (.invokevirtual 250, 3) := by decide +kernel
theorem dX12_work_97 : decode cX12_work 97 = .ok (.ireturn, 1) := by decide +kernel
theorem dX12_worked_0 : decode cX12_worked 0 = .ok (.iload_n 1, 1) := by decide +kernel
theorem dX12_worked_1 : decode cX12_worked 1 = .ok (.ifCond .lt 8, 3) := by decide +kernel
theorem dX12_worked_4 : decode cX12_worked 4 = .ok (.iload_n 1, 1) := by decide +kernel
theorem dX12_worked_5 : decode cX12_worked 5 = .ok (.iconst 2, 1) := by decide +kernel
theorem dX12_worked_6 : decode cX12_worked 6 = .ok (.if_icmp .le 9, 3) := by decide +kernel
theorem dX12_worked_9 : decode cX12_worked 9 = .ok (.aload_n 0, 1) := by decide +kernel
theorem dX12_worked_10 : decode cX12_worked 10 = .ok (.iconst 1, 1) := by decide +kernel
theorem dX12_worked_11 : decode cX12_worked 11 = .ok (.invokevirtual 235, 3) := by decide +kernel
theorem dX12_worked_14 : decode cX12_worked 14 = .ok (.ireturn, 1) := by decide +kernel
theorem dX12_worked_15 : decode cX12_worked 15 = .ok (.aload_n 0, 1) := by decide +kernel
theorem dX12_worked_16 : decode cX12_worked 16 = .ok (.getfield 60, 3) := by decide +kernel
theorem dX12_worked_19 : decode cX12_worked 19 = .ok (.iconst (-1), 1) := by decide +kernel
theorem dX12_worked_20 : decode cX12_worked 20 = .ok (.if_icmp .ne 10, 3) := by decide +kernel
theorem dX12_worked_23 : decode cX12_worked 23 = .ok (.aload_n 0, 1) := by decide +kernel
theorem dX12_worked_24 : decode cX12_worked 24 = .ok (.bipush 6, 2) := by decide +kernel
theorem dX12_worked_26 : decode cX12_worked 26 = .ok (.invokevirtual 235, 3) := by decide +kernel
theorem dX12_worked_29 : decode cX12_worked 29 = .ok (.ireturn, 1) := by decide +kernel
theorem dX12_worked_30 : decode cX12_worked 30 = .ok (.aload_n 0, 1) := by decide +kernel
theorem dX12_worked_31 : decode cX12_worked 31 = .ok (.iload_n 1, 1) := by decide +kernel
theorem dX12_worked_32 : decode cX12_worked 32 = .ok (.ifCond .ne 11, 3) := by decide +kernel
theorem dX12_worked_35 : decode cX12_worked 35 = .ok (.aload_n 0, 1) := by decide +kernel
theorem dX12_worked_36 : decode cX12_worked 36 = .ok (.getfield 349, 3) := by decide +kernel
theorem dX12_worked_39 : decode cX12_worked 39 = .ok (.i2l, 1) := by decide +kernel
theorem dX12_worked_40 : decode cX12_worked 40 = .ok (.goto 20, 3) := by decide +kernel
theorem dX12_worked_43 : decode cX12_worked 43 = .ok (.iload_n 1, 1) := by decide +kernel
theorem dX12_worked_44 : decode cX12_worked 44 = .ok (.iconst 1, 1) := by decide +kernel
theorem dX12_worked_45 : decode cX12_worked 45 = .ok (.if_icmp .ne 10, 3) := by decide +kernel
theorem dX12_worked_48 : decode cX12_worked 48 = .ok (.aload_n 0, 1) := by decide +kernel
theorem dX12_worked_49 : decode cX12_worked 49 = .ok (.getfield 355, 3) := by decide +kernel
theorem dX12_worked_52 : decode cX12_worked 52 = .ok (.goto 8, 3) := by decide +kernel
theorem dX12_worked_55 : decode cX12_worked 55 = .ok (.aload_n 0, 1) := by decide +kernel
theorem dX12_worked_56 : decode cX12_worked 56 = .ok (.getfield 60, 3) := by decide +kernel
theorem dX12_worked_59 : decode cX12_worked 59 = .ok (.i2l, 1) := by decide +kernel
theorem dX12_worked_60 : decode cX12_worked 60 = .ok (.invokevirtual 250, 3) := by decide +kernel
theorem dX12_worked_63 : decode cX12_worked 63 = .ok (.ireturn, 1) := by decide +kernel
theorem dX12_bothHave_0 : decode cX12_bothHave 0 = .ok (.iconst 0, 1) := by decide +kernel
theorem dX12_bothHave_1 : decode cX12_bothHave 1 = .ok (.istore 4, 2) := by decide +kernel
theorem dX12_bothHave_3 : decode cX12_bothHave 3 = .ok (.iconst 0, 1) := by decide +kernel
theorem dX12_bothHave_4 : decode cX12_bothHave 4 = .ok (.istore 5, 2) := by decide +kernel
theorem dX12_bothHave_6 : decode cX12_bothHave 6 = .ok (.iload 5, 2) := by decide +kernel
theorem dX12_bothHave_8 : decode cX12_bothHave 8 = .ok (.iload_n 3, 1) := by decide +kernel
theorem dX12_bothHave_9 : decode cX12_bothHave 9 = .ok (.if_icmp .ge 93, 3) := by decide +kernel
theorem dX12_bothHave_12 : decode cX12_bothHave 12 = .ok (.aload_n 0, 1) := by decide +kernel
theorem dX12_bothHave_13 : decode cX12_bothHave 13 = .ok (.getfield 75, 3) := by decide +kernel
theorem dX12_bothHave_16 : decode cX12_bothHave 16 = .ok (.iload 5, 2) := by decide +kernel
theorem dX12_bothHave_18 : decode cX12_bothHave 18 = .ok (.iaload, 1) := by decide +kernel
theorem dX12_bothHave_19 : decode cX12_bothHave 19 = .ok (.i2l, 1) := by decide +kernel
theorem dX12_bothHave_20 : decode cX12_bothHave 20 = .ok (.aload_n 0, 1) := by decide +kernel
theorem dX12_bothHave_21 : decode cX12_bothHave 21 = .ok (.aload_n 0, 1) := by decide +kernel
theorem dX12_bothHave_22 : decode cX12_bothHave 22 = .ok (.getfield 66, 3) := by decide +kernel
theorem dX12_bothHave_25 : decode cX12_bothHave 25 = .ok (.iload_n 1, 1) := by decide +kernel
theorem dX12_bothHave_26 : decode cX12_bothHave 26 = .ok (.iaload, 1) := by decide +kernel
theorem dX12_bothHave_27 : decode cX12_bothHave 27 = .ok (.iconst 1, 1) := by decide +kernel
theorem dX12_bothHave_28 : decode cX12_bothHave 28 = .ok (.invokevirtual 269, 3) := by decide +kernel
theorem dX12_bothHave_31 : decode cX12_bothHave 31 = .ok (.lrem, 1) := by decide +kernel
theorem dX12_bothHave_32 : decode cX12_bothHave 32 = .ok (.aload_n 0, 1) := by decide +kernel
theorem dX12_bothHave_33 : decode cX12_bothHave 33 = .ok (.getfield 69, 3) := by decide +kernel
theorem dX12_bothHave_36 : decode cX12_bothHave 36 = .ok (.iload_n 1, 1) := by decide +kernel
theorem dX12_bothHave_37 : decode cX12_bothHave 37 = .ok (.iaload, 1) := by decide +kernel
theorem dX12_bothHave_38 : decode cX12_bothHave 38 = .ok (.i2l, 1) := by decide +kernel
theorem dX12_bothHave_39 : decode cX12_bothHave 39 = .ok (.lcmp, 1) := by decide +kernel
theorem dX12_bothHave_40 : decode cX12_bothHave 40 = .ok (.ifCond .ne 7, 3) := by decide +kernel
theorem dX12_bothHave_43 : decode cX12_bothHave 43 = .ok (.iconst 1, 1) := by decide +kernel
theorem dX12_bothHave_44 : decode cX12_bothHave 44 = .ok (.goto 4, 3) := by decide +kernel
theorem dX12_bothHave_47 : decode cX12_bothHave 47 = .ok (.iconst 0, 1) := by decide +kernel
theorem dX12_bothHave_48 : decode cX12_bothHave 48 = .ok (.istore 6, 2) := by decide +kernel
theorem dX12_bothHave_50 : decode cX12_bothHave 50 = .ok (.iload 4, 2) := by decide +kernel
theorem dX12_bothHave_52 : decode cX12_bothHave 52 = .ok (.iload 6, 2) := by decide +kernel
theorem dX12_bothHave_54 : decode cX12_bothHave 54 = .ok (.ifCond .eq 38, 3) := by decide +kernel
theorem dX12_bothHave_57 : decode cX12_bothHave 57 = .ok (.aload_n 0, 1) := by decide +kernel
theorem dX12_bothHave_58 : decode cX12_bothHave 58 = .ok (.getfield 75, 3) := by decide +kernel
theorem dX12_bothHave_61 : decode cX12_bothHave 61 = .ok (.iload 5, 2) := by decide +kernel
theorem dX12_bothHave_63 : decode cX12_bothHave 63 = .ok (.iaload, 1) := by decide +kernel
theorem dX12_bothHave_64 : decode cX12_bothHave 64 = .ok (.i2l, 1) := by decide +kernel
theorem dX12_bothHave_65 : decode cX12_bothHave 65 = .ok (.aload_n 0, 1) := by decide +kernel
theorem dX12_bothHave_66 : decode cX12_bothHave 66 = .ok (.aload_n 0, 1) := by decide +kernel
theorem dX12_bothHave_67 : decode cX12_bothHave 67 = .ok (.getfield 66, 3) := by decide +kernel
theorem dX12_bothHave_70 : decode cX12_bothHave 70 = .ok (.iload_n 2, 1) := by decide +kernel
theorem dX12_bothHave_71 : decode cX12_bothHave 71 = .ok (.iaload, 1) := by decide +kernel
theorem dX12_bothHave_72 : decode cX12_bothHave 72 = .ok (.iconst 1, 1) := by decide +kernel
theorem dX12_bothHave_73 : decode cX12_bothHave 73 = .ok (.invokevirtual 269, 3) := by decide +kernel
theorem dX12_bothHave_76 : decode cX12_bothHave 76 = .ok (.lrem, 1) := by decide +kernel
theorem dX12_bothHave_77 : decode cX12_bothHave 77 = .ok (.aload_n 0, 1) := by decide +kernel
theorem dX12_bothHave_78 : decode cX12_bothHave 78 = .ok (.getfield 69, 3) := by decide +kernel
theorem dX12_bothHave_81 : decode cX12_bothHave 81 = .ok (.iload_n 2, 1) := by decide +kernel
theorem dX12_bothHave_82 : decode cX12_bothHave 82 = .ok (.iaload, 1) := by decide +kernel
theorem dX12_bothHave_83 : decode cX12_bothHave 83 = .ok (.i2l, 1) := by decide +kernel
theorem dX12_bothHave_84 : decode cX12_bothHave 84 = .ok (.lcmp, 1) := by decide +kernel
theorem dX12_bothHave_85 : decode cX12_bothHave 85 = .ok (.ifCond .ne 7, 3) := by decide +kernel
theorem dX12_bothHave_88 : decode cX12_bothHave 88 = .ok (.iconst 1, 1) := by decide +kernel
theorem dX12_bothHave_89 : decode cX12_bothHave 89 = .ok (.goto 4, 3) := by decide +kernel
theorem dX12_bothHave_92 : decode cX12_bothHave 92 = .ok (.iconst 0, 1) := by decide +kernel
theorem dX12_bothHave_93 : decode cX12_bothHave 93 = .ok (.iadd, 1) := by decide +kernel
theorem dX12_bothHave_94 : decode cX12_bothHave 94 = .ok (.istore 4, 2) := by decide +kernel
theorem dX12_bothHave_96 : decode cX12_bothHave 96 = .ok (.iinc 5 1, 3) := by decide +kernel
theorem dX12_bothHave_99 : decode cX12_bothHave 99 = .ok (.goto (-93), 3) := by decide +kernel
theorem dX12_bothHave_102 : decode cX12_bothHave 102 = .ok (.iload 4, 2) := by decide +kernel
theorem dX12_bothHave_104 : decode cX12_bothHave 104 = .ok (.ireturn, 1) := by decide +kernel
theorem dX12_takesHeads_0 : decode cX12_takesHeads 0 = .ok (.aload_n 0, 1) := by decide +kernel
theorem dX12_takesHeads_1 : decode cX12_takesHeads 1 = .ok (.iconst 0, 1) := by decide +kernel
theorem dX12_takesHeads_2 : decode cX12_takesHeads 2 = .ok (.putfield 371, 3) := by decide +kernel
theorem dX12_takesHeads_5 : decode cX12_takesHeads 5 = .ok (.iconst 0, 1) := by decide +kernel
theorem dX12_takesHeads_6 : decode cX12_takesHeads 6 = .ok (.istore_n 2, 1) := by decide +kernel
theorem dX12_takesHeads_7 : decode cX12_takesHeads 7 = .ok (.iload_n 2, 1) := by decide +kernel
theorem dX12_takesHeads_8 : decode cX12_takesHeads 8 = .ok (.i2l, 1) := by decide +kernel
theorem dX12_takesHeads_9 : decode cX12_takesHeads 9 = .ok (.aload_n 0, 1) := by decide +kernel
theorem dX12_takesHeads_10 : decode cX12_takesHeads 10 = .ok (.getfield 7, 3) := by decide +kernel
theorem dX12_takesHeads_13 : decode cX12_takesHeads 13 = .ok (.iconst 0, 1) := by decide +kernel
theorem dX12_takesHeads_14 : decode cX12_takesHeads 14 = .ok (.laload, 1) := by decide +kernel
theorem dX12_takesHeads_15 : decode cX12_takesHeads 15 = .ok (.lcmp, 1) := by decide +kernel
theorem dX12_takesHeads_16 : decode cX12_takesHeads 16 = .ok (.ifCond .ge 129, 3) := by decide +kernel
theorem dX12_takesHeads_19 : decode cX12_takesHeads 19 = .ok (.aload_n 0, 1) := by decide +kernel
theorem dX12_takesHeads_20 : decode cX12_takesHeads 20 = .ok (.iload_n 2, 1) := by decide +kernel
theorem dX12_takesHeads_21 : decode cX12_takesHeads 21 = .ok (.iconst 1, 1) := by decide +kernel
theorem dX12_takesHeads_22 : decode cX12_takesHeads 22 = .ok (.invokevirtual 269, 3) := by decide +kernel
theorem dX12_takesHeads_25 : decode cX12_takesHeads 25 = .ok (.l2i, 1) := by decide +kernel
theorem dX12_takesHeads_26 : decode cX12_takesHeads 26 = .ok (.istore_n 3, 1) := by decide +kernel
theorem dX12_takesHeads_27 : decode cX12_takesHeads 27 = .ok (.iconst 0, 1) := by decide +kernel
theorem dX12_takesHeads_28 : decode cX12_takesHeads 28 = .ok (.istore 4, 2) := by decide +kernel
theorem dX12_takesHeads_30 : decode cX12_takesHeads 30 = .ok (.iload 4, 2) := by decide +kernel
theorem dX12_takesHeads_32 : decode cX12_takesHeads 32 = .ok (.iload_n 3, 1) := by decide +kernel
theorem dX12_takesHeads_33 : decode cX12_takesHeads 33 = .ok (.if_icmp .ge 106, 3) := by decide +kernel
theorem dX12_takesHeads_36 : decode cX12_takesHeads 36 = .ok (.iload_n 3, 1) := by decide +kernel
theorem dX12_takesHeads_37 : decode cX12_takesHeads 37 = .ok (.iconst 1, 1) := by decide +kernel
theorem dX12_takesHeads_38 : decode cX12_takesHeads 38 = .ok (.if_icmp .le 101, 3) := by decide +kernel
theorem dX12_takesHeads_41 : decode cX12_takesHeads 41 = .ok (.iconst 0, 1) := by decide +kernel
theorem dX12_takesHeads_42 : decode cX12_takesHeads 42 = .ok (.istore 5, 2) := by decide +kernel
theorem dX12_takesHeads_44 : decode cX12_takesHeads 44 = .ok (.iconst 1, 1) := by decide +kernel
theorem dX12_takesHeads_45 : decode cX12_takesHeads 45 = .ok (.istore 6, 2) := by decide +kernel
theorem dX12_takesHeads_47 : decode cX12_takesHeads 47 = .ok (.iload 4, 2) := by decide +kernel
theorem dX12_takesHeads_49 : decode cX12_takesHeads 49 = .ok (.istore 7, 2) := by decide +kernel
theorem dX12_takesHeads_51 : decode cX12_takesHeads 51 = .ok (.iload 7, 2) := by decide +kernel
theorem dX12_takesHeads_53 : decode cX12_takesHeads 53 = .ok (.iload_n 1, 1) := by decide +kernel
theorem dX12_takesHeads_54 : decode cX12_takesHeads 54 = .ok (.if_icmp .ge 29, 3) := by decide +kernel
theorem dX12_takesHeads_57 : decode cX12_takesHeads 57 = .ok (.iload 6, 2) := by decide +kernel
theorem dX12_takesHeads_59 : decode cX12_takesHeads 59 = .ok (.ifCond .eq 24, 3) := by decide +kernel
theorem dX12_takesHeads_62 : decode cX12_takesHeads 62 = .ok (.aload_n 0, 1) := by decide +kernel
theorem dX12_takesHeads_63 : decode cX12_takesHeads 63 = .ok (.getfield 63, 3) := by decide +kernel
theorem dX12_takesHeads_66 : decode cX12_takesHeads 66 = .ok (.iload 7, 2) := by decide +kernel
theorem dX12_takesHeads_68 : decode cX12_takesHeads 68 = .ok (.baload, 1) := by decide +kernel
theorem dX12_takesHeads_69 : decode cX12_takesHeads 69 = .ok (.istore 6, 2) := by decide +kernel
theorem dX12_takesHeads_71 : decode cX12_takesHeads 71 = .ok (.iinc 5 1, 3) := by decide +kernel
theorem dX12_takesHeads_74 : decode cX12_takesHeads 74 = .ok (.iload 7, 2) := by decide +kernel
theorem dX12_takesHeads_76 : decode cX12_takesHeads 76 = .ok (.iload_n 3, 1) := by decide +kernel
theorem dX12_takesHeads_77 : decode cX12_takesHeads 77 = .ok (.iadd, 1) := by decide +kernel
theorem dX12_takesHeads_78 : decode cX12_takesHeads 78 = .ok (.istore 7, 2) := by decide +kernel
theorem dX12_takesHeads_80 : decode cX12_takesHeads 80 = .ok (.goto (-29), 3) := by decide +kernel
theorem dX12_takesHeads_83 : decode cX12_takesHeads 83 = .ok (.iload 6, 2) := by decide +kernel
theorem dX12_takesHeads_85 : decode cX12_takesHeads 85 = .ok (.ifCond .ne 6, 3) := by decide +kernel
theorem dX12_takesHeads_88 : decode cX12_takesHeads 88 = .ok (.goto 45, 3) := by decide +kernel
theorem dX12_takesHeads_91 : decode cX12_takesHeads 91 = .ok (.aload_n 0, 1) := by decide +kernel
theorem dX12_takesHeads_92 : decode cX12_takesHeads 92 = .ok (.getfield 66, 3) := by decide +kernel
theorem dX12_takesHeads_95 : decode cX12_takesHeads 95 = .ok (.aload_n 0, 1) := by decide +kernel
theorem dX12_takesHeads_96 : decode cX12_takesHeads 96 = .ok (.getfield 371, 3) := by decide +kernel
theorem dX12_takesHeads_99 : decode cX12_takesHeads 99 = .ok (.iload_n 2, 1) := by decide +kernel
theorem dX12_takesHeads_100 : decode cX12_takesHeads 100 = .ok (.iastore, 1) := by decide +kernel
theorem dX12_takesHeads_101 : decode cX12_takesHeads 101 = .ok (.aload_n 0, 1) := by decide +kernel
theorem dX12_takesHeads_102 : decode cX12_takesHeads 102 = .ok (.getfield 69, 3) := by decide +kernel
theorem dX12_takesHeads_105 : decode cX12_takesHeads 105 = .ok (.aload_n 0, 1) := by decide +kernel
theorem dX12_takesHeads_106 : decode cX12_takesHeads 106 = .ok (.getfield 371, 3) := by decide +kernel
theorem dX12_takesHeads_109 : decode cX12_takesHeads 109 = .ok (.iload 4, 2) := by decide +kernel
theorem dX12_takesHeads_111 : decode cX12_takesHeads 111 = .ok (.iastore, 1) := by decide +kernel
theorem dX12_takesHeads_112 : decode cX12_takesHeads 112 = .ok (.aload_n 0, 1) := by decide +kernel
theorem dX12_takesHeads_113 : decode cX12_takesHeads 113 = .ok (.getfield 72, 3) := by decide +kernel
theorem dX12_takesHeads_116 : decode cX12_takesHeads 116 = .ok (.aload_n 0, 1) := by decide +kernel
theorem dX12_takesHeads_117 : decode cX12_takesHeads 117 = .ok (.getfield 371, 3) := by decide +kernel
theorem dX12_takesHeads_120 : decode cX12_takesHeads 120 = .ok (.iload 5, 2) := by decide +kernel
theorem dX12_takesHeads_122 : decode cX12_takesHeads 122 = .ok (.iastore, 1) := by decide +kernel
theorem dX12_takesHeads_123 : decode cX12_takesHeads 123 = .ok (.aload_n 0, 1) := by decide +kernel
theorem dX12_takesHeads_124 : decode cX12_takesHeads 124 = .ok (.dup, 1) := by decide +kernel
theorem dX12_takesHeads_125 : decode cX12_takesHeads 125 = .ok (.getfield 371, 3) := by decide +kernel
theorem dX12_takesHeads_128 : decode cX12_takesHeads 128 = .ok (.iconst 1, 1) := by decide +kernel
theorem dX12_takesHeads_129 : decode cX12_takesHeads 129 = .ok (.iadd, 1) := by decide +kernel
theorem dX12_takesHeads_130 : decode cX12_takesHeads 130 = .ok (.putfield 371, 3) := by decide +kernel
theorem dX12_takesHeads_133 : decode cX12_takesHeads 133 = .ok (.iinc 4 1, 3) := by decide +kernel
theorem dX12_takesHeads_136 : decode cX12_takesHeads 136 = .ok (.goto (-106), 3) := by decide +kernel
theorem dX12_takesHeads_139 : decode cX12_takesHeads 139 = .ok (.iinc 2 1, 3) := by decide +kernel
theorem dX12_takesHeads_142 : decode cX12_takesHeads 142 = .ok (.goto (-135), 3) := by decide +kernel
theorem dX12_takesHeads_145 : decode cX12_takesHeads 145 = .ok (.return_, 1) := by decide +kernel
theorem dX12_found_0 : decode cX12_found 0 = .ok (.aload_n 0, 1) := by decide +kernel
theorem dX12_found_1 : decode cX12_found 1 = .ok (.dup, 1) := by decide +kernel
theorem dX12_found_2 : decode cX12_found 2 = .ok (.getfield 374, 3) := by decide +kernel
theorem dX12_found_5 : decode cX12_found 5 = .ok (.iconst 1, 1) := by decide +kernel
theorem dX12_found_6 : decode cX12_found 6 = .ok (.iadd, 1) := by decide +kernel
theorem dX12_found_7 : decode cX12_found 7 = .ok (.putfield 374, 3) := by decide +kernel
theorem dX12_found_10 : decode cX12_found 10 = .ok (.aload_n 0, 1) := by decide +kernel
theorem dX12_found_11 : decode cX12_found 11 = .ok (.getfield 374, 3) := by decide +kernel
theorem dX12_found_14 : decode cX12_found 14 = .ok (.iconst 1, 1) := by decide +kernel
theorem dX12_found_15 : decode cX12_found 15 = .ok (.if_icmp .le 4, 3) := by decide +kernel
theorem dX12_found_18 : decode cX12_found 18 = .ok (.return_, 1) := by decide +kernel
theorem dX12_found_19 : decode cX12_found 19 = .ok (.aload_n 0, 1) := by decide +kernel
theorem dX12_found_20 : decode cX12_found 20 = .ok (.getfield 78, 3) := by decide +kernel
theorem dX12_found_23 : decode cX12_found 23 = .ok (.iconst 0, 1) := by decide +kernel
theorem dX12_found_24 : decode cX12_found 24 = .ok (.aload_n 0, 1) := by decide +kernel
theorem dX12_found_25 : decode cX12_found 25 = .ok (.getfield 66, 3) := by decide +kernel
theorem dX12_found_28 : decode cX12_found 28 = .ok (.iload_n 1, 1) := by decide +kernel
theorem dX12_found_29 : decode cX12_found 29 = .ok (.iaload, 1) := by decide +kernel
theorem dX12_found_30 : decode cX12_found 30 = .ok (.iastore, 1) := by decide +kernel
theorem dX12_found_31 : decode cX12_found 31 = .ok (.aload_n 0, 1) := by decide +kernel
theorem dX12_found_32 : decode cX12_found 32 = .ok (.getfield 78, 3) := by decide +kernel
theorem dX12_found_35 : decode cX12_found 35 = .ok (.iconst 1, 1) := by decide +kernel
theorem dX12_found_36 : decode cX12_found 36 = .ok (.aload_n 0, 1) := by decide +kernel
theorem dX12_found_37 : decode cX12_found 37 = .ok (.getfield 69, 3) := by decide +kernel
theorem dX12_found_40 : decode cX12_found 40 = .ok (.iload_n 1, 1) := by decide +kernel
theorem dX12_found_41 : decode cX12_found 41 = .ok (.iaload, 1) := by decide +kernel
theorem dX12_found_42 : decode cX12_found 42 = .ok (.iastore, 1) := by decide +kernel
theorem dX12_found_43 : decode cX12_found 43 = .ok (.aload_n 0, 1) := by decide +kernel
theorem dX12_found_44 : decode cX12_found 44 = .ok (.getfield 78, 3) := by decide +kernel
theorem dX12_found_47 : decode cX12_found 47 = .ok (.iconst 2, 1) := by decide +kernel
theorem dX12_found_48 : decode cX12_found 48 = .ok (.aload_n 0, 1) := by decide +kernel
theorem dX12_found_49 : decode cX12_found 49 = .ok (.getfield 66, 3) := by decide +kernel
theorem dX12_found_52 : decode cX12_found 52 = .ok (.iload_n 2, 1) := by decide +kernel
theorem dX12_found_53 : decode cX12_found 53 = .ok (.iaload, 1) := by decide +kernel
theorem dX12_found_54 : decode cX12_found 54 = .ok (.iastore, 1) := by decide +kernel
theorem dX12_found_55 : decode cX12_found 55 = .ok (.aload_n 0, 1) := by decide +kernel
theorem dX12_found_56 : decode cX12_found 56 = .ok (.getfield 78, 3) := by decide +kernel
theorem dX12_found_59 : decode cX12_found 59 = .ok (.iconst 3, 1) := by decide +kernel
theorem dX12_found_60 : decode cX12_found 60 = .ok (.aload_n 0, 1) := by decide +kernel
theorem dX12_found_61 : decode cX12_found 61 = .ok (.getfield 69, 3) := by decide +kernel
theorem dX12_found_64 : decode cX12_found 64 = .ok (.iload_n 2, 1) := by decide +kernel
theorem dX12_found_65 : decode cX12_found 65 = .ok (.iaload, 1) := by decide +kernel
theorem dX12_found_66 : decode cX12_found 66 = .ok (.iastore, 1) := by decide +kernel
theorem dX12_found_67 : decode cX12_found 67 = .ok (.return_, 1) := by decide +kernel
theorem dX12_heads_0 : decode cX12_heads 0 = .ok (.aload_n 0, 1) := by decide +kernel
theorem dX12_heads_1 : decode cX12_heads 1 = .ok (.iload_n 1, 1) := by decide +kernel
theorem dX12_heads_2 : decode cX12_heads 2 = .ok (.i2l, 1) := by decide +kernel
theorem dX12_heads_3 : decode cX12_heads 3 = .ok (.lconst 1, 1) := by decide +kernel
theorem dX12_heads_4 : decode cX12_heads 4 = .ok (.ldc2_w 286, 3) := by decide +kernel
theorem dX12_heads_7 : decode cX12_heads 7 = .ok (.invokestatic 125, 3) := by decide +kernel
theorem dX12_heads_10 : decode cX12_heads 10 = .ok (.ifCond .eq 19, 3) := by decide +kernel
theorem dX12_heads_13 : decode cX12_heads 13 = .ok (.iload_n 3, 1) := by decide +kernel
theorem dX12_heads_14 : decode cX12_heads 14 = .ok (.i2l, 1) := by decide +kernel
theorem dX12_heads_15 : decode cX12_heads 15 = .ok (.lconst 0, 1) := by decide +kernel
theorem dX12_heads_16 : decode cX12_heads 16 = .ok (.ldc2_w 377, 3) := by decide +kernel
theorem dX12_heads_19 : decode cX12_heads 19 = .ok (.invokestatic 125, 3) := by decide +kernel
theorem dX12_heads_22 : decode cX12_heads 22 = .ok (.ifCond .eq 7, 3) := by decide +kernel
theorem dX12_heads_25 : decode cX12_heads 25 = .ok (.iconst 1, 1) := by decide +kernel
theorem dX12_heads_26 : decode cX12_heads 26 = .ok (.goto 4, 3) := by decide +kernel
theorem dX12_heads_29 : decode cX12_heads 29 = .ok (.iconst 0, 1) := by decide +kernel
theorem dX12_heads_30 : decode cX12_heads 30 = .ok (.iload_n 2, 1) := by decide +kernel
theorem dX12_heads_31 : decode cX12_heads 31 = .ok (.iload_n 3, 1) := by decide +kernel
theorem dX12_heads_32 : decode cX12_heads 32 = .ok (.lconst 0, 1) := by decide +kernel
theorem dX12_heads_33 : decode cX12_heads 33 = .ok (.iload_n 1, 1) := by decide +kernel
theorem dX12_heads_34 : decode cX12_heads 34 = .ok (.i2l, 1) := by decide +kernel
theorem dX12_heads_35 : decode cX12_heads 35 = .ok (.lconst 1, 1) := by decide +kernel
theorem dX12_heads_36 : decode cX12_heads 36 = .ok (.lsub, 1) := by decide +kernel
theorem dX12_heads_37 : decode cX12_heads 37 = .ok (.invokevirtual 379, 3) := by decide +kernel
theorem dX12_heads_40 : decode cX12_heads 40 = .ok (.istore 4, 2) := by decide +kernel
theorem dX12_heads_42 : decode cX12_heads 42 = .ok (.iconst 1, 1) := by decide +kernel
theorem dX12_heads_43 : decode cX12_heads 43 = .ok (.istore 5, 2) := by decide +kernel
theorem dX12_heads_45 : decode cX12_heads 45 = .ok (.iconst 1, 1) := by decide +kernel
theorem dX12_heads_46 : decode cX12_heads 46 = .ok (.istore 6, 2) := by decide +kernel
theorem dX12_heads_48 : decode cX12_heads 48 = .ok (.iload 6, 2) := by decide +kernel
theorem dX12_heads_50 : decode cX12_heads 50 = .ok (.iload_n 3, 1) := by decide +kernel
theorem dX12_heads_51 : decode cX12_heads 51 = .ok (.if_icmp .ge 56, 3) := by decide +kernel
theorem dX12_heads_54 : decode cX12_heads 54 = .ok (.iload 4, 2) := by decide +kernel
theorem dX12_heads_56 : decode cX12_heads 56 = .ok (.ifCond .ne 51, 3) := by decide +kernel
theorem dX12_heads_59 : decode cX12_heads 59 = .ok (.iload 5, 2) := by decide +kernel
theorem dX12_heads_61 : decode cX12_heads 61 = .ok (.ifCond .eq 37, 3) := by decide +kernel
theorem dX12_heads_64 : decode cX12_heads 64 = .ok (.aload_n 0, 1) := by decide +kernel
theorem dX12_heads_65 : decode cX12_heads 65 = .ok (.getfield 24, 3) := by decide +kernel
theorem dX12_heads_68 : decode cX12_heads 68 = .ok (.bipush 60, 2) := by decide +kernel
theorem dX12_heads_70 : decode cX12_heads 70 = .ok (.iload_n 2, 1) := by decide +kernel
theorem dX12_heads_71 : decode cX12_heads 71 = .ok (.imul, 1) := by decide +kernel
theorem dX12_heads_72 : decode cX12_heads 72 = .ok (.iload 6, 2) := by decide +kernel
theorem dX12_heads_74 : decode cX12_heads 74 = .ok (.iadd, 1) := by decide +kernel
theorem dX12_heads_75 : decode cX12_heads 75 = .ok (.laload, 1) := by decide +kernel
theorem dX12_heads_76 : decode cX12_heads 76 = .ok (.aload_n 0, 1) := by decide +kernel
theorem dX12_heads_77 : decode cX12_heads 77 = .ok (.getfield 24, 3) := by decide +kernel
theorem dX12_heads_80 : decode cX12_heads 80 = .ok (.bipush 60, 2) := by decide +kernel
theorem dX12_heads_82 : decode cX12_heads 82 = .ok (.iload_n 2, 1) := by decide +kernel
theorem dX12_heads_83 : decode cX12_heads 83 = .ok (.imul, 1) := by decide +kernel
theorem dX12_heads_84 : decode cX12_heads 84 = .ok (.iload 6, 2) := by decide +kernel
theorem dX12_heads_86 : decode cX12_heads 86 = .ok (.iadd, 1) := by decide +kernel
theorem dX12_heads_87 : decode cX12_heads 87 = .ok (.iconst 1, 1) := by decide +kernel
theorem dX12_heads_88 : decode cX12_heads 88 = .ok (.isub, 1) := by decide +kernel
theorem dX12_heads_89 : decode cX12_heads 89 = .ok (.laload, 1) := by decide +kernel
theorem dX12_heads_90 : decode cX12_heads 90 = .ok (.lcmp, 1) := by decide +kernel
theorem dX12_heads_91 : decode cX12_heads 91 = .ok (.ifCond .le 7, 3) := by decide +kernel
theorem dX12_heads_94 : decode cX12_heads 94 = .ok (.iconst 1, 1) := by decide +kernel
theorem dX12_heads_95 : decode cX12_heads 95 = .ok (.goto 4, 3) := by decide +kernel
theorem dX12_heads_98 : decode cX12_heads 98 = .ok (.iconst 0, 1) := by decide +kernel
theorem dX12_heads_99 : decode cX12_heads 99 = .ok (.istore 5, 2) := by decide +kernel
theorem dX12_heads_101 : decode cX12_heads 101 = .ok (.iinc 6 1, 3) := by decide +kernel
theorem dX12_heads_104 : decode cX12_heads 104 = .ok (.goto (-56), 3) := by decide +kernel
theorem dX12_heads_107 : decode cX12_heads 107 = .ok (.iload 4, 2) := by decide +kernel
theorem dX12_heads_109 : decode cX12_heads 109 = .ok (.ifCond .gt 8, 3) := by decide +kernel
theorem dX12_heads_112 : decode cX12_heads 112 = .ok (.iload 5, 2) := by decide +kernel
theorem dX12_heads_114 : decode cX12_heads 114 = .ok (.ifCond .ne 19, 3) := by decide +kernel
theorem dX12_heads_117 : decode cX12_heads 117 = .ok (.aload_n 0, 1) := by decide +kernel
theorem dX12_heads_118 : decode cX12_heads 118 = .ok (.iload 4, 2) := by decide +kernel
theorem dX12_heads_120 : decode cX12_heads 120 = .ok (.ifCond .le 8, 3) := by decide +kernel
theorem dX12_heads_123 : decode cX12_heads 123 = .ok (.iload 4, 2) := by decide +kernel
theorem dX12_heads_125 : decode cX12_heads 125 = .ok (.goto 4, 3) := by decide +kernel
theorem dX12_heads_128 : decode cX12_heads 128 = .ok (.iconst 5, 1) := by decide +kernel
theorem dX12_heads_129 : decode cX12_heads 129 = .ok (.invokevirtual 235, 3) := by decide +kernel
theorem dX12_heads_132 : decode cX12_heads 132 = .ok (.ireturn, 1) := by decide +kernel
theorem dX12_heads_133 : decode cX12_heads 133 = .ok (.iconst 0, 1) := by decide +kernel
theorem dX12_heads_134 : decode cX12_heads 134 = .ok (.istore 6, 2) := by decide +kernel
theorem dX12_heads_136 : decode cX12_heads 136 = .ok (.iload 6, 2) := by decide +kernel
theorem dX12_heads_138 : decode cX12_heads 138 = .ok (.iload_n 1, 1) := by decide +kernel
theorem dX12_heads_139 : decode cX12_heads 139 = .ok (.if_icmp .ge 17, 3) := by decide +kernel
theorem dX12_heads_142 : decode cX12_heads 142 = .ok (.aload_n 0, 1) := by decide +kernel
theorem dX12_heads_143 : decode cX12_heads 143 = .ok (.getfield 63, 3) := by decide +kernel
theorem dX12_heads_146 : decode cX12_heads 146 = .ok (.iload 6, 2) := by decide +kernel
theorem dX12_heads_148 : decode cX12_heads 148 = .ok (.iconst 0, 1) := by decide +kernel
theorem dX12_heads_149 : decode cX12_heads 149 = .ok (.bastore, 1) := by decide +kernel
theorem dX12_heads_150 : decode cX12_heads 150 = .ok (.iinc 6 1, 3) := by decide +kernel
theorem dX12_heads_153 : decode cX12_heads 153 = .ok (.goto (-17), 3) := by decide +kernel
theorem dX12_heads_156 : decode cX12_heads 156 = .ok (.iconst 0, 1) := by decide +kernel
theorem dX12_heads_157 : decode cX12_heads 157 = .ok (.istore 6, 2) := by decide +kernel
theorem dX12_heads_159 : decode cX12_heads 159 = .ok (.iload 6, 2) := by decide +kernel
theorem dX12_heads_161 : decode cX12_heads 161 = .ok (.iload_n 3, 1) := by decide +kernel
theorem dX12_heads_162 : decode cX12_heads 162 = .ok (.if_icmp .ge 42, 3) := by decide +kernel
theorem dX12_heads_165 : decode cX12_heads 165 = .ok (.aload_n 0, 1) := by decide +kernel
theorem dX12_heads_166 : decode cX12_heads 166 = .ok (.getfield 75, 3) := by decide +kernel
theorem dX12_heads_169 : decode cX12_heads 169 = .ok (.iload 6, 2) := by decide +kernel
theorem dX12_heads_171 : decode cX12_heads 171 = .ok (.aload_n 0, 1) := by decide +kernel
theorem dX12_heads_172 : decode cX12_heads 172 = .ok (.getfield 24, 3) := by decide +kernel
theorem dX12_heads_175 : decode cX12_heads 175 = .ok (.bipush 60, 2) := by decide +kernel
theorem dX12_heads_177 : decode cX12_heads 177 = .ok (.iload_n 2, 1) := by decide +kernel
theorem dX12_heads_178 : decode cX12_heads 178 = .ok (.imul, 1) := by decide +kernel
theorem dX12_heads_179 : decode cX12_heads 179 = .ok (.iload 6, 2) := by decide +kernel
theorem dX12_heads_181 : decode cX12_heads 181 = .ok (.iadd, 1) := by decide +kernel
theorem dX12_heads_182 : decode cX12_heads 182 = .ok (.laload, 1) := by decide +kernel
theorem dX12_heads_183 : decode cX12_heads 183 = .ok (.l2i, 1) := by decide +kernel
theorem dX12_heads_184 : decode cX12_heads 184 = .ok (.iastore, 1) := by decide +kernel
theorem dX12_heads_185 : decode cX12_heads 185 = .ok (.aload_n 0, 1) := by decide +kernel
theorem dX12_heads_186 : decode cX12_heads 186 = .ok (.getfield 63, 3) := by decide +kernel
theorem dX12_heads_189 : decode cX12_heads 189 = .ok (.aload_n 0, 1) := by decide +kernel
theorem dX12_heads_190 : decode cX12_heads 190 = .ok (.getfield 75, 3) := by decide +kernel
theorem dX12_heads_193 : decode cX12_heads 193 = .ok (.iload 6, 2) := by decide +kernel
theorem dX12_heads_195 : decode cX12_heads 195 = .ok (.iaload, 1) := by decide +kernel
theorem dX12_heads_196 : decode cX12_heads 196 = .ok (.iconst 1, 1) := by decide +kernel
theorem dX12_heads_197 : decode cX12_heads 197 = .ok (.bastore, 1) := by decide +kernel
theorem dX12_heads_198 : decode cX12_heads 198 = .ok (.iinc 6 1, 3) := by decide +kernel
theorem dX12_heads_201 : decode cX12_heads 201 = .ok (.goto (-42), 3) := by decide +kernel
theorem dX12_heads_204 : decode cX12_heads 204 = .ok (.aload_n 0, 1) := by decide +kernel
theorem dX12_heads_205 : decode cX12_heads 205 = .ok (.iload_n 1, 1) := by decide +kernel
theorem dX12_heads_206 : decode cX12_heads 206 = .ok (.invokevirtual 383, 3) := by decide +kernel
theorem dX12_heads_209 : decode cX12_heads 209 = .ok (.aload_n 0, 1) := by decide +kernel
theorem dX12_heads_210 : decode cX12_heads 210 = .ok (.getfield 374, 3) := by decide +kernel
theorem dX12_heads_213 : decode cX12_heads 213 = .ok (.istore 6, 2) := by decide +kernel
theorem dX12_heads_215 : decode cX12_heads 215 = .ok (.aload_n 0, 1) := by decide +kernel
theorem dX12_heads_216 : decode cX12_heads 216 = .ok (.iload_n 3, 1) := by decide +kernel
theorem dX12_heads_217 : decode cX12_heads 217 = .ok (.ifCond .ne 7, 3) := by decide +kernel
theorem dX12_heads_220 : decode cX12_heads 220 = .ok (.iconst 1, 1) := by decide +kernel
theorem dX12_heads_221 : decode cX12_heads 221 = .ok (.goto 4, 3) := by decide +kernel
theorem dX12_heads_224 : decode cX12_heads 224 = .ok (.iconst 0, 1) := by decide +kernel
theorem dX12_heads_225 : decode cX12_heads 225 = .ok (.putfield 374, 3) := by decide +kernel
theorem dX12_heads_228 : decode cX12_heads 228 = .ok (.iconst 0, 1) := by decide +kernel
theorem dX12_heads_229 : decode cX12_heads 229 = .ok (.istore 7, 2) := by decide +kernel
theorem dX12_heads_231 : decode cX12_heads 231 = .ok (.iconst 0, 1) := by decide +kernel
theorem dX12_heads_232 : decode cX12_heads 232 = .ok (.istore 8, 2) := by decide +kernel
theorem dX12_heads_234 : decode cX12_heads 234 = .ok (.iload 8, 2) := by decide +kernel
theorem dX12_heads_236 : decode cX12_heads 236 = .ok (.aload_n 0, 1) := by decide +kernel
theorem dX12_heads_237 : decode cX12_heads 237 = .ok (.getfield 371, 3) := by decide +kernel
theorem dX12_heads_240 : decode cX12_heads 240 = .ok (.if_icmp .ge 32, 3) := by decide +kernel
theorem dX12_heads_243 : decode cX12_heads 243 = .ok (.iload_n 3, 1) := by decide +kernel
theorem dX12_heads_244 : decode cX12_heads 244 = .ok (.ifCond .le 28, 3) := by decide +kernel
theorem dX12_heads_247 : decode cX12_heads 247 = .ok (.aload_n 0, 1) := by decide +kernel
theorem dX12_heads_248 : decode cX12_heads 248 = .ok (.getfield 72, 3) := by decide +kernel
theorem dX12_heads_251 : decode cX12_heads 251 = .ok (.iload 8, 2) := by decide +kernel
theorem dX12_heads_253 : decode cX12_heads 253 = .ok (.iaload, 1) := by decide +kernel
theorem dX12_heads_254 : decode cX12_heads 254 = .ok (.iload_n 3, 1) := by decide +kernel
theorem dX12_heads_255 : decode cX12_heads 255 = .ok (.if_icmp .ne 11, 3) := by decide +kernel
theorem dX12_heads_258 : decode cX12_heads 258 = .ok (.aload_n 0, 1) := by decide +kernel
theorem dX12_heads_259 : decode cX12_heads 259 = .ok (.iload 8, 2) := by decide +kernel
theorem dX12_heads_261 : decode cX12_heads 261 = .ok (.iload 8, 2) := by decide +kernel
theorem dX12_heads_263 : decode cX12_heads 263 = .ok (.invokevirtual 386, 3) := by decide +kernel
theorem dX12_heads_266 : decode cX12_heads 266 = .ok (.iinc 8 1, 3) := by decide +kernel
theorem dX12_heads_269 : decode cX12_heads 269 = .ok (.goto (-35), 3) := by decide +kernel
theorem dX12_heads_272 : decode cX12_heads 272 = .ok (.aload_n 0, 1) := by decide +kernel
theorem dX12_heads_273 : decode cX12_heads 273 = .ok (.getfield 374, 3) := by decide +kernel
theorem dX12_heads_276 : decode cX12_heads 276 = .ok (.ifCond .le 10, 3) := by decide +kernel
theorem dX12_heads_279 : decode cX12_heads 279 = .ok (.iload_n 3, 1) := by decide +kernel
theorem dX12_heads_280 : decode cX12_heads 280 = .ok (.ifCond .le 6, 3) := by decide +kernel
theorem dX12_heads_283 : decode cX12_heads 283 = .ok (.iconst 1, 1) := by decide +kernel
theorem dX12_heads_284 : decode cX12_heads 284 = .ok (.istore 7, 2) := by decide +kernel
theorem dX12_heads_286 : decode cX12_heads 286 = .ok (.aload_n 0, 1) := by decide +kernel
theorem dX12_heads_287 : decode cX12_heads 287 = .ok (.getfield 374, 3) := by decide +kernel
theorem dX12_heads_290 : decode cX12_heads 290 = .ok (.ifCond .ne 82, 3) := by decide +kernel
theorem dX12_heads_293 : decode cX12_heads 293 = .ok (.iconst 2, 1) := by decide +kernel
theorem dX12_heads_294 : decode cX12_heads 294 = .ok (.istore 7, 2) := by decide +kernel
theorem dX12_heads_296 : decode cX12_heads 296 = .ok (.iconst 0, 1) := by decide +kernel
theorem dX12_heads_297 : decode cX12_heads 297 = .ok (.istore 8, 2) := by decide +kernel
theorem dX12_heads_299 : decode cX12_heads 299 = .ok (.iload 8, 2) := by decide +kernel
theorem dX12_heads_301 : decode cX12_heads 301 = .ok (.aload_n 0, 1) := by decide +kernel
theorem dX12_heads_302 : decode cX12_heads 302 = .ok (.getfield 371, 3) := by decide +kernel
theorem dX12_heads_305 : decode cX12_heads 305 = .ok (.if_icmp .ge 67, 3) := by decide +kernel
theorem dX12_heads_308 : decode cX12_heads 308 = .ok (.iload 8, 2) := by decide +kernel
theorem dX12_heads_310 : decode cX12_heads 310 = .ok (.iconst 1, 1) := by decide +kernel
theorem dX12_heads_311 : decode cX12_heads 311 = .ok (.iadd, 1) := by decide +kernel
theorem dX12_heads_312 : decode cX12_heads 312 = .ok (.istore 9, 2) := by decide +kernel
theorem dX12_heads_314 : decode cX12_heads 314 = .ok (.iload 9, 2) := by decide +kernel
theorem dX12_heads_316 : decode cX12_heads 316 = .ok (.aload_n 0, 1) := by decide +kernel
theorem dX12_heads_317 : decode cX12_heads 317 = .ok (.getfield 371, 3) := by decide +kernel
theorem dX12_heads_320 : decode cX12_heads 320 = .ok (.if_icmp .ge 46, 3) := by decide +kernel
theorem dX12_heads_323 : decode cX12_heads 323 = .ok (.aload_n 0, 1) := by decide +kernel
theorem dX12_heads_324 : decode cX12_heads 324 = .ok (.getfield 72, 3) := by decide +kernel
theorem dX12_heads_327 : decode cX12_heads 327 = .ok (.iload 8, 2) := by decide +kernel
theorem dX12_heads_329 : decode cX12_heads 329 = .ok (.iaload, 1) := by decide +kernel
theorem dX12_heads_330 : decode cX12_heads 330 = .ok (.aload_n 0, 1) := by decide +kernel
theorem dX12_heads_331 : decode cX12_heads 331 = .ok (.getfield 72, 3) := by decide +kernel
theorem dX12_heads_334 : decode cX12_heads 334 = .ok (.iload 9, 2) := by decide +kernel
theorem dX12_heads_336 : decode cX12_heads 336 = .ok (.iaload, 1) := by decide +kernel
theorem dX12_heads_337 : decode cX12_heads 337 = .ok (.iadd, 1) := by decide +kernel
theorem dX12_heads_338 : decode cX12_heads 338 = .ok (.aload_n 0, 1) := by decide +kernel
theorem dX12_heads_339 : decode cX12_heads 339 = .ok (.iload 8, 2) := by decide +kernel
theorem dX12_heads_341 : decode cX12_heads 341 = .ok (.iload 9, 2) := by decide +kernel
theorem dX12_heads_343 : decode cX12_heads 343 = .ok (.iload_n 3, 1) := by decide +kernel
theorem dX12_heads_344 : decode cX12_heads 344 = .ok (.invokevirtual 389, 3) := by decide +kernel
theorem dX12_heads_347 : decode cX12_heads 347 = .ok (.isub, 1) := by decide +kernel
theorem dX12_heads_348 : decode cX12_heads 348 = .ok (.iload_n 3, 1) := by decide +kernel
theorem dX12_heads_349 : decode cX12_heads 349 = .ok (.if_icmp .ne 11, 3) := by decide +kernel
theorem dX12_heads_352 : decode cX12_heads 352 = .ok (.aload_n 0, 1) := by decide +kernel
theorem dX12_heads_353 : decode cX12_heads 353 = .ok (.iload 8, 2) := by decide +kernel
theorem dX12_heads_355 : decode cX12_heads 355 = .ok (.iload 9, 2) := by decide +kernel
theorem dX12_heads_357 : decode cX12_heads 357 = .ok (.invokevirtual 386, 3) := by decide +kernel
theorem dX12_heads_360 : decode cX12_heads 360 = .ok (.iinc 9 1, 3) := by decide +kernel
theorem dX12_heads_363 : decode cX12_heads 363 = .ok (.goto (-49), 3) := by decide +kernel
theorem dX12_heads_366 : decode cX12_heads 366 = .ok (.iinc 8 1, 3) := by decide +kernel
theorem dX12_heads_369 : decode cX12_heads 369 = .ok (.goto (-70), 3) := by decide +kernel
theorem dX12_heads_372 : decode cX12_heads 372 = .ok (.aload_n 0, 1) := by decide +kernel
theorem dX12_heads_373 : decode cX12_heads 373 = .ok (.getfield 374, 3) := by decide +kernel
theorem dX12_heads_376 : decode cX12_heads 376 = .ok (.ifCond .ne 16, 3) := by decide +kernel
theorem dX12_heads_379 : decode cX12_heads 379 = .ok (.aload_n 0, 1) := by decide +kernel
theorem dX12_heads_380 : decode cX12_heads 380 = .ok (.iload 6, 2) := by decide +kernel
theorem dX12_heads_382 : decode cX12_heads 382 = .ok (.putfield 374, 3) := by decide +kernel
theorem dX12_heads_385 : decode cX12_heads 385 = .ok (.aload_n 0, 1) := by decide +kernel
theorem dX12_heads_386 : decode cX12_heads 386 = .ok (.bipush 6, 2) := by decide +kernel
theorem dX12_heads_388 : decode cX12_heads 388 = .ok (.invokevirtual 235, 3) := by decide +kernel
theorem dX12_heads_391 : decode cX12_heads 391 = .ok (.ireturn, 1) := by decide +kernel
theorem dX12_heads_392 : decode cX12_heads 392 = .ok (.aload_n 0, 1) := by decide +kernel
theorem dX12_heads_393 : decode cX12_heads 393 = .ok (.iload 7, 2) := by decide +kernel
theorem dX12_heads_395 : decode cX12_heads 395 = .ok (.putfield 81, 3) := by decide +kernel
theorem dX12_heads_398 : decode cX12_heads 398 = .ok (.aload_n 0, 1) := by decide +kernel
theorem dX12_heads_399 : decode cX12_heads 399 = .ok (.iload 7, 2) := by decide +kernel
theorem dX12_heads_401 : decode cX12_heads 401 = .ok (.i2l, 1) := by decide +kernel
theorem dX12_heads_402 : decode cX12_heads 402 = .ok (.invokevirtual 250, 3) := by decide +kernel
theorem dX12_heads_405 : decode cX12_heads 405 = .ok (.ireturn, 1) := by decide +kernel
theorem dX12_head_0 : decode cX12_head 0 = .ok (.iload_n 1, 1) := by decide +kernel
theorem dX12_head_1 : decode cX12_head 1 = .ok (.ifCond .lt 8, 3) := by decide +kernel
theorem dX12_head_4 : decode cX12_head 4 = .ok (.iload_n 1, 1) := by decide +kernel
theorem dX12_head_5 : decode cX12_head 5 = .ok (.iconst 4, 1) := by decide +kernel
theorem dX12_head_6 : decode cX12_head 6 = .ok (.if_icmp .le 9, 3) := by decide +kernel
theorem dX12_head_9 : decode cX12_head 9 = .ok (.aload_n 0, 1) := by decide +kernel
theorem dX12_head_10 : decode cX12_head 10 = .ok (.iconst 1, 1) := by decide +kernel
theorem dX12_head_11 : decode cX12_head 11 = .ok (.invokevirtual 235, 3) := by decide +kernel
theorem dX12_head_14 : decode cX12_head 14 = .ok (.ireturn, 1) := by decide +kernel
theorem dX12_head_15 : decode cX12_head 15 = .ok (.aload_n 0, 1) := by decide +kernel
theorem dX12_head_16 : decode cX12_head 16 = .ok (.getfield 81, 3) := by decide +kernel
theorem dX12_head_19 : decode cX12_head 19 = .ok (.iconst (-1), 1) := by decide +kernel
theorem dX12_head_20 : decode cX12_head 20 = .ok (.if_icmp .eq 13, 3) := by decide +kernel
theorem dX12_head_23 : decode cX12_head 23 = .ok (.iload_n 1, 1) := by decide +kernel
theorem dX12_head_24 : decode cX12_head 24 = .ok (.iconst 2, 1) := by decide +kernel
theorem dX12_head_25 : decode cX12_head 25 = .ok (.aload_n 0, 1) := by decide +kernel
theorem dX12_head_26 : decode cX12_head 26 = .ok (.getfield 81, 3) := by decide +kernel
theorem dX12_head_29 : decode cX12_head 29 = .ok (.imul, 1) := by decide +kernel
theorem dX12_head_30 : decode cX12_head 30 = .ok (.if_icmp .le 10, 3) := by decide +kernel
theorem dX12_head_33 : decode cX12_head 33 = .ok (.aload_n 0, 1) := by decide +kernel
theorem dX12_head_34 : decode cX12_head 34 = .ok (.bipush 6, 2) := by decide +kernel
theorem dX12_head_36 : decode cX12_head 36 = .ok (.invokevirtual 235, 3) := by decide +kernel
theorem dX12_head_39 : decode cX12_head 39 = .ok (.ireturn, 1) := by decide +kernel
theorem dX12_head_40 : decode cX12_head 40 = .ok (.aload_n 0, 1) := by decide +kernel
theorem dX12_head_41 : decode cX12_head 41 = .ok (.iload_n 1, 1) := by decide +kernel
theorem dX12_head_42 : decode cX12_head 42 = .ok (.ifCond .ne 11, 3) := by decide +kernel
theorem dX12_head_45 : decode cX12_head 45 = .ok (.aload_n 0, 1) := by decide +kernel
theorem dX12_head_46 : decode cX12_head 46 = .ok (.getfield 374, 3) := by decide +kernel
theorem dX12_head_49 : decode cX12_head 49 = .ok (.i2l, 1) := by decide +kernel
theorem dX12_head_50 : decode cX12_head 50 = .ok (.goto 12, 3) := by decide +kernel
theorem dX12_head_53 : decode cX12_head 53 = .ok (.aload_n 0, 1) := by decide +kernel
theorem dX12_head_54 : decode cX12_head 54 = .ok (.getfield 78, 3) := by decide +kernel
theorem dX12_head_57 : decode cX12_head 57 = .ok (.iload_n 1, 1) := by decide +kernel
theorem dX12_head_58 : decode cX12_head 58 = .ok (.iconst 1, 1) := by decide +kernel
theorem dX12_head_59 : decode cX12_head 59 = .ok (.isub, 1) := by decide +kernel
theorem dX12_head_60 : decode cX12_head 60 = .ok (.iaload, 1) := by decide +kernel
theorem dX12_head_61 : decode cX12_head 61 = .ok (.i2l, 1) := by decide +kernel
theorem dX12_head_62 : decode cX12_head 62 = .ok (.invokevirtual 250, 3) := by decide +kernel
theorem dX12_head_65 : decode cX12_head 65 = .ok (.ireturn, 1) := by decide +kernel
theorem dX12_thrownMany_0 : decode cX12_thrownMany 0 = .ok (.iconst 0, 1) := by decide +kernel
theorem dX12_thrownMany_1 : decode cX12_thrownMany 1 = .ok (.istore_n 2, 1) := by decide +kernel
theorem dX12_thrownMany_2 : decode cX12_thrownMany 2 = .ok (.iconst 0, 1) := by decide +kernel
theorem dX12_thrownMany_3 : decode cX12_thrownMany 3 = .ok (.istore_n 3, 1) := by decide +kernel
theorem dX12_thrownMany_4 : decode cX12_thrownMany 4 = .ok (.iload_n 3, 1) := by decide +kernel
theorem dX12_thrownMany_5 : decode cX12_thrownMany 5 = .ok (.iload_n 1, 1) := by decide +kernel
theorem dX12_thrownMany_6 : decode cX12_thrownMany 6 = .ok (.if_icmp .gt 33, 3) := by decide +kernel
theorem dX12_thrownMany_9 : decode cX12_thrownMany 9 = .ok (.iload_n 2, 1) := by decide +kernel
theorem dX12_thrownMany_10 : decode cX12_thrownMany 10 = .ok (.aload_n 0, 1) := by decide +kernel
theorem dX12_thrownMany_11 : decode cX12_thrownMany 11 = .ok (.getfield 84, 3) := by decide +kernel
theorem dX12_thrownMany_14 : decode cX12_thrownMany 14 = .ok (.iload_n 3, 1) := by decide +kernel
theorem dX12_thrownMany_15 : decode cX12_thrownMany 15 = .ok (.baload, 1) := by decide +kernel
theorem dX12_thrownMany_16 : decode cX12_thrownMany 16 = .ok (.ifCond .eq 7, 3) := by decide +kernel
theorem dX12_thrownMany_19 : decode cX12_thrownMany 19 = .ok (.iconst 1, 1) := by decide +kernel
theorem dX12_thrownMany_20 : decode cX12_thrownMany 20 = .ok (.goto 4, 3) := by decide +kernel
theorem dX12_thrownMany_23 : decode cX12_thrownMany 23 = .ok (.iconst 0, 1) := by decide +kernel
theorem dX12_thrownMany_24 : decode cX12_thrownMany 24 = .ok (.iadd, 1) := by decide +kernel
theorem dX12_thrownMany_25 : decode cX12_thrownMany 25 = .ok (.istore_n 2, 1) := by decide +kernel
theorem dX12_thrownMany_26 : decode cX12_thrownMany 26 = .ok (.aload_n 0, 1) := by decide +kernel
theorem dX12_thrownMany_27 : decode cX12_thrownMany 27 = .ok (.getfield 84, 3) := by decide +kernel
theorem dX12_thrownMany_30 : decode cX12_thrownMany 30 = .ok (.iload_n 3, 1) := by decide +kernel
theorem dX12_thrownMany_31 : decode cX12_thrownMany 31 = .ok (.iconst 0, 1) := by decide +kernel
theorem dX12_thrownMany_32 : decode cX12_thrownMany 32 = .ok (.bastore, 1) := by decide +kernel
theorem dX12_thrownMany_33 : decode cX12_thrownMany 33 = .ok (.iinc 3 1, 3) := by decide +kernel
theorem dX12_thrownMany_36 : decode cX12_thrownMany 36 = .ok (.goto (-32), 3) := by decide +kernel
theorem dX12_thrownMany_39 : decode cX12_thrownMany 39 = .ok (.iload_n 2, 1) := by decide +kernel
theorem dX12_thrownMany_40 : decode cX12_thrownMany 40 = .ok (.ireturn, 1) := by decide +kernel
theorem dX12_brief_0 : decode cX12_brief 0 = .ok (.aload_n 0, 1) := by decide +kernel
theorem dX12_brief_1 : decode cX12_brief 1 = .ok (.iload_n 2, 1) := by decide +kernel
theorem dX12_brief_2 : decode cX12_brief 2 = .ok (.i2l, 1) := by decide +kernel
theorem dX12_brief_3 : decode cX12_brief 3 = .ok (.lconst 1, 1) := by decide +kernel
theorem dX12_brief_4 : decode cX12_brief 4 = .ok (.ldc2_w 377, 3) := by decide +kernel
theorem dX12_brief_7 : decode cX12_brief 7 = .ok (.invokestatic 125, 3) := by decide +kernel
theorem dX12_brief_10 : decode cX12_brief 10 = .ok (.ifCond .eq 26, 3) := by decide +kernel
theorem dX12_brief_13 : decode cX12_brief 13 = .ok (.iload_n 3, 1) := by decide +kernel
theorem dX12_brief_14 : decode cX12_brief 14 = .ok (.i2l, 1) := by decide +kernel
theorem dX12_brief_15 : decode cX12_brief 15 = .ok (.lconst 1, 1) := by decide +kernel
theorem dX12_brief_16 : decode cX12_brief 16 = .ok (.ldc2_w 327, 3) := by decide +kernel
theorem dX12_brief_19 : decode cX12_brief 19 = .ok (.invokestatic 125, 3) := by decide +kernel
theorem dX12_brief_22 : decode cX12_brief 22 = .ok (.ifCond .eq 14, 3) := by decide +kernel
theorem dX12_brief_25 : decode cX12_brief 25 = .ok (.iload 4, 2) := by decide +kernel
theorem dX12_brief_27 : decode cX12_brief 27 = .ok (.iload 5, 2) := by decide +kernel
theorem dX12_brief_29 : decode cX12_brief 29 = .ok (.if_icmp .gt 7, 3) := by decide +kernel
theorem dX12_brief_32 : decode cX12_brief 32 = .ok (.iconst 1, 1) := by decide +kernel
theorem dX12_brief_33 : decode cX12_brief 33 = .ok (.goto 4, 3) := by decide +kernel
theorem dX12_brief_36 : decode cX12_brief 36 = .ok (.iconst 0, 1) := by decide +kernel
theorem dX12_brief_37 : decode cX12_brief 37 = .ok (.iload_n 1, 1) := by decide +kernel
theorem dX12_brief_38 : decode cX12_brief 38 = .ok (.iload_n 2, 1) := by decide +kernel
theorem dX12_brief_39 : decode cX12_brief 39 = .ok (.ldc2_w 393, 3) := by decide +kernel
theorem dX12_brief_42 : decode cX12_brief 42 = .ok (.ldc2_w 286, 3) := by decide +kernel
theorem dX12_brief_45 : decode cX12_brief 45 = .ok (.invokevirtual 379, 3) := by decide +kernel
theorem dX12_brief_48 : decode cX12_brief 48 = .ok (.istore 6, 2) := by decide +kernel
theorem dX12_brief_50 : decode cX12_brief 50 = .ok (.iload 6, 2) := by decide +kernel
theorem dX12_brief_52 : decode cX12_brief 52 = .ok (.ifCond .le 10, 3) := by decide +kernel
theorem dX12_brief_55 : decode cX12_brief 55 = .ok (.aload_n 0, 1) := by decide +kernel
theorem dX12_brief_56 : decode cX12_brief 56 = .ok (.iload 6, 2) := by decide +kernel
theorem dX12_brief_58 : decode cX12_brief 58 = .ok (.invokevirtual 235, 3) := by decide +kernel
theorem dX12_brief_61 : decode cX12_brief 61 = .ok (.ireturn, 1) := by decide +kernel
theorem dX12_brief_62 : decode cX12_brief 62 = .ok (.iload_n 2, 1) := by decide +kernel
theorem dX12_brief_63 : decode cX12_brief 63 = .ok (.iconst 1, 1) := by decide +kernel
theorem dX12_brief_64 : decode cX12_brief 64 = .ok (.isub, 1) := by decide +kernel
theorem dX12_brief_65 : decode cX12_brief 65 = .ok (.iload_n 3, 1) := by decide +kernel
theorem dX12_brief_66 : decode cX12_brief 66 = .ok (.imul, 1) := by decide +kernel
theorem dX12_brief_67 : decode cX12_brief 67 = .ok (.istore 7, 2) := by decide +kernel
theorem dX12_brief_69 : decode cX12_brief 69 = .ok (.iconst 0, 1) := by decide +kernel
theorem dX12_brief_70 : decode cX12_brief 70 = .ok (.istore 8, 2) := by decide +kernel
theorem dX12_brief_72 : decode cX12_brief 72 = .ok (.iload 8, 2) := by decide +kernel
theorem dX12_brief_74 : decode cX12_brief 74 = .ok (.iload_n 2, 1) := by decide +kernel
theorem dX12_brief_75 : decode cX12_brief 75 = .ok (.if_icmp .ge 176, 3) := by decide +kernel
theorem dX12_brief_78 : decode cX12_brief 78 = .ok (.aload_n 0, 1) := by decide +kernel
theorem dX12_brief_79 : decode cX12_brief 79 = .ok (.getfield 24, 3) := by decide +kernel
theorem dX12_brief_82 : decode cX12_brief 82 = .ok (.bipush 60, 2) := by decide +kernel
theorem dX12_brief_84 : decode cX12_brief 84 = .ok (.iload_n 1, 1) := by decide +kernel
theorem dX12_brief_85 : decode cX12_brief 85 = .ok (.imul, 1) := by decide +kernel
theorem dX12_brief_86 : decode cX12_brief 86 = .ok (.iload 8, 2) := by decide +kernel
theorem dX12_brief_88 : decode cX12_brief 88 = .ok (.iadd, 1) := by decide +kernel
theorem dX12_brief_89 : decode cX12_brief 89 = .ok (.laload, 1) := by decide +kernel
theorem dX12_brief_90 : decode cX12_brief 90 = .ok (.lstore 9, 2) := by decide +kernel
theorem dX12_brief_92 : decode cX12_brief 92 = .ok (.lload 9, 2) := by decide +kernel
theorem dX12_brief_94 : decode cX12_brief 94 = .ok (.iload 4, 2) := by decide +kernel
theorem dX12_brief_96 : decode cX12_brief 96 = .ok (.i2l, 1) := by decide +kernel
theorem dX12_brief_97 : decode cX12_brief 97 = .ok (.lcmp, 1) := by decide +kernel
theorem dX12_brief_98 : decode cX12_brief 98 = .ok (.ifCond .lt 15, 3) := by decide +kernel
theorem dX12_brief_101 : decode cX12_brief 101 = .ok (.lload 9, 2) := by decide +kernel
theorem dX12_brief_103 : decode cX12_brief 103 = .ok (.iload 5, 2) := by decide +kernel
theorem dX12_brief_105 : decode cX12_brief 105 = .ok (.i2l, 1) := by decide +kernel
theorem dX12_brief_106 : decode cX12_brief 106 = .ok (.lcmp, 1) := by decide +kernel
theorem dX12_brief_107 : decode cX12_brief 107 = .ok (.ifCond .gt 6, 3) := by decide +kernel
theorem dX12_brief_110 : decode cX12_brief 110 = .ok (.goto 135, 3) := by decide +kernel
theorem dX12_brief_113 : decode cX12_brief 113 = .ok (.iload 8, 2) := by decide +kernel
theorem dX12_brief_115 : decode cX12_brief 115 = .ok (.istore 11, 2) := by decide +kernel
theorem dX12_brief_117 : decode cX12_brief 117 = .ok (.iload 11, 2) := by decide +kernel
theorem dX12_brief_119 : decode cX12_brief 119 = .ok (.ifCond .lt 33, 3) := by decide +kernel
theorem dX12_brief_122 : decode cX12_brief 122 = .ok (.aload_n 0, 1) := by decide +kernel
theorem dX12_brief_123 : decode cX12_brief 123 = .ok (.getfield 24, 3) := by decide +kernel
theorem dX12_brief_126 : decode cX12_brief 126 = .ok (.bipush 60, 2) := by decide +kernel
theorem dX12_brief_128 : decode cX12_brief 128 = .ok (.iload_n 1, 1) := by decide +kernel
theorem dX12_brief_129 : decode cX12_brief 129 = .ok (.imul, 1) := by decide +kernel
theorem dX12_brief_130 : decode cX12_brief 130 = .ok (.iload 11, 2) := by decide +kernel
theorem dX12_brief_132 : decode cX12_brief 132 = .ok (.iadd, 1) := by decide +kernel
theorem dX12_brief_133 : decode cX12_brief 133 = .ok (.laload, 1) := by decide +kernel
theorem dX12_brief_134 : decode cX12_brief 134 = .ok (.iload 4, 2) := by decide +kernel
theorem dX12_brief_136 : decode cX12_brief 136 = .ok (.i2l, 1) := by decide +kernel
theorem dX12_brief_137 : decode cX12_brief 137 = .ok (.iload 5, 2) := by decide +kernel
theorem dX12_brief_139 : decode cX12_brief 139 = .ok (.i2l, 1) := by decide +kernel
theorem dX12_brief_140 : decode cX12_brief 140 = .ok (.invokestatic 125, 3) := by decide +kernel
theorem dX12_brief_143 : decode cX12_brief 143 = .ok (.ifCond .ne 9, 3) := by decide +kernel
theorem dX12_brief_146 : decode cX12_brief 146 = .ok (.iinc 11 (-1), 3) := by decide +kernel
theorem dX12_brief_149 : decode cX12_brief 149 = .ok (.goto (-32), 3) := by decide +kernel
theorem dX12_brief_152 : decode cX12_brief 152 = .ok (.iload 8, 2) := by decide +kernel
theorem dX12_brief_154 : decode cX12_brief 154 = .ok (.istore 12, 2) := by decide +kernel
theorem dX12_brief_156 : decode cX12_brief 156 = .ok (.iload 12, 2) := by decide +kernel
theorem dX12_brief_158 : decode cX12_brief 158 = .ok (.iload_n 2, 1) := by decide +kernel
theorem dX12_brief_159 : decode cX12_brief 159 = .ok (.if_icmp .ge 33, 3) := by decide +kernel
theorem dX12_brief_162 : decode cX12_brief 162 = .ok (.aload_n 0, 1) := by decide +kernel
theorem dX12_brief_163 : decode cX12_brief 163 = .ok (.getfield 24, 3) := by decide +kernel
theorem dX12_brief_166 : decode cX12_brief 166 = .ok (.bipush 60, 2) := by decide +kernel
theorem dX12_brief_168 : decode cX12_brief 168 = .ok (.iload_n 1, 1) := by decide +kernel
theorem dX12_brief_169 : decode cX12_brief 169 = .ok (.imul, 1) := by decide +kernel
theorem dX12_brief_170 : decode cX12_brief 170 = .ok (.iload 12, 2) := by decide +kernel
theorem dX12_brief_172 : decode cX12_brief 172 = .ok (.iadd, 1) := by decide +kernel
theorem dX12_brief_173 : decode cX12_brief 173 = .ok (.laload, 1) := by decide +kernel
theorem dX12_brief_174 : decode cX12_brief 174 = .ok (.iload 4, 2) := by decide +kernel
theorem dX12_brief_176 : decode cX12_brief 176 = .ok (.i2l, 1) := by decide +kernel
theorem dX12_brief_177 : decode cX12_brief 177 = .ok (.iload 5, 2) := by decide +kernel
theorem dX12_brief_179 : decode cX12_brief 179 = .ok (.i2l, 1) := by decide +kernel
theorem dX12_brief_180 : decode cX12_brief 180 = .ok (.invokestatic 125, 3) := by decide +kernel
theorem dX12_brief_183 : decode cX12_brief 183 = .ok (.ifCond .ne 9, 3) := by decide +kernel
theorem dX12_brief_186 : decode cX12_brief 186 = .ok (.iinc 12 1, 3) := by decide +kernel
theorem dX12_brief_189 : decode cX12_brief 189 = .ok (.goto (-33), 3) := by decide +kernel
theorem dX12_brief_192 : decode cX12_brief 192 = .ok (.iload 11, 2) := by decide +kernel
theorem dX12_brief_194 : decode cX12_brief 194 = .ok (.ifCond .ge 7, 3) := by decide +kernel
theorem dX12_brief_197 : decode cX12_brief 197 = .ok (.iconst 0, 1) := by decide +kernel
theorem dX12_brief_198 : decode cX12_brief 198 = .ok (.goto 9, 3) := by decide +kernel
theorem dX12_brief_201 : decode cX12_brief 201 = .ok (.iload 11, 2) := by decide +kernel
theorem dX12_brief_203 : decode cX12_brief 203 = .ok (.iload_n 3, 1) := by decide +kernel
theorem dX12_brief_204 : decode cX12_brief 204 = .ok (.imul, 1) := by decide +kernel
theorem dX12_brief_205 : decode cX12_brief 205 = .ok (.iconst 1, 1) := by decide +kernel
theorem dX12_brief_206 : decode cX12_brief 206 = .ok (.iadd, 1) := by decide +kernel
theorem dX12_brief_207 : decode cX12_brief 207 = .ok (.istore 13, 2) := by decide +kernel
theorem dX12_brief_209 : decode cX12_brief 209 = .ok (.iload 13, 2) := by decide +kernel
theorem dX12_brief_211 : decode cX12_brief 211 = .ok (.iload 12, 2) := by decide +kernel
theorem dX12_brief_213 : decode cX12_brief 213 = .ok (.iload_n 2, 1) := by decide +kernel
theorem dX12_brief_214 : decode cX12_brief 214 = .ok (.if_icmp .ne 8, 3) := by decide +kernel
theorem dX12_brief_217 : decode cX12_brief 217 = .ok (.iload 7, 2) := by decide +kernel
theorem dX12_brief_219 : decode cX12_brief 219 = .ok (.goto 9, 3) := by decide +kernel
theorem dX12_brief_222 : decode cX12_brief 222 = .ok (.iload 12, 2) := by decide +kernel
theorem dX12_brief_224 : decode cX12_brief 224 = .ok (.iload_n 3, 1) := by decide +kernel
theorem dX12_brief_225 : decode cX12_brief 225 = .ok (.imul, 1) := by decide +kernel
theorem dX12_brief_226 : decode cX12_brief 226 = .ok (.iconst 1, 1) := by decide +kernel
theorem dX12_brief_227 : decode cX12_brief 227 = .ok (.isub, 1) := by decide +kernel
theorem dX12_brief_228 : decode cX12_brief 228 = .ok (.if_icmp .gt 17, 3) := by decide +kernel
theorem dX12_brief_231 : decode cX12_brief 231 = .ok (.aload_n 0, 1) := by decide +kernel
theorem dX12_brief_232 : decode cX12_brief 232 = .ok (.getfield 84, 3) := by decide +kernel
theorem dX12_brief_235 : decode cX12_brief 235 = .ok (.iload 13, 2) := by decide +kernel
theorem dX12_brief_237 : decode cX12_brief 237 = .ok (.iconst 1, 1) := by decide +kernel
theorem dX12_brief_238 : decode cX12_brief 238 = .ok (.bastore, 1) := by decide +kernel
theorem dX12_brief_239 : decode cX12_brief 239 = .ok (.iinc 13 1, 3) := by decide +kernel
theorem dX12_brief_242 : decode cX12_brief 242 = .ok (.goto (-33), 3) := by decide +kernel
theorem dX12_brief_245 : decode cX12_brief 245 = .ok (.iinc 8 1, 3) := by decide +kernel
theorem dX12_brief_248 : decode cX12_brief 248 = .ok (.goto (-176), 3) := by decide +kernel
theorem dX12_brief_251 : decode cX12_brief 251 = .ok (.aload_n 0, 1) := by decide +kernel
theorem dX12_brief_252 : decode cX12_brief 252 = .ok (.aload_n 0, 1) := by decide +kernel
theorem dX12_brief_253 : decode cX12_brief 253 = .ok (.iload 7, 2) := by decide +kernel
theorem dX12_brief_255 : decode cX12_brief 255 = .ok (.invokevirtual 395, 3) := by decide +kernel
theorem dX12_brief_258 : decode cX12_brief 258 = .ok (.i2l, 1) := by decide +kernel
theorem dX12_brief_259 : decode cX12_brief 259 = .ok (.invokevirtual 250, 3) := by decide +kernel
theorem dX12_brief_262 : decode cX12_brief 262 = .ok (.ireturn, 1) := by decide +kernel
theorem dX12_glass_0 : decode cX12_glass 0 = .ok (.aload_n 0, 1) := by decide +kernel
theorem dX12_glass_1 : decode cX12_glass 1 = .ok (.iload_n 2, 1) := by decide +kernel
theorem dX12_glass_2 : decode cX12_glass 2 = .ok (.i2l, 1) := by decide +kernel
theorem dX12_glass_3 : decode cX12_glass 3 = .ok (.lconst 1, 1) := by decide +kernel
theorem dX12_glass_4 : decode cX12_glass 4 = .ok (.ldc2_w 207, 3) := by decide +kernel
theorem dX12_glass_7 : decode cX12_glass 7 = .ok (.invokestatic 125, 3) := by decide +kernel
theorem dX12_glass_10 : decode cX12_glass 10 = .ok (.iload_n 1, 1) := by decide +kernel
theorem dX12_glass_11 : decode cX12_glass 11 = .ok (.iconst 2, 1) := by decide +kernel
theorem dX12_glass_12 : decode cX12_glass 12 = .ok (.iload_n 2, 1) := by decide +kernel
theorem dX12_glass_13 : decode cX12_glass 13 = .ok (.imul, 1) := by decide +kernel
theorem dX12_glass_14 : decode cX12_glass 14 = .ok (.lconst 0, 1) := by decide +kernel
theorem dX12_glass_15 : decode cX12_glass 15 = .ok (.ldc2_w 286, 3) := by decide +kernel
theorem dX12_glass_18 : decode cX12_glass 18 = .ok (.invokevirtual 379, 3) := by decide +kernel
theorem dX12_glass_21 : decode cX12_glass 21 = .ok (.istore_n 3, 1) := by decide +kernel
theorem dX12_glass_22 : decode cX12_glass 22 = .ok (.iconst 1, 1) := by decide +kernel
theorem dX12_glass_23 : decode cX12_glass 23 = .ok (.istore 4, 2) := by decide +kernel
theorem dX12_glass_25 : decode cX12_glass 25 = .ok (.iconst 0, 1) := by decide +kernel
theorem dX12_glass_26 : decode cX12_glass 26 = .ok (.istore 5, 2) := by decide +kernel
theorem dX12_glass_28 : decode cX12_glass 28 = .ok (.iload 5, 2) := by decide +kernel
theorem dX12_glass_30 : decode cX12_glass 30 = .ok (.iload_n 2, 1) := by decide +kernel
theorem dX12_glass_31 : decode cX12_glass 31 = .ok (.if_icmp .ge 46, 3) := by decide +kernel
theorem dX12_glass_34 : decode cX12_glass 34 = .ok (.iload_n 3, 1) := by decide +kernel
theorem dX12_glass_35 : decode cX12_glass 35 = .ok (.ifCond .ne 42, 3) := by decide +kernel
theorem dX12_glass_38 : decode cX12_glass 38 = .ok (.iload 4, 2) := by decide +kernel
theorem dX12_glass_40 : decode cX12_glass 40 = .ok (.ifCond .eq 28, 3) := by decide +kernel
theorem dX12_glass_43 : decode cX12_glass 43 = .ok (.aload_n 0, 1) := by decide +kernel
theorem dX12_glass_44 : decode cX12_glass 44 = .ok (.aload_n 0, 1) := by decide +kernel
theorem dX12_glass_45 : decode cX12_glass 45 = .ok (.getfield 24, 3) := by decide +kernel
theorem dX12_glass_48 : decode cX12_glass 48 = .ok (.bipush 60, 2) := by decide +kernel
theorem dX12_glass_50 : decode cX12_glass 50 = .ok (.iload_n 1, 1) := by decide +kernel
theorem dX12_glass_51 : decode cX12_glass 51 = .ok (.imul, 1) := by decide +kernel
theorem dX12_glass_52 : decode cX12_glass 52 = .ok (.iconst 2, 1) := by decide +kernel
theorem dX12_glass_53 : decode cX12_glass 53 = .ok (.iload 5, 2) := by decide +kernel
theorem dX12_glass_55 : decode cX12_glass 55 = .ok (.imul, 1) := by decide +kernel
theorem dX12_glass_56 : decode cX12_glass 56 = .ok (.iadd, 1) := by decide +kernel
theorem dX12_glass_57 : decode cX12_glass 57 = .ok (.laload, 1) := by decide +kernel
theorem dX12_glass_58 : decode cX12_glass 58 = .ok (.invokevirtual 276, 3) := by decide +kernel
theorem dX12_glass_61 : decode cX12_glass 61 = .ok (.ifCond .eq 7, 3) := by decide +kernel
theorem dX12_glass_64 : decode cX12_glass 64 = .ok (.iconst 1, 1) := by decide +kernel
theorem dX12_glass_65 : decode cX12_glass 65 = .ok (.goto 4, 3) := by decide +kernel
theorem dX12_glass_68 : decode cX12_glass 68 = .ok (.iconst 0, 1) := by decide +kernel
theorem dX12_glass_69 : decode cX12_glass 69 = .ok (.istore 4, 2) := by decide +kernel
theorem dX12_glass_71 : decode cX12_glass 71 = .ok (.iinc 5 1, 3) := by decide +kernel
theorem dX12_glass_74 : decode cX12_glass 74 = .ok (.goto (-46), 3) := by decide +kernel
theorem dX12_glass_77 : decode cX12_glass 77 = .ok (.iload_n 3, 1) := by decide +kernel
theorem dX12_glass_78 : decode cX12_glass 78 = .ok (.ifCond .gt 8, 3) := by decide +kernel
theorem dX12_glass_81 : decode cX12_glass 81 = .ok (.iload 4, 2) := by decide +kernel
theorem dX12_glass_83 : decode cX12_glass 83 = .ok (.ifCond .ne 17, 3) := by decide +kernel
theorem dX12_glass_86 : decode cX12_glass 86 = .ok (.aload_n 0, 1) := by decide +kernel
theorem dX12_glass_87 : decode cX12_glass 87 = .ok (.iload_n 3, 1) := by decide +kernel
theorem dX12_glass_88 : decode cX12_glass 88 = .ok (.ifCond .le 7, 3) := by decide +kernel
theorem dX12_glass_91 : decode cX12_glass 91 = .ok (.iload_n 3, 1) := by decide +kernel
theorem dX12_glass_92 : decode cX12_glass 92 = .ok (.goto 4, 3) := by decide +kernel
theorem dX12_glass_95 : decode cX12_glass 95 = .ok (.iconst 5, 1) := by decide +kernel
theorem dX12_glass_96 : decode cX12_glass 96 = .ok (.invokevirtual 235, 3) := by decide +kernel
theorem dX12_glass_99 : decode cX12_glass 99 = .ok (.ireturn, 1) := by decide +kernel
theorem dX12_glass_100 : decode cX12_glass 100 = .ok (.iconst 0, 1) := by decide +kernel
theorem dX12_glass_101 : decode cX12_glass 101 = .ok (.istore 5, 2) := by decide +kernel
theorem dX12_glass_103 : decode cX12_glass 103 = .ok (.iload 5, 2) := by decide +kernel
theorem dX12_glass_105 : decode cX12_glass 105 = .ok (.iload_n 2, 1) := by decide +kernel
theorem dX12_glass_106 : decode cX12_glass 106 = .ok (.if_icmp .ge 86, 3) := by decide +kernel
theorem dX12_glass_109 : decode cX12_glass 109 = .ok (.aload_n 0, 1) := by decide +kernel
theorem dX12_glass_110 : decode cX12_glass 110 = .ok (.aload_n 0, 1) := by decide +kernel
theorem dX12_glass_111 : decode cX12_glass 111 = .ok (.getfield 24, 3) := by decide +kernel
theorem dX12_glass_114 : decode cX12_glass 114 = .ok (.bipush 60, 2) := by decide +kernel
theorem dX12_glass_116 : decode cX12_glass 116 = .ok (.iload_n 1, 1) := by decide +kernel
theorem dX12_glass_117 : decode cX12_glass 117 = .ok (.imul, 1) := by decide +kernel
theorem dX12_glass_118 : decode cX12_glass 118 = .ok (.iconst 2, 1) := by decide +kernel
theorem dX12_glass_119 : decode cX12_glass 119 = .ok (.iload 5, 2) := by decide +kernel
theorem dX12_glass_121 : decode cX12_glass 121 = .ok (.imul, 1) := by decide +kernel
theorem dX12_glass_122 : decode cX12_glass 122 = .ok (.iadd, 1) := by decide +kernel
theorem dX12_glass_123 : decode cX12_glass 123 = .ok (.laload, 1) := by decide +kernel
theorem dX12_glass_124 : decode cX12_glass 124 = .ok (.l2i, 1) := by decide +kernel
theorem dX12_glass_125 : decode cX12_glass 125 = .ok (.iconst 1, 1) := by decide +kernel
theorem dX12_glass_126 : decode cX12_glass 126 = .ok (.invokevirtual 269, 3) := by decide +kernel
theorem dX12_glass_129 : decode cX12_glass 129 = .ok (.l2i, 1) := by decide +kernel
theorem dX12_glass_130 : decode cX12_glass 130 = .ok (.istore 6, 2) := by decide +kernel
theorem dX12_glass_132 : decode cX12_glass 132 = .ok (.aload_n 0, 1) := by decide +kernel
theorem dX12_glass_133 : decode cX12_glass 133 = .ok (.getfield 24, 3) := by decide +kernel
theorem dX12_glass_136 : decode cX12_glass 136 = .ok (.bipush 60, 2) := by decide +kernel
theorem dX12_glass_138 : decode cX12_glass 138 = .ok (.iload_n 1, 1) := by decide +kernel
theorem dX12_glass_139 : decode cX12_glass 139 = .ok (.imul, 1) := by decide +kernel
theorem dX12_glass_140 : decode cX12_glass 140 = .ok (.iconst 2, 1) := by decide +kernel
theorem dX12_glass_141 : decode cX12_glass 141 = .ok (.iload 5, 2) := by decide +kernel
theorem dX12_glass_143 : decode cX12_glass 143 = .ok (.imul, 1) := by decide +kernel
theorem dX12_glass_144 : decode cX12_glass 144 = .ok (.iadd, 1) := by decide +kernel
theorem dX12_glass_145 : decode cX12_glass 145 = .ok (.iconst 1, 1) := by decide +kernel
theorem dX12_glass_146 : decode cX12_glass 146 = .ok (.iadd, 1) := by decide +kernel
theorem dX12_glass_147 : decode cX12_glass 147 = .ok (.laload, 1) := by decide +kernel
theorem dX12_glass_148 : decode cX12_glass 148 = .ok (.l2i, 1) := by decide +kernel
theorem dX12_glass_149 : decode cX12_glass 149 = .ok (.istore 7, 2) := by decide +kernel
theorem dX12_glass_151 : decode cX12_glass 151 = .ok (.iconst 0, 1) := by decide +kernel
theorem dX12_glass_152 : decode cX12_glass 152 = .ok (.iload 7, 2) := by decide +kernel
theorem dX12_glass_154 : decode cX12_glass 154 = .ok (.iload 6, 2) := by decide +kernel
theorem dX12_glass_156 : decode cX12_glass 156 = .ok (.isub, 1) := by decide +kernel
theorem dX12_glass_157 : decode cX12_glass 157 = .ok (.invokestatic 398, 3) := by decide +kernel
theorem dX12_glass_160 : decode cX12_glass 160 = .ok (.istore 8, 2) := by decide +kernel
theorem dX12_glass_162 : decode cX12_glass 162 = .ok (.iload 8, 2) := by decide +kernel
theorem dX12_glass_164 : decode cX12_glass 164 = .ok (.iload 7, 2) := by decide +kernel
theorem dX12_glass_166 : decode cX12_glass 166 = .ok (.iload 6, 2) := by decide +kernel
theorem dX12_glass_168 : decode cX12_glass 168 = .ok (.iadd, 1) := by decide +kernel
theorem dX12_glass_169 : decode cX12_glass 169 = .ok (.if_icmp .gt 17, 3) := by decide +kernel
theorem dX12_glass_172 : decode cX12_glass 172 = .ok (.aload_n 0, 1) := by decide +kernel
theorem dX12_glass_173 : decode cX12_glass 173 = .ok (.getfield 84, 3) := by decide +kernel
theorem dX12_glass_176 : decode cX12_glass 176 = .ok (.iload 8, 2) := by decide +kernel
theorem dX12_glass_178 : decode cX12_glass 178 = .ok (.iconst 1, 1) := by decide +kernel
theorem dX12_glass_179 : decode cX12_glass 179 = .ok (.bastore, 1) := by decide +kernel
theorem dX12_glass_180 : decode cX12_glass 180 = .ok (.iinc 8 1, 3) := by decide +kernel
theorem dX12_glass_183 : decode cX12_glass 183 = .ok (.goto (-21), 3) := by decide +kernel
theorem dX12_glass_186 : decode cX12_glass 186 = .ok (.iinc 5 1, 3) := by decide +kernel
theorem dX12_glass_189 : decode cX12_glass 189 = .ok (.goto (-86), 3) := by decide +kernel
theorem dX12_glass_192 : decode cX12_glass 192 = .ok (.aload_n 0, 1) := by decide +kernel
theorem dX12_glass_193 : decode cX12_glass 193 = .ok (.aload_n 0, 1) := by decide +kernel
theorem dX12_glass_194 : decode cX12_glass 194 = .ok (.sipush 10199, 3) := by decide +kernel
theorem dX12_glass_197 : decode cX12_glass 197 = .ok (.invokevirtual 395, 3) := by decide +kernel
theorem dX12_glass_200 : decode cX12_glass 200 = .ok (.i2l, 1) := by decide +kernel
theorem dX12_glass_201 : decode cX12_glass 201 = .ok (.invokevirtual 250, 3) := by decide +kernel
theorem dX12_glass_204 : decode cX12_glass 204 = .ok (.ireturn, 1) := by decide +kernel
theorem dX12_bits_0 : decode cX12_bits 0 = .ok (.iconst 0, 1) := by decide +kernel
theorem dX12_bits_1 : decode cX12_bits 1 = .ok (.istore_n 1, 1) := by decide +kernel
theorem dX12_bits_2 : decode cX12_bits 2 = .ok (.iload_n 0, 1) := by decide +kernel
theorem dX12_bits_3 : decode cX12_bits 3 = .ok (.istore_n 2, 1) := by decide +kernel
theorem dX12_bits_4 : decode cX12_bits 4 = .ok (.iload_n 2, 1) := by decide +kernel
theorem dX12_bits_5 : decode cX12_bits 5 = .ok (.ifCond .eq 15, 3) := by decide +kernel
theorem dX12_bits_8 : decode cX12_bits 8 = .ok (.iinc 1 1, 3) := by decide +kernel
theorem dX12_bits_11 : decode cX12_bits 11 = .ok (.iload_n 2, 1) := by decide +kernel
theorem dX12_bits_12 : decode cX12_bits 12 = .ok (.iload_n 2, 1) := by decide +kernel
theorem dX12_bits_13 : decode cX12_bits 13 = .ok (.iconst 1, 1) := by decide +kernel
theorem dX12_bits_14 : decode cX12_bits 14 = .ok (.isub, 1) := by decide +kernel
theorem dX12_bits_15 : decode cX12_bits 15 = .ok (.iand, 1) := by decide +kernel
theorem dX12_bits_16 : decode cX12_bits 16 = .ok (.istore_n 2, 1) := by decide +kernel
theorem dX12_bits_17 : decode cX12_bits 17 = .ok (.goto (-13), 3) := by decide +kernel
theorem dX12_bits_20 : decode cX12_bits 20 = .ok (.iload_n 1, 1) := by decide +kernel
theorem dX12_bits_21 : decode cX12_bits 21 = .ok (.ireturn, 1) := by decide +kernel
theorem dX12_order_0 : decode cX12_order 0 = .ok (.iload_n 1, 1) := by decide +kernel
theorem dX12_order_1 : decode cX12_order 1 = .ok (.ifCond .lt 32, 3) := by decide +kernel
theorem dX12_order_4 : decode cX12_order 4 = .ok (.iload_n 1, 1) := by decide +kernel
theorem dX12_order_5 : decode cX12_order 5 = .ok (.iconst 1, 1) := by decide +kernel
theorem dX12_order_6 : decode cX12_order 6 = .ok (.aload_n 0, 1) := by decide +kernel
theorem dX12_order_7 : decode cX12_order 7 = .ok (.getfield 7, 3) := by decide +kernel
theorem dX12_order_10 : decode cX12_order 10 = .ok (.iconst 1, 1) := by decide +kernel
theorem dX12_order_11 : decode cX12_order 11 = .ok (.laload, 1) := by decide +kernel
theorem dX12_order_12 : decode cX12_order 12 = .ok (.l2i, 1) := by decide +kernel
theorem dX12_order_13 : decode cX12_order 13 = .ok (.ishl, 1) := by decide +kernel
theorem dX12_order_14 : decode cX12_order 14 = .ok (.if_icmp .ge 19, 3) := by decide +kernel
theorem dX12_order_17 : decode cX12_order 17 = .ok (.aload_n 0, 1) := by decide +kernel
theorem dX12_order_18 : decode cX12_order 18 = .ok (.iload_n 2, 1) := by decide +kernel
theorem dX12_order_19 : decode cX12_order 19 = .ok (.invokevirtual 283, 3) := by decide +kernel
theorem dX12_order_22 : decode cX12_order 22 = .ok (.ifCond .eq 11, 3) := by decide +kernel
theorem dX12_order_25 : decode cX12_order 25 = .ok (.iload_n 1, 1) := by decide +kernel
theorem dX12_order_26 : decode cX12_order 26 = .ok (.iload_n 2, 1) := by decide +kernel
theorem dX12_order_27 : decode cX12_order 27 = .ok (.ishr, 1) := by decide +kernel
theorem dX12_order_28 : decode cX12_order 28 = .ok (.iconst 1, 1) := by decide +kernel
theorem dX12_order_29 : decode cX12_order 29 = .ok (.iand, 1) := by decide +kernel
theorem dX12_order_30 : decode cX12_order 30 = .ok (.ifCond .ne 9, 3) := by decide +kernel
theorem dX12_order_33 : decode cX12_order 33 = .ok (.aload_n 0, 1) := by decide +kernel
theorem dX12_order_34 : decode cX12_order 34 = .ok (.iconst 1, 1) := by decide +kernel
theorem dX12_order_35 : decode cX12_order 35 = .ok (.invokevirtual 235, 3) := by decide +kernel
theorem dX12_order_38 : decode cX12_order 38 = .ok (.ireturn, 1) := by decide +kernel
theorem dX12_order_39 : decode cX12_order 39 = .ok (.iconst 0, 1) := by decide +kernel
theorem dX12_order_40 : decode cX12_order 40 = .ok (.istore_n 3, 1) := by decide +kernel
theorem dX12_order_41 : decode cX12_order 41 = .ok (.iload_n 3, 1) := by decide +kernel
theorem dX12_order_42 : decode cX12_order 42 = .ok (.iconst 1, 1) := by decide +kernel
theorem dX12_order_43 : decode cX12_order 43 = .ok (.aload_n 0, 1) := by decide +kernel
theorem dX12_order_44 : decode cX12_order 44 = .ok (.getfield 7, 3) := by decide +kernel
theorem dX12_order_47 : decode cX12_order 47 = .ok (.iconst 1, 1) := by decide +kernel
theorem dX12_order_48 : decode cX12_order 48 = .ok (.laload, 1) := by decide +kernel
theorem dX12_order_49 : decode cX12_order 49 = .ok (.l2i, 1) := by decide +kernel
theorem dX12_order_50 : decode cX12_order 50 = .ok (.ishl, 1) := by decide +kernel
theorem dX12_order_51 : decode cX12_order 51 = .ok (.if_icmp .ge 158, 3) := by decide +kernel
theorem dX12_order_54 : decode cX12_order 54 = .ok (.iconst 0, 1) := by decide +kernel
theorem dX12_order_55 : decode cX12_order 55 = .ok (.istore 4, 2) := by decide +kernel
theorem dX12_order_57 : decode cX12_order 57 = .ok (.iload 4, 2) := by decide +kernel
theorem dX12_order_59 : decode cX12_order 59 = .ok (.i2l, 1) := by decide +kernel
theorem dX12_order_60 : decode cX12_order 60 = .ok (.aload_n 0, 1) := by decide +kernel
theorem dX12_order_61 : decode cX12_order 61 = .ok (.getfield 7, 3) := by decide +kernel
theorem dX12_order_64 : decode cX12_order 64 = .ok (.iconst 1, 1) := by decide +kernel
theorem dX12_order_65 : decode cX12_order 65 = .ok (.laload, 1) := by decide +kernel
theorem dX12_order_66 : decode cX12_order 66 = .ok (.lcmp, 1) := by decide +kernel
theorem dX12_order_67 : decode cX12_order 67 = .ok (.ifCond .ge 136, 3) := by decide +kernel
theorem dX12_order_70 : decode cX12_order 70 = .ok (.aload_n 0, 1) := by decide +kernel
theorem dX12_order_71 : decode cX12_order 71 = .ok (.getfield 87, 3) := by decide +kernel
theorem dX12_order_74 : decode cX12_order 74 = .ok (.bipush 7, 2) := by decide +kernel
theorem dX12_order_76 : decode cX12_order 76 = .ok (.iload_n 3, 1) := by decide +kernel
theorem dX12_order_77 : decode cX12_order 77 = .ok (.imul, 1) := by decide +kernel
theorem dX12_order_78 : decode cX12_order 78 = .ok (.iload 4, 2) := by decide +kernel
theorem dX12_order_80 : decode cX12_order 80 = .ok (.iadd, 1) := by decide +kernel
theorem dX12_order_81 : decode cX12_order 81 = .ok (.iload_n 3, 1) := by decide +kernel
theorem dX12_order_82 : decode cX12_order 82 = .ok (.ifCond .ne 7, 3) := by decide +kernel
theorem dX12_order_85 : decode cX12_order 85 = .ok (.iconst 0, 1) := by decide +kernel
theorem dX12_order_86 : decode cX12_order 86 = .ok (.goto 6, 3) := by decide +kernel
theorem dX12_order_89 : decode cX12_order 89 = .ok (.ldc_w 400, 3) := by decide +kernel
theorem dX12_order_92 : decode cX12_order 92 = .ok (.iastore, 1) := by decide +kernel
theorem dX12_order_93 : decode cX12_order 93 = .ok (.iconst 0, 1) := by decide +kernel
theorem dX12_order_94 : decode cX12_order 94 = .ok (.istore 5, 2) := by decide +kernel
theorem dX12_order_96 : decode cX12_order 96 = .ok (.iload 5, 2) := by decide +kernel
theorem dX12_order_98 : decode cX12_order 98 = .ok (.i2l, 1) := by decide +kernel
theorem dX12_order_99 : decode cX12_order 99 = .ok (.aload_n 0, 1) := by decide +kernel
theorem dX12_order_100 : decode cX12_order 100 = .ok (.getfield 7, 3) := by decide +kernel
theorem dX12_order_103 : decode cX12_order 103 = .ok (.iconst 1, 1) := by decide +kernel
theorem dX12_order_104 : decode cX12_order 104 = .ok (.laload, 1) := by decide +kernel
theorem dX12_order_105 : decode cX12_order 105 = .ok (.lcmp, 1) := by decide +kernel
theorem dX12_order_106 : decode cX12_order 106 = .ok (.ifCond .ge 91, 3) := by decide +kernel
theorem dX12_order_109 : decode cX12_order 109 = .ok (.iload_n 3, 1) := by decide +kernel
theorem dX12_order_110 : decode cX12_order 110 = .ok (.iload 5, 2) := by decide +kernel
theorem dX12_order_112 : decode cX12_order 112 = .ok (.ishr, 1) := by decide +kernel
theorem dX12_order_113 : decode cX12_order 113 = .ok (.iconst 1, 1) := by decide +kernel
theorem dX12_order_114 : decode cX12_order 114 = .ok (.iand, 1) := by decide +kernel
theorem dX12_order_115 : decode cX12_order 115 = .ok (.iconst 1, 1) := by decide +kernel
theorem dX12_order_116 : decode cX12_order 116 = .ok (.if_icmp .ne 75, 3) := by decide +kernel
theorem dX12_order_119 : decode cX12_order 119 = .ok (.iload 5, 2) := by decide +kernel
theorem dX12_order_121 : decode cX12_order 121 = .ok (.iload 4, 2) := by decide +kernel
theorem dX12_order_123 : decode cX12_order 123 = .ok (.if_icmp .eq 68, 3) := by decide +kernel
theorem dX12_order_126 : decode cX12_order 126 = .ok (.aload_n 0, 1) := by decide +kernel
theorem dX12_order_127 : decode cX12_order 127 = .ok (.getfield 87, 3) := by decide +kernel
theorem dX12_order_130 : decode cX12_order 130 = .ok (.bipush 7, 2) := by decide +kernel
theorem dX12_order_132 : decode cX12_order 132 = .ok (.iload_n 3, 1) := by decide +kernel
theorem dX12_order_133 : decode cX12_order 133 = .ok (.imul, 1) := by decide +kernel
theorem dX12_order_134 : decode cX12_order 134 = .ok (.iload 4, 2) := by decide +kernel
theorem dX12_order_136 : decode cX12_order 136 = .ok (.iadd, 1) := by decide +kernel
theorem dX12_order_137 : decode cX12_order 137 = .ok (.aload_n 0, 1) := by decide +kernel
theorem dX12_order_138 : decode cX12_order 138 = .ok (.getfield 87, 3) := by decide +kernel
theorem dX12_order_141 : decode cX12_order 141 = .ok (.bipush 7, 2) := by decide +kernel
theorem dX12_order_143 : decode cX12_order 143 = .ok (.iload_n 3, 1) := by decide +kernel
theorem dX12_order_144 : decode cX12_order 144 = .ok (.imul, 1) := by decide +kernel
theorem dX12_order_145 : decode cX12_order 145 = .ok (.iload 4, 2) := by decide +kernel
theorem dX12_order_147 : decode cX12_order 147 = .ok (.iadd, 1) := by decide +kernel
theorem dX12_order_148 : decode cX12_order 148 = .ok (.iaload, 1) := by decide +kernel
theorem dX12_order_149 : decode cX12_order 149 = .ok (.aload_n 0, 1) := by decide +kernel
theorem dX12_order_150 : decode cX12_order 150 = .ok (.getfield 7, 3) := by decide +kernel
theorem dX12_order_153 : decode cX12_order 153 = .ok (.sipush 140, 3) := by decide +kernel
theorem dX12_order_156 : decode cX12_order 156 = .ok (.bipush 7, 2) := by decide +kernel
theorem dX12_order_158 : decode cX12_order 158 = .ok (.iload 4, 2) := by decide +kernel
theorem dX12_order_160 : decode cX12_order 160 = .ok (.imul, 1) := by decide +kernel
theorem dX12_order_161 : decode cX12_order 161 = .ok (.iadd, 1) := by decide +kernel
theorem dX12_order_162 : decode cX12_order 162 = .ok (.iload 5, 2) := by decide +kernel
theorem dX12_order_164 : decode cX12_order 164 = .ok (.iadd, 1) := by decide +kernel
theorem dX12_order_165 : decode cX12_order 165 = .ok (.laload, 1) := by decide +kernel
theorem dX12_order_166 : decode cX12_order 166 = .ok (.l2i, 1) := by decide +kernel
theorem dX12_order_167 : decode cX12_order 167 = .ok (.aload_n 0, 1) := by decide +kernel
theorem dX12_order_168 : decode cX12_order 168 = .ok (.getfield 87, 3) := by decide +kernel
theorem dX12_order_171 : decode cX12_order 171 = .ok (.bipush 7, 2) := by decide +kernel
theorem dX12_order_173 : decode cX12_order 173 = .ok (.iload_n 3, 1) := by decide +kernel
theorem dX12_order_174 : decode cX12_order 174 = .ok (.iconst 1, 1) := by decide +kernel
theorem dX12_order_175 : decode cX12_order 175 = .ok (.iload 5, 2) := by decide +kernel
theorem dX12_order_177 : decode cX12_order 177 = .ok (.ishl, 1) := by decide +kernel
theorem dX12_order_178 : decode cX12_order 178 = .ok (.iconst (-1), 1) := by decide +kernel
theorem dX12_order_179 : decode cX12_order 179 = .ok (.ixor, 1) := by decide +kernel
theorem dX12_order_180 : decode cX12_order 180 = .ok (.iand, 1) := by decide +kernel
theorem dX12_order_181 : decode cX12_order 181 = .ok (.imul, 1) := by decide +kernel
theorem dX12_order_182 : decode cX12_order 182 = .ok (.iload 5, 2) := by decide +kernel
theorem dX12_order_184 : decode cX12_order 184 = .ok (.iadd, 1) := by decide +kernel
theorem dX12_order_185 : decode cX12_order 185 = .ok (.iaload, 1) := by decide +kernel
theorem dX12_order_186 : decode cX12_order 186 = .ok (.iadd, 1) := by decide +kernel
theorem dX12_order_187 : decode cX12_order 187 = .ok (.invokestatic 162, 3) := by decide +kernel
theorem dX12_order_190 : decode cX12_order 190 = .ok (.iastore, 1) := by decide +kernel
theorem dX12_order_191 : decode cX12_order 191 = .ok (.iinc 5 1, 3) := by decide +kernel
theorem dX12_order_194 : decode cX12_order 194 = .ok (.goto (-98), 3) := by decide +kernel
theorem dX12_order_197 : decode cX12_order 197 = .ok (.iinc 4 1, 3) := by decide +kernel
theorem dX12_order_200 : decode cX12_order 200 = .ok (.goto (-143), 3) := by decide +kernel
theorem dX12_order_203 : decode cX12_order 203 = .ok (.iinc 3 1, 3) := by decide +kernel
theorem dX12_order_206 : decode cX12_order 206 = .ok (.goto (-165), 3) := by decide +kernel
theorem dX12_order_209 : decode cX12_order 209 = .ok (.iload_n 1, 1) := by decide +kernel
theorem dX12_order_210 : decode cX12_order 210 = .ok (.iconst 1, 1) := by decide +kernel
theorem dX12_order_211 : decode cX12_order 211 = .ok (.iload_n 2, 1) := by decide +kernel
theorem dX12_order_212 : decode cX12_order 212 = .ok (.ishl, 1) := by decide +kernel
theorem dX12_order_213 : decode cX12_order 213 = .ok (.iconst (-1), 1) := by decide +kernel
theorem dX12_order_214 : decode cX12_order 214 = .ok (.ixor, 1) := by decide +kernel
theorem dX12_order_215 : decode cX12_order 215 = .ok (.iand, 1) := by decide +kernel
theorem dX12_order_216 : decode cX12_order 216 = .ok (.istore_n 3, 1) := by decide +kernel
theorem dX12_order_217 : decode cX12_order 217 = .ok (.aload_n 0, 1) := by decide +kernel
theorem dX12_order_218 : decode cX12_order 218 = .ok (.getfield 87, 3) := by decide +kernel
theorem dX12_order_221 : decode cX12_order 221 = .ok (.bipush 7, 2) := by decide +kernel
theorem dX12_order_223 : decode cX12_order 223 = .ok (.iload_n 3, 1) := by decide +kernel
theorem dX12_order_224 : decode cX12_order 224 = .ok (.imul, 1) := by decide +kernel
theorem dX12_order_225 : decode cX12_order 225 = .ok (.iload_n 2, 1) := by decide +kernel
theorem dX12_order_226 : decode cX12_order 226 = .ok (.iadd, 1) := by decide +kernel
theorem dX12_order_227 : decode cX12_order 227 = .ok (.iaload, 1) := by decide +kernel
theorem dX12_order_228 : decode cX12_order 228 = .ok (.istore 4, 2) := by decide +kernel
theorem dX12_order_230 : decode cX12_order 230 = .ok (.aload_n 0, 1) := by decide +kernel
theorem dX12_order_231 : decode cX12_order 231 = .ok (.getfield 90, 3) := by decide +kernel
theorem dX12_order_234 : decode cX12_order 234 = .ok (.iconst 0, 1) := by decide +kernel
theorem dX12_order_235 : decode cX12_order 235 = .ok (.iload_n 2, 1) := by decide +kernel
theorem dX12_order_236 : decode cX12_order 236 = .ok (.iastore, 1) := by decide +kernel
theorem dX12_order_237 : decode cX12_order 237 = .ok (.aload_n 0, 1) := by decide +kernel
theorem dX12_order_238 : decode cX12_order 238 = .ok (.iload_n 1, 1) := by decide +kernel
theorem dX12_order_239 : decode cX12_order 239 = .ok (.invokestatic 401, 3) := by decide +kernel
theorem dX12_order_242 : decode cX12_order 242 = .ok (.putfield 404, 3) := by decide +kernel
theorem dX12_order_245 : decode cX12_order 245 = .ok (.iconst 1, 1) := by decide +kernel
theorem dX12_order_246 : decode cX12_order 246 = .ok (.istore 5, 2) := by decide +kernel
theorem dX12_order_248 : decode cX12_order 248 = .ok (.iload 5, 2) := by decide +kernel
theorem dX12_order_250 : decode cX12_order 250 = .ok (.aload_n 0, 1) := by decide +kernel
theorem dX12_order_251 : decode cX12_order 251 = .ok (.getfield 404, 3) := by decide +kernel
theorem dX12_order_254 : decode cX12_order 254 = .ok (.if_icmp .ge 111, 3) := by decide +kernel
theorem dX12_order_257 : decode cX12_order 257 = .ok (.aload_n 0, 1) := by decide +kernel
theorem dX12_order_258 : decode cX12_order 258 = .ok (.getfield 90, 3) := by decide +kernel
theorem dX12_order_261 : decode cX12_order 261 = .ok (.iload 5, 2) := by decide +kernel
theorem dX12_order_263 : decode cX12_order 263 = .ok (.iconst 1, 1) := by decide +kernel
theorem dX12_order_264 : decode cX12_order 264 = .ok (.isub, 1) := by decide +kernel
theorem dX12_order_265 : decode cX12_order 265 = .ok (.iaload, 1) := by decide +kernel
theorem dX12_order_266 : decode cX12_order 266 = .ok (.istore 6, 2) := by decide +kernel
theorem dX12_order_268 : decode cX12_order 268 = .ok (.iconst 0, 1) := by decide +kernel
theorem dX12_order_269 : decode cX12_order 269 = .ok (.istore 7, 2) := by decide +kernel
theorem dX12_order_271 : decode cX12_order 271 = .ok (.iload_n 3, 1) := by decide +kernel
theorem dX12_order_272 : decode cX12_order 272 = .ok (.iload 7, 2) := by decide +kernel
theorem dX12_order_274 : decode cX12_order 274 = .ok (.ishr, 1) := by decide +kernel
theorem dX12_order_275 : decode cX12_order 275 = .ok (.iconst 1, 1) := by decide +kernel
theorem dX12_order_276 : decode cX12_order 276 = .ok (.iand, 1) := by decide +kernel
theorem dX12_order_277 : decode cX12_order 277 = .ok (.ifCond .eq 58, 3) := by decide +kernel
theorem dX12_order_280 : decode cX12_order 280 = .ok (.aload_n 0, 1) := by decide +kernel
theorem dX12_order_281 : decode cX12_order 281 = .ok (.getfield 7, 3) := by decide +kernel
theorem dX12_order_284 : decode cX12_order 284 = .ok (.sipush 140, 3) := by decide +kernel
theorem dX12_order_287 : decode cX12_order 287 = .ok (.bipush 7, 2) := by decide +kernel
theorem dX12_order_289 : decode cX12_order 289 = .ok (.iload 6, 2) := by decide +kernel
theorem dX12_order_291 : decode cX12_order 291 = .ok (.imul, 1) := by decide +kernel
theorem dX12_order_292 : decode cX12_order 292 = .ok (.iadd, 1) := by decide +kernel
theorem dX12_order_293 : decode cX12_order 293 = .ok (.iload 7, 2) := by decide +kernel
theorem dX12_order_295 : decode cX12_order 295 = .ok (.iadd, 1) := by decide +kernel
theorem dX12_order_296 : decode cX12_order 296 = .ok (.laload, 1) := by decide +kernel
theorem dX12_order_297 : decode cX12_order 297 = .ok (.aload_n 0, 1) := by decide +kernel
theorem dX12_order_298 : decode cX12_order 298 = .ok (.getfield 87, 3) := by decide +kernel
theorem dX12_order_301 : decode cX12_order 301 = .ok (.bipush 7, 2) := by decide +kernel
theorem dX12_order_303 : decode cX12_order 303 = .ok (.iload_n 3, 1) := by decide +kernel
theorem dX12_order_304 : decode cX12_order 304 = .ok (.iconst 1, 1) := by decide +kernel
theorem dX12_order_305 : decode cX12_order 305 = .ok (.iload 7, 2) := by decide +kernel
theorem dX12_order_307 : decode cX12_order 307 = .ok (.ishl, 1) := by decide +kernel
theorem dX12_order_308 : decode cX12_order 308 = .ok (.iconst (-1), 1) := by decide +kernel
theorem dX12_order_309 : decode cX12_order 309 = .ok (.ixor, 1) := by decide +kernel
theorem dX12_order_310 : decode cX12_order 310 = .ok (.iand, 1) := by decide +kernel
theorem dX12_order_311 : decode cX12_order 311 = .ok (.imul, 1) := by decide +kernel
theorem dX12_order_312 : decode cX12_order 312 = .ok (.iload 7, 2) := by decide +kernel
theorem dX12_order_314 : decode cX12_order 314 = .ok (.iadd, 1) := by decide +kernel
theorem dX12_order_315 : decode cX12_order 315 = .ok (.iaload, 1) := by decide +kernel
theorem dX12_order_316 : decode cX12_order 316 = .ok (.i2l, 1) := by decide +kernel
theorem dX12_order_317 : decode cX12_order 317 = .ok (.ladd, 1) := by decide +kernel
theorem dX12_order_318 : decode cX12_order 318 = .ok (.aload_n 0, 1) := by decide +kernel
theorem dX12_order_319 : decode cX12_order 319 = .ok (.getfield 87, 3) := by decide +kernel
theorem dX12_order_322 : decode cX12_order 322 = .ok (.bipush 7, 2) := by decide +kernel
theorem dX12_order_324 : decode cX12_order 324 = .ok (.iload_n 3, 1) := by decide +kernel
theorem dX12_order_325 : decode cX12_order 325 = .ok (.imul, 1) := by decide +kernel
theorem dX12_order_326 : decode cX12_order 326 = .ok (.iload 6, 2) := by decide +kernel
theorem dX12_order_328 : decode cX12_order 328 = .ok (.iadd, 1) := by decide +kernel
theorem dX12_order_329 : decode cX12_order 329 = .ok (.iaload, 1) := by decide +kernel
theorem dX12_order_330 : decode cX12_order 330 = .ok (.i2l, 1) := by decide +kernel
theorem dX12_order_331 : decode cX12_order 331 = .ok (.lcmp, 1) := by decide +kernel
theorem dX12_order_332 : decode cX12_order 332 = .ok (.ifCond .eq 9, 3) := by decide +kernel
theorem dX12_order_335 : decode cX12_order 335 = .ok (.iinc 7 1, 3) := by decide +kernel
theorem dX12_order_338 : decode cX12_order 338 = .ok (.goto (-67), 3) := by decide +kernel
theorem dX12_order_341 : decode cX12_order 341 = .ok (.aload_n 0, 1) := by decide +kernel
theorem dX12_order_342 : decode cX12_order 342 = .ok (.getfield 90, 3) := by decide +kernel
theorem dX12_order_345 : decode cX12_order 345 = .ok (.iload 5, 2) := by decide +kernel
theorem dX12_order_347 : decode cX12_order 347 = .ok (.iload 7, 2) := by decide +kernel
theorem dX12_order_349 : decode cX12_order 349 = .ok (.iastore, 1) := by decide +kernel
theorem dX12_order_350 : decode cX12_order 350 = .ok (.iload_n 3, 1) := by decide +kernel
theorem dX12_order_351 : decode cX12_order 351 = .ok (.iconst 1, 1) := by decide +kernel
theorem dX12_order_352 : decode cX12_order 352 = .ok (.iload 7, 2) := by decide +kernel
theorem dX12_order_354 : decode cX12_order 354 = .ok (.ishl, 1) := by decide +kernel
theorem dX12_order_355 : decode cX12_order 355 = .ok (.iconst (-1), 1) := by decide +kernel
theorem dX12_order_356 : decode cX12_order 356 = .ok (.ixor, 1) := by decide +kernel
theorem dX12_order_357 : decode cX12_order 357 = .ok (.iand, 1) := by decide +kernel
theorem dX12_order_358 : decode cX12_order 358 = .ok (.istore_n 3, 1) := by decide +kernel
theorem dX12_order_359 : decode cX12_order 359 = .ok (.iinc 5 1, 3) := by decide +kernel
theorem dX12_order_362 : decode cX12_order 362 = .ok (.goto (-114), 3) := by decide +kernel
theorem dX12_order_365 : decode cX12_order 365 = .ok (.aload_n 0, 1) := by decide +kernel
theorem dX12_order_366 : decode cX12_order 366 = .ok (.iload 4, 2) := by decide +kernel
theorem dX12_order_368 : decode cX12_order 368 = .ok (.i2l, 1) := by decide +kernel
theorem dX12_order_369 : decode cX12_order 369 = .ok (.invokevirtual 250, 3) := by decide +kernel
theorem dX12_order_372 : decode cX12_order 372 = .ok (.ireturn, 1) := by decide +kernel
theorem dX12_ordered_0 : decode cX12_ordered 0 = .ok (.iload_n 1, 1) := by decide +kernel
theorem dX12_ordered_1 : decode cX12_ordered 1 = .ok (.ifCond .ge 11, 3) := by decide +kernel
theorem dX12_ordered_4 : decode cX12_ordered 4 = .ok (.aload_n 0, 1) := by decide +kernel
theorem dX12_ordered_5 : decode cX12_ordered 5 = .ok (.iconst 1, 1) := by decide +kernel
theorem dX12_ordered_6 : decode cX12_ordered 6 = .ok (.invokevirtual 235, 3) := by decide +kernel
theorem dX12_ordered_9 : decode cX12_ordered 9 = .ok (.goto 31, 3) := by decide +kernel
theorem dX12_ordered_12 : decode cX12_ordered 12 = .ok (.iload_n 1, 1) := by decide +kernel
theorem dX12_ordered_13 : decode cX12_ordered 13 = .ok (.aload_n 0, 1) := by decide +kernel
theorem dX12_ordered_14 : decode cX12_ordered 14 = .ok (.getfield 404, 3) := by decide +kernel
theorem dX12_ordered_17 : decode cX12_ordered 17 = .ok (.if_icmp .lt 12, 3) := by decide +kernel
theorem dX12_ordered_20 : decode cX12_ordered 20 = .ok (.aload_n 0, 1) := by decide +kernel
theorem dX12_ordered_21 : decode cX12_ordered 21 = .ok (.bipush 6, 2) := by decide +kernel
theorem dX12_ordered_23 : decode cX12_ordered 23 = .ok (.invokevirtual 235, 3) := by decide +kernel
theorem dX12_ordered_26 : decode cX12_ordered 26 = .ok (.goto 14, 3) := by decide +kernel
theorem dX12_ordered_29 : decode cX12_ordered 29 = .ok (.aload_n 0, 1) := by decide +kernel
theorem dX12_ordered_30 : decode cX12_ordered 30 = .ok (.aload_n 0, 1) := by decide +kernel
theorem dX12_ordered_31 : decode cX12_ordered 31 = .ok (.getfield 90, 3) := by decide +kernel
theorem dX12_ordered_34 : decode cX12_ordered 34 = .ok (.iload_n 1, 1) := by decide +kernel
theorem dX12_ordered_35 : decode cX12_ordered 35 = .ok (.iaload, 1) := by decide +kernel
theorem dX12_ordered_36 : decode cX12_ordered 36 = .ok (.i2l, 1) := by decide +kernel
theorem dX12_ordered_37 : decode cX12_ordered 37 = .ok (.invokevirtual 250, 3) := by decide +kernel
theorem dX12_ordered_40 : decode cX12_ordered 40 = .ok (.ireturn, 1) := by decide +kernel
theorem dX12_closes_0 : decode cX12_closes 0 = .ok (.aload_n 0, 1) := by decide +kernel
theorem dX12_closes_1 : decode cX12_closes 1 = .ok (.invokevirtual 280, 3) := by decide +kernel
theorem dX12_closes_4 : decode cX12_closes 4 = .ok (.istore_n 2, 1) := by decide +kernel
theorem dX12_closes_5 : decode cX12_closes 5 = .ok (.aload_n 0, 1) := by decide +kernel
theorem dX12_closes_6 : decode cX12_closes 6 = .ok (.iconst 1, 1) := by decide +kernel
theorem dX12_closes_7 : decode cX12_closes 7 = .ok (.iload_n 1, 1) := by decide +kernel
theorem dX12_closes_8 : decode cX12_closes 8 = .ok (.iconst 4, 1) := by decide +kernel
theorem dX12_closes_9 : decode cX12_closes 9 = .ok (.iload_n 2, 1) := by decide +kernel
theorem dX12_closes_10 : decode cX12_closes 10 = .ok (.imul, 1) := by decide +kernel
theorem dX12_closes_11 : decode cX12_closes 11 = .ok (.lconst 0, 1) := by decide +kernel
theorem dX12_closes_12 : decode cX12_closes 12 = .ok (.ldc2_w 407, 3) := by decide +kernel
theorem dX12_closes_15 : decode cX12_closes 15 = .ok (.invokevirtual 379, 3) := by decide +kernel
theorem dX12_closes_18 : decode cX12_closes 18 = .ok (.istore_n 3, 1) := by decide +kernel
theorem dX12_closes_19 : decode cX12_closes 19 = .ok (.iload_n 3, 1) := by decide +kernel
theorem dX12_closes_20 : decode cX12_closes 20 = .ok (.ifCond .le 9, 3) := by decide +kernel
theorem dX12_closes_23 : decode cX12_closes 23 = .ok (.aload_n 0, 1) := by decide +kernel
theorem dX12_closes_24 : decode cX12_closes 24 = .ok (.iload_n 3, 1) := by decide +kernel
theorem dX12_closes_25 : decode cX12_closes 25 = .ok (.invokevirtual 235, 3) := by decide +kernel
theorem dX12_closes_28 : decode cX12_closes 28 = .ok (.ireturn, 1) := by decide +kernel
theorem dX12_closes_29 : decode cX12_closes 29 = .ok (.iconst 0, 1) := by decide +kernel
theorem dX12_closes_30 : decode cX12_closes 30 = .ok (.istore 4, 2) := by decide +kernel
theorem dX12_closes_32 : decode cX12_closes 32 = .ok (.iload 4, 2) := by decide +kernel
theorem dX12_closes_34 : decode cX12_closes 34 = .ok (.iload_n 2, 1) := by decide +kernel
theorem dX12_closes_35 : decode cX12_closes 35 = .ok (.if_icmp .ge 68, 3) := by decide +kernel
theorem dX12_closes_38 : decode cX12_closes 38 = .ok (.bipush 60, 2) := by decide +kernel
theorem dX12_closes_40 : decode cX12_closes 40 = .ok (.iload_n 1, 1) := by decide +kernel
theorem dX12_closes_41 : decode cX12_closes 41 = .ok (.imul, 1) := by decide +kernel
theorem dX12_closes_42 : decode cX12_closes 42 = .ok (.iconst 4, 1) := by decide +kernel
theorem dX12_closes_43 : decode cX12_closes 43 = .ok (.iload 4, 2) := by decide +kernel
theorem dX12_closes_45 : decode cX12_closes 45 = .ok (.imul, 1) := by decide +kernel
theorem dX12_closes_46 : decode cX12_closes 46 = .ok (.iadd, 1) := by decide +kernel
theorem dX12_closes_47 : decode cX12_closes 47 = .ok (.istore 5, 2) := by decide +kernel
theorem dX12_closes_49 : decode cX12_closes 49 = .ok (.aload_n 0, 1) := by decide +kernel
theorem dX12_closes_50 : decode cX12_closes 50 = .ok (.getfield 24, 3) := by decide +kernel
theorem dX12_closes_53 : decode cX12_closes 53 = .ok (.iload 5, 2) := by decide +kernel
theorem dX12_closes_55 : decode cX12_closes 55 = .ok (.laload, 1) := by decide +kernel
theorem dX12_closes_56 : decode cX12_closes 56 = .ok (.aload_n 0, 1) := by decide +kernel
theorem dX12_closes_57 : decode cX12_closes 57 = .ok (.getfield 24, 3) := by decide +kernel
theorem dX12_closes_60 : decode cX12_closes 60 = .ok (.iload 5, 2) := by decide +kernel
theorem dX12_closes_62 : decode cX12_closes 62 = .ok (.iconst 1, 1) := by decide +kernel
theorem dX12_closes_63 : decode cX12_closes 63 = .ok (.iadd, 1) := by decide +kernel
theorem dX12_closes_64 : decode cX12_closes 64 = .ok (.laload, 1) := by decide +kernel
theorem dX12_closes_65 : decode cX12_closes 65 = .ok (.aload_n 0, 1) := by decide +kernel
theorem dX12_closes_66 : decode cX12_closes 66 = .ok (.getfield 24, 3) := by decide +kernel
theorem dX12_closes_69 : decode cX12_closes 69 = .ok (.iload 5, 2) := by decide +kernel
theorem dX12_closes_71 : decode cX12_closes 71 = .ok (.iconst 2, 1) := by decide +kernel
theorem dX12_closes_72 : decode cX12_closes 72 = .ok (.iadd, 1) := by decide +kernel
theorem dX12_closes_73 : decode cX12_closes 73 = .ok (.laload, 1) := by decide +kernel
theorem dX12_closes_74 : decode cX12_closes 74 = .ok (.ladd, 1) := by decide +kernel
theorem dX12_closes_75 : decode cX12_closes 75 = .ok (.aload_n 0, 1) := by decide +kernel
theorem dX12_closes_76 : decode cX12_closes 76 = .ok (.getfield 24, 3) := by decide +kernel
theorem dX12_closes_79 : decode cX12_closes 79 = .ok (.iload 5, 2) := by decide +kernel
theorem dX12_closes_81 : decode cX12_closes 81 = .ok (.iconst 3, 1) := by decide +kernel
theorem dX12_closes_82 : decode cX12_closes 82 = .ok (.iadd, 1) := by decide +kernel
theorem dX12_closes_83 : decode cX12_closes 83 = .ok (.laload, 1) := by decide +kernel
theorem dX12_closes_84 : decode cX12_closes 84 = .ok (.ladd, 1) := by decide +kernel
theorem dX12_closes_85 : decode cX12_closes 85 = .ok (.lcmp, 1) := by decide +kernel
theorem dX12_closes_86 : decode cX12_closes 86 = .ok (.ifCond .eq 11, 3) := by decide +kernel
theorem dX12_closes_89 : decode cX12_closes 89 = .ok (.aload_n 0, 1) := by decide +kernel
theorem dX12_closes_90 : decode cX12_closes 90 = .ok (.iload 4, 2) := by decide +kernel
theorem dX12_closes_92 : decode cX12_closes 92 = .ok (.i2l, 1) := by decide +kernel
theorem dX12_closes_93 : decode cX12_closes 93 = .ok (.invokevirtual 250, 3) := by decide +kernel
theorem dX12_closes_96 : decode cX12_closes 96 = .ok (.ireturn, 1) := by decide +kernel
theorem dX12_closes_97 : decode cX12_closes 97 = .ok (.iinc 4 1, 3) := by decide +kernel
theorem dX12_closes_100 : decode cX12_closes 100 = .ok (.goto (-68), 3) := by decide +kernel
theorem dX12_closes_103 : decode cX12_closes 103 = .ok (.aload_n 0, 1) := by decide +kernel
theorem dX12_closes_104 : decode cX12_closes 104 = .ok (.ldc2_w 123, 3) := by decide +kernel
theorem dX12_closes_107 : decode cX12_closes 107 = .ok (.invokevirtual 250, 3) := by decide +kernel
theorem dX12_closes_110 : decode cX12_closes 110 = .ok (.ireturn, 1) := by decide +kernel
theorem dX12_recall_0 : decode cX12_recall 0 = .ok (.iload_n 1, 1) := by decide +kernel
theorem dX12_recall_1 : decode cX12_recall 1 = .ok (.i2l, 1) := by decide +kernel
theorem dX12_recall_2 : decode cX12_recall 2 = .ok (.lconst 1, 1) := by decide +kernel
theorem dX12_recall_3 : decode cX12_recall 3 = .ok (.ldc2_w 327, 3) := by decide +kernel
theorem dX12_recall_6 : decode cX12_recall 6 = .ok (.invokestatic 125, 3) := by decide +kernel
theorem dX12_recall_9 : decode cX12_recall 9 = .ok (.ifCond .eq 44, 3) := by decide +kernel
theorem dX12_recall_12 : decode cX12_recall 12 = .ok (.iload 4, 2) := by decide +kernel
theorem dX12_recall_14 : decode cX12_recall 14 = .ok (.ifCond .lt 39, 3) := by decide +kernel
theorem dX12_recall_17 : decode cX12_recall 17 = .ok (.iload 4, 2) := by decide +kernel
theorem dX12_recall_19 : decode cX12_recall 19 = .ok (.iload_n 2, 1) := by decide +kernel
theorem dX12_recall_20 : decode cX12_recall 20 = .ok (.if_icmp .gt 33, 3) := by decide +kernel
theorem dX12_recall_23 : decode cX12_recall 23 = .ok (.iload_n 2, 1) := by decide +kernel
theorem dX12_recall_24 : decode cX12_recall 24 = .ok (.iload_n 3, 1) := by decide +kernel
theorem dX12_recall_25 : decode cX12_recall 25 = .ok (.if_icmp .gt 28, 3) := by decide +kernel
theorem dX12_recall_28 : decode cX12_recall 28 = .ok (.iload_n 3, 1) := by decide +kernel
theorem dX12_recall_29 : decode cX12_recall 29 = .ok (.iload 5, 2) := by decide +kernel
theorem dX12_recall_31 : decode cX12_recall 31 = .ok (.if_icmp .gt 22, 3) := by decide +kernel
theorem dX12_recall_34 : decode cX12_recall 34 = .ok (.iload 5, 2) := by decide +kernel
theorem dX12_recall_36 : decode cX12_recall 36 = .ok (.sipush 9999, 3) := by decide +kernel
theorem dX12_recall_39 : decode cX12_recall 39 = .ok (.if_icmp .gt 14, 3) := by decide +kernel
theorem dX12_recall_42 : decode cX12_recall 42 = .ok (.iload 6, 2) := by decide +kernel
theorem dX12_recall_44 : decode cX12_recall 44 = .ok (.ifCond .lt 9, 3) := by decide +kernel
theorem dX12_recall_47 : decode cX12_recall 47 = .ok (.iload 6, 2) := by decide +kernel
theorem dX12_recall_49 : decode cX12_recall 49 = .ok (.iconst 3, 1) := by decide +kernel
theorem dX12_recall_50 : decode cX12_recall 50 = .ok (.if_icmp .le 9, 3) := by decide +kernel
theorem dX12_recall_53 : decode cX12_recall 53 = .ok (.aload_n 0, 1) := by decide +kernel
theorem dX12_recall_54 : decode cX12_recall 54 = .ok (.iconst 1, 1) := by decide +kernel
theorem dX12_recall_55 : decode cX12_recall 55 = .ok (.invokevirtual 235, 3) := by decide +kernel
theorem dX12_recall_58 : decode cX12_recall 58 = .ok (.ireturn, 1) := by decide +kernel
theorem dX12_recall_59 : decode cX12_recall 59 = .ok (.iload_n 2, 1) := by decide +kernel
theorem dX12_recall_60 : decode cX12_recall 60 = .ok (.iload_n 1, 1) := by decide +kernel
theorem dX12_recall_61 : decode cX12_recall 61 = .ok (.idiv, 1) := by decide +kernel
theorem dX12_recall_62 : decode cX12_recall 62 = .ok (.istore 7, 2) := by decide +kernel
theorem dX12_recall_64 : decode cX12_recall 64 = .ok (.iload_n 3, 1) := by decide +kernel
theorem dX12_recall_65 : decode cX12_recall 65 = .ok (.iload_n 1, 1) := by decide +kernel
theorem dX12_recall_66 : decode cX12_recall 66 = .ok (.idiv, 1) := by decide +kernel
theorem dX12_recall_67 : decode cX12_recall 67 = .ok (.istore 8, 2) := by decide +kernel
theorem dX12_recall_69 : decode cX12_recall 69 = .ok (.iload 4, 2) := by decide +kernel
theorem dX12_recall_71 : decode cX12_recall 71 = .ok (.iload_n 1, 1) := by decide +kernel
theorem dX12_recall_72 : decode cX12_recall 72 = .ok (.idiv, 1) := by decide +kernel
theorem dX12_recall_73 : decode cX12_recall 73 = .ok (.istore 9, 2) := by decide +kernel
theorem dX12_recall_75 : decode cX12_recall 75 = .ok (.iload 5, 2) := by decide +kernel
theorem dX12_recall_77 : decode cX12_recall 77 = .ok (.iload_n 1, 1) := by decide +kernel
theorem dX12_recall_78 : decode cX12_recall 78 = .ok (.idiv, 1) := by decide +kernel
theorem dX12_recall_79 : decode cX12_recall 79 = .ok (.istore 10, 2) := by decide +kernel
theorem dX12_recall_81 : decode cX12_recall 81 = .ok (.iload 7, 2) := by decide +kernel
theorem dX12_recall_83 : decode cX12_recall 83 = .ok (.iload 9, 2) := by decide +kernel
theorem dX12_recall_85 : decode cX12_recall 85 = .ok (.isub, 1) := by decide +kernel
theorem dX12_recall_86 : decode cX12_recall 86 = .ok (.iload 10, 2) := by decide +kernel
theorem dX12_recall_88 : decode cX12_recall 88 = .ok (.iadd, 1) := by decide +kernel
theorem dX12_recall_89 : decode cX12_recall 89 = .ok (.iload 8, 2) := by decide +kernel
theorem dX12_recall_91 : decode cX12_recall 91 = .ok (.isub, 1) := by decide +kernel
theorem dX12_recall_92 : decode cX12_recall 92 = .ok (.istore 11, 2) := by decide +kernel
theorem dX12_recall_94 : decode cX12_recall 94 = .ok (.iload 6, 2) := by decide +kernel
theorem dX12_recall_96 : decode cX12_recall 96 = .ok (.iconst 3, 1) := by decide +kernel
theorem dX12_recall_97 : decode cX12_recall 97 = .ok (.if_icmp .ne 40, 3) := by decide +kernel
theorem dX12_recall_100 : decode cX12_recall 100 = .ok (.iload 11, 2) := by decide +kernel
theorem dX12_recall_102 : decode cX12_recall 102 = .ok (.ifCond .ne 12, 3) := by decide +kernel
theorem dX12_recall_105 : decode cX12_recall 105 = .ok (.aload_n 0, 1) := by decide +kernel
theorem dX12_recall_106 : decode cX12_recall 106 = .ok (.bipush 6, 2) := by decide +kernel
theorem dX12_recall_108 : decode cX12_recall 108 = .ok (.invokevirtual 235, 3) := by decide +kernel
theorem dX12_recall_111 : decode cX12_recall 111 = .ok (.goto 25, 3) := by decide +kernel
theorem dX12_recall_114 : decode cX12_recall 114 = .ok (.aload_n 0, 1) := by decide +kernel
theorem dX12_recall_115 : decode cX12_recall 115 = .ok (.iload 9, 2) := by decide +kernel
theorem dX12_recall_117 : decode cX12_recall 117 = .ok (.iload 7, 2) := by decide +kernel
theorem dX12_recall_119 : decode cX12_recall 119 = .ok (.if_icmp .ge 9, 3) := by decide +kernel
theorem dX12_recall_122 : decode cX12_recall 122 = .ok (.iload 9, 2) := by decide +kernel
theorem dX12_recall_124 : decode cX12_recall 124 = .ok (.i2l, 1) := by decide +kernel
theorem dX12_recall_125 : decode cX12_recall 125 = .ok (.goto 8, 3) := by decide +kernel
theorem dX12_recall_128 : decode cX12_recall 128 = .ok (.iload 8, 2) := by decide +kernel
theorem dX12_recall_130 : decode cX12_recall 130 = .ok (.iconst 1, 1) := by decide +kernel
theorem dX12_recall_131 : decode cX12_recall 131 = .ok (.iadd, 1) := by decide +kernel
theorem dX12_recall_132 : decode cX12_recall 132 = .ok (.i2l, 1) := by decide +kernel
theorem dX12_recall_133 : decode cX12_recall 133 = .ok (.invokevirtual 250, 3) := by decide +kernel
theorem dX12_recall_136 : decode cX12_recall 136 = .ok (.ireturn, 1) := by decide +kernel
theorem dX12_recall_137 : decode cX12_recall 137 = .ok (.aload_n 0, 1) := by decide +kernel
theorem dX12_recall_138 : decode cX12_recall 138 = .ok (.iload 6, 2) := by decide +kernel
theorem dX12_recall_140 : decode cX12_recall 140 = .ok (.ifCond .ne 14, 3) := by decide +kernel
theorem dX12_recall_143 : decode cX12_recall 143 = .ok (.iload 8, 2) := by decide +kernel
theorem dX12_recall_145 : decode cX12_recall 145 = .ok (.iload 7, 2) := by decide +kernel
theorem dX12_recall_147 : decode cX12_recall 147 = .ok (.isub, 1) := by decide +kernel
theorem dX12_recall_148 : decode cX12_recall 148 = .ok (.iconst 1, 1) := by decide +kernel
theorem dX12_recall_149 : decode cX12_recall 149 = .ok (.iadd, 1) := by decide +kernel
theorem dX12_recall_150 : decode cX12_recall 150 = .ok (.i2l, 1) := by decide +kernel
theorem dX12_recall_151 : decode cX12_recall 151 = .ok (.goto 18, 3) := by decide +kernel
theorem dX12_recall_154 : decode cX12_recall 154 = .ok (.iload 6, 2) := by decide +kernel
theorem dX12_recall_156 : decode cX12_recall 156 = .ok (.iconst 1, 1) := by decide +kernel
theorem dX12_recall_157 : decode cX12_recall 157 = .ok (.if_icmp .ne 9, 3) := by decide +kernel
theorem dX12_recall_160 : decode cX12_recall 160 = .ok (.iload 7, 2) := by decide +kernel
theorem dX12_recall_162 : decode cX12_recall 162 = .ok (.i2l, 1) := by decide +kernel
theorem dX12_recall_163 : decode cX12_recall 163 = .ok (.goto 6, 3) := by decide +kernel
theorem dX12_recall_166 : decode cX12_recall 166 = .ok (.iload 11, 2) := by decide +kernel
theorem dX12_recall_168 : decode cX12_recall 168 = .ok (.i2l, 1) := by decide +kernel
theorem dX12_recall_169 : decode cX12_recall 169 = .ok (.invokevirtual 250, 3) := by decide +kernel
theorem dX12_recall_172 : decode cX12_recall 172 = .ok (.ireturn, 1) := by decide +kernel
theorem dX12_lot_0 : decode cX12_lot 0 = .ok (.aload_n 0, 1) := by decide +kernel
theorem dX12_lot_1 : decode cX12_lot 1 = .ok (.iload_n 2, 1) := by decide +kernel
theorem dX12_lot_2 : decode cX12_lot 2 = .ok (.i2l, 1) := by decide +kernel
theorem dX12_lot_3 : decode cX12_lot 3 = .ok (.lconst 1, 1) := by decide +kernel
theorem dX12_lot_4 : decode cX12_lot 4 = .ok (.ldc2_w 409, 3) := by decide +kernel
theorem dX12_lot_7 : decode cX12_lot 7 = .ok (.invokestatic 125, 3) := by decide +kernel
theorem dX12_lot_10 : decode cX12_lot 10 = .ok (.ifCond .eq 19, 3) := by decide +kernel
theorem dX12_lot_13 : decode cX12_lot 13 = .ok (.iload_n 3, 1) := by decide +kernel
theorem dX12_lot_14 : decode cX12_lot 14 = .ok (.i2l, 1) := by decide +kernel
theorem dX12_lot_15 : decode cX12_lot 15 = .ok (.lconst 0, 1) := by decide +kernel
theorem dX12_lot_16 : decode cX12_lot 16 = .ok (.ldc2_w 286, 3) := by decide +kernel
theorem dX12_lot_19 : decode cX12_lot 19 = .ok (.invokestatic 125, 3) := by decide +kernel
theorem dX12_lot_22 : decode cX12_lot 22 = .ok (.ifCond .eq 7, 3) := by decide +kernel
theorem dX12_lot_25 : decode cX12_lot 25 = .ok (.iconst 1, 1) := by decide +kernel
theorem dX12_lot_26 : decode cX12_lot 26 = .ok (.goto 4, 3) := by decide +kernel
theorem dX12_lot_29 : decode cX12_lot 29 = .ok (.iconst 0, 1) := by decide +kernel
theorem dX12_lot_30 : decode cX12_lot 30 = .ok (.iload_n 1, 1) := by decide +kernel
theorem dX12_lot_31 : decode cX12_lot 31 = .ok (.iload_n 2, 1) := by decide +kernel
theorem dX12_lot_32 : decode cX12_lot 32 = .ok (.lconst 0, 1) := by decide +kernel
theorem dX12_lot_33 : decode cX12_lot 33 = .ok (.ldc2_w 286, 3) := by decide +kernel
theorem dX12_lot_36 : decode cX12_lot 36 = .ok (.invokevirtual 379, 3) := by decide +kernel
theorem dX12_lot_39 : decode cX12_lot 39 = .ok (.istore 4, 2) := by decide +kernel
theorem dX12_lot_41 : decode cX12_lot 41 = .ok (.iconst 1, 1) := by decide +kernel
theorem dX12_lot_42 : decode cX12_lot 42 = .ok (.istore 5, 2) := by decide +kernel
theorem dX12_lot_44 : decode cX12_lot 44 = .ok (.iconst 1, 1) := by decide +kernel
theorem dX12_lot_45 : decode cX12_lot 45 = .ok (.istore 6, 2) := by decide +kernel
theorem dX12_lot_47 : decode cX12_lot 47 = .ok (.iload 6, 2) := by decide +kernel
theorem dX12_lot_49 : decode cX12_lot 49 = .ok (.iload_n 2, 1) := by decide +kernel
theorem dX12_lot_50 : decode cX12_lot 50 = .ok (.if_icmp .ge 56, 3) := by decide +kernel
theorem dX12_lot_53 : decode cX12_lot 53 = .ok (.iload 4, 2) := by decide +kernel
theorem dX12_lot_55 : decode cX12_lot 55 = .ok (.ifCond .ne 51, 3) := by decide +kernel
theorem dX12_lot_58 : decode cX12_lot 58 = .ok (.iload 5, 2) := by decide +kernel
theorem dX12_lot_60 : decode cX12_lot 60 = .ok (.ifCond .eq 37, 3) := by decide +kernel
theorem dX12_lot_63 : decode cX12_lot 63 = .ok (.aload_n 0, 1) := by decide +kernel
theorem dX12_lot_64 : decode cX12_lot 64 = .ok (.getfield 24, 3) := by decide +kernel
theorem dX12_lot_67 : decode cX12_lot 67 = .ok (.bipush 60, 2) := by decide +kernel
theorem dX12_lot_69 : decode cX12_lot 69 = .ok (.iload_n 1, 1) := by decide +kernel
theorem dX12_lot_70 : decode cX12_lot 70 = .ok (.imul, 1) := by decide +kernel
theorem dX12_lot_71 : decode cX12_lot 71 = .ok (.iload 6, 2) := by decide +kernel
theorem dX12_lot_73 : decode cX12_lot 73 = .ok (.iadd, 1) := by decide +kernel
theorem dX12_lot_74 : decode cX12_lot 74 = .ok (.laload, 1) := by decide +kernel
theorem dX12_lot_75 : decode cX12_lot 75 = .ok (.aload_n 0, 1) := by decide +kernel
theorem dX12_lot_76 : decode cX12_lot 76 = .ok (.getfield 24, 3) := by decide +kernel
theorem dX12_lot_79 : decode cX12_lot 79 = .ok (.bipush 60, 2) := by decide +kernel
theorem dX12_lot_81 : decode cX12_lot 81 = .ok (.iload_n 1, 1) := by decide +kernel
theorem dX12_lot_82 : decode cX12_lot 82 = .ok (.imul, 1) := by decide +kernel
theorem dX12_lot_83 : decode cX12_lot 83 = .ok (.iload 6, 2) := by decide +kernel
theorem dX12_lot_85 : decode cX12_lot 85 = .ok (.iadd, 1) := by decide +kernel
theorem dX12_lot_86 : decode cX12_lot 86 = .ok (.iconst 1, 1) := by decide +kernel
theorem dX12_lot_87 : decode cX12_lot 87 = .ok (.isub, 1) := by decide +kernel
theorem dX12_lot_88 : decode cX12_lot 88 = .ok (.laload, 1) := by decide +kernel
theorem dX12_lot_89 : decode cX12_lot 89 = .ok (.lcmp, 1) := by decide +kernel
theorem dX12_lot_90 : decode cX12_lot 90 = .ok (.ifCond .le 7, 3) := by decide +kernel
theorem dX12_lot_93 : decode cX12_lot 93 = .ok (.iconst 1, 1) := by decide +kernel
theorem dX12_lot_94 : decode cX12_lot 94 = .ok (.goto 4, 3) := by decide +kernel
theorem dX12_lot_97 : decode cX12_lot 97 = .ok (.iconst 0, 1) := by decide +kernel
theorem dX12_lot_98 : decode cX12_lot 98 = .ok (.istore 5, 2) := by decide +kernel
theorem dX12_lot_100 : decode cX12_lot 100 = .ok (.iinc 6 1, 3) := by decide +kernel
theorem dX12_lot_103 : decode cX12_lot 103 = .ok (.goto (-56), 3) := by decide +kernel
theorem dX12_lot_106 : decode cX12_lot 106 = .ok (.iload 4, 2) := by decide +kernel
theorem dX12_lot_108 : decode cX12_lot 108 = .ok (.ifCond .gt 8, 3) := by decide +kernel
theorem dX12_lot_111 : decode cX12_lot 111 = .ok (.iload 5, 2) := by decide +kernel
theorem dX12_lot_113 : decode cX12_lot 113 = .ok (.ifCond .ne 19, 3) := by decide +kernel
theorem dX12_lot_116 : decode cX12_lot 116 = .ok (.aload_n 0, 1) := by decide +kernel
theorem dX12_lot_117 : decode cX12_lot 117 = .ok (.iload 4, 2) := by decide +kernel
theorem dX12_lot_119 : decode cX12_lot 119 = .ok (.ifCond .le 8, 3) := by decide +kernel
theorem dX12_lot_122 : decode cX12_lot 122 = .ok (.iload 4, 2) := by decide +kernel
theorem dX12_lot_124 : decode cX12_lot 124 = .ok (.goto 4, 3) := by decide +kernel
theorem dX12_lot_127 : decode cX12_lot 127 = .ok (.iconst 5, 1) := by decide +kernel
theorem dX12_lot_128 : decode cX12_lot 128 = .ok (.invokevirtual 235, 3) := by decide +kernel
theorem dX12_lot_131 : decode cX12_lot 131 = .ok (.ireturn, 1) := by decide +kernel
theorem dX12_lot_132 : decode cX12_lot 132 = .ok (.iconst (-1), 1) := by decide +kernel
theorem dX12_lot_133 : decode cX12_lot 133 = .ok (.istore 6, 2) := by decide +kernel
theorem dX12_lot_135 : decode cX12_lot 135 = .ok (.iconst 0, 1) := by decide +kernel
theorem dX12_lot_136 : decode cX12_lot 136 = .ok (.istore 7, 2) := by decide +kernel
theorem dX12_lot_138 : decode cX12_lot 138 = .ok (.iload 7, 2) := by decide +kernel
theorem dX12_lot_140 : decode cX12_lot 140 = .ok (.iload_n 2, 1) := by decide +kernel
theorem dX12_lot_141 : decode cX12_lot 141 = .ok (.if_icmp .ge 36, 3) := by decide +kernel
theorem dX12_lot_144 : decode cX12_lot 144 = .ok (.aload_n 0, 1) := by decide +kernel
theorem dX12_lot_145 : decode cX12_lot 145 = .ok (.getfield 24, 3) := by decide +kernel
theorem dX12_lot_148 : decode cX12_lot 148 = .ok (.bipush 60, 2) := by decide +kernel
theorem dX12_lot_150 : decode cX12_lot 150 = .ok (.iload_n 1, 1) := by decide +kernel
theorem dX12_lot_151 : decode cX12_lot 151 = .ok (.imul, 1) := by decide +kernel
theorem dX12_lot_152 : decode cX12_lot 152 = .ok (.iload 7, 2) := by decide +kernel
theorem dX12_lot_154 : decode cX12_lot 154 = .ok (.iadd, 1) := by decide +kernel
theorem dX12_lot_155 : decode cX12_lot 155 = .ok (.laload, 1) := by decide +kernel
theorem dX12_lot_156 : decode cX12_lot 156 = .ok (.iload_n 3, 1) := by decide +kernel
theorem dX12_lot_157 : decode cX12_lot 157 = .ok (.i2l, 1) := by decide +kernel
theorem dX12_lot_158 : decode cX12_lot 158 = .ok (.lcmp, 1) := by decide +kernel
theorem dX12_lot_159 : decode cX12_lot 159 = .ok (.ifCond .gt 8, 3) := by decide +kernel
theorem dX12_lot_162 : decode cX12_lot 162 = .ok (.iload 7, 2) := by decide +kernel
theorem dX12_lot_164 : decode cX12_lot 164 = .ok (.goto 5, 3) := by decide +kernel
theorem dX12_lot_167 : decode cX12_lot 167 = .ok (.iload 6, 2) := by decide +kernel
theorem dX12_lot_169 : decode cX12_lot 169 = .ok (.istore 6, 2) := by decide +kernel
theorem dX12_lot_171 : decode cX12_lot 171 = .ok (.iinc 7 1, 3) := by decide +kernel
theorem dX12_lot_174 : decode cX12_lot 174 = .ok (.goto (-36), 3) := by decide +kernel
theorem dX12_lot_177 : decode cX12_lot 177 = .ok (.iload 6, 2) := by decide +kernel
theorem dX12_lot_179 : decode cX12_lot 179 = .ok (.iconst (-1), 1) := by decide +kernel
theorem dX12_lot_180 : decode cX12_lot 180 = .ok (.if_icmp .ne 12, 3) := by decide +kernel
theorem dX12_lot_183 : decode cX12_lot 183 = .ok (.aload_n 0, 1) := by decide +kernel
theorem dX12_lot_184 : decode cX12_lot 184 = .ok (.bipush 6, 2) := by decide +kernel
theorem dX12_lot_186 : decode cX12_lot 186 = .ok (.invokevirtual 235, 3) := by decide +kernel
theorem dX12_lot_189 : decode cX12_lot 189 = .ok (.goto 10, 3) := by decide +kernel
theorem dX12_lot_192 : decode cX12_lot 192 = .ok (.aload_n 0, 1) := by decide +kernel
theorem dX12_lot_193 : decode cX12_lot 193 = .ok (.iload 6, 2) := by decide +kernel
theorem dX12_lot_195 : decode cX12_lot 195 = .ok (.i2l, 1) := by decide +kernel
theorem dX12_lot_196 : decode cX12_lot 196 = .ok (.invokevirtual 250, 3) := by decide +kernel
theorem dX12_lot_199 : decode cX12_lot 199 = .ok (.ireturn, 1) := by decide +kernel
theorem dX12_torn_0 : decode cX12_torn 0 = .ok (.aload_n 0, 1) := by decide +kernel
theorem dX12_torn_1 : decode cX12_torn 1 = .ok (.iload_n 2, 1) := by decide +kernel
theorem dX12_torn_2 : decode cX12_torn 2 = .ok (.i2l, 1) := by decide +kernel
theorem dX12_torn_3 : decode cX12_torn 3 = .ok (.lconst 1, 1) := by decide +kernel
theorem dX12_torn_4 : decode cX12_torn 4 = .ok (.ldc2_w 377, 3) := by decide +kernel
theorem dX12_torn_7 : decode cX12_torn 7 = .ok (.invokestatic 125, 3) := by decide +kernel
theorem dX12_torn_10 : decode cX12_torn 10 = .ok (.ifCond .eq 19, 3) := by decide +kernel
theorem dX12_torn_13 : decode cX12_torn 13 = .ok (.iload_n 3, 1) := by decide +kernel
theorem dX12_torn_14 : decode cX12_torn 14 = .ok (.i2l, 1) := by decide +kernel
theorem dX12_torn_15 : decode cX12_torn 15 = .ok (.lconst 0, 1) := by decide +kernel
theorem dX12_torn_16 : decode cX12_torn 16 = .ok (.ldc2_w 286, 3) := by decide +kernel
theorem dX12_torn_19 : decode cX12_torn 19 = .ok (.invokestatic 125, 3) := by decide +kernel
theorem dX12_torn_22 : decode cX12_torn 22 = .ok (.ifCond .eq 7, 3) := by decide +kernel
theorem dX12_torn_25 : decode cX12_torn 25 = .ok (.iconst 1, 1) := by decide +kernel
theorem dX12_torn_26 : decode cX12_torn 26 = .ok (.goto 4, 3) := by decide +kernel
theorem dX12_torn_29 : decode cX12_torn 29 = .ok (.iconst 0, 1) := by decide +kernel
theorem dX12_torn_30 : decode cX12_torn 30 = .ok (.iload_n 1, 1) := by decide +kernel
theorem dX12_torn_31 : decode cX12_torn 31 = .ok (.iload_n 2, 1) := by decide +kernel
theorem dX12_torn_32 : decode cX12_torn 32 = .ok (.ldc2_w 123, 3) := by decide +kernel
theorem dX12_torn_35 : decode cX12_torn 35 = .ok (.ldc2_w 327, 3) := by decide +kernel
theorem dX12_torn_38 : decode cX12_torn 38 = .ok (.invokevirtual 379, 3) := by decide +kernel
theorem dX12_torn_41 : decode cX12_torn 41 = .ok (.istore 4, 2) := by decide +kernel
theorem dX12_torn_43 : decode cX12_torn 43 = .ok (.iload 4, 2) := by decide +kernel
theorem dX12_torn_45 : decode cX12_torn 45 = .ok (.ifCond .le 10, 3) := by decide +kernel
theorem dX12_torn_48 : decode cX12_torn 48 = .ok (.aload_n 0, 1) := by decide +kernel
theorem dX12_torn_49 : decode cX12_torn 49 = .ok (.iload 4, 2) := by decide +kernel
theorem dX12_torn_51 : decode cX12_torn 51 = .ok (.invokevirtual 112, 3) := by decide +kernel
theorem dX12_torn_54 : decode cX12_torn 54 = .ok (.ireturn, 1) := by decide +kernel
theorem dX12_torn_55 : decode cX12_torn 55 = .ok (.iload_n 3, 1) := by decide +kernel
theorem dX12_torn_56 : decode cX12_torn 56 = .ok (.i2l, 1) := by decide +kernel
theorem dX12_torn_57 : decode cX12_torn 57 = .ok (.lstore 5, 2) := by decide +kernel
theorem dX12_torn_59 : decode cX12_torn 59 = .ok (.lconst 0, 1) := by decide +kernel
theorem dX12_torn_60 : decode cX12_torn 60 = .ok (.lstore 7, 2) := by decide +kernel
theorem dX12_torn_62 : decode cX12_torn 62 = .ok (.iconst 0, 1) := by decide +kernel
theorem dX12_torn_63 : decode cX12_torn 63 = .ok (.istore 9, 2) := by decide +kernel
theorem dX12_torn_65 : decode cX12_torn 65 = .ok (.iload 9, 2) := by decide +kernel
theorem dX12_torn_67 : decode cX12_torn 67 = .ok (.iload_n 2, 1) := by decide +kernel
theorem dX12_torn_68 : decode cX12_torn 68 = .ok (.if_icmp .ge 51, 3) := by decide +kernel
theorem dX12_torn_71 : decode cX12_torn 71 = .ok (.aload_n 0, 1) := by decide +kernel
theorem dX12_torn_72 : decode cX12_torn 72 = .ok (.getfield 24, 3) := by decide +kernel
theorem dX12_torn_75 : decode cX12_torn 75 = .ok (.bipush 60, 2) := by decide +kernel
theorem dX12_torn_77 : decode cX12_torn 77 = .ok (.iload_n 1, 1) := by decide +kernel
theorem dX12_torn_78 : decode cX12_torn 78 = .ok (.imul, 1) := by decide +kernel
theorem dX12_torn_79 : decode cX12_torn 79 = .ok (.iload 9, 2) := by decide +kernel
theorem dX12_torn_81 : decode cX12_torn 81 = .ok (.iadd, 1) := by decide +kernel
theorem dX12_torn_82 : decode cX12_torn 82 = .ok (.laload, 1) := by decide +kernel
theorem dX12_torn_83 : decode cX12_torn 83 = .ok (.lstore 10, 2) := by decide +kernel
theorem dX12_torn_85 : decode cX12_torn 85 = .ok (.lload 7, 2) := by decide +kernel
theorem dX12_torn_87 : decode cX12_torn 87 = .ok (.lload 10, 2) := by decide +kernel
theorem dX12_torn_89 : decode cX12_torn 89 = .ok (.lconst 0, 1) := by decide +kernel
theorem dX12_torn_90 : decode cX12_torn 90 = .ok (.lcmp, 1) := by decide +kernel
theorem dX12_torn_91 : decode cX12_torn 91 = .ok (.ifCond .ge 7, 3) := by decide +kernel
theorem dX12_torn_94 : decode cX12_torn 94 = .ok (.lconst 1, 1) := by decide +kernel
theorem dX12_torn_95 : decode cX12_torn 95 = .ok (.goto 4, 3) := by decide +kernel
theorem dX12_torn_98 : decode cX12_torn 98 = .ok (.lconst 0, 1) := by decide +kernel
theorem dX12_torn_99 : decode cX12_torn 99 = .ok (.ladd, 1) := by decide +kernel
theorem dX12_torn_100 : decode cX12_torn 100 = .ok (.lstore 7, 2) := by decide +kernel
theorem dX12_torn_102 : decode cX12_torn 102 = .ok (.lload 5, 2) := by decide +kernel
theorem dX12_torn_104 : decode cX12_torn 104 = .ok (.lconst 0, 1) := by decide +kernel
theorem dX12_torn_105 : decode cX12_torn 105 = .ok (.lload 10, 2) := by decide +kernel
theorem dX12_torn_107 : decode cX12_torn 107 = .ok (.invokestatic 265, 3) := by decide +kernel
theorem dX12_torn_110 : decode cX12_torn 110 = .ok (.lsub, 1) := by decide +kernel
theorem dX12_torn_111 : decode cX12_torn 111 = .ok (.lstore 5, 2) := by decide +kernel
theorem dX12_torn_113 : decode cX12_torn 113 = .ok (.iinc 9 1, 3) := by decide +kernel
theorem dX12_torn_116 : decode cX12_torn 116 = .ok (.goto (-51), 3) := by decide +kernel
theorem dX12_torn_119 : decode cX12_torn 119 = .ok (.lload 7, 2) := by decide +kernel
theorem dX12_torn_121 : decode cX12_torn 121 = .ok (.lconst 0, 1) := by decide +kernel
theorem dX12_torn_122 : decode cX12_torn 122 = .ok (.lcmp, 1) := by decide +kernel
theorem dX12_torn_123 : decode cX12_torn 123 = .ok (.ifCond .eq 22, 3) := by decide +kernel
theorem dX12_torn_126 : decode cX12_torn 126 = .ok (.lload 5, 2) := by decide +kernel
theorem dX12_torn_128 : decode cX12_torn 128 = .ok (.lconst 0, 1) := by decide +kernel
theorem dX12_torn_129 : decode cX12_torn 129 = .ok (.lcmp, 1) := by decide +kernel
theorem dX12_torn_130 : decode cX12_torn 130 = .ok (.ifCond .lt 15, 3) := by decide +kernel
theorem dX12_torn_133 : decode cX12_torn 133 = .ok (.lload 5, 2) := by decide +kernel
theorem dX12_torn_135 : decode cX12_torn 135 = .ok (.ldc2_w 327, 3) := by decide +kernel
theorem dX12_torn_138 : decode cX12_torn 138 = .ok (.lload 7, 2) := by decide +kernel
theorem dX12_torn_140 : decode cX12_torn 140 = .ok (.lmul, 1) := by decide +kernel
theorem dX12_torn_141 : decode cX12_torn 141 = .ok (.lcmp, 1) := by decide +kernel
theorem dX12_torn_142 : decode cX12_torn 142 = .ok (.ifCond .le 12, 3) := by decide +kernel
theorem dX12_torn_145 : decode cX12_torn 145 = .ok (.aload_n 0, 1) := by decide +kernel
theorem dX12_torn_146 : decode cX12_torn 146 = .ok (.bipush 6, 2) := by decide +kernel
theorem dX12_torn_148 : decode cX12_torn 148 = .ok (.invokevirtual 112, 3) := by decide +kernel
theorem dX12_torn_151 : decode cX12_torn 151 = .ok (.goto 11, 3) := by decide +kernel
theorem dX12_torn_154 : decode cX12_torn 154 = .ok (.aload_n 0, 1) := by decide +kernel
theorem dX12_torn_155 : decode cX12_torn 155 = .ok (.lload 5, 2) := by decide +kernel
theorem dX12_torn_157 : decode cX12_torn 157 = .ok (.lload 7, 2) := by decide +kernel
theorem dX12_torn_159 : decode cX12_torn 159 = .ok (.invokevirtual 320, 3) := by decide +kernel
theorem dX12_torn_162 : decode cX12_torn 162 = .ok (.ireturn, 1) := by decide +kernel
theorem dX12_holds_0 : decode cX12_holds 0 = .ok (.iconst 0, 1) := by decide +kernel
theorem dX12_holds_1 : decode cX12_holds 1 = .ok (.istore 5, 2) := by decide +kernel
theorem dX12_holds_3 : decode cX12_holds 3 = .ok (.iconst 0, 1) := by decide +kernel
theorem dX12_holds_4 : decode cX12_holds 4 = .ok (.istore 6, 2) := by decide +kernel
theorem dX12_holds_6 : decode cX12_holds 6 = .ok (.iload 6, 2) := by decide +kernel
theorem dX12_holds_8 : decode cX12_holds 8 = .ok (.bipush 8, 2) := by decide +kernel
theorem dX12_holds_10 : decode cX12_holds 10 = .ok (.if_icmp .ge 17, 3) := by decide +kernel
theorem dX12_holds_13 : decode cX12_holds 13 = .ok (.aload_n 0, 1) := by decide +kernel
theorem dX12_holds_14 : decode cX12_holds 14 = .ok (.getfield 99, 3) := by decide +kernel
theorem dX12_holds_17 : decode cX12_holds 17 = .ok (.iload 6, 2) := by decide +kernel
theorem dX12_holds_19 : decode cX12_holds 19 = .ok (.iconst 0, 1) := by decide +kernel
theorem dX12_holds_20 : decode cX12_holds 20 = .ok (.iastore, 1) := by decide +kernel
theorem dX12_holds_21 : decode cX12_holds 21 = .ok (.iinc 6 1, 3) := by decide +kernel
theorem dX12_holds_24 : decode cX12_holds 24 = .ok (.goto (-18), 3) := by decide +kernel
theorem dX12_holds_27 : decode cX12_holds 27 = .ok (.aload_n 0, 1) := by decide +kernel
theorem dX12_holds_28 : decode cX12_holds 28 = .ok (.getfield 93, 3) := by decide +kernel
theorem dX12_holds_31 : decode cX12_holds 31 = .ok (.iconst 0, 1) := by decide +kernel
theorem dX12_holds_32 : decode cX12_holds 32 = .ok (.iconst (-1), 1) := by decide +kernel
theorem dX12_holds_33 : decode cX12_holds 33 = .ok (.iastore, 1) := by decide +kernel
theorem dX12_holds_34 : decode cX12_holds 34 = .ok (.iload 5, 2) := by decide +kernel
theorem dX12_holds_36 : decode cX12_holds 36 = .ok (.ifCond .lt 193, 3) := by decide +kernel
theorem dX12_holds_39 : decode cX12_holds 39 = .ok (.aload_n 0, 1) := by decide +kernel
theorem dX12_holds_40 : decode cX12_holds 40 = .ok (.getfield 24, 3) := by decide +kernel
theorem dX12_holds_43 : decode cX12_holds 43 = .ok (.bipush 60, 2) := by decide +kernel
theorem dX12_holds_45 : decode cX12_holds 45 = .ok (.iload_n 1, 1) := by decide +kernel
theorem dX12_holds_46 : decode cX12_holds 46 = .ok (.imul, 1) := by decide +kernel
theorem dX12_holds_47 : decode cX12_holds 47 = .ok (.iload 5, 2) := by decide +kernel
theorem dX12_holds_49 : decode cX12_holds 49 = .ok (.iadd, 1) := by decide +kernel
theorem dX12_holds_50 : decode cX12_holds 50 = .ok (.laload, 1) := by decide +kernel
theorem dX12_holds_51 : decode cX12_holds 51 = .ok (.l2i, 1) := by decide +kernel
theorem dX12_holds_52 : decode cX12_holds 52 = .ok (.istore 6, 2) := by decide +kernel
theorem dX12_holds_54 : decode cX12_holds 54 = .ok (.aload_n 0, 1) := by decide +kernel
theorem dX12_holds_55 : decode cX12_holds 55 = .ok (.getfield 93, 3) := by decide +kernel
theorem dX12_holds_58 : decode cX12_holds 58 = .ok (.iload 5, 2) := by decide +kernel
theorem dX12_holds_60 : decode cX12_holds 60 = .ok (.iaload, 1) := by decide +kernel
theorem dX12_holds_61 : decode cX12_holds 61 = .ok (.iconst (-1), 1) := by decide +kernel
theorem dX12_holds_62 : decode cX12_holds 62 = .ok (.if_icmp .eq 20, 3) := by decide +kernel
theorem dX12_holds_65 : decode cX12_holds 65 = .ok (.aload_n 0, 1) := by decide +kernel
theorem dX12_holds_66 : decode cX12_holds 66 = .ok (.getfield 99, 3) := by decide +kernel
theorem dX12_holds_69 : decode cX12_holds 69 = .ok (.aload_n 0, 1) := by decide +kernel
theorem dX12_holds_70 : decode cX12_holds 70 = .ok (.getfield 93, 3) := by decide +kernel
theorem dX12_holds_73 : decode cX12_holds 73 = .ok (.iload 5, 2) := by decide +kernel
theorem dX12_holds_75 : decode cX12_holds 75 = .ok (.iaload, 1) := by decide +kernel
theorem dX12_holds_76 : decode cX12_holds 76 = .ok (.dup2, 1) := by decide +kernel
theorem dX12_holds_77 : decode cX12_holds 77 = .ok (.iaload, 1) := by decide +kernel
theorem dX12_holds_78 : decode cX12_holds 78 = .ok (.iload 6, 2) := by decide +kernel
theorem dX12_holds_80 : decode cX12_holds 80 = .ok (.isub, 1) := by decide +kernel
theorem dX12_holds_81 : decode cX12_holds 81 = .ok (.iastore, 1) := by decide +kernel
theorem dX12_holds_82 : decode cX12_holds 82 = .ok (.iconst (-1), 1) := by decide +kernel
theorem dX12_holds_83 : decode cX12_holds 83 = .ok (.istore 7, 2) := by decide +kernel
theorem dX12_holds_85 : decode cX12_holds 85 = .ok (.iconst 0, 1) := by decide +kernel
theorem dX12_holds_86 : decode cX12_holds 86 = .ok (.istore 8, 2) := by decide +kernel
theorem dX12_holds_88 : decode cX12_holds 88 = .ok (.iload 8, 2) := by decide +kernel
theorem dX12_holds_90 : decode cX12_holds 90 = .ok (.iload 5, 2) := by decide +kernel
theorem dX12_holds_92 : decode cX12_holds 92 = .ok (.if_icmp .ge 23, 3) := by decide +kernel
theorem dX12_holds_95 : decode cX12_holds 95 = .ok (.iload 7, 2) := by decide +kernel
theorem dX12_holds_97 : decode cX12_holds 97 = .ok (.aload_n 0, 1) := by decide +kernel
theorem dX12_holds_98 : decode cX12_holds 98 = .ok (.getfield 93, 3) := by decide +kernel
theorem dX12_holds_101 : decode cX12_holds 101 = .ok (.iload 8, 2) := by decide +kernel
theorem dX12_holds_103 : decode cX12_holds 103 = .ok (.iaload, 1) := by decide +kernel
theorem dX12_holds_104 : decode cX12_holds 104 = .ok (.invokestatic 398, 3) := by decide +kernel
theorem dX12_holds_107 : decode cX12_holds 107 = .ok (.istore 7, 2) := by decide +kernel
theorem dX12_holds_109 : decode cX12_holds 109 = .ok (.iinc 8 1, 3) := by decide +kernel
theorem dX12_holds_112 : decode cX12_holds 112 = .ok (.goto (-24), 3) := by decide +kernel
theorem dX12_holds_115 : decode cX12_holds 115 = .ok (.aload_n 0, 1) := by decide +kernel
theorem dX12_holds_116 : decode cX12_holds 116 = .ok (.getfield 93, 3) := by decide +kernel
theorem dX12_holds_119 : decode cX12_holds 119 = .ok (.iload 5, 2) := by decide +kernel
theorem dX12_holds_121 : decode cX12_holds 121 = .ok (.iaload, 1) := by decide +kernel
theorem dX12_holds_122 : decode cX12_holds 122 = .ok (.iconst 1, 1) := by decide +kernel
theorem dX12_holds_123 : decode cX12_holds 123 = .ok (.iadd, 1) := by decide +kernel
theorem dX12_holds_124 : decode cX12_holds 124 = .ok (.istore 8, 2) := by decide +kernel
theorem dX12_holds_126 : decode cX12_holds 126 = .ok (.iload 8, 2) := by decide +kernel
theorem dX12_holds_128 : decode cX12_holds 128 = .ok (.iload 7, 2) := by decide +kernel
theorem dX12_holds_130 : decode cX12_holds 130 = .ok (.iconst 1, 1) := by decide +kernel
theorem dX12_holds_131 : decode cX12_holds 131 = .ok (.iadd, 1) := by decide +kernel
theorem dX12_holds_132 : decode cX12_holds 132 = .ok (.if_icmp .gt 30, 3) := by decide +kernel
theorem dX12_holds_135 : decode cX12_holds 135 = .ok (.iload 8, 2) := by decide +kernel
theorem dX12_holds_137 : decode cX12_holds 137 = .ok (.iload 4, 2) := by decide +kernel
theorem dX12_holds_139 : decode cX12_holds 139 = .ok (.if_icmp .ge 23, 3) := by decide +kernel
theorem dX12_holds_142 : decode cX12_holds 142 = .ok (.aload_n 0, 1) := by decide +kernel
theorem dX12_holds_143 : decode cX12_holds 143 = .ok (.getfield 99, 3) := by decide +kernel
theorem dX12_holds_146 : decode cX12_holds 146 = .ok (.iload 8, 2) := by decide +kernel
theorem dX12_holds_148 : decode cX12_holds 148 = .ok (.iaload, 1) := by decide +kernel
theorem dX12_holds_149 : decode cX12_holds 149 = .ok (.iload 6, 2) := by decide +kernel
theorem dX12_holds_151 : decode cX12_holds 151 = .ok (.iadd, 1) := by decide +kernel
theorem dX12_holds_152 : decode cX12_holds 152 = .ok (.iload_n 3, 1) := by decide +kernel
theorem dX12_holds_153 : decode cX12_holds 153 = .ok (.if_icmp .le 9, 3) := by decide +kernel
theorem dX12_holds_156 : decode cX12_holds 156 = .ok (.iinc 8 1, 3) := by decide +kernel
theorem dX12_holds_159 : decode cX12_holds 159 = .ok (.goto (-33), 3) := by decide +kernel
theorem dX12_holds_162 : decode cX12_holds 162 = .ok (.iload 8, 2) := by decide +kernel
theorem dX12_holds_164 : decode cX12_holds 164 = .ok (.iload 7, 2) := by decide +kernel
theorem dX12_holds_166 : decode cX12_holds 166 = .ok (.iconst 1, 1) := by decide +kernel
theorem dX12_holds_167 : decode cX12_holds 167 = .ok (.iadd, 1) := by decide +kernel
theorem dX12_holds_168 : decode cX12_holds 168 = .ok (.if_icmp .gt 10, 3) := by decide +kernel
theorem dX12_holds_171 : decode cX12_holds 171 = .ok (.iload 8, 2) := by decide +kernel
theorem dX12_holds_173 : decode cX12_holds 173 = .ok (.iload 4, 2) := by decide +kernel
theorem dX12_holds_175 : decode cX12_holds 175 = .ok (.if_icmp .lt 9, 3) := by decide +kernel
theorem dX12_holds_178 : decode cX12_holds 178 = .ok (.iinc 5 (-1), 3) := by decide +kernel
theorem dX12_holds_181 : decode cX12_holds 181 = .ok (.goto (-147), 3) := by decide +kernel
theorem dX12_holds_184 : decode cX12_holds 184 = .ok (.aload_n 0, 1) := by decide +kernel
theorem dX12_holds_185 : decode cX12_holds 185 = .ok (.getfield 93, 3) := by decide +kernel
theorem dX12_holds_188 : decode cX12_holds 188 = .ok (.iload 5, 2) := by decide +kernel
theorem dX12_holds_190 : decode cX12_holds 190 = .ok (.iload 8, 2) := by decide +kernel
theorem dX12_holds_192 : decode cX12_holds 192 = .ok (.iastore, 1) := by decide +kernel
theorem dX12_holds_193 : decode cX12_holds 193 = .ok (.aload_n 0, 1) := by decide +kernel
theorem dX12_holds_194 : decode cX12_holds 194 = .ok (.getfield 99, 3) := by decide +kernel
theorem dX12_holds_197 : decode cX12_holds 197 = .ok (.iload 8, 2) := by decide +kernel
theorem dX12_holds_199 : decode cX12_holds 199 = .ok (.dup2, 1) := by decide +kernel
theorem dX12_holds_200 : decode cX12_holds 200 = .ok (.iaload, 1) := by decide +kernel
theorem dX12_holds_201 : decode cX12_holds 201 = .ok (.iload 6, 2) := by decide +kernel
theorem dX12_holds_203 : decode cX12_holds 203 = .ok (.iadd, 1) := by decide +kernel
theorem dX12_holds_204 : decode cX12_holds 204 = .ok (.iastore, 1) := by decide +kernel
theorem dX12_holds_205 : decode cX12_holds 205 = .ok (.iload 5, 2) := by decide +kernel
theorem dX12_holds_207 : decode cX12_holds 207 = .ok (.iload_n 2, 1) := by decide +kernel
theorem dX12_holds_208 : decode cX12_holds 208 = .ok (.iconst 1, 1) := by decide +kernel
theorem dX12_holds_209 : decode cX12_holds 209 = .ok (.isub, 1) := by decide +kernel
theorem dX12_holds_210 : decode cX12_holds 210 = .ok (.if_icmp .ne 5, 3) := by decide +kernel
theorem dX12_holds_213 : decode cX12_holds 213 = .ok (.iconst 1, 1) := by decide +kernel
theorem dX12_holds_214 : decode cX12_holds 214 = .ok (.ireturn, 1) := by decide +kernel
theorem dX12_holds_215 : decode cX12_holds 215 = .ok (.iinc 5 1, 3) := by decide +kernel
theorem dX12_holds_218 : decode cX12_holds 218 = .ok (.aload_n 0, 1) := by decide +kernel
theorem dX12_holds_219 : decode cX12_holds 219 = .ok (.getfield 93, 3) := by decide +kernel
theorem dX12_holds_222 : decode cX12_holds 222 = .ok (.iload 5, 2) := by decide +kernel
theorem dX12_holds_224 : decode cX12_holds 224 = .ok (.iconst (-1), 1) := by decide +kernel
theorem dX12_holds_225 : decode cX12_holds 225 = .ok (.iastore, 1) := by decide +kernel
theorem dX12_holds_226 : decode cX12_holds 226 = .ok (.goto (-192), 3) := by decide +kernel
theorem dX12_holds_229 : decode cX12_holds 229 = .ok (.iconst 0, 1) := by decide +kernel
theorem dX12_holds_230 : decode cX12_holds 230 = .ok (.ireturn, 1) := by decide +kernel
theorem dX12_shifts_0 : decode cX12_shifts 0 = .ok (.aload_n 0, 1) := by decide +kernel
theorem dX12_shifts_1 : decode cX12_shifts 1 = .ok (.iload_n 2, 1) := by decide +kernel
theorem dX12_shifts_2 : decode cX12_shifts 2 = .ok (.i2l, 1) := by decide +kernel
theorem dX12_shifts_3 : decode cX12_shifts 3 = .ok (.lconst 1, 1) := by decide +kernel
theorem dX12_shifts_4 : decode cX12_shifts 4 = .ok (.ldc2_w 294, 3) := by decide +kernel
theorem dX12_shifts_7 : decode cX12_shifts 7 = .ok (.invokestatic 125, 3) := by decide +kernel
theorem dX12_shifts_10 : decode cX12_shifts 10 = .ok (.ifCond .eq 19, 3) := by decide +kernel
theorem dX12_shifts_13 : decode cX12_shifts 13 = .ok (.iload_n 3, 1) := by decide +kernel
theorem dX12_shifts_14 : decode cX12_shifts 14 = .ok (.i2l, 1) := by decide +kernel
theorem dX12_shifts_15 : decode cX12_shifts 15 = .ok (.lconst 1, 1) := by decide +kernel
theorem dX12_shifts_16 : decode cX12_shifts 16 = .ok (.ldc2_w 411, 3) := by decide +kernel
theorem dX12_shifts_19 : decode cX12_shifts 19 = .ok (.invokestatic 125, 3) := by decide +kernel
theorem dX12_shifts_22 : decode cX12_shifts 22 = .ok (.ifCond .eq 7, 3) := by decide +kernel
theorem dX12_shifts_25 : decode cX12_shifts 25 = .ok (.iconst 1, 1) := by decide +kernel
theorem dX12_shifts_26 : decode cX12_shifts 26 = .ok (.goto 4, 3) := by decide +kernel
theorem dX12_shifts_29 : decode cX12_shifts 29 = .ok (.iconst 0, 1) := by decide +kernel
theorem dX12_shifts_30 : decode cX12_shifts 30 = .ok (.iload_n 1, 1) := by decide +kernel
theorem dX12_shifts_31 : decode cX12_shifts 31 = .ok (.iload_n 2, 1) := by decide +kernel
theorem dX12_shifts_32 : decode cX12_shifts 32 = .ok (.lconst 1, 1) := by decide +kernel
theorem dX12_shifts_33 : decode cX12_shifts 33 = .ok (.iload_n 3, 1) := by decide +kernel
theorem dX12_shifts_34 : decode cX12_shifts 34 = .ok (.i2l, 1) := by decide +kernel
theorem dX12_shifts_35 : decode cX12_shifts 35 = .ok (.invokevirtual 379, 3) := by decide +kernel
theorem dX12_shifts_38 : decode cX12_shifts 38 = .ok (.istore 4, 2) := by decide +kernel
theorem dX12_shifts_40 : decode cX12_shifts 40 = .ok (.iload 4, 2) := by decide +kernel
theorem dX12_shifts_42 : decode cX12_shifts 42 = .ok (.ifCond .le 10, 3) := by decide +kernel
theorem dX12_shifts_45 : decode cX12_shifts 45 = .ok (.aload_n 0, 1) := by decide +kernel
theorem dX12_shifts_46 : decode cX12_shifts 46 = .ok (.iload 4, 2) := by decide +kernel
theorem dX12_shifts_48 : decode cX12_shifts 48 = .ok (.invokevirtual 235, 3) := by decide +kernel
theorem dX12_shifts_51 : decode cX12_shifts 51 = .ok (.ireturn, 1) := by decide +kernel
theorem dX12_shifts_52 : decode cX12_shifts 52 = .ok (.iconst 1, 1) := by decide +kernel
theorem dX12_shifts_53 : decode cX12_shifts 53 = .ok (.istore 5, 2) := by decide +kernel
theorem dX12_shifts_55 : decode cX12_shifts 55 = .ok (.aload_n 0, 1) := by decide +kernel
theorem dX12_shifts_56 : decode cX12_shifts 56 = .ok (.iload_n 1, 1) := by decide +kernel
theorem dX12_shifts_57 : decode cX12_shifts 57 = .ok (.iload_n 2, 1) := by decide +kernel
theorem dX12_shifts_58 : decode cX12_shifts 58 = .ok (.iload_n 3, 1) := by decide +kernel
theorem dX12_shifts_59 : decode cX12_shifts 59 = .ok (.iload 5, 2) := by decide +kernel
theorem dX12_shifts_61 : decode cX12_shifts 61 = .ok (.invokevirtual 413, 3) := by decide +kernel
theorem dX12_shifts_64 : decode cX12_shifts 64 = .ok (.ifCond .ne 9, 3) := by decide +kernel
theorem dX12_shifts_67 : decode cX12_shifts 67 = .ok (.iinc 5 1, 3) := by decide +kernel
theorem dX12_shifts_70 : decode cX12_shifts 70 = .ok (.goto (-15), 3) := by decide +kernel
theorem dX12_shifts_73 : decode cX12_shifts 73 = .ok (.iconst 0, 1) := by decide +kernel
theorem dX12_shifts_74 : decode cX12_shifts 74 = .ok (.istore 6, 2) := by decide +kernel
theorem dX12_shifts_76 : decode cX12_shifts 76 = .ok (.iload 6, 2) := by decide +kernel
theorem dX12_shifts_78 : decode cX12_shifts 78 = .ok (.iload_n 2, 1) := by decide +kernel
theorem dX12_shifts_79 : decode cX12_shifts 79 = .ok (.if_icmp .ge 23, 3) := by decide +kernel
theorem dX12_shifts_82 : decode cX12_shifts 82 = .ok (.aload_n 0, 1) := by decide +kernel
theorem dX12_shifts_83 : decode cX12_shifts 83 = .ok (.getfield 96, 3) := by decide +kernel
theorem dX12_shifts_86 : decode cX12_shifts 86 = .ok (.iload 6, 2) := by decide +kernel
theorem dX12_shifts_88 : decode cX12_shifts 88 = .ok (.aload_n 0, 1) := by decide +kernel
theorem dX12_shifts_89 : decode cX12_shifts 89 = .ok (.getfield 93, 3) := by decide +kernel
theorem dX12_shifts_92 : decode cX12_shifts 92 = .ok (.iload 6, 2) := by decide +kernel
theorem dX12_shifts_94 : decode cX12_shifts 94 = .ok (.iaload, 1) := by decide +kernel
theorem dX12_shifts_95 : decode cX12_shifts 95 = .ok (.iastore, 1) := by decide +kernel
theorem dX12_shifts_96 : decode cX12_shifts 96 = .ok (.iinc 6 1, 3) := by decide +kernel
theorem dX12_shifts_99 : decode cX12_shifts 99 = .ok (.goto (-23), 3) := by decide +kernel
theorem dX12_shifts_102 : decode cX12_shifts 102 = .ok (.aload_n 0, 1) := by decide +kernel
theorem dX12_shifts_103 : decode cX12_shifts 103 = .ok (.iload_n 2, 1) := by decide +kernel
theorem dX12_shifts_104 : decode cX12_shifts 104 = .ok (.putfield 417, 3) := by decide +kernel
theorem dX12_shifts_107 : decode cX12_shifts 107 = .ok (.aload_n 0, 1) := by decide +kernel
theorem dX12_shifts_108 : decode cX12_shifts 108 = .ok (.iload 5, 2) := by decide +kernel
theorem dX12_shifts_110 : decode cX12_shifts 110 = .ok (.i2l, 1) := by decide +kernel
theorem dX12_shifts_111 : decode cX12_shifts 111 = .ok (.invokevirtual 250, 3) := by decide +kernel
theorem dX12_shifts_114 : decode cX12_shifts 114 = .ok (.ireturn, 1) := by decide +kernel
theorem dX12_shiftOf_0 : decode cX12_shiftOf 0 = .ok (.iload_n 1, 1) := by decide +kernel
theorem dX12_shiftOf_1 : decode cX12_shiftOf 1 = .ok (.ifCond .ge 11, 3) := by decide +kernel
theorem dX12_shiftOf_4 : decode cX12_shiftOf 4 = .ok (.aload_n 0, 1) := by decide +kernel
theorem dX12_shiftOf_5 : decode cX12_shiftOf 5 = .ok (.iconst 1, 1) := by decide +kernel
theorem dX12_shiftOf_6 : decode cX12_shiftOf 6 = .ok (.invokevirtual 235, 3) := by decide +kernel
theorem dX12_shiftOf_9 : decode cX12_shiftOf 9 = .ok (.goto 31, 3) := by decide +kernel
theorem dX12_shiftOf_12 : decode cX12_shiftOf 12 = .ok (.iload_n 1, 1) := by decide +kernel
theorem dX12_shiftOf_13 : decode cX12_shiftOf 13 = .ok (.aload_n 0, 1) := by decide +kernel
theorem dX12_shiftOf_14 : decode cX12_shiftOf 14 = .ok (.getfield 417, 3) := by decide +kernel
theorem dX12_shiftOf_17 : decode cX12_shiftOf 17 = .ok (.if_icmp .lt 12, 3) := by decide +kernel
theorem dX12_shiftOf_20 : decode cX12_shiftOf 20 = .ok (.aload_n 0, 1) := by decide +kernel
theorem dX12_shiftOf_21 : decode cX12_shiftOf 21 = .ok (.bipush 6, 2) := by decide +kernel
theorem dX12_shiftOf_23 : decode cX12_shiftOf 23 = .ok (.invokevirtual 235, 3) := by decide +kernel
theorem dX12_shiftOf_26 : decode cX12_shiftOf 26 = .ok (.goto 14, 3) := by decide +kernel
theorem dX12_shiftOf_29 : decode cX12_shiftOf 29 = .ok (.aload_n 0, 1) := by decide +kernel
theorem dX12_shiftOf_30 : decode cX12_shiftOf 30 = .ok (.aload_n 0, 1) := by decide +kernel
theorem dX12_shiftOf_31 : decode cX12_shiftOf 31 = .ok (.getfield 96, 3) := by decide +kernel
theorem dX12_shiftOf_34 : decode cX12_shiftOf 34 = .ok (.iload_n 1, 1) := by decide +kernel
theorem dX12_shiftOf_35 : decode cX12_shiftOf 35 = .ok (.iaload, 1) := by decide +kernel
theorem dX12_shiftOf_36 : decode cX12_shiftOf 36 = .ok (.i2l, 1) := by decide +kernel
theorem dX12_shiftOf_37 : decode cX12_shiftOf 37 = .ok (.invokevirtual 250, 3) := by decide +kernel
theorem dX12_shiftOf_40 : decode cX12_shiftOf 40 = .ok (.ireturn, 1) := by decide +kernel
theorem dX12_mark_0 : decode cX12_mark 0 = .ok (.aload_n 0, 1) := by decide +kernel
theorem dX12_mark_1 : decode cX12_mark 1 = .ok (.getfield 420, 3) := by decide +kernel
theorem dX12_mark_4 : decode cX12_mark 4 = .ok (.iconst 3, 1) := by decide +kernel
theorem dX12_mark_5 : decode cX12_mark 5 = .ok (.if_icmp .ne 9, 3) := by decide +kernel
theorem dX12_mark_8 : decode cX12_mark 8 = .ok (.aload_n 0, 1) := by decide +kernel
theorem dX12_mark_9 : decode cX12_mark 9 = .ok (.iconst 4, 1) := by decide +kernel
theorem dX12_mark_10 : decode cX12_mark 10 = .ok (.invokevirtual 235, 3) := by decide +kernel
theorem dX12_mark_13 : decode cX12_mark 13 = .ok (.ireturn, 1) := by decide +kernel
theorem dX12_mark_14 : decode cX12_mark 14 = .ok (.aload_n 0, 1) := by decide +kernel
theorem dX12_mark_15 : decode cX12_mark 15 = .ok (.dup, 1) := by decide +kernel
theorem dX12_mark_16 : decode cX12_mark 16 = .ok (.getfield 420, 3) := by decide +kernel
theorem dX12_mark_19 : decode cX12_mark 19 = .ok (.iconst 1, 1) := by decide +kernel
theorem dX12_mark_20 : decode cX12_mark 20 = .ok (.iadd, 1) := by decide +kernel
theorem dX12_mark_21 : decode cX12_mark 21 = .ok (.putfield 420, 3) := by decide +kernel
theorem dX12_mark_24 : decode cX12_mark 24 = .ok (.aload_n 0, 1) := by decide +kernel
theorem dX12_mark_25 : decode cX12_mark 25 = .ok (.iconst 0, 1) := by decide +kernel
theorem dX12_mark_26 : decode cX12_mark 26 = .ok (.sipush 440, 3) := by decide +kernel
theorem dX12_mark_29 : decode cX12_mark 29 = .ok (.aload_n 0, 1) := by decide +kernel
theorem dX12_mark_30 : decode cX12_mark 30 = .ok (.getfield 420, 3) := by decide +kernel
theorem dX12_mark_33 : decode cX12_mark 33 = .ok (.imul, 1) := by decide +kernel
theorem dX12_mark_34 : decode cX12_mark 34 = .ok (.invokevirtual 324, 3) := by decide +kernel
theorem dX12_mark_37 : decode cX12_mark 37 = .ok (.aload_n 0, 1) := by decide +kernel
theorem dX12_mark_38 : decode cX12_mark 38 = .ok (.aload_n 0, 1) := by decide +kernel
theorem dX12_mark_39 : decode cX12_mark 39 = .ok (.getfield 420, 3) := by decide +kernel
theorem dX12_mark_42 : decode cX12_mark 42 = .ok (.i2l, 1) := by decide +kernel
theorem dX12_mark_43 : decode cX12_mark 43 = .ok (.invokevirtual 250, 3) := by decide +kernel
theorem dX12_mark_46 : decode cX12_mark 46 = .ok (.ireturn, 1) := by decide +kernel
theorem dX12_back_0 : decode cX12_back 0 = .ok (.aload_n 0, 1) := by decide +kernel
theorem dX12_back_1 : decode cX12_back 1 = .ok (.getfield 420, 3) := by decide +kernel
theorem dX12_back_4 : decode cX12_back 4 = .ok (.ifCond .ne 10, 3) := by decide +kernel
theorem dX12_back_7 : decode cX12_back 7 = .ok (.aload_n 0, 1) := by decide +kernel
theorem dX12_back_8 : decode cX12_back 8 = .ok (.bipush 6, 2) := by decide +kernel
theorem dX12_back_10 : decode cX12_back 10 = .ok (.invokevirtual 235, 3) := by decide +kernel
theorem dX12_back_13 : decode cX12_back 13 = .ok (.ireturn, 1) := by decide +kernel
theorem dX12_back_14 : decode cX12_back 14 = .ok (.aload_n 0, 1) := by decide +kernel
theorem dX12_back_15 : decode cX12_back 15 = .ok (.sipush 440, 3) := by decide +kernel
theorem dX12_back_18 : decode cX12_back 18 = .ok (.aload_n 0, 1) := by decide +kernel
theorem dX12_back_19 : decode cX12_back 19 = .ok (.getfield 420, 3) := by decide +kernel
theorem dX12_back_22 : decode cX12_back 22 = .ok (.imul, 1) := by decide +kernel
theorem dX12_back_23 : decode cX12_back 23 = .ok (.iconst 0, 1) := by decide +kernel
theorem dX12_back_24 : decode cX12_back 24 = .ok (.invokevirtual 324, 3) := by decide +kernel
theorem dX12_back_27 : decode cX12_back 27 = .ok (.aload_n 0, 1) := by decide +kernel
theorem dX12_back_28 : decode cX12_back 28 = .ok (.dup, 1) := by decide +kernel
theorem dX12_back_29 : decode cX12_back 29 = .ok (.getfield 420, 3) := by decide +kernel
theorem dX12_back_32 : decode cX12_back 32 = .ok (.iconst 1, 1) := by decide +kernel
theorem dX12_back_33 : decode cX12_back 33 = .ok (.isub, 1) := by decide +kernel
theorem dX12_back_34 : decode cX12_back 34 = .ok (.putfield 420, 3) := by decide +kernel
theorem dX12_back_37 : decode cX12_back 37 = .ok (.aload_n 0, 1) := by decide +kernel
theorem dX12_back_38 : decode cX12_back 38 = .ok (.aload_n 0, 1) := by decide +kernel
theorem dX12_back_39 : decode cX12_back 39 = .ok (.getfield 420, 3) := by decide +kernel
theorem dX12_back_42 : decode cX12_back 42 = .ok (.i2l, 1) := by decide +kernel
theorem dX12_back_43 : decode cX12_back 43 = .ok (.invokevirtual 250, 3) := by decide +kernel
theorem dX12_back_46 : decode cX12_back 46 = .ok (.ireturn, 1) := by decide +kernel
theorem dJ6_bitCount_0f7a4_0 : decode cJ6_bitCount_0f7a4 0 = .ok (.iload_n 0, 1) := by decide +kernel
theorem dJ6_bitCount_0f7a4_1 : decode cJ6_bitCount_0f7a4 1 = .ok (.iload_n 0, 1) := by decide +kernel
theorem dJ6_bitCount_0f7a4_2 : decode cJ6_bitCount_0f7a4 2 = .ok (.iconst 1, 1) := by decide +kernel
theorem dJ6_bitCount_0f7a4_3 : decode cJ6_bitCount_0f7a4 3 = .ok (.iushr, 1) := by decide +kernel
theorem dJ6_bitCount_0f7a4_4 : decode cJ6_bitCount_0f7a4 4 = .ok (.ldc_w 265, 3) := by decide +kernel
theorem dJ6_bitCount_0f7a4_7 : decode cJ6_bitCount_0f7a4 7 = .ok (.iand, 1) := by decide +kernel
theorem dJ6_bitCount_0f7a4_8 : decode cJ6_bitCount_0f7a4 8 = .ok (.isub, 1) := by decide +kernel
theorem dJ6_bitCount_0f7a4_9 : decode cJ6_bitCount_0f7a4 9 = .ok (.istore_n 0, 1) := by decide +kernel
theorem dJ6_bitCount_0f7a4_10 : decode cJ6_bitCount_0f7a4 10 = .ok (.iload_n 0, 1) := by decide +kernel
theorem dJ6_bitCount_0f7a4_11 : decode cJ6_bitCount_0f7a4 11 = .ok (.ldc_w 266, 3) := by decide +kernel
theorem dJ6_bitCount_0f7a4_14 : decode cJ6_bitCount_0f7a4 14 = .ok (.iand, 1) := by decide +kernel
theorem dJ6_bitCount_0f7a4_15 : decode cJ6_bitCount_0f7a4 15 = .ok (.iload_n 0, 1) := by decide +kernel
theorem dJ6_bitCount_0f7a4_16 : decode cJ6_bitCount_0f7a4 16 = .ok (.iconst 2, 1) := by decide +kernel
theorem dJ6_bitCount_0f7a4_17 : decode cJ6_bitCount_0f7a4 17 = .ok (.iushr, 1) := by decide +kernel
theorem dJ6_bitCount_0f7a4_18 : decode cJ6_bitCount_0f7a4 18 = .ok (.ldc_w 266, 3) := by decide +kernel
theorem dJ6_bitCount_0f7a4_21 : decode cJ6_bitCount_0f7a4 21 = .ok (.iand, 1) := by decide +kernel
theorem dJ6_bitCount_0f7a4_22 : decode cJ6_bitCount_0f7a4 22 = .ok (.iadd, 1) := by decide +kernel
theorem dJ6_bitCount_0f7a4_23 : decode cJ6_bitCount_0f7a4 23 = .ok (.istore_n 0, 1) := by decide +kernel
theorem dJ6_bitCount_0f7a4_24 : decode cJ6_bitCount_0f7a4 24 = .ok (.iload_n 0, 1) := by decide +kernel
theorem dJ6_bitCount_0f7a4_25 : decode cJ6_bitCount_0f7a4 25 = .ok (.iload_n 0, 1) := by decide +kernel
theorem dJ6_bitCount_0f7a4_26 : decode cJ6_bitCount_0f7a4 26 = .ok (.iconst 4, 1) := by decide +kernel
theorem dJ6_bitCount_0f7a4_27 : decode cJ6_bitCount_0f7a4 27 = .ok (.iushr, 1) := by decide +kernel
theorem dJ6_bitCount_0f7a4_28 : decode cJ6_bitCount_0f7a4 28 = .ok (.iadd, 1) := by decide +kernel
theorem dJ6_bitCount_0f7a4_29 : decode cJ6_bitCount_0f7a4 29 = .ok (.ldc_w 267, 3) := by decide +kernel
theorem dJ6_bitCount_0f7a4_32 : decode cJ6_bitCount_0f7a4 32 = .ok (.iand, 1) := by decide +kernel
theorem dJ6_bitCount_0f7a4_33 : decode cJ6_bitCount_0f7a4 33 = .ok (.istore_n 0, 1) := by decide +kernel
theorem dJ6_bitCount_0f7a4_34 : decode cJ6_bitCount_0f7a4 34 = .ok (.iload_n 0, 1) := by decide +kernel
theorem dJ6_bitCount_0f7a4_35 : decode cJ6_bitCount_0f7a4 35 = .ok (.iload_n 0, 1) := by decide +kernel
theorem dJ6_bitCount_0f7a4_36 : decode cJ6_bitCount_0f7a4 36 = .ok (.bipush 8, 2) := by decide +kernel
theorem dJ6_bitCount_0f7a4_38 : decode cJ6_bitCount_0f7a4 38 = .ok (.iushr, 1) := by decide +kernel
theorem dJ6_bitCount_0f7a4_39 : decode cJ6_bitCount_0f7a4 39 = .ok (.iadd, 1) := by decide +kernel
theorem dJ6_bitCount_0f7a4_40 : decode cJ6_bitCount_0f7a4 40 = .ok (.istore_n 0, 1) := by decide +kernel
theorem dJ6_bitCount_0f7a4_41 : decode cJ6_bitCount_0f7a4 41 = .ok (.iload_n 0, 1) := by decide +kernel
theorem dJ6_bitCount_0f7a4_42 : decode cJ6_bitCount_0f7a4 42 = .ok (.iload_n 0, 1) := by decide +kernel
theorem dJ6_bitCount_0f7a4_43 : decode cJ6_bitCount_0f7a4 43 = .ok (.bipush 16, 2) := by decide +kernel
theorem dJ6_bitCount_0f7a4_45 : decode cJ6_bitCount_0f7a4 45 = .ok (.iushr, 1) := by decide +kernel
theorem dJ6_bitCount_0f7a4_46 : decode cJ6_bitCount_0f7a4 46 = .ok (.iadd, 1) := by decide +kernel
theorem dJ6_bitCount_0f7a4_47 : decode cJ6_bitCount_0f7a4 47 = .ok (.istore_n 0, 1) := by decide +kernel
theorem dJ6_bitCount_0f7a4_48 : decode cJ6_bitCount_0f7a4 48 = .ok (.iload_n 0, 1) := by decide +kernel
theorem dJ6_bitCount_0f7a4_49 : decode cJ6_bitCount_0f7a4 49 = .ok (.bipush 63, 2) := by decide +kernel
theorem dJ6_bitCount_0f7a4_51 : decode cJ6_bitCount_0f7a4 51 = .ok (.iand, 1) := by decide +kernel
theorem dJ6_bitCount_0f7a4_52 : decode cJ6_bitCount_0f7a4 52 = .ok (.ireturn, 1) := by decide +kernel
theorem dJ13_bitCount_95d88_0 : decode cJ13_bitCount_95d88 0 = .ok (.lload_n 0, 1) := by decide +kernel
theorem dJ13_bitCount_95d88_1 : decode cJ13_bitCount_95d88 1 = .ok (.lload_n 0, 1) := by decide +kernel
theorem dJ13_bitCount_95d88_2 : decode cJ13_bitCount_95d88 2 = .ok (.iconst 1, 1) := by decide +kernel
theorem dJ13_bitCount_95d88_3 : decode cJ13_bitCount_95d88 3 = .ok (.lushr, 1) := by decide +kernel
theorem dJ13_bitCount_95d88_4 : decode cJ13_bitCount_95d88 4 = .ok (.ldc2_w 314, 3) := by decide +kernel
theorem dJ13_bitCount_95d88_7 : decode cJ13_bitCount_95d88 7 = .ok (.land, 1) := by decide +kernel
theorem dJ13_bitCount_95d88_8 : decode cJ13_bitCount_95d88 8 = .ok (.lsub, 1) := by decide +kernel
theorem dJ13_bitCount_95d88_9 : decode cJ13_bitCount_95d88 9 = .ok (.lstore_n 0, 1) := by decide +kernel
theorem dJ13_bitCount_95d88_10 : decode cJ13_bitCount_95d88 10 = .ok (.lload_n 0, 1) := by decide +kernel
theorem dJ13_bitCount_95d88_11 : decode cJ13_bitCount_95d88 11 = .ok (.ldc2_w 316, 3) := by decide +kernel
theorem dJ13_bitCount_95d88_14 : decode cJ13_bitCount_95d88 14 = .ok (.land, 1) := by decide +kernel
theorem dJ13_bitCount_95d88_15 : decode cJ13_bitCount_95d88 15 = .ok (.lload_n 0, 1) := by decide +kernel
theorem dJ13_bitCount_95d88_16 : decode cJ13_bitCount_95d88 16 = .ok (.iconst 2, 1) := by decide +kernel
theorem dJ13_bitCount_95d88_17 : decode cJ13_bitCount_95d88 17 = .ok (.lushr, 1) := by decide +kernel
theorem dJ13_bitCount_95d88_18 : decode cJ13_bitCount_95d88 18 = .ok (.ldc2_w 316, 3) := by decide +kernel
theorem dJ13_bitCount_95d88_21 : decode cJ13_bitCount_95d88 21 = .ok (.land, 1) := by decide +kernel
theorem dJ13_bitCount_95d88_22 : decode cJ13_bitCount_95d88 22 = .ok (.ladd, 1) := by decide +kernel
theorem dJ13_bitCount_95d88_23 : decode cJ13_bitCount_95d88 23 = .ok (.lstore_n 0, 1) := by decide +kernel
theorem dJ13_bitCount_95d88_24 : decode cJ13_bitCount_95d88 24 = .ok (.lload_n 0, 1) := by decide +kernel
theorem dJ13_bitCount_95d88_25 : decode cJ13_bitCount_95d88 25 = .ok (.lload_n 0, 1) := by decide +kernel
theorem dJ13_bitCount_95d88_26 : decode cJ13_bitCount_95d88 26 = .ok (.iconst 4, 1) := by decide +kernel
theorem dJ13_bitCount_95d88_27 : decode cJ13_bitCount_95d88 27 = .ok (.lushr, 1) := by decide +kernel
theorem dJ13_bitCount_95d88_28 : decode cJ13_bitCount_95d88 28 = .ok (.ladd, 1) := by decide +kernel
theorem dJ13_bitCount_95d88_29 : decode cJ13_bitCount_95d88 29 = .ok (.ldc2_w 318, 3) := by decide +kernel
theorem dJ13_bitCount_95d88_32 : decode cJ13_bitCount_95d88 32 = .ok (.land, 1) := by decide +kernel
theorem dJ13_bitCount_95d88_33 : decode cJ13_bitCount_95d88 33 = .ok (.lstore_n 0, 1) := by decide +kernel
theorem dJ13_bitCount_95d88_34 : decode cJ13_bitCount_95d88 34 = .ok (.lload_n 0, 1) := by decide +kernel
theorem dJ13_bitCount_95d88_35 : decode cJ13_bitCount_95d88 35 = .ok (.lload_n 0, 1) := by decide +kernel
theorem dJ13_bitCount_95d88_36 : decode cJ13_bitCount_95d88 36 = .ok (.bipush 8, 2) := by decide +kernel
theorem dJ13_bitCount_95d88_38 : decode cJ13_bitCount_95d88 38 = .ok (.lushr, 1) := by decide +kernel
theorem dJ13_bitCount_95d88_39 : decode cJ13_bitCount_95d88 39 = .ok (.ladd, 1) := by decide +kernel
theorem dJ13_bitCount_95d88_40 : decode cJ13_bitCount_95d88 40 = .ok (.lstore_n 0, 1) := by decide +kernel
theorem dJ13_bitCount_95d88_41 : decode cJ13_bitCount_95d88 41 = .ok (.lload_n 0, 1) := by decide +kernel
theorem dJ13_bitCount_95d88_42 : decode cJ13_bitCount_95d88 42 = .ok (.lload_n 0, 1) := by decide +kernel
theorem dJ13_bitCount_95d88_43 : decode cJ13_bitCount_95d88 43 = .ok (.bipush 16, 2) := by decide +kernel
theorem dJ13_bitCount_95d88_45 : decode cJ13_bitCount_95d88 45 = .ok (.lushr, 1) := by decide +kernel
theorem dJ13_bitCount_95d88_46 : decode cJ13_bitCount_95d88 46 = .ok (.ladd, 1) := by decide +kernel
theorem dJ13_bitCount_95d88_47 : decode cJ13_bitCount_95d88 47 = .ok (.lstore_n 0, 1) := by decide +kernel
theorem dJ13_bitCount_95d88_48 : decode cJ13_bitCount_95d88 48 = .ok (.lload_n 0, 1) := by decide +kernel
theorem dJ13_bitCount_95d88_49 : decode cJ13_bitCount_95d88 49 = .ok (.lload_n 0, 1) := by decide +kernel
theorem dJ13_bitCount_95d88_50 : decode cJ13_bitCount_95d88 50 = .ok (.bipush 32, 2) := by decide +kernel
theorem dJ13_bitCount_95d88_52 : decode cJ13_bitCount_95d88 52 = .ok (.lushr, 1) := by decide +kernel
theorem dJ13_bitCount_95d88_53 : decode cJ13_bitCount_95d88 53 = .ok (.ladd, 1) := by decide +kernel
theorem dJ13_bitCount_95d88_54 : decode cJ13_bitCount_95d88 54 = .ok (.lstore_n 0, 1) := by decide +kernel
theorem dJ13_bitCount_95d88_55 : decode cJ13_bitCount_95d88 55 = .ok (.lload_n 0, 1) := by decide +kernel
theorem dJ13_bitCount_95d88_56 : decode cJ13_bitCount_95d88 56 = .ok (.l2i, 1) := by decide +kernel
theorem dJ13_bitCount_95d88_57 : decode cJ13_bitCount_95d88 57 = .ok (.bipush 127, 2) := by decide +kernel
theorem dJ13_bitCount_95d88_59 : decode cJ13_bitCount_95d88 59 = .ok (.iand, 1) := by decide +kernel
theorem dJ13_bitCount_95d88_60 : decode cJ13_bitCount_95d88 60 = .ok (.ireturn, 1) := by decide +kernel
theorem dJ9_abs_067f4_0 : decode cJ9_abs_067f4 0 = .ok (.lload_n 0, 1) := by decide +kernel
theorem dJ9_abs_067f4_1 : decode cJ9_abs_067f4 1 = .ok (.lconst 0, 1) := by decide +kernel
theorem dJ9_abs_067f4_2 : decode cJ9_abs_067f4 2 = .ok (.lcmp, 1) := by decide +kernel
theorem dJ9_abs_067f4_3 : decode cJ9_abs_067f4 3 = .ok (.ifCond .ge 8, 3) := by decide +kernel
theorem dJ9_abs_067f4_6 : decode cJ9_abs_067f4 6 = .ok (.lload_n 0, 1) := by decide +kernel
theorem dJ9_abs_067f4_7 : decode cJ9_abs_067f4 7 = .ok (.lneg, 1) := by decide +kernel
theorem dJ9_abs_067f4_8 : decode cJ9_abs_067f4 8 = .ok (.goto 4, 3) := by decide +kernel
theorem dJ9_abs_067f4_11 : decode cJ9_abs_067f4 11 = .ok (.lload_n 0, 1) := by decide +kernel
theorem dJ9_abs_067f4_12 : decode cJ9_abs_067f4 12 = .ok (.lreturn, 1) := by decide +kernel
theorem dJ9_max_7cf53_0 : decode cJ9_max_7cf53 0 = .ok (.iload_n 0, 1) := by decide +kernel
theorem dJ9_max_7cf53_1 : decode cJ9_max_7cf53 1 = .ok (.iload_n 1, 1) := by decide +kernel
theorem dJ9_max_7cf53_2 : decode cJ9_max_7cf53 2 = .ok (.if_icmp .lt 7, 3) := by decide +kernel
theorem dJ9_max_7cf53_5 : decode cJ9_max_7cf53 5 = .ok (.iload_n 0, 1) := by decide +kernel
theorem dJ9_max_7cf53_6 : decode cJ9_max_7cf53 6 = .ok (.goto 4, 3) := by decide +kernel
theorem dJ9_max_7cf53_9 : decode cJ9_max_7cf53 9 = .ok (.iload_n 1, 1) := by decide +kernel
theorem dJ9_max_7cf53_10 : decode cJ9_max_7cf53 10 = .ok (.ireturn, 1) := by decide +kernel
theorem dJ9_max_f86c9_0 : decode cJ9_max_f86c9 0 = .ok (.lload_n 0, 1) := by decide +kernel
theorem dJ9_max_f86c9_1 : decode cJ9_max_f86c9 1 = .ok (.lload_n 2, 1) := by decide +kernel
theorem dJ9_max_f86c9_2 : decode cJ9_max_f86c9 2 = .ok (.lcmp, 1) := by decide +kernel
theorem dJ9_max_f86c9_3 : decode cJ9_max_f86c9 3 = .ok (.ifCond .lt 7, 3) := by decide +kernel
theorem dJ9_max_f86c9_6 : decode cJ9_max_f86c9 6 = .ok (.lload_n 0, 1) := by decide +kernel
theorem dJ9_max_f86c9_7 : decode cJ9_max_f86c9 7 = .ok (.goto 4, 3) := by decide +kernel
theorem dJ9_max_f86c9_10 : decode cJ9_max_f86c9 10 = .ok (.lload_n 2, 1) := by decide +kernel
theorem dJ9_max_f86c9_11 : decode cJ9_max_f86c9 11 = .ok (.lreturn, 1) := by decide +kernel
theorem dJ9_min_7cf53_0 : decode cJ9_min_7cf53 0 = .ok (.iload_n 0, 1) := by decide +kernel
theorem dJ9_min_7cf53_1 : decode cJ9_min_7cf53 1 = .ok (.iload_n 1, 1) := by decide +kernel
theorem dJ9_min_7cf53_2 : decode cJ9_min_7cf53 2 = .ok (.if_icmp .gt 7, 3) := by decide +kernel
theorem dJ9_min_7cf53_5 : decode cJ9_min_7cf53 5 = .ok (.iload_n 0, 1) := by decide +kernel
theorem dJ9_min_7cf53_6 : decode cJ9_min_7cf53 6 = .ok (.goto 4, 3) := by decide +kernel
theorem dJ9_min_7cf53_9 : decode cJ9_min_7cf53 9 = .ok (.iload_n 1, 1) := by decide +kernel
theorem dJ9_min_7cf53_10 : decode cJ9_min_7cf53 10 = .ok (.ireturn, 1) := by decide +kernel
theorem dJ9_min_f86c9_0 : decode cJ9_min_f86c9 0 = .ok (.lload_n 0, 1) := by decide +kernel
theorem dJ9_min_f86c9_1 : decode cJ9_min_f86c9 1 = .ok (.lload_n 2, 1) := by decide +kernel
theorem dJ9_min_f86c9_2 : decode cJ9_min_f86c9 2 = .ok (.lcmp, 1) := by decide +kernel
theorem dJ9_min_f86c9_3 : decode cJ9_min_f86c9 3 = .ok (.ifCond .gt 7, 3) := by decide +kernel
theorem dJ9_min_f86c9_6 : decode cJ9_min_f86c9 6 = .ok (.lload_n 0, 1) := by decide +kernel
theorem dJ9_min_f86c9_7 : decode cJ9_min_f86c9 7 = .ok (.goto 4, 3) := by decide +kernel
theorem dJ9_min_f86c9_10 : decode cJ9_min_f86c9 10 = .ok (.lload_n 2, 1) := by decide +kernel
theorem dJ9_min_f86c9_11 : decode cJ9_min_f86c9 11 = .ok (.lreturn, 1) := by decide +kernel
theorem dJ0_length_8abf5_0 : decode cJ0_length_8abf5 0 = .ok (.aload_n 0, 1) := by decide +kernel
theorem dJ0_length_8abf5_1 : decode cJ0_length_8abf5 1 = .ok (.getfield 9, 3) := by decide +kernel
theorem dJ0_length_8abf5_4 : decode cJ0_length_8abf5 4 = .ok (.arraylength, 1) := by decide +kernel
theorem dJ0_length_8abf5_5 : decode cJ0_length_8abf5 5 = .ok (.aload_n 0, 1) := by decide +kernel
theorem dJ0_length_8abf5_6 : decode cJ0_length_8abf5 6 = .ok (.invokevirtual 335, 3) := by decide +kernel
theorem dJ0_length_8abf5_9 : decode cJ0_length_8abf5 9 = .ok (.ishr, 1) := by decide +kernel
theorem dJ0_length_8abf5_10 : decode cJ0_length_8abf5 10 = .ok (.ireturn, 1) := by decide +kernel
theorem dJ0_charAt_5068e_0 : decode cJ0_charAt_5068e 0 = .ok (.aload_n 0, 1) := by decide +kernel
theorem dJ0_charAt_5068e_1 : decode cJ0_charAt_5068e 1 = .ok (.invokevirtual 492, 3) := by decide +kernel
theorem dJ0_charAt_5068e_4 : decode cJ0_charAt_5068e 4 = .ok (.ifCond .eq 12, 3) := by decide +kernel
theorem dJ0_charAt_5068e_7 : decode cJ0_charAt_5068e 7 = .ok (.aload_n 0, 1) := by decide +kernel
theorem dJ0_charAt_5068e_8 : decode cJ0_charAt_5068e 8 = .ok (.getfield 9, 3) := by decide +kernel
theorem dJ0_charAt_5068e_11 : decode cJ0_charAt_5068e 11 = .ok (.iload_n 1, 1) := by decide +kernel
theorem dJ0_charAt_5068e_12 : decode cJ0_charAt_5068e 12 = .ok (.invokestatic 495, 3) := by decide +kernel
theorem dJ0_charAt_5068e_15 : decode cJ0_charAt_5068e 15 = .ok (.ireturn, 1) := by decide +kernel
theorem dJ0_charAt_5068e_16 : decode cJ0_charAt_5068e 16 = .ok (.aload_n 0, 1) := by decide +kernel
theorem dJ0_charAt_5068e_17 : decode cJ0_charAt_5068e 17 = .ok (.getfield 9, 3) := by decide +kernel
theorem dJ0_charAt_5068e_20 : decode cJ0_charAt_5068e 20 = .ok (.iload_n 1, 1) := by decide +kernel
theorem dJ0_charAt_5068e_21 : decode cJ0_charAt_5068e 21 = .ok (.invokestatic 498, 3) := by decide +kernel
theorem dJ0_charAt_5068e_24 : decode cJ0_charAt_5068e 24 = .ok (.ireturn, 1) := by decide +kernel
theorem dJ0_coder_7d493_0 : decode cJ0_coder_7d493 0 = .ok (.getstatic 38, 3) := by decide +kernel
theorem dJ0_coder_7d493_3 : decode cJ0_coder_7d493 3 = .ok (.ifCond .eq 10, 3) := by decide +kernel
theorem dJ0_coder_7d493_6 : decode cJ0_coder_7d493 6 = .ok (.aload_n 0, 1) := by decide +kernel
theorem dJ0_coder_7d493_7 : decode cJ0_coder_7d493 7 = .ok (.getfield 15, 3) := by decide +kernel
theorem dJ0_coder_7d493_10 : decode cJ0_coder_7d493 10 = .ok (.goto 4, 3) := by decide +kernel
theorem dJ0_coder_7d493_13 : decode cJ0_coder_7d493 13 = .ok (.iconst 1, 1) := by decide +kernel
theorem dJ0_coder_7d493_14 : decode cJ0_coder_7d493 14 = .ok (.ireturn, 1) := by decide +kernel
theorem dJ0_isLatin1_aae02_0 : decode cJ0_isLatin1_aae02 0 = .ok (.getstatic 38, 3) := by decide +kernel
theorem dJ0_isLatin1_aae02_3 : decode cJ0_isLatin1_aae02 3 = .ok (.ifCond .eq 14, 3) := by decide +kernel
theorem dJ0_isLatin1_aae02_6 : decode cJ0_isLatin1_aae02 6 = .ok (.aload_n 0, 1) := by decide +kernel
theorem dJ0_isLatin1_aae02_7 : decode cJ0_isLatin1_aae02 7 = .ok (.getfield 15, 3) := by decide +kernel
theorem dJ0_isLatin1_aae02_10 : decode cJ0_isLatin1_aae02 10 = .ok (.ifCond .ne 7, 3) := by decide +kernel
theorem dJ0_isLatin1_aae02_13 : decode cJ0_isLatin1_aae02 13 = .ok (.iconst 1, 1) := by decide +kernel
theorem dJ0_isLatin1_aae02_14 : decode cJ0_isLatin1_aae02 14 = .ok (.goto 4, 3) := by decide +kernel
theorem dJ0_isLatin1_aae02_17 : decode cJ0_isLatin1_aae02 17 = .ok (.iconst 0, 1) := by decide +kernel
theorem dJ0_isLatin1_aae02_18 : decode cJ0_isLatin1_aae02 18 = .ok (.ireturn, 1) := by decide +kernel
theorem dJ0_checkIndex_df160_0 : decode cJ0_checkIndex_df160 0 = .ok (.iload_n 0, 1) := by decide +kernel
theorem dJ0_checkIndex_df160_1 : decode cJ0_checkIndex_df160 1 = .ok (.iload_n 1, 1) := by decide +kernel
theorem dJ0_checkIndex_df160_2 : decode cJ0_checkIndex_df160 2 = .ok (.getstatic 1053, 3) := by decide +kernel
theorem dJ0_checkIndex_df160_5 : decode cJ0_checkIndex_df160 5 = .ok (.invokestatic 1059, 3) := by decide +kernel
theorem dJ0_checkIndex_df160_8 : decode cJ0_checkIndex_df160 8 = .ok (.pop, 1) := by decide +kernel
theorem dJ0_checkIndex_df160_9 : decode cJ0_checkIndex_df160 9 = .ok (.return_, 1) := by decide +kernel
theorem dJ1_charAt_3b067_0 : decode cJ1_charAt_3b067 0 = .ok (.iload_n 1, 1) := by decide +kernel
theorem dJ1_charAt_3b067_1 : decode cJ1_charAt_3b067 1 = .ok (.aload_n 0, 1) := by decide +kernel
theorem dJ1_charAt_3b067_2 : decode cJ1_charAt_3b067 2 = .ok (.arraylength, 1) := by decide +kernel
theorem dJ1_charAt_3b067_3 : decode cJ1_charAt_3b067 3 = .ok (.invokestatic 9, 3) := by decide +kernel
theorem dJ1_charAt_3b067_6 : decode cJ1_charAt_3b067 6 = .ok (.aload_n 0, 1) := by decide +kernel
theorem dJ1_charAt_3b067_7 : decode cJ1_charAt_3b067 7 = .ok (.iload_n 1, 1) := by decide +kernel
theorem dJ1_charAt_3b067_8 : decode cJ1_charAt_3b067 8 = .ok (.baload, 1) := by decide +kernel
theorem dJ1_charAt_3b067_9 : decode cJ1_charAt_3b067 9 = .ok (.sipush 255, 3) := by decide +kernel
theorem dJ1_charAt_3b067_12 : decode cJ1_charAt_3b067 12 = .ok (.iand, 1) := by decide +kernel
theorem dJ1_charAt_3b067_13 : decode cJ1_charAt_3b067 13 = .ok (.i2c, 1) := by decide +kernel
theorem dJ1_charAt_3b067_14 : decode cJ1_charAt_3b067 14 = .ok (.ireturn, 1) := by decide +kernel
theorem dJ2_getChar_3b067_0 : decode cJ2_getChar_3b067 0 = .ok (.getstatic 44, 3) := by decide +kernel
theorem dJ2_getChar_3b067_3 : decode cJ2_getChar_3b067 3 = .ok (.ifCond .ne 25, 3) := by decide +kernel
theorem dJ2_getChar_3b067_6 : decode cJ2_getChar_3b067 6 = .ok (.iload_n 1, 1) := by decide +kernel
theorem dJ2_getChar_3b067_7 : decode cJ2_getChar_3b067 7 = .ok (.ifCond .lt 11, 3) := by decide +kernel
theorem dJ2_getChar_3b067_10 : decode cJ2_getChar_3b067 10 = .ok (.iload_n 1, 1) := by decide +kernel
theorem dJ2_getChar_3b067_11 : decode cJ2_getChar_3b067 11 = .ok (.aload_n 0, 1) := by decide +kernel
theorem dJ2_getChar_3b067_12 : decode cJ2_getChar_3b067 12 = .ok (.invokestatic 48, 3) := by decide +kernel
theorem dJ2_getChar_3b067_15 : decode cJ2_getChar_3b067 15 = .ok (.if_icmp .lt 13, 3) := by decide +kernel
theorem dJ2_getChar_3b067_18 : decode cJ2_getChar_3b067 18 = .ok (.new 52, 3) := by decide +kernel
theorem dJ2_getChar_3b067_21 : decode cJ2_getChar_3b067 21 = .ok (.dup, 1) := by decide +kernel
theorem dJ2_getChar_3b067_22 : decode cJ2_getChar_3b067 22 = .ok (.ldc 54, 2) := by decide +kernel
theorem dJ2_getChar_3b067_24 : decode cJ2_getChar_3b067 24 = .ok (.invokespecial 56, 3) := by decide +kernel
theorem dJ2_getChar_3b067_27 : decode cJ2_getChar_3b067 27 = .ok (.athrow, 1) := by decide +kernel
theorem dJ2_getChar_3b067_28 : decode cJ2_getChar_3b067 28 = .ok (.iload_n 1, 1) := by decide +kernel
theorem dJ2_getChar_3b067_29 : decode cJ2_getChar_3b067 29 = .ok (.iconst 1, 1) := by decide +kernel
theorem dJ2_getChar_3b067_30 : decode cJ2_getChar_3b067 30 = .ok (.ishl, 1) := by decide +kernel
theorem dJ2_getChar_3b067_31 : decode cJ2_getChar_3b067 31 = .ok (.istore_n 1, 1) := by decide +kernel
theorem dJ2_getChar_3b067_32 : decode cJ2_getChar_3b067 32 = .ok (.aload_n 0, 1) := by decide +kernel
theorem dJ2_getChar_3b067_33 : decode cJ2_getChar_3b067 33 = .ok (.iload_n 1, 1) := by decide +kernel
theorem dJ2_getChar_3b067_34 : decode cJ2_getChar_3b067 34 = .ok (.iinc 1 1, 3) := by decide +kernel
theorem dJ2_getChar_3b067_37 : decode cJ2_getChar_3b067 37 = .ok (.baload, 1) := by decide +kernel
theorem dJ2_getChar_3b067_38 : decode cJ2_getChar_3b067 38 = .ok (.sipush 255, 3) := by decide +kernel
theorem dJ2_getChar_3b067_41 : decode cJ2_getChar_3b067 41 = .ok (.iand, 1) := by decide +kernel
theorem dJ2_getChar_3b067_42 : decode cJ2_getChar_3b067 42 = .ok (.getstatic 59, 3) := by decide +kernel
theorem dJ2_getChar_3b067_45 : decode cJ2_getChar_3b067 45 = .ok (.ishl, 1) := by decide +kernel
theorem dJ2_getChar_3b067_46 : decode cJ2_getChar_3b067 46 = .ok (.aload_n 0, 1) := by decide +kernel
theorem dJ2_getChar_3b067_47 : decode cJ2_getChar_3b067 47 = .ok (.iload_n 1, 1) := by decide +kernel
theorem dJ2_getChar_3b067_48 : decode cJ2_getChar_3b067 48 = .ok (.baload, 1) := by decide +kernel
theorem dJ2_getChar_3b067_49 : decode cJ2_getChar_3b067 49 = .ok (.sipush 255, 3) := by decide +kernel
theorem dJ2_getChar_3b067_52 : decode cJ2_getChar_3b067 52 = .ok (.iand, 1) := by decide +kernel
theorem dJ2_getChar_3b067_53 : decode cJ2_getChar_3b067 53 = .ok (.getstatic 63, 3) := by decide +kernel
theorem dJ2_getChar_3b067_56 : decode cJ2_getChar_3b067 56 = .ok (.ishl, 1) := by decide +kernel
theorem dJ2_getChar_3b067_57 : decode cJ2_getChar_3b067 57 = .ok (.ior, 1) := by decide +kernel
theorem dJ2_getChar_3b067_58 : decode cJ2_getChar_3b067 58 = .ok (.i2c, 1) := by decide +kernel
theorem dJ2_getChar_3b067_59 : decode cJ2_getChar_3b067 59 = .ok (.ireturn, 1) := by decide +kernel
theorem dJ2_length_9d52b_0 : decode cJ2_length_9d52b 0 = .ok (.aload_n 0, 1) := by decide +kernel
theorem dJ2_length_9d52b_1 : decode cJ2_length_9d52b 1 = .ok (.arraylength, 1) := by decide +kernel
theorem dJ2_length_9d52b_2 : decode cJ2_length_9d52b 2 = .ok (.iconst 1, 1) := by decide +kernel
theorem dJ2_length_9d52b_3 : decode cJ2_length_9d52b 3 = .ok (.ishr, 1) := by decide +kernel
theorem dJ2_length_9d52b_4 : decode cJ2_length_9d52b 4 = .ok (.ireturn, 1) := by decide +kernel
theorem dJ2_charAt_3b067_0 : decode cJ2_charAt_3b067 0 = .ok (.iload_n 1, 1) := by decide +kernel
theorem dJ2_charAt_3b067_1 : decode cJ2_charAt_3b067 1 = .ok (.aload_n 0, 1) := by decide +kernel
theorem dJ2_charAt_3b067_2 : decode cJ2_charAt_3b067 2 = .ok (.invokestatic 67, 3) := by decide +kernel
theorem dJ2_charAt_3b067_5 : decode cJ2_charAt_3b067 5 = .ok (.aload_n 0, 1) := by decide +kernel
theorem dJ2_charAt_3b067_6 : decode cJ2_charAt_3b067 6 = .ok (.iload_n 1, 1) := by decide +kernel
theorem dJ2_charAt_3b067_7 : decode cJ2_charAt_3b067 7 = .ok (.invokestatic 71, 3) := by decide +kernel
theorem dJ2_charAt_3b067_10 : decode cJ2_charAt_3b067 10 = .ok (.ireturn, 1) := by decide +kernel
theorem dJ2_checkIndex_2214a_0 : decode cJ2_checkIndex_2214a 0 = .ok (.iload_n 0, 1) := by decide +kernel
theorem dJ2_checkIndex_2214a_1 : decode cJ2_checkIndex_2214a 1 = .ok (.aload_n 1, 1) := by decide +kernel
theorem dJ2_checkIndex_2214a_2 : decode cJ2_checkIndex_2214a 2 = .ok (.invokestatic 48, 3) := by decide +kernel
theorem dJ2_checkIndex_2214a_5 : decode cJ2_checkIndex_2214a 5 = .ok (.invokestatic 414, 3) := by decide +kernel
theorem dJ2_checkIndex_2214a_8 : decode cJ2_checkIndex_2214a 8 = .ok (.return_, 1) := by decide +kernel
theorem dJ7_fill_d0a16_0 : decode cJ7_fill_d0a16 0 = .ok (.iconst 0, 1) := by decide +kernel
theorem dJ7_fill_d0a16_1 : decode cJ7_fill_d0a16 1 = .ok (.istore_n 3, 1) := by decide +kernel
theorem dJ7_fill_d0a16_2 : decode cJ7_fill_d0a16 2 = .ok (.aload_n 0, 1) := by decide +kernel
theorem dJ7_fill_d0a16_3 : decode cJ7_fill_d0a16 3 = .ok (.arraylength, 1) := by decide +kernel
theorem dJ7_fill_d0a16_4 : decode cJ7_fill_d0a16 4 = .ok (.istore 4, 2) := by decide +kernel
theorem dJ7_fill_d0a16_6 : decode cJ7_fill_d0a16 6 = .ok (.iload_n 3, 1) := by decide +kernel
theorem dJ7_fill_d0a16_7 : decode cJ7_fill_d0a16 7 = .ok (.iload 4, 2) := by decide +kernel
theorem dJ7_fill_d0a16_9 : decode cJ7_fill_d0a16 9 = .ok (.if_icmp .ge 13, 3) := by decide +kernel
theorem dJ7_fill_d0a16_12 : decode cJ7_fill_d0a16 12 = .ok (.aload_n 0, 1) := by decide +kernel
theorem dJ7_fill_d0a16_13 : decode cJ7_fill_d0a16 13 = .ok (.iload_n 3, 1) := by decide +kernel
theorem dJ7_fill_d0a16_14 : decode cJ7_fill_d0a16 14 = .ok (.lload_n 1, 1) := by decide +kernel
theorem dJ7_fill_d0a16_15 : decode cJ7_fill_d0a16 15 = .ok (.lastore, 1) := by decide +kernel
theorem dJ7_fill_d0a16_16 : decode cJ7_fill_d0a16 16 = .ok (.iinc 3 1, 3) := by decide +kernel
theorem dJ7_fill_d0a16_19 : decode cJ7_fill_d0a16 19 = .ok (.goto (-13), 3) := by decide +kernel
theorem dJ7_fill_d0a16_22 : decode cJ7_fill_d0a16 22 = .ok (.return_, 1) := by decide +kernel
theorem dJ7_fill_53178_0 : decode cJ7_fill_53178 0 = .ok (.iconst 0, 1) := by decide +kernel
theorem dJ7_fill_53178_1 : decode cJ7_fill_53178 1 = .ok (.istore_n 2, 1) := by decide +kernel
theorem dJ7_fill_53178_2 : decode cJ7_fill_53178 2 = .ok (.aload_n 0, 1) := by decide +kernel
theorem dJ7_fill_53178_3 : decode cJ7_fill_53178 3 = .ok (.arraylength, 1) := by decide +kernel
theorem dJ7_fill_53178_4 : decode cJ7_fill_53178 4 = .ok (.istore_n 3, 1) := by decide +kernel
theorem dJ7_fill_53178_5 : decode cJ7_fill_53178 5 = .ok (.iload_n 2, 1) := by decide +kernel
theorem dJ7_fill_53178_6 : decode cJ7_fill_53178 6 = .ok (.iload_n 3, 1) := by decide +kernel
theorem dJ7_fill_53178_7 : decode cJ7_fill_53178 7 = .ok (.if_icmp .ge 13, 3) := by decide +kernel
theorem dJ7_fill_53178_10 : decode cJ7_fill_53178 10 = .ok (.aload_n 0, 1) := by decide +kernel
theorem dJ7_fill_53178_11 : decode cJ7_fill_53178 11 = .ok (.iload_n 2, 1) := by decide +kernel
theorem dJ7_fill_53178_12 : decode cJ7_fill_53178 12 = .ok (.iload_n 1, 1) := by decide +kernel
theorem dJ7_fill_53178_13 : decode cJ7_fill_53178 13 = .ok (.iastore, 1) := by decide +kernel
theorem dJ7_fill_53178_14 : decode cJ7_fill_53178 14 = .ok (.iinc 2 1, 3) := by decide +kernel
theorem dJ7_fill_53178_17 : decode cJ7_fill_53178 17 = .ok (.goto (-12), 3) := by decide +kernel
theorem dJ7_fill_53178_20 : decode cJ7_fill_53178 20 = .ok (.return_, 1) := by decide +kernel
theorem dJ3_checkIndex_8e157_0 : decode cJ3_checkIndex_8e157 0 = .ok (.iload_n 0, 1) := by decide +kernel
theorem dJ3_checkIndex_8e157_1 : decode cJ3_checkIndex_8e157 1 = .ok (.ifCond .lt 8, 3) := by decide +kernel
theorem dJ3_checkIndex_8e157_4 : decode cJ3_checkIndex_8e157 4 = .ok (.iload_n 0, 1) := by decide +kernel
theorem dJ3_checkIndex_8e157_5 : decode cJ3_checkIndex_8e157 5 = .ok (.iload_n 1, 1) := by decide +kernel
theorem dJ3_checkIndex_8e157_6 : decode cJ3_checkIndex_8e157 6 = .ok (.if_icmp .lt 10, 3) := by decide +kernel
theorem dJ3_checkIndex_8e157_9 : decode cJ3_checkIndex_8e157 9 = .ok (.aload_n 2, 1) := by decide +kernel
theorem dJ3_checkIndex_8e157_10 : decode cJ3_checkIndex_8e157 10 = .ok (.iload_n 0, 1) := by decide +kernel
theorem dJ3_checkIndex_8e157_11 : decode cJ3_checkIndex_8e157 11 = .ok (.iload_n 1, 1) := by decide +kernel
theorem dJ3_checkIndex_8e157_12 : decode cJ3_checkIndex_8e157 12 = .ok (.invokestatic 95, 3) := by decide +kernel
theorem dJ3_checkIndex_8e157_15 : decode cJ3_checkIndex_8e157 15 = .ok (.athrow, 1) := by decide +kernel
theorem dJ3_checkIndex_8e157_16 : decode cJ3_checkIndex_8e157 16 = .ok (.iload_n 0, 1) := by decide +kernel
theorem dJ3_checkIndex_8e157_17 : decode cJ3_checkIndex_8e157 17 = .ok (.ireturn, 1) := by decide +kernel
theorem dL_law_0 : decode cL_law 0 = .ok (.new 7, 3) := by decide +kernel
theorem dL_law_3 : decode cL_law 3 = .ok (.dup, 1) := by decide +kernel
theorem dL_law_4 : decode cL_law 4 = .ok (.invokespecial 9, 3) := by decide +kernel
theorem dL_law_7 : decode cL_law 7 = .ok (.astore_n 1, 1) := by decide +kernel
theorem dL_law_8 : decode cL_law 8 = .ok (.new 10, 3) := by decide +kernel
theorem dL_law_11 : decode cL_law 11 = .ok (.dup, 1) := by decide +kernel
theorem dL_law_12 : decode cL_law 12 = .ok (.invokespecial 12, 3) := by decide +kernel
theorem dL_law_15 : decode cL_law 15 = .ok (.astore_n 2, 1) := by decide +kernel
theorem dL_law_16 : decode cL_law 16 = .ok (.iconst 0, 1) := by decide +kernel
theorem dL_law_17 : decode cL_law 17 = .ok (.istore_n 3, 1) := by decide +kernel
theorem dL_law_18 : decode cL_law 18 = .ok (.iload_n 3, 1) := by decide +kernel
theorem dL_law_19 : decode cL_law 19 = .ok (.aload_n 0, 1) := by decide +kernel
theorem dL_law_20 : decode cL_law 20 = .ok (.arraylength, 1) := by decide +kernel
theorem dL_law_21 : decode cL_law 21 = .ok (.bipush 7, 2) := by decide +kernel
theorem dL_law_23 : decode cL_law 23 = .ok (.isub, 1) := by decide +kernel
theorem dL_law_24 : decode cL_law 24 = .ok (.if_icmp .gt 1606, 3) := by decide +kernel
theorem dL_law_27 : decode cL_law 27 = .ok (.aload_n 0, 1) := by decide +kernel
theorem dL_law_28 : decode cL_law 28 = .ok (.iload_n 3, 1) := by decide +kernel
theorem dL_law_29 : decode cL_law 29 = .ok (.iaload, 1) := by decide +kernel
theorem dL_law_30 : decode cL_law 30 = .ok (.bipush 63, 2) := by decide +kernel
theorem dL_law_32 : decode cL_law 32 = .ok (.iand, 1) := by decide +kernel
theorem dL_law_33 : decode cL_law 33 = .ok (.tableswitch 1591 0 42 #[187, 200, 214, 228, 271, 344, 378, 441, 504, 527, 550, 573, 596, 629, 662, 695, 718, 741, 774, 807, 830, 873, 906, 919, 962, 985, 1028, 1061, 1074, 1097, 1140, 1163, 1226, 1259, 1292, 1315, 1338, 1413, 1456, 1479, 1522, 1565, 1578], 187) := by decide +kernel
theorem dL_law_220 : decode cL_law 220 = .ok (.aload_n 1, 1) := by decide +kernel
theorem dL_law_221 : decode cL_law 221 = .ok (.invokevirtual 13, 3) := by decide +kernel
theorem dL_law_224 : decode cL_law 224 = .ok (.aload_n 2, 1) := by decide +kernel
theorem dL_law_225 : decode cL_law 225 = .ok (.invokevirtual 17, 3) := by decide +kernel
theorem dL_law_228 : decode cL_law 228 = .ok (.if_icmp .eq 1396, 3) := by decide +kernel
theorem dL_law_231 : decode cL_law 231 = .ok (.iconst 0, 1) := by decide +kernel
theorem dL_law_232 : decode cL_law 232 = .ok (.ireturn, 1) := by decide +kernel
theorem dL_law_233 : decode cL_law 233 = .ok (.aload_n 1, 1) := by decide +kernel
theorem dL_law_234 : decode cL_law 234 = .ok (.invokevirtual 18, 3) := by decide +kernel
theorem dL_law_237 : decode cL_law 237 = .ok (.aload_n 2, 1) := by decide +kernel
theorem dL_law_238 : decode cL_law 238 = .ok (.invokevirtual 22, 3) := by decide +kernel
theorem dL_law_241 : decode cL_law 241 = .ok (.lcmp, 1) := by decide +kernel
theorem dL_law_242 : decode cL_law 242 = .ok (.ifCond .eq 1382, 3) := by decide +kernel
theorem dL_law_245 : decode cL_law 245 = .ok (.iconst 0, 1) := by decide +kernel
theorem dL_law_246 : decode cL_law 246 = .ok (.ireturn, 1) := by decide +kernel
theorem dL_law_247 : decode cL_law 247 = .ok (.aload_n 1, 1) := by decide +kernel
theorem dL_law_248 : decode cL_law 248 = .ok (.invokevirtual 23, 3) := by decide +kernel
theorem dL_law_251 : decode cL_law 251 = .ok (.aload_n 2, 1) := by decide +kernel
theorem dL_law_252 : decode cL_law 252 = .ok (.invokevirtual 26, 3) := by decide +kernel
theorem dL_law_255 : decode cL_law 255 = .ok (.lcmp, 1) := by decide +kernel
theorem dL_law_256 : decode cL_law 256 = .ok (.ifCond .eq 1368, 3) := by decide +kernel
theorem dL_law_259 : decode cL_law 259 = .ok (.iconst 0, 1) := by decide +kernel
theorem dL_law_260 : decode cL_law 260 = .ok (.ireturn, 1) := by decide +kernel
theorem dL_law_261 : decode cL_law 261 = .ok (.aload_n 1, 1) := by decide +kernel
theorem dL_law_262 : decode cL_law 262 = .ok (.aload_n 0, 1) := by decide +kernel
theorem dL_law_263 : decode cL_law 263 = .ok (.iload_n 3, 1) := by decide +kernel
theorem dL_law_264 : decode cL_law 264 = .ok (.iconst 1, 1) := by decide +kernel
theorem dL_law_265 : decode cL_law 265 = .ok (.iadd, 1) := by decide +kernel
theorem dL_law_266 : decode cL_law 266 = .ok (.iaload, 1) := by decide +kernel
theorem dL_law_267 : decode cL_law 267 = .ok (.aload_n 0, 1) := by decide +kernel
theorem dL_law_268 : decode cL_law 268 = .ok (.iload_n 3, 1) := by decide +kernel
theorem dL_law_269 : decode cL_law 269 = .ok (.iconst 2, 1) := by decide +kernel
theorem dL_law_270 : decode cL_law 270 = .ok (.iadd, 1) := by decide +kernel
theorem dL_law_271 : decode cL_law 271 = .ok (.iaload, 1) := by decide +kernel
theorem dL_law_272 : decode cL_law 272 = .ok (.aload_n 0, 1) := by decide +kernel
theorem dL_law_273 : decode cL_law 273 = .ok (.iload_n 3, 1) := by decide +kernel
theorem dL_law_274 : decode cL_law 274 = .ok (.iconst 3, 1) := by decide +kernel
theorem dL_law_275 : decode cL_law 275 = .ok (.iadd, 1) := by decide +kernel
theorem dL_law_276 : decode cL_law 276 = .ok (.iaload, 1) := by decide +kernel
theorem dL_law_277 : decode cL_law 277 = .ok (.invokevirtual 27, 3) := by decide +kernel
theorem dL_law_280 : decode cL_law 280 = .ok (.aload_n 2, 1) := by decide +kernel
theorem dL_law_281 : decode cL_law 281 = .ok (.aload_n 0, 1) := by decide +kernel
theorem dL_law_282 : decode cL_law 282 = .ok (.iload_n 3, 1) := by decide +kernel
theorem dL_law_283 : decode cL_law 283 = .ok (.iconst 1, 1) := by decide +kernel
theorem dL_law_284 : decode cL_law 284 = .ok (.iadd, 1) := by decide +kernel
theorem dL_law_285 : decode cL_law 285 = .ok (.iaload, 1) := by decide +kernel
theorem dL_law_286 : decode cL_law 286 = .ok (.aload_n 0, 1) := by decide +kernel
theorem dL_law_287 : decode cL_law 287 = .ok (.iload_n 3, 1) := by decide +kernel
theorem dL_law_288 : decode cL_law 288 = .ok (.iconst 2, 1) := by decide +kernel
theorem dL_law_289 : decode cL_law 289 = .ok (.iadd, 1) := by decide +kernel
theorem dL_law_290 : decode cL_law 290 = .ok (.iaload, 1) := by decide +kernel
theorem dL_law_291 : decode cL_law 291 = .ok (.aload_n 0, 1) := by decide +kernel
theorem dL_law_292 : decode cL_law 292 = .ok (.iload_n 3, 1) := by decide +kernel
theorem dL_law_293 : decode cL_law 293 = .ok (.iconst 3, 1) := by decide +kernel
theorem dL_law_294 : decode cL_law 294 = .ok (.iadd, 1) := by decide +kernel
theorem dL_law_295 : decode cL_law 295 = .ok (.iaload, 1) := by decide +kernel
theorem dL_law_296 : decode cL_law 296 = .ok (.invokevirtual 31, 3) := by decide +kernel
theorem dL_law_299 : decode cL_law 299 = .ok (.if_icmp .eq 1325, 3) := by decide +kernel
theorem dL_law_302 : decode cL_law 302 = .ok (.iconst 0, 1) := by decide +kernel
theorem dL_law_303 : decode cL_law 303 = .ok (.ireturn, 1) := by decide +kernel
theorem dL_law_304 : decode cL_law 304 = .ok (.aload_n 1, 1) := by decide +kernel
theorem dL_law_305 : decode cL_law 305 = .ok (.aload_n 0, 1) := by decide +kernel
theorem dL_law_306 : decode cL_law 306 = .ok (.iload_n 3, 1) := by decide +kernel
theorem dL_law_307 : decode cL_law 307 = .ok (.iconst 1, 1) := by decide +kernel
theorem dL_law_308 : decode cL_law 308 = .ok (.iadd, 1) := by decide +kernel
theorem dL_law_309 : decode cL_law 309 = .ok (.iaload, 1) := by decide +kernel
theorem dL_law_310 : decode cL_law 310 = .ok (.aload_n 0, 1) := by decide +kernel
theorem dL_law_311 : decode cL_law 311 = .ok (.iload_n 3, 1) := by decide +kernel
theorem dL_law_312 : decode cL_law 312 = .ok (.iconst 2, 1) := by decide +kernel
theorem dL_law_313 : decode cL_law 313 = .ok (.iadd, 1) := by decide +kernel
theorem dL_law_314 : decode cL_law 314 = .ok (.iaload, 1) := by decide +kernel
theorem dL_law_315 : decode cL_law 315 = .ok (.aload_n 0, 1) := by decide +kernel
theorem dL_law_316 : decode cL_law 316 = .ok (.iload_n 3, 1) := by decide +kernel
theorem dL_law_317 : decode cL_law 317 = .ok (.iconst 3, 1) := by decide +kernel
theorem dL_law_318 : decode cL_law 318 = .ok (.iadd, 1) := by decide +kernel
theorem dL_law_319 : decode cL_law 319 = .ok (.iaload, 1) := by decide +kernel
theorem dL_law_320 : decode cL_law 320 = .ok (.i2l, 1) := by decide +kernel
theorem dL_law_321 : decode cL_law 321 = .ok (.bipush 32, 2) := by decide +kernel
theorem dL_law_323 : decode cL_law 323 = .ok (.lshl, 1) := by decide +kernel
theorem dL_law_324 : decode cL_law 324 = .ok (.aload_n 0, 1) := by decide +kernel
theorem dL_law_325 : decode cL_law 325 = .ok (.iload_n 3, 1) := by decide +kernel
theorem dL_law_326 : decode cL_law 326 = .ok (.iconst 4, 1) := by decide +kernel
theorem dL_law_327 : decode cL_law 327 = .ok (.iadd, 1) := by decide +kernel
theorem dL_law_328 : decode cL_law 328 = .ok (.iaload, 1) := by decide +kernel
theorem dL_law_329 : decode cL_law 329 = .ok (.i2l, 1) := by decide +kernel
theorem dL_law_330 : decode cL_law 330 = .ok (.ldc2_w 32, 3) := by decide +kernel
theorem dL_law_333 : decode cL_law 333 = .ok (.land, 1) := by decide +kernel
theorem dL_law_334 : decode cL_law 334 = .ok (.lor, 1) := by decide +kernel
theorem dL_law_335 : decode cL_law 335 = .ok (.invokevirtual 34, 3) := by decide +kernel
theorem dL_law_338 : decode cL_law 338 = .ok (.aload_n 2, 1) := by decide +kernel
theorem dL_law_339 : decode cL_law 339 = .ok (.aload_n 0, 1) := by decide +kernel
theorem dL_law_340 : decode cL_law 340 = .ok (.iload_n 3, 1) := by decide +kernel
theorem dL_law_341 : decode cL_law 341 = .ok (.iconst 1, 1) := by decide +kernel
theorem dL_law_342 : decode cL_law 342 = .ok (.iadd, 1) := by decide +kernel
theorem dL_law_343 : decode cL_law 343 = .ok (.iaload, 1) := by decide +kernel
theorem dL_law_344 : decode cL_law 344 = .ok (.aload_n 0, 1) := by decide +kernel
theorem dL_law_345 : decode cL_law 345 = .ok (.iload_n 3, 1) := by decide +kernel
theorem dL_law_346 : decode cL_law 346 = .ok (.iconst 2, 1) := by decide +kernel
theorem dL_law_347 : decode cL_law 347 = .ok (.iadd, 1) := by decide +kernel
theorem dL_law_348 : decode cL_law 348 = .ok (.iaload, 1) := by decide +kernel
theorem dL_law_349 : decode cL_law 349 = .ok (.aload_n 0, 1) := by decide +kernel
theorem dL_law_350 : decode cL_law 350 = .ok (.iload_n 3, 1) := by decide +kernel
theorem dL_law_351 : decode cL_law 351 = .ok (.iconst 3, 1) := by decide +kernel
theorem dL_law_352 : decode cL_law 352 = .ok (.iadd, 1) := by decide +kernel
theorem dL_law_353 : decode cL_law 353 = .ok (.iaload, 1) := by decide +kernel
theorem dL_law_354 : decode cL_law 354 = .ok (.i2l, 1) := by decide +kernel
theorem dL_law_355 : decode cL_law 355 = .ok (.bipush 32, 2) := by decide +kernel
theorem dL_law_357 : decode cL_law 357 = .ok (.lshl, 1) := by decide +kernel
theorem dL_law_358 : decode cL_law 358 = .ok (.aload_n 0, 1) := by decide +kernel
theorem dL_law_359 : decode cL_law 359 = .ok (.iload_n 3, 1) := by decide +kernel
theorem dL_law_360 : decode cL_law 360 = .ok (.iconst 4, 1) := by decide +kernel
theorem dL_law_361 : decode cL_law 361 = .ok (.iadd, 1) := by decide +kernel
theorem dL_law_362 : decode cL_law 362 = .ok (.iaload, 1) := by decide +kernel
theorem dL_law_363 : decode cL_law 363 = .ok (.i2l, 1) := by decide +kernel
theorem dL_law_364 : decode cL_law 364 = .ok (.ldc2_w 32, 3) := by decide +kernel
theorem dL_law_367 : decode cL_law 367 = .ok (.land, 1) := by decide +kernel
theorem dL_law_368 : decode cL_law 368 = .ok (.lor, 1) := by decide +kernel
theorem dL_law_369 : decode cL_law 369 = .ok (.invokevirtual 38, 3) := by decide +kernel
theorem dL_law_372 : decode cL_law 372 = .ok (.if_icmp .eq 1252, 3) := by decide +kernel
theorem dL_law_375 : decode cL_law 375 = .ok (.iconst 0, 1) := by decide +kernel
theorem dL_law_376 : decode cL_law 376 = .ok (.ireturn, 1) := by decide +kernel
theorem dL_law_377 : decode cL_law 377 = .ok (.aload_n 1, 1) := by decide +kernel
theorem dL_law_378 : decode cL_law 378 = .ok (.aload_n 0, 1) := by decide +kernel
theorem dL_law_379 : decode cL_law 379 = .ok (.iload_n 3, 1) := by decide +kernel
theorem dL_law_380 : decode cL_law 380 = .ok (.iconst 1, 1) := by decide +kernel
theorem dL_law_381 : decode cL_law 381 = .ok (.iadd, 1) := by decide +kernel
theorem dL_law_382 : decode cL_law 382 = .ok (.iaload, 1) := by decide +kernel
theorem dL_law_383 : decode cL_law 383 = .ok (.aload_n 0, 1) := by decide +kernel
theorem dL_law_384 : decode cL_law 384 = .ok (.iload_n 3, 1) := by decide +kernel
theorem dL_law_385 : decode cL_law 385 = .ok (.iconst 2, 1) := by decide +kernel
theorem dL_law_386 : decode cL_law 386 = .ok (.iadd, 1) := by decide +kernel
theorem dL_law_387 : decode cL_law 387 = .ok (.iaload, 1) := by decide +kernel
theorem dL_law_388 : decode cL_law 388 = .ok (.invokevirtual 39, 3) := by decide +kernel
theorem dL_law_391 : decode cL_law 391 = .ok (.aload_n 2, 1) := by decide +kernel
theorem dL_law_392 : decode cL_law 392 = .ok (.aload_n 0, 1) := by decide +kernel
theorem dL_law_393 : decode cL_law 393 = .ok (.iload_n 3, 1) := by decide +kernel
theorem dL_law_394 : decode cL_law 394 = .ok (.iconst 1, 1) := by decide +kernel
theorem dL_law_395 : decode cL_law 395 = .ok (.iadd, 1) := by decide +kernel
theorem dL_law_396 : decode cL_law 396 = .ok (.iaload, 1) := by decide +kernel
theorem dL_law_397 : decode cL_law 397 = .ok (.aload_n 0, 1) := by decide +kernel
theorem dL_law_398 : decode cL_law 398 = .ok (.iload_n 3, 1) := by decide +kernel
theorem dL_law_399 : decode cL_law 399 = .ok (.iconst 2, 1) := by decide +kernel
theorem dL_law_400 : decode cL_law 400 = .ok (.iadd, 1) := by decide +kernel
theorem dL_law_401 : decode cL_law 401 = .ok (.iaload, 1) := by decide +kernel
theorem dL_law_402 : decode cL_law 402 = .ok (.invokevirtual 43, 3) := by decide +kernel
theorem dL_law_405 : decode cL_law 405 = .ok (.lcmp, 1) := by decide +kernel
theorem dL_law_406 : decode cL_law 406 = .ok (.ifCond .eq 1218, 3) := by decide +kernel
theorem dL_law_409 : decode cL_law 409 = .ok (.iconst 0, 1) := by decide +kernel
theorem dL_law_410 : decode cL_law 410 = .ok (.ireturn, 1) := by decide +kernel
theorem dL_law_411 : decode cL_law 411 = .ok (.aload_n 1, 1) := by decide +kernel
theorem dL_law_412 : decode cL_law 412 = .ok (.aload_n 0, 1) := by decide +kernel
theorem dL_law_413 : decode cL_law 413 = .ok (.iload_n 3, 1) := by decide +kernel
theorem dL_law_414 : decode cL_law 414 = .ok (.iconst 1, 1) := by decide +kernel
theorem dL_law_415 : decode cL_law 415 = .ok (.iadd, 1) := by decide +kernel
theorem dL_law_416 : decode cL_law 416 = .ok (.iaload, 1) := by decide +kernel
theorem dL_law_417 : decode cL_law 417 = .ok (.aload_n 0, 1) := by decide +kernel
theorem dL_law_418 : decode cL_law 418 = .ok (.iload_n 3, 1) := by decide +kernel
theorem dL_law_419 : decode cL_law 419 = .ok (.iconst 2, 1) := by decide +kernel
theorem dL_law_420 : decode cL_law 420 = .ok (.iadd, 1) := by decide +kernel
theorem dL_law_421 : decode cL_law 421 = .ok (.iaload, 1) := by decide +kernel
theorem dL_law_422 : decode cL_law 422 = .ok (.aload_n 0, 1) := by decide +kernel
theorem dL_law_423 : decode cL_law 423 = .ok (.iload_n 3, 1) := by decide +kernel
theorem dL_law_424 : decode cL_law 424 = .ok (.iconst 3, 1) := by decide +kernel
theorem dL_law_425 : decode cL_law 425 = .ok (.iadd, 1) := by decide +kernel
theorem dL_law_426 : decode cL_law 426 = .ok (.iaload, 1) := by decide +kernel
theorem dL_law_427 : decode cL_law 427 = .ok (.aload_n 0, 1) := by decide +kernel
theorem dL_law_428 : decode cL_law 428 = .ok (.iload_n 3, 1) := by decide +kernel
theorem dL_law_429 : decode cL_law 429 = .ok (.iconst 4, 1) := by decide +kernel
theorem dL_law_430 : decode cL_law 430 = .ok (.iadd, 1) := by decide +kernel
theorem dL_law_431 : decode cL_law 431 = .ok (.iaload, 1) := by decide +kernel
theorem dL_law_432 : decode cL_law 432 = .ok (.aload_n 0, 1) := by decide +kernel
theorem dL_law_433 : decode cL_law 433 = .ok (.iload_n 3, 1) := by decide +kernel
theorem dL_law_434 : decode cL_law 434 = .ok (.iconst 5, 1) := by decide +kernel
theorem dL_law_435 : decode cL_law 435 = .ok (.iadd, 1) := by decide +kernel
theorem dL_law_436 : decode cL_law 436 = .ok (.iaload, 1) := by decide +kernel
theorem dL_law_437 : decode cL_law 437 = .ok (.invokevirtual 44, 3) := by decide +kernel
theorem dL_law_440 : decode cL_law 440 = .ok (.aload_n 2, 1) := by decide +kernel
theorem dL_law_441 : decode cL_law 441 = .ok (.aload_n 0, 1) := by decide +kernel
theorem dL_law_442 : decode cL_law 442 = .ok (.iload_n 3, 1) := by decide +kernel
theorem dL_law_443 : decode cL_law 443 = .ok (.iconst 1, 1) := by decide +kernel
theorem dL_law_444 : decode cL_law 444 = .ok (.iadd, 1) := by decide +kernel
theorem dL_law_445 : decode cL_law 445 = .ok (.iaload, 1) := by decide +kernel
theorem dL_law_446 : decode cL_law 446 = .ok (.aload_n 0, 1) := by decide +kernel
theorem dL_law_447 : decode cL_law 447 = .ok (.iload_n 3, 1) := by decide +kernel
theorem dL_law_448 : decode cL_law 448 = .ok (.iconst 2, 1) := by decide +kernel
theorem dL_law_449 : decode cL_law 449 = .ok (.iadd, 1) := by decide +kernel
theorem dL_law_450 : decode cL_law 450 = .ok (.iaload, 1) := by decide +kernel
theorem dL_law_451 : decode cL_law 451 = .ok (.aload_n 0, 1) := by decide +kernel
theorem dL_law_452 : decode cL_law 452 = .ok (.iload_n 3, 1) := by decide +kernel
theorem dL_law_453 : decode cL_law 453 = .ok (.iconst 3, 1) := by decide +kernel
theorem dL_law_454 : decode cL_law 454 = .ok (.iadd, 1) := by decide +kernel
theorem dL_law_455 : decode cL_law 455 = .ok (.iaload, 1) := by decide +kernel
theorem dL_law_456 : decode cL_law 456 = .ok (.aload_n 0, 1) := by decide +kernel
theorem dL_law_457 : decode cL_law 457 = .ok (.iload_n 3, 1) := by decide +kernel
theorem dL_law_458 : decode cL_law 458 = .ok (.iconst 4, 1) := by decide +kernel
theorem dL_law_459 : decode cL_law 459 = .ok (.iadd, 1) := by decide +kernel
theorem dL_law_460 : decode cL_law 460 = .ok (.iaload, 1) := by decide +kernel
theorem dL_law_461 : decode cL_law 461 = .ok (.aload_n 0, 1) := by decide +kernel
theorem dL_law_462 : decode cL_law 462 = .ok (.iload_n 3, 1) := by decide +kernel
theorem dL_law_463 : decode cL_law 463 = .ok (.iconst 5, 1) := by decide +kernel
theorem dL_law_464 : decode cL_law 464 = .ok (.iadd, 1) := by decide +kernel
theorem dL_law_465 : decode cL_law 465 = .ok (.iaload, 1) := by decide +kernel
theorem dL_law_466 : decode cL_law 466 = .ok (.invokevirtual 48, 3) := by decide +kernel
theorem dL_law_469 : decode cL_law 469 = .ok (.if_icmp .eq 1155, 3) := by decide +kernel
theorem dL_law_472 : decode cL_law 472 = .ok (.iconst 0, 1) := by decide +kernel
theorem dL_law_473 : decode cL_law 473 = .ok (.ireturn, 1) := by decide +kernel
theorem dL_law_474 : decode cL_law 474 = .ok (.aload_n 1, 1) := by decide +kernel
theorem dL_law_475 : decode cL_law 475 = .ok (.aload_n 0, 1) := by decide +kernel
theorem dL_law_476 : decode cL_law 476 = .ok (.iload_n 3, 1) := by decide +kernel
theorem dL_law_477 : decode cL_law 477 = .ok (.iconst 1, 1) := by decide +kernel
theorem dL_law_478 : decode cL_law 478 = .ok (.iadd, 1) := by decide +kernel
theorem dL_law_479 : decode cL_law 479 = .ok (.iaload, 1) := by decide +kernel
theorem dL_law_480 : decode cL_law 480 = .ok (.aload_n 0, 1) := by decide +kernel
theorem dL_law_481 : decode cL_law 481 = .ok (.iload_n 3, 1) := by decide +kernel
theorem dL_law_482 : decode cL_law 482 = .ok (.iconst 2, 1) := by decide +kernel
theorem dL_law_483 : decode cL_law 483 = .ok (.iadd, 1) := by decide +kernel
theorem dL_law_484 : decode cL_law 484 = .ok (.iaload, 1) := by decide +kernel
theorem dL_law_485 : decode cL_law 485 = .ok (.aload_n 0, 1) := by decide +kernel
theorem dL_law_486 : decode cL_law 486 = .ok (.iload_n 3, 1) := by decide +kernel
theorem dL_law_487 : decode cL_law 487 = .ok (.iconst 3, 1) := by decide +kernel
theorem dL_law_488 : decode cL_law 488 = .ok (.iadd, 1) := by decide +kernel
theorem dL_law_489 : decode cL_law 489 = .ok (.iaload, 1) := by decide +kernel
theorem dL_law_490 : decode cL_law 490 = .ok (.aload_n 0, 1) := by decide +kernel
theorem dL_law_491 : decode cL_law 491 = .ok (.iload_n 3, 1) := by decide +kernel
theorem dL_law_492 : decode cL_law 492 = .ok (.iconst 4, 1) := by decide +kernel
theorem dL_law_493 : decode cL_law 493 = .ok (.iadd, 1) := by decide +kernel
theorem dL_law_494 : decode cL_law 494 = .ok (.iaload, 1) := by decide +kernel
theorem dL_law_495 : decode cL_law 495 = .ok (.aload_n 0, 1) := by decide +kernel
theorem dL_law_496 : decode cL_law 496 = .ok (.iload_n 3, 1) := by decide +kernel
theorem dL_law_497 : decode cL_law 497 = .ok (.iconst 5, 1) := by decide +kernel
theorem dL_law_498 : decode cL_law 498 = .ok (.iadd, 1) := by decide +kernel
theorem dL_law_499 : decode cL_law 499 = .ok (.iaload, 1) := by decide +kernel
theorem dL_law_500 : decode cL_law 500 = .ok (.invokevirtual 49, 3) := by decide +kernel
theorem dL_law_503 : decode cL_law 503 = .ok (.aload_n 2, 1) := by decide +kernel
theorem dL_law_504 : decode cL_law 504 = .ok (.aload_n 0, 1) := by decide +kernel
theorem dL_law_505 : decode cL_law 505 = .ok (.iload_n 3, 1) := by decide +kernel
theorem dL_law_506 : decode cL_law 506 = .ok (.iconst 1, 1) := by decide +kernel
theorem dL_law_507 : decode cL_law 507 = .ok (.iadd, 1) := by decide +kernel
theorem dL_law_508 : decode cL_law 508 = .ok (.iaload, 1) := by decide +kernel
theorem dL_law_509 : decode cL_law 509 = .ok (.aload_n 0, 1) := by decide +kernel
theorem dL_law_510 : decode cL_law 510 = .ok (.iload_n 3, 1) := by decide +kernel
theorem dL_law_511 : decode cL_law 511 = .ok (.iconst 2, 1) := by decide +kernel
theorem dL_law_512 : decode cL_law 512 = .ok (.iadd, 1) := by decide +kernel
theorem dL_law_513 : decode cL_law 513 = .ok (.iaload, 1) := by decide +kernel
theorem dL_law_514 : decode cL_law 514 = .ok (.aload_n 0, 1) := by decide +kernel
theorem dL_law_515 : decode cL_law 515 = .ok (.iload_n 3, 1) := by decide +kernel
theorem dL_law_516 : decode cL_law 516 = .ok (.iconst 3, 1) := by decide +kernel
theorem dL_law_517 : decode cL_law 517 = .ok (.iadd, 1) := by decide +kernel
theorem dL_law_518 : decode cL_law 518 = .ok (.iaload, 1) := by decide +kernel
theorem dL_law_519 : decode cL_law 519 = .ok (.aload_n 0, 1) := by decide +kernel
theorem dL_law_520 : decode cL_law 520 = .ok (.iload_n 3, 1) := by decide +kernel
theorem dL_law_521 : decode cL_law 521 = .ok (.iconst 4, 1) := by decide +kernel
theorem dL_law_522 : decode cL_law 522 = .ok (.iadd, 1) := by decide +kernel
theorem dL_law_523 : decode cL_law 523 = .ok (.iaload, 1) := by decide +kernel
theorem dL_law_524 : decode cL_law 524 = .ok (.aload_n 0, 1) := by decide +kernel
theorem dL_law_525 : decode cL_law 525 = .ok (.iload_n 3, 1) := by decide +kernel
theorem dL_law_526 : decode cL_law 526 = .ok (.iconst 5, 1) := by decide +kernel
theorem dL_law_527 : decode cL_law 527 = .ok (.iadd, 1) := by decide +kernel
theorem dL_law_528 : decode cL_law 528 = .ok (.iaload, 1) := by decide +kernel
theorem dL_law_529 : decode cL_law 529 = .ok (.invokevirtual 53, 3) := by decide +kernel
theorem dL_law_532 : decode cL_law 532 = .ok (.if_icmp .eq 1092, 3) := by decide +kernel
theorem dL_law_535 : decode cL_law 535 = .ok (.iconst 0, 1) := by decide +kernel
theorem dL_law_536 : decode cL_law 536 = .ok (.ireturn, 1) := by decide +kernel
theorem dL_law_537 : decode cL_law 537 = .ok (.aload_n 1, 1) := by decide +kernel
theorem dL_law_538 : decode cL_law 538 = .ok (.aload_n 0, 1) := by decide +kernel
theorem dL_law_539 : decode cL_law 539 = .ok (.iload_n 3, 1) := by decide +kernel
theorem dL_law_540 : decode cL_law 540 = .ok (.iconst 1, 1) := by decide +kernel
theorem dL_law_541 : decode cL_law 541 = .ok (.iadd, 1) := by decide +kernel
theorem dL_law_542 : decode cL_law 542 = .ok (.iaload, 1) := by decide +kernel
theorem dL_law_543 : decode cL_law 543 = .ok (.invokevirtual 54, 3) := by decide +kernel
theorem dL_law_546 : decode cL_law 546 = .ok (.aload_n 2, 1) := by decide +kernel
theorem dL_law_547 : decode cL_law 547 = .ok (.aload_n 0, 1) := by decide +kernel
theorem dL_law_548 : decode cL_law 548 = .ok (.iload_n 3, 1) := by decide +kernel
theorem dL_law_549 : decode cL_law 549 = .ok (.iconst 1, 1) := by decide +kernel
theorem dL_law_550 : decode cL_law 550 = .ok (.iadd, 1) := by decide +kernel
theorem dL_law_551 : decode cL_law 551 = .ok (.iaload, 1) := by decide +kernel
theorem dL_law_552 : decode cL_law 552 = .ok (.invokevirtual 58, 3) := by decide +kernel
theorem dL_law_555 : decode cL_law 555 = .ok (.if_icmp .eq 1069, 3) := by decide +kernel
theorem dL_law_558 : decode cL_law 558 = .ok (.iconst 0, 1) := by decide +kernel
theorem dL_law_559 : decode cL_law 559 = .ok (.ireturn, 1) := by decide +kernel
theorem dL_law_560 : decode cL_law 560 = .ok (.aload_n 1, 1) := by decide +kernel
theorem dL_law_561 : decode cL_law 561 = .ok (.aload_n 0, 1) := by decide +kernel
theorem dL_law_562 : decode cL_law 562 = .ok (.iload_n 3, 1) := by decide +kernel
theorem dL_law_563 : decode cL_law 563 = .ok (.iconst 1, 1) := by decide +kernel
theorem dL_law_564 : decode cL_law 564 = .ok (.iadd, 1) := by decide +kernel
theorem dL_law_565 : decode cL_law 565 = .ok (.iaload, 1) := by decide +kernel
theorem dL_law_566 : decode cL_law 566 = .ok (.invokevirtual 59, 3) := by decide +kernel
theorem dL_law_569 : decode cL_law 569 = .ok (.aload_n 2, 1) := by decide +kernel
theorem dL_law_570 : decode cL_law 570 = .ok (.aload_n 0, 1) := by decide +kernel
theorem dL_law_571 : decode cL_law 571 = .ok (.iload_n 3, 1) := by decide +kernel
theorem dL_law_572 : decode cL_law 572 = .ok (.iconst 1, 1) := by decide +kernel
theorem dL_law_573 : decode cL_law 573 = .ok (.iadd, 1) := by decide +kernel
theorem dL_law_574 : decode cL_law 574 = .ok (.iaload, 1) := by decide +kernel
theorem dL_law_575 : decode cL_law 575 = .ok (.invokevirtual 62, 3) := by decide +kernel
theorem dL_law_578 : decode cL_law 578 = .ok (.if_icmp .eq 1046, 3) := by decide +kernel
theorem dL_law_581 : decode cL_law 581 = .ok (.iconst 0, 1) := by decide +kernel
theorem dL_law_582 : decode cL_law 582 = .ok (.ireturn, 1) := by decide +kernel
theorem dL_law_583 : decode cL_law 583 = .ok (.aload_n 1, 1) := by decide +kernel
theorem dL_law_584 : decode cL_law 584 = .ok (.aload_n 0, 1) := by decide +kernel
theorem dL_law_585 : decode cL_law 585 = .ok (.iload_n 3, 1) := by decide +kernel
theorem dL_law_586 : decode cL_law 586 = .ok (.iconst 1, 1) := by decide +kernel
theorem dL_law_587 : decode cL_law 587 = .ok (.iadd, 1) := by decide +kernel
theorem dL_law_588 : decode cL_law 588 = .ok (.iaload, 1) := by decide +kernel
theorem dL_law_589 : decode cL_law 589 = .ok (.invokevirtual 63, 3) := by decide +kernel
theorem dL_law_592 : decode cL_law 592 = .ok (.aload_n 2, 1) := by decide +kernel
theorem dL_law_593 : decode cL_law 593 = .ok (.aload_n 0, 1) := by decide +kernel
theorem dL_law_594 : decode cL_law 594 = .ok (.iload_n 3, 1) := by decide +kernel
theorem dL_law_595 : decode cL_law 595 = .ok (.iconst 1, 1) := by decide +kernel
theorem dL_law_596 : decode cL_law 596 = .ok (.iadd, 1) := by decide +kernel
theorem dL_law_597 : decode cL_law 597 = .ok (.iaload, 1) := by decide +kernel
theorem dL_law_598 : decode cL_law 598 = .ok (.invokevirtual 66, 3) := by decide +kernel
theorem dL_law_601 : decode cL_law 601 = .ok (.if_icmp .eq 1023, 3) := by decide +kernel
theorem dL_law_604 : decode cL_law 604 = .ok (.iconst 0, 1) := by decide +kernel
theorem dL_law_605 : decode cL_law 605 = .ok (.ireturn, 1) := by decide +kernel
theorem dL_law_606 : decode cL_law 606 = .ok (.aload_n 1, 1) := by decide +kernel
theorem dL_law_607 : decode cL_law 607 = .ok (.aload_n 0, 1) := by decide +kernel
theorem dL_law_608 : decode cL_law 608 = .ok (.iload_n 3, 1) := by decide +kernel
theorem dL_law_609 : decode cL_law 609 = .ok (.iconst 1, 1) := by decide +kernel
theorem dL_law_610 : decode cL_law 610 = .ok (.iadd, 1) := by decide +kernel
theorem dL_law_611 : decode cL_law 611 = .ok (.iaload, 1) := by decide +kernel
theorem dL_law_612 : decode cL_law 612 = .ok (.invokevirtual 67, 3) := by decide +kernel
theorem dL_law_615 : decode cL_law 615 = .ok (.aload_n 2, 1) := by decide +kernel
theorem dL_law_616 : decode cL_law 616 = .ok (.aload_n 0, 1) := by decide +kernel
theorem dL_law_617 : decode cL_law 617 = .ok (.iload_n 3, 1) := by decide +kernel
theorem dL_law_618 : decode cL_law 618 = .ok (.iconst 1, 1) := by decide +kernel
theorem dL_law_619 : decode cL_law 619 = .ok (.iadd, 1) := by decide +kernel
theorem dL_law_620 : decode cL_law 620 = .ok (.iaload, 1) := by decide +kernel
theorem dL_law_621 : decode cL_law 621 = .ok (.invokevirtual 70, 3) := by decide +kernel
theorem dL_law_624 : decode cL_law 624 = .ok (.if_icmp .eq 1000, 3) := by decide +kernel
theorem dL_law_627 : decode cL_law 627 = .ok (.iconst 0, 1) := by decide +kernel
theorem dL_law_628 : decode cL_law 628 = .ok (.ireturn, 1) := by decide +kernel
theorem dL_law_629 : decode cL_law 629 = .ok (.aload_n 1, 1) := by decide +kernel
theorem dL_law_630 : decode cL_law 630 = .ok (.aload_n 0, 1) := by decide +kernel
theorem dL_law_631 : decode cL_law 631 = .ok (.iload_n 3, 1) := by decide +kernel
theorem dL_law_632 : decode cL_law 632 = .ok (.iconst 1, 1) := by decide +kernel
theorem dL_law_633 : decode cL_law 633 = .ok (.iadd, 1) := by decide +kernel
theorem dL_law_634 : decode cL_law 634 = .ok (.iaload, 1) := by decide +kernel
theorem dL_law_635 : decode cL_law 635 = .ok (.aload_n 0, 1) := by decide +kernel
theorem dL_law_636 : decode cL_law 636 = .ok (.iload_n 3, 1) := by decide +kernel
theorem dL_law_637 : decode cL_law 637 = .ok (.iconst 2, 1) := by decide +kernel
theorem dL_law_638 : decode cL_law 638 = .ok (.iadd, 1) := by decide +kernel
theorem dL_law_639 : decode cL_law 639 = .ok (.iaload, 1) := by decide +kernel
theorem dL_law_640 : decode cL_law 640 = .ok (.invokevirtual 71, 3) := by decide +kernel
theorem dL_law_643 : decode cL_law 643 = .ok (.aload_n 2, 1) := by decide +kernel
theorem dL_law_644 : decode cL_law 644 = .ok (.aload_n 0, 1) := by decide +kernel
theorem dL_law_645 : decode cL_law 645 = .ok (.iload_n 3, 1) := by decide +kernel
theorem dL_law_646 : decode cL_law 646 = .ok (.iconst 1, 1) := by decide +kernel
theorem dL_law_647 : decode cL_law 647 = .ok (.iadd, 1) := by decide +kernel
theorem dL_law_648 : decode cL_law 648 = .ok (.iaload, 1) := by decide +kernel
theorem dL_law_649 : decode cL_law 649 = .ok (.aload_n 0, 1) := by decide +kernel
theorem dL_law_650 : decode cL_law 650 = .ok (.iload_n 3, 1) := by decide +kernel
theorem dL_law_651 : decode cL_law 651 = .ok (.iconst 2, 1) := by decide +kernel
theorem dL_law_652 : decode cL_law 652 = .ok (.iadd, 1) := by decide +kernel
theorem dL_law_653 : decode cL_law 653 = .ok (.iaload, 1) := by decide +kernel
theorem dL_law_654 : decode cL_law 654 = .ok (.invokevirtual 75, 3) := by decide +kernel
theorem dL_law_657 : decode cL_law 657 = .ok (.if_icmp .eq 967, 3) := by decide +kernel
theorem dL_law_660 : decode cL_law 660 = .ok (.iconst 0, 1) := by decide +kernel
theorem dL_law_661 : decode cL_law 661 = .ok (.ireturn, 1) := by decide +kernel
theorem dL_law_662 : decode cL_law 662 = .ok (.aload_n 1, 1) := by decide +kernel
theorem dL_law_663 : decode cL_law 663 = .ok (.aload_n 0, 1) := by decide +kernel
theorem dL_law_664 : decode cL_law 664 = .ok (.iload_n 3, 1) := by decide +kernel
theorem dL_law_665 : decode cL_law 665 = .ok (.iconst 1, 1) := by decide +kernel
theorem dL_law_666 : decode cL_law 666 = .ok (.iadd, 1) := by decide +kernel
theorem dL_law_667 : decode cL_law 667 = .ok (.iaload, 1) := by decide +kernel
theorem dL_law_668 : decode cL_law 668 = .ok (.aload_n 0, 1) := by decide +kernel
theorem dL_law_669 : decode cL_law 669 = .ok (.iload_n 3, 1) := by decide +kernel
theorem dL_law_670 : decode cL_law 670 = .ok (.iconst 2, 1) := by decide +kernel
theorem dL_law_671 : decode cL_law 671 = .ok (.iadd, 1) := by decide +kernel
theorem dL_law_672 : decode cL_law 672 = .ok (.iaload, 1) := by decide +kernel
theorem dL_law_673 : decode cL_law 673 = .ok (.invokevirtual 76, 3) := by decide +kernel
theorem dL_law_676 : decode cL_law 676 = .ok (.aload_n 2, 1) := by decide +kernel
theorem dL_law_677 : decode cL_law 677 = .ok (.aload_n 0, 1) := by decide +kernel
theorem dL_law_678 : decode cL_law 678 = .ok (.iload_n 3, 1) := by decide +kernel
theorem dL_law_679 : decode cL_law 679 = .ok (.iconst 1, 1) := by decide +kernel
theorem dL_law_680 : decode cL_law 680 = .ok (.iadd, 1) := by decide +kernel
theorem dL_law_681 : decode cL_law 681 = .ok (.iaload, 1) := by decide +kernel
theorem dL_law_682 : decode cL_law 682 = .ok (.aload_n 0, 1) := by decide +kernel
theorem dL_law_683 : decode cL_law 683 = .ok (.iload_n 3, 1) := by decide +kernel
theorem dL_law_684 : decode cL_law 684 = .ok (.iconst 2, 1) := by decide +kernel
theorem dL_law_685 : decode cL_law 685 = .ok (.iadd, 1) := by decide +kernel
theorem dL_law_686 : decode cL_law 686 = .ok (.iaload, 1) := by decide +kernel
theorem dL_law_687 : decode cL_law 687 = .ok (.invokevirtual 79, 3) := by decide +kernel
theorem dL_law_690 : decode cL_law 690 = .ok (.if_icmp .eq 934, 3) := by decide +kernel
theorem dL_law_693 : decode cL_law 693 = .ok (.iconst 0, 1) := by decide +kernel
theorem dL_law_694 : decode cL_law 694 = .ok (.ireturn, 1) := by decide +kernel
theorem dL_law_695 : decode cL_law 695 = .ok (.aload_n 1, 1) := by decide +kernel
theorem dL_law_696 : decode cL_law 696 = .ok (.aload_n 0, 1) := by decide +kernel
theorem dL_law_697 : decode cL_law 697 = .ok (.iload_n 3, 1) := by decide +kernel
theorem dL_law_698 : decode cL_law 698 = .ok (.iconst 1, 1) := by decide +kernel
theorem dL_law_699 : decode cL_law 699 = .ok (.iadd, 1) := by decide +kernel
theorem dL_law_700 : decode cL_law 700 = .ok (.iaload, 1) := by decide +kernel
theorem dL_law_701 : decode cL_law 701 = .ok (.aload_n 0, 1) := by decide +kernel
theorem dL_law_702 : decode cL_law 702 = .ok (.iload_n 3, 1) := by decide +kernel
theorem dL_law_703 : decode cL_law 703 = .ok (.iconst 2, 1) := by decide +kernel
theorem dL_law_704 : decode cL_law 704 = .ok (.iadd, 1) := by decide +kernel
theorem dL_law_705 : decode cL_law 705 = .ok (.iaload, 1) := by decide +kernel
theorem dL_law_706 : decode cL_law 706 = .ok (.invokevirtual 80, 3) := by decide +kernel
theorem dL_law_709 : decode cL_law 709 = .ok (.aload_n 2, 1) := by decide +kernel
theorem dL_law_710 : decode cL_law 710 = .ok (.aload_n 0, 1) := by decide +kernel
theorem dL_law_711 : decode cL_law 711 = .ok (.iload_n 3, 1) := by decide +kernel
theorem dL_law_712 : decode cL_law 712 = .ok (.iconst 1, 1) := by decide +kernel
theorem dL_law_713 : decode cL_law 713 = .ok (.iadd, 1) := by decide +kernel
theorem dL_law_714 : decode cL_law 714 = .ok (.iaload, 1) := by decide +kernel
theorem dL_law_715 : decode cL_law 715 = .ok (.aload_n 0, 1) := by decide +kernel
theorem dL_law_716 : decode cL_law 716 = .ok (.iload_n 3, 1) := by decide +kernel
theorem dL_law_717 : decode cL_law 717 = .ok (.iconst 2, 1) := by decide +kernel
theorem dL_law_718 : decode cL_law 718 = .ok (.iadd, 1) := by decide +kernel
theorem dL_law_719 : decode cL_law 719 = .ok (.iaload, 1) := by decide +kernel
theorem dL_law_720 : decode cL_law 720 = .ok (.invokevirtual 83, 3) := by decide +kernel
theorem dL_law_723 : decode cL_law 723 = .ok (.if_icmp .eq 901, 3) := by decide +kernel
theorem dL_law_726 : decode cL_law 726 = .ok (.iconst 0, 1) := by decide +kernel
theorem dL_law_727 : decode cL_law 727 = .ok (.ireturn, 1) := by decide +kernel
theorem dL_law_728 : decode cL_law 728 = .ok (.aload_n 1, 1) := by decide +kernel
theorem dL_law_729 : decode cL_law 729 = .ok (.aload_n 0, 1) := by decide +kernel
theorem dL_law_730 : decode cL_law 730 = .ok (.iload_n 3, 1) := by decide +kernel
theorem dL_law_731 : decode cL_law 731 = .ok (.iconst 1, 1) := by decide +kernel
theorem dL_law_732 : decode cL_law 732 = .ok (.iadd, 1) := by decide +kernel
theorem dL_law_733 : decode cL_law 733 = .ok (.iaload, 1) := by decide +kernel
theorem dL_law_734 : decode cL_law 734 = .ok (.invokevirtual 84, 3) := by decide +kernel
theorem dL_law_737 : decode cL_law 737 = .ok (.aload_n 2, 1) := by decide +kernel
theorem dL_law_738 : decode cL_law 738 = .ok (.aload_n 0, 1) := by decide +kernel
theorem dL_law_739 : decode cL_law 739 = .ok (.iload_n 3, 1) := by decide +kernel
theorem dL_law_740 : decode cL_law 740 = .ok (.iconst 1, 1) := by decide +kernel
theorem dL_law_741 : decode cL_law 741 = .ok (.iadd, 1) := by decide +kernel
theorem dL_law_742 : decode cL_law 742 = .ok (.iaload, 1) := by decide +kernel
theorem dL_law_743 : decode cL_law 743 = .ok (.invokevirtual 88, 3) := by decide +kernel
theorem dL_law_746 : decode cL_law 746 = .ok (.if_icmp .eq 878, 3) := by decide +kernel
theorem dL_law_749 : decode cL_law 749 = .ok (.iconst 0, 1) := by decide +kernel
theorem dL_law_750 : decode cL_law 750 = .ok (.ireturn, 1) := by decide +kernel
theorem dL_law_751 : decode cL_law 751 = .ok (.aload_n 1, 1) := by decide +kernel
theorem dL_law_752 : decode cL_law 752 = .ok (.aload_n 0, 1) := by decide +kernel
theorem dL_law_753 : decode cL_law 753 = .ok (.iload_n 3, 1) := by decide +kernel
theorem dL_law_754 : decode cL_law 754 = .ok (.iconst 1, 1) := by decide +kernel
theorem dL_law_755 : decode cL_law 755 = .ok (.iadd, 1) := by decide +kernel
theorem dL_law_756 : decode cL_law 756 = .ok (.iaload, 1) := by decide +kernel
theorem dL_law_757 : decode cL_law 757 = .ok (.invokevirtual 89, 3) := by decide +kernel
theorem dL_law_760 : decode cL_law 760 = .ok (.aload_n 2, 1) := by decide +kernel
theorem dL_law_761 : decode cL_law 761 = .ok (.aload_n 0, 1) := by decide +kernel
theorem dL_law_762 : decode cL_law 762 = .ok (.iload_n 3, 1) := by decide +kernel
theorem dL_law_763 : decode cL_law 763 = .ok (.iconst 1, 1) := by decide +kernel
theorem dL_law_764 : decode cL_law 764 = .ok (.iadd, 1) := by decide +kernel
theorem dL_law_765 : decode cL_law 765 = .ok (.iaload, 1) := by decide +kernel
theorem dL_law_766 : decode cL_law 766 = .ok (.invokevirtual 92, 3) := by decide +kernel
theorem dL_law_769 : decode cL_law 769 = .ok (.if_icmp .eq 855, 3) := by decide +kernel
theorem dL_law_772 : decode cL_law 772 = .ok (.iconst 0, 1) := by decide +kernel
theorem dL_law_773 : decode cL_law 773 = .ok (.ireturn, 1) := by decide +kernel
theorem dL_law_774 : decode cL_law 774 = .ok (.aload_n 1, 1) := by decide +kernel
theorem dL_law_775 : decode cL_law 775 = .ok (.aload_n 0, 1) := by decide +kernel
theorem dL_law_776 : decode cL_law 776 = .ok (.iload_n 3, 1) := by decide +kernel
theorem dL_law_777 : decode cL_law 777 = .ok (.iconst 1, 1) := by decide +kernel
theorem dL_law_778 : decode cL_law 778 = .ok (.iadd, 1) := by decide +kernel
theorem dL_law_779 : decode cL_law 779 = .ok (.iaload, 1) := by decide +kernel
theorem dL_law_780 : decode cL_law 780 = .ok (.aload_n 0, 1) := by decide +kernel
theorem dL_law_781 : decode cL_law 781 = .ok (.iload_n 3, 1) := by decide +kernel
theorem dL_law_782 : decode cL_law 782 = .ok (.iconst 2, 1) := by decide +kernel
theorem dL_law_783 : decode cL_law 783 = .ok (.iadd, 1) := by decide +kernel
theorem dL_law_784 : decode cL_law 784 = .ok (.iaload, 1) := by decide +kernel
theorem dL_law_785 : decode cL_law 785 = .ok (.invokevirtual 93, 3) := by decide +kernel
theorem dL_law_788 : decode cL_law 788 = .ok (.aload_n 2, 1) := by decide +kernel
theorem dL_law_789 : decode cL_law 789 = .ok (.aload_n 0, 1) := by decide +kernel
theorem dL_law_790 : decode cL_law 790 = .ok (.iload_n 3, 1) := by decide +kernel
theorem dL_law_791 : decode cL_law 791 = .ok (.iconst 1, 1) := by decide +kernel
theorem dL_law_792 : decode cL_law 792 = .ok (.iadd, 1) := by decide +kernel
theorem dL_law_793 : decode cL_law 793 = .ok (.iaload, 1) := by decide +kernel
theorem dL_law_794 : decode cL_law 794 = .ok (.aload_n 0, 1) := by decide +kernel
theorem dL_law_795 : decode cL_law 795 = .ok (.iload_n 3, 1) := by decide +kernel
theorem dL_law_796 : decode cL_law 796 = .ok (.iconst 2, 1) := by decide +kernel
theorem dL_law_797 : decode cL_law 797 = .ok (.iadd, 1) := by decide +kernel
theorem dL_law_798 : decode cL_law 798 = .ok (.iaload, 1) := by decide +kernel
theorem dL_law_799 : decode cL_law 799 = .ok (.invokevirtual 96, 3) := by decide +kernel
theorem dL_law_802 : decode cL_law 802 = .ok (.if_icmp .eq 822, 3) := by decide +kernel
theorem dL_law_805 : decode cL_law 805 = .ok (.iconst 0, 1) := by decide +kernel
theorem dL_law_806 : decode cL_law 806 = .ok (.ireturn, 1) := by decide +kernel
theorem dL_law_807 : decode cL_law 807 = .ok (.aload_n 1, 1) := by decide +kernel
theorem dL_law_808 : decode cL_law 808 = .ok (.aload_n 0, 1) := by decide +kernel
theorem dL_law_809 : decode cL_law 809 = .ok (.iload_n 3, 1) := by decide +kernel
theorem dL_law_810 : decode cL_law 810 = .ok (.iconst 1, 1) := by decide +kernel
theorem dL_law_811 : decode cL_law 811 = .ok (.iadd, 1) := by decide +kernel
theorem dL_law_812 : decode cL_law 812 = .ok (.iaload, 1) := by decide +kernel
theorem dL_law_813 : decode cL_law 813 = .ok (.aload_n 0, 1) := by decide +kernel
theorem dL_law_814 : decode cL_law 814 = .ok (.iload_n 3, 1) := by decide +kernel
theorem dL_law_815 : decode cL_law 815 = .ok (.iconst 2, 1) := by decide +kernel
theorem dL_law_816 : decode cL_law 816 = .ok (.iadd, 1) := by decide +kernel
theorem dL_law_817 : decode cL_law 817 = .ok (.iaload, 1) := by decide +kernel
theorem dL_law_818 : decode cL_law 818 = .ok (.invokevirtual 97, 3) := by decide +kernel
theorem dL_law_821 : decode cL_law 821 = .ok (.aload_n 2, 1) := by decide +kernel
theorem dL_law_822 : decode cL_law 822 = .ok (.aload_n 0, 1) := by decide +kernel
theorem dL_law_823 : decode cL_law 823 = .ok (.iload_n 3, 1) := by decide +kernel
theorem dL_law_824 : decode cL_law 824 = .ok (.iconst 1, 1) := by decide +kernel
theorem dL_law_825 : decode cL_law 825 = .ok (.iadd, 1) := by decide +kernel
theorem dL_law_826 : decode cL_law 826 = .ok (.iaload, 1) := by decide +kernel
theorem dL_law_827 : decode cL_law 827 = .ok (.aload_n 0, 1) := by decide +kernel
theorem dL_law_828 : decode cL_law 828 = .ok (.iload_n 3, 1) := by decide +kernel
theorem dL_law_829 : decode cL_law 829 = .ok (.iconst 2, 1) := by decide +kernel
theorem dL_law_830 : decode cL_law 830 = .ok (.iadd, 1) := by decide +kernel
theorem dL_law_831 : decode cL_law 831 = .ok (.iaload, 1) := by decide +kernel
theorem dL_law_832 : decode cL_law 832 = .ok (.invokevirtual 100, 3) := by decide +kernel
theorem dL_law_835 : decode cL_law 835 = .ok (.if_icmp .eq 789, 3) := by decide +kernel
theorem dL_law_838 : decode cL_law 838 = .ok (.iconst 0, 1) := by decide +kernel
theorem dL_law_839 : decode cL_law 839 = .ok (.ireturn, 1) := by decide +kernel
theorem dL_law_840 : decode cL_law 840 = .ok (.aload_n 1, 1) := by decide +kernel
theorem dL_law_841 : decode cL_law 841 = .ok (.aload_n 0, 1) := by decide +kernel
theorem dL_law_842 : decode cL_law 842 = .ok (.iload_n 3, 1) := by decide +kernel
theorem dL_law_843 : decode cL_law 843 = .ok (.iconst 1, 1) := by decide +kernel
theorem dL_law_844 : decode cL_law 844 = .ok (.iadd, 1) := by decide +kernel
theorem dL_law_845 : decode cL_law 845 = .ok (.iaload, 1) := by decide +kernel
theorem dL_law_846 : decode cL_law 846 = .ok (.invokevirtual 101, 3) := by decide +kernel
theorem dL_law_849 : decode cL_law 849 = .ok (.aload_n 2, 1) := by decide +kernel
theorem dL_law_850 : decode cL_law 850 = .ok (.aload_n 0, 1) := by decide +kernel
theorem dL_law_851 : decode cL_law 851 = .ok (.iload_n 3, 1) := by decide +kernel
theorem dL_law_852 : decode cL_law 852 = .ok (.iconst 1, 1) := by decide +kernel
theorem dL_law_853 : decode cL_law 853 = .ok (.iadd, 1) := by decide +kernel
theorem dL_law_854 : decode cL_law 854 = .ok (.iaload, 1) := by decide +kernel
theorem dL_law_855 : decode cL_law 855 = .ok (.invokevirtual 104, 3) := by decide +kernel
theorem dL_law_858 : decode cL_law 858 = .ok (.if_icmp .eq 766, 3) := by decide +kernel
theorem dL_law_861 : decode cL_law 861 = .ok (.iconst 0, 1) := by decide +kernel
theorem dL_law_862 : decode cL_law 862 = .ok (.ireturn, 1) := by decide +kernel
theorem dL_law_863 : decode cL_law 863 = .ok (.aload_n 1, 1) := by decide +kernel
theorem dL_law_864 : decode cL_law 864 = .ok (.aload_n 0, 1) := by decide +kernel
theorem dL_law_865 : decode cL_law 865 = .ok (.iload_n 3, 1) := by decide +kernel
theorem dL_law_866 : decode cL_law 866 = .ok (.iconst 1, 1) := by decide +kernel
theorem dL_law_867 : decode cL_law 867 = .ok (.iadd, 1) := by decide +kernel
theorem dL_law_868 : decode cL_law 868 = .ok (.iaload, 1) := by decide +kernel
theorem dL_law_869 : decode cL_law 869 = .ok (.aload_n 0, 1) := by decide +kernel
theorem dL_law_870 : decode cL_law 870 = .ok (.iload_n 3, 1) := by decide +kernel
theorem dL_law_871 : decode cL_law 871 = .ok (.iconst 2, 1) := by decide +kernel
theorem dL_law_872 : decode cL_law 872 = .ok (.iadd, 1) := by decide +kernel
theorem dL_law_873 : decode cL_law 873 = .ok (.iaload, 1) := by decide +kernel
theorem dL_law_874 : decode cL_law 874 = .ok (.aload_n 0, 1) := by decide +kernel
theorem dL_law_875 : decode cL_law 875 = .ok (.iload_n 3, 1) := by decide +kernel
theorem dL_law_876 : decode cL_law 876 = .ok (.iconst 3, 1) := by decide +kernel
theorem dL_law_877 : decode cL_law 877 = .ok (.iadd, 1) := by decide +kernel
theorem dL_law_878 : decode cL_law 878 = .ok (.iaload, 1) := by decide +kernel
theorem dL_law_879 : decode cL_law 879 = .ok (.invokevirtual 105, 3) := by decide +kernel
theorem dL_law_882 : decode cL_law 882 = .ok (.aload_n 2, 1) := by decide +kernel
theorem dL_law_883 : decode cL_law 883 = .ok (.aload_n 0, 1) := by decide +kernel
theorem dL_law_884 : decode cL_law 884 = .ok (.iload_n 3, 1) := by decide +kernel
theorem dL_law_885 : decode cL_law 885 = .ok (.iconst 1, 1) := by decide +kernel
theorem dL_law_886 : decode cL_law 886 = .ok (.iadd, 1) := by decide +kernel
theorem dL_law_887 : decode cL_law 887 = .ok (.iaload, 1) := by decide +kernel
theorem dL_law_888 : decode cL_law 888 = .ok (.aload_n 0, 1) := by decide +kernel
theorem dL_law_889 : decode cL_law 889 = .ok (.iload_n 3, 1) := by decide +kernel
theorem dL_law_890 : decode cL_law 890 = .ok (.iconst 2, 1) := by decide +kernel
theorem dL_law_891 : decode cL_law 891 = .ok (.iadd, 1) := by decide +kernel
theorem dL_law_892 : decode cL_law 892 = .ok (.iaload, 1) := by decide +kernel
theorem dL_law_893 : decode cL_law 893 = .ok (.aload_n 0, 1) := by decide +kernel
theorem dL_law_894 : decode cL_law 894 = .ok (.iload_n 3, 1) := by decide +kernel
theorem dL_law_895 : decode cL_law 895 = .ok (.iconst 3, 1) := by decide +kernel
theorem dL_law_896 : decode cL_law 896 = .ok (.iadd, 1) := by decide +kernel
theorem dL_law_897 : decode cL_law 897 = .ok (.iaload, 1) := by decide +kernel
theorem dL_law_898 : decode cL_law 898 = .ok (.invokevirtual 109, 3) := by decide +kernel
theorem dL_law_901 : decode cL_law 901 = .ok (.if_icmp .eq 723, 3) := by decide +kernel
theorem dL_law_904 : decode cL_law 904 = .ok (.iconst 0, 1) := by decide +kernel
theorem dL_law_905 : decode cL_law 905 = .ok (.ireturn, 1) := by decide +kernel
theorem dL_law_906 : decode cL_law 906 = .ok (.aload_n 1, 1) := by decide +kernel
theorem dL_law_907 : decode cL_law 907 = .ok (.aload_n 0, 1) := by decide +kernel
theorem dL_law_908 : decode cL_law 908 = .ok (.iload_n 3, 1) := by decide +kernel
theorem dL_law_909 : decode cL_law 909 = .ok (.iconst 1, 1) := by decide +kernel
theorem dL_law_910 : decode cL_law 910 = .ok (.iadd, 1) := by decide +kernel
theorem dL_law_911 : decode cL_law 911 = .ok (.iaload, 1) := by decide +kernel
theorem dL_law_912 : decode cL_law 912 = .ok (.aload_n 0, 1) := by decide +kernel
theorem dL_law_913 : decode cL_law 913 = .ok (.iload_n 3, 1) := by decide +kernel
theorem dL_law_914 : decode cL_law 914 = .ok (.iconst 2, 1) := by decide +kernel
theorem dL_law_915 : decode cL_law 915 = .ok (.iadd, 1) := by decide +kernel
theorem dL_law_916 : decode cL_law 916 = .ok (.iaload, 1) := by decide +kernel
theorem dL_law_917 : decode cL_law 917 = .ok (.invokevirtual 110, 3) := by decide +kernel
theorem dL_law_920 : decode cL_law 920 = .ok (.aload_n 2, 1) := by decide +kernel
theorem dL_law_921 : decode cL_law 921 = .ok (.aload_n 0, 1) := by decide +kernel
theorem dL_law_922 : decode cL_law 922 = .ok (.iload_n 3, 1) := by decide +kernel
theorem dL_law_923 : decode cL_law 923 = .ok (.iconst 1, 1) := by decide +kernel
theorem dL_law_924 : decode cL_law 924 = .ok (.iadd, 1) := by decide +kernel
theorem dL_law_925 : decode cL_law 925 = .ok (.iaload, 1) := by decide +kernel
theorem dL_law_926 : decode cL_law 926 = .ok (.aload_n 0, 1) := by decide +kernel
theorem dL_law_927 : decode cL_law 927 = .ok (.iload_n 3, 1) := by decide +kernel
theorem dL_law_928 : decode cL_law 928 = .ok (.iconst 2, 1) := by decide +kernel
theorem dL_law_929 : decode cL_law 929 = .ok (.iadd, 1) := by decide +kernel
theorem dL_law_930 : decode cL_law 930 = .ok (.iaload, 1) := by decide +kernel
theorem dL_law_931 : decode cL_law 931 = .ok (.invokevirtual 113, 3) := by decide +kernel
theorem dL_law_934 : decode cL_law 934 = .ok (.if_icmp .eq 690, 3) := by decide +kernel
theorem dL_law_937 : decode cL_law 937 = .ok (.iconst 0, 1) := by decide +kernel
theorem dL_law_938 : decode cL_law 938 = .ok (.ireturn, 1) := by decide +kernel
theorem dL_law_939 : decode cL_law 939 = .ok (.aload_n 1, 1) := by decide +kernel
theorem dL_law_940 : decode cL_law 940 = .ok (.invokevirtual 114, 3) := by decide +kernel
theorem dL_law_943 : decode cL_law 943 = .ok (.aload_n 2, 1) := by decide +kernel
theorem dL_law_944 : decode cL_law 944 = .ok (.invokevirtual 117, 3) := by decide +kernel
theorem dL_law_947 : decode cL_law 947 = .ok (.if_icmp .eq 677, 3) := by decide +kernel
theorem dL_law_950 : decode cL_law 950 = .ok (.iconst 0, 1) := by decide +kernel
theorem dL_law_951 : decode cL_law 951 = .ok (.ireturn, 1) := by decide +kernel
theorem dL_law_952 : decode cL_law 952 = .ok (.aload_n 1, 1) := by decide +kernel
theorem dL_law_953 : decode cL_law 953 = .ok (.aload_n 0, 1) := by decide +kernel
theorem dL_law_954 : decode cL_law 954 = .ok (.iload_n 3, 1) := by decide +kernel
theorem dL_law_955 : decode cL_law 955 = .ok (.iconst 1, 1) := by decide +kernel
theorem dL_law_956 : decode cL_law 956 = .ok (.iadd, 1) := by decide +kernel
theorem dL_law_957 : decode cL_law 957 = .ok (.iaload, 1) := by decide +kernel
theorem dL_law_958 : decode cL_law 958 = .ok (.aload_n 0, 1) := by decide +kernel
theorem dL_law_959 : decode cL_law 959 = .ok (.iload_n 3, 1) := by decide +kernel
theorem dL_law_960 : decode cL_law 960 = .ok (.iconst 2, 1) := by decide +kernel
theorem dL_law_961 : decode cL_law 961 = .ok (.iadd, 1) := by decide +kernel
theorem dL_law_962 : decode cL_law 962 = .ok (.iaload, 1) := by decide +kernel
theorem dL_law_963 : decode cL_law 963 = .ok (.aload_n 0, 1) := by decide +kernel
theorem dL_law_964 : decode cL_law 964 = .ok (.iload_n 3, 1) := by decide +kernel
theorem dL_law_965 : decode cL_law 965 = .ok (.iconst 3, 1) := by decide +kernel
theorem dL_law_966 : decode cL_law 966 = .ok (.iadd, 1) := by decide +kernel
theorem dL_law_967 : decode cL_law 967 = .ok (.iaload, 1) := by decide +kernel
theorem dL_law_968 : decode cL_law 968 = .ok (.invokevirtual 118, 3) := by decide +kernel
theorem dL_law_971 : decode cL_law 971 = .ok (.aload_n 2, 1) := by decide +kernel
theorem dL_law_972 : decode cL_law 972 = .ok (.aload_n 0, 1) := by decide +kernel
theorem dL_law_973 : decode cL_law 973 = .ok (.iload_n 3, 1) := by decide +kernel
theorem dL_law_974 : decode cL_law 974 = .ok (.iconst 1, 1) := by decide +kernel
theorem dL_law_975 : decode cL_law 975 = .ok (.iadd, 1) := by decide +kernel
theorem dL_law_976 : decode cL_law 976 = .ok (.iaload, 1) := by decide +kernel
theorem dL_law_977 : decode cL_law 977 = .ok (.aload_n 0, 1) := by decide +kernel
theorem dL_law_978 : decode cL_law 978 = .ok (.iload_n 3, 1) := by decide +kernel
theorem dL_law_979 : decode cL_law 979 = .ok (.iconst 2, 1) := by decide +kernel
theorem dL_law_980 : decode cL_law 980 = .ok (.iadd, 1) := by decide +kernel
theorem dL_law_981 : decode cL_law 981 = .ok (.iaload, 1) := by decide +kernel
theorem dL_law_982 : decode cL_law 982 = .ok (.aload_n 0, 1) := by decide +kernel
theorem dL_law_983 : decode cL_law 983 = .ok (.iload_n 3, 1) := by decide +kernel
theorem dL_law_984 : decode cL_law 984 = .ok (.iconst 3, 1) := by decide +kernel
theorem dL_law_985 : decode cL_law 985 = .ok (.iadd, 1) := by decide +kernel
theorem dL_law_986 : decode cL_law 986 = .ok (.iaload, 1) := by decide +kernel
theorem dL_law_987 : decode cL_law 987 = .ok (.invokevirtual 121, 3) := by decide +kernel
theorem dL_law_990 : decode cL_law 990 = .ok (.if_icmp .eq 634, 3) := by decide +kernel
theorem dL_law_993 : decode cL_law 993 = .ok (.iconst 0, 1) := by decide +kernel
theorem dL_law_994 : decode cL_law 994 = .ok (.ireturn, 1) := by decide +kernel
theorem dL_law_995 : decode cL_law 995 = .ok (.aload_n 1, 1) := by decide +kernel
theorem dL_law_996 : decode cL_law 996 = .ok (.aload_n 0, 1) := by decide +kernel
theorem dL_law_997 : decode cL_law 997 = .ok (.iload_n 3, 1) := by decide +kernel
theorem dL_law_998 : decode cL_law 998 = .ok (.iconst 1, 1) := by decide +kernel
theorem dL_law_999 : decode cL_law 999 = .ok (.iadd, 1) := by decide +kernel
theorem dL_law_1000 : decode cL_law 1000 = .ok (.iaload, 1) := by decide +kernel
theorem dL_law_1001 : decode cL_law 1001 = .ok (.invokevirtual 122, 3) := by decide +kernel
theorem dL_law_1004 : decode cL_law 1004 = .ok (.aload_n 2, 1) := by decide +kernel
theorem dL_law_1005 : decode cL_law 1005 = .ok (.aload_n 0, 1) := by decide +kernel
theorem dL_law_1006 : decode cL_law 1006 = .ok (.iload_n 3, 1) := by decide +kernel
theorem dL_law_1007 : decode cL_law 1007 = .ok (.iconst 1, 1) := by decide +kernel
theorem dL_law_1008 : decode cL_law 1008 = .ok (.iadd, 1) := by decide +kernel
theorem dL_law_1009 : decode cL_law 1009 = .ok (.iaload, 1) := by decide +kernel
theorem dL_law_1010 : decode cL_law 1010 = .ok (.invokevirtual 125, 3) := by decide +kernel
theorem dL_law_1013 : decode cL_law 1013 = .ok (.if_icmp .eq 611, 3) := by decide +kernel
theorem dL_law_1016 : decode cL_law 1016 = .ok (.iconst 0, 1) := by decide +kernel
theorem dL_law_1017 : decode cL_law 1017 = .ok (.ireturn, 1) := by decide +kernel
theorem dL_law_1018 : decode cL_law 1018 = .ok (.aload_n 1, 1) := by decide +kernel
theorem dL_law_1019 : decode cL_law 1019 = .ok (.aload_n 0, 1) := by decide +kernel
theorem dL_law_1020 : decode cL_law 1020 = .ok (.iload_n 3, 1) := by decide +kernel
theorem dL_law_1021 : decode cL_law 1021 = .ok (.iconst 1, 1) := by decide +kernel
theorem dL_law_1022 : decode cL_law 1022 = .ok (.iadd, 1) := by decide +kernel
theorem dL_law_1023 : decode cL_law 1023 = .ok (.iaload, 1) := by decide +kernel
theorem dL_law_1024 : decode cL_law 1024 = .ok (.aload_n 0, 1) := by decide +kernel
theorem dL_law_1025 : decode cL_law 1025 = .ok (.iload_n 3, 1) := by decide +kernel
theorem dL_law_1026 : decode cL_law 1026 = .ok (.iconst 2, 1) := by decide +kernel
theorem dL_law_1027 : decode cL_law 1027 = .ok (.iadd, 1) := by decide +kernel
theorem dL_law_1028 : decode cL_law 1028 = .ok (.iaload, 1) := by decide +kernel
theorem dL_law_1029 : decode cL_law 1029 = .ok (.aload_n 0, 1) := by decide +kernel
theorem dL_law_1030 : decode cL_law 1030 = .ok (.iload_n 3, 1) := by decide +kernel
theorem dL_law_1031 : decode cL_law 1031 = .ok (.iconst 3, 1) := by decide +kernel
theorem dL_law_1032 : decode cL_law 1032 = .ok (.iadd, 1) := by decide +kernel
theorem dL_law_1033 : decode cL_law 1033 = .ok (.iaload, 1) := by decide +kernel
theorem dL_law_1034 : decode cL_law 1034 = .ok (.invokevirtual 126, 3) := by decide +kernel
theorem dL_law_1037 : decode cL_law 1037 = .ok (.aload_n 2, 1) := by decide +kernel
theorem dL_law_1038 : decode cL_law 1038 = .ok (.aload_n 0, 1) := by decide +kernel
theorem dL_law_1039 : decode cL_law 1039 = .ok (.iload_n 3, 1) := by decide +kernel
theorem dL_law_1040 : decode cL_law 1040 = .ok (.iconst 1, 1) := by decide +kernel
theorem dL_law_1041 : decode cL_law 1041 = .ok (.iadd, 1) := by decide +kernel
theorem dL_law_1042 : decode cL_law 1042 = .ok (.iaload, 1) := by decide +kernel
theorem dL_law_1043 : decode cL_law 1043 = .ok (.aload_n 0, 1) := by decide +kernel
theorem dL_law_1044 : decode cL_law 1044 = .ok (.iload_n 3, 1) := by decide +kernel
theorem dL_law_1045 : decode cL_law 1045 = .ok (.iconst 2, 1) := by decide +kernel
theorem dL_law_1046 : decode cL_law 1046 = .ok (.iadd, 1) := by decide +kernel
theorem dL_law_1047 : decode cL_law 1047 = .ok (.iaload, 1) := by decide +kernel
theorem dL_law_1048 : decode cL_law 1048 = .ok (.aload_n 0, 1) := by decide +kernel
theorem dL_law_1049 : decode cL_law 1049 = .ok (.iload_n 3, 1) := by decide +kernel
theorem dL_law_1050 : decode cL_law 1050 = .ok (.iconst 3, 1) := by decide +kernel
theorem dL_law_1051 : decode cL_law 1051 = .ok (.iadd, 1) := by decide +kernel
theorem dL_law_1052 : decode cL_law 1052 = .ok (.iaload, 1) := by decide +kernel
theorem dL_law_1053 : decode cL_law 1053 = .ok (.invokevirtual 129, 3) := by decide +kernel
theorem dL_law_1056 : decode cL_law 1056 = .ok (.if_icmp .eq 568, 3) := by decide +kernel
theorem dL_law_1059 : decode cL_law 1059 = .ok (.iconst 0, 1) := by decide +kernel
theorem dL_law_1060 : decode cL_law 1060 = .ok (.ireturn, 1) := by decide +kernel
theorem dL_law_1061 : decode cL_law 1061 = .ok (.aload_n 1, 1) := by decide +kernel
theorem dL_law_1062 : decode cL_law 1062 = .ok (.aload_n 0, 1) := by decide +kernel
theorem dL_law_1063 : decode cL_law 1063 = .ok (.iload_n 3, 1) := by decide +kernel
theorem dL_law_1064 : decode cL_law 1064 = .ok (.iconst 1, 1) := by decide +kernel
theorem dL_law_1065 : decode cL_law 1065 = .ok (.iadd, 1) := by decide +kernel
theorem dL_law_1066 : decode cL_law 1066 = .ok (.iaload, 1) := by decide +kernel
theorem dL_law_1067 : decode cL_law 1067 = .ok (.aload_n 0, 1) := by decide +kernel
theorem dL_law_1068 : decode cL_law 1068 = .ok (.iload_n 3, 1) := by decide +kernel
theorem dL_law_1069 : decode cL_law 1069 = .ok (.iconst 2, 1) := by decide +kernel
theorem dL_law_1070 : decode cL_law 1070 = .ok (.iadd, 1) := by decide +kernel
theorem dL_law_1071 : decode cL_law 1071 = .ok (.iaload, 1) := by decide +kernel
theorem dL_law_1072 : decode cL_law 1072 = .ok (.invokevirtual 130, 3) := by decide +kernel
theorem dL_law_1075 : decode cL_law 1075 = .ok (.aload_n 2, 1) := by decide +kernel
theorem dL_law_1076 : decode cL_law 1076 = .ok (.aload_n 0, 1) := by decide +kernel
theorem dL_law_1077 : decode cL_law 1077 = .ok (.iload_n 3, 1) := by decide +kernel
theorem dL_law_1078 : decode cL_law 1078 = .ok (.iconst 1, 1) := by decide +kernel
theorem dL_law_1079 : decode cL_law 1079 = .ok (.iadd, 1) := by decide +kernel
theorem dL_law_1080 : decode cL_law 1080 = .ok (.iaload, 1) := by decide +kernel
theorem dL_law_1081 : decode cL_law 1081 = .ok (.aload_n 0, 1) := by decide +kernel
theorem dL_law_1082 : decode cL_law 1082 = .ok (.iload_n 3, 1) := by decide +kernel
theorem dL_law_1083 : decode cL_law 1083 = .ok (.iconst 2, 1) := by decide +kernel
theorem dL_law_1084 : decode cL_law 1084 = .ok (.iadd, 1) := by decide +kernel
theorem dL_law_1085 : decode cL_law 1085 = .ok (.iaload, 1) := by decide +kernel
theorem dL_law_1086 : decode cL_law 1086 = .ok (.invokevirtual 133, 3) := by decide +kernel
theorem dL_law_1089 : decode cL_law 1089 = .ok (.if_icmp .eq 535, 3) := by decide +kernel
theorem dL_law_1092 : decode cL_law 1092 = .ok (.iconst 0, 1) := by decide +kernel
theorem dL_law_1093 : decode cL_law 1093 = .ok (.ireturn, 1) := by decide +kernel
theorem dL_law_1094 : decode cL_law 1094 = .ok (.aload_n 1, 1) := by decide +kernel
theorem dL_law_1095 : decode cL_law 1095 = .ok (.invokevirtual 134, 3) := by decide +kernel
theorem dL_law_1098 : decode cL_law 1098 = .ok (.aload_n 2, 1) := by decide +kernel
theorem dL_law_1099 : decode cL_law 1099 = .ok (.invokevirtual 137, 3) := by decide +kernel
theorem dL_law_1102 : decode cL_law 1102 = .ok (.if_icmp .eq 522, 3) := by decide +kernel
theorem dL_law_1105 : decode cL_law 1105 = .ok (.iconst 0, 1) := by decide +kernel
theorem dL_law_1106 : decode cL_law 1106 = .ok (.ireturn, 1) := by decide +kernel
theorem dL_law_1107 : decode cL_law 1107 = .ok (.aload_n 1, 1) := by decide +kernel
theorem dL_law_1108 : decode cL_law 1108 = .ok (.aload_n 0, 1) := by decide +kernel
theorem dL_law_1109 : decode cL_law 1109 = .ok (.iload_n 3, 1) := by decide +kernel
theorem dL_law_1110 : decode cL_law 1110 = .ok (.iconst 1, 1) := by decide +kernel
theorem dL_law_1111 : decode cL_law 1111 = .ok (.iadd, 1) := by decide +kernel
theorem dL_law_1112 : decode cL_law 1112 = .ok (.iaload, 1) := by decide +kernel
theorem dL_law_1113 : decode cL_law 1113 = .ok (.invokevirtual 138, 3) := by decide +kernel
theorem dL_law_1116 : decode cL_law 1116 = .ok (.aload_n 2, 1) := by decide +kernel
theorem dL_law_1117 : decode cL_law 1117 = .ok (.aload_n 0, 1) := by decide +kernel
theorem dL_law_1118 : decode cL_law 1118 = .ok (.iload_n 3, 1) := by decide +kernel
theorem dL_law_1119 : decode cL_law 1119 = .ok (.iconst 1, 1) := by decide +kernel
theorem dL_law_1120 : decode cL_law 1120 = .ok (.iadd, 1) := by decide +kernel
theorem dL_law_1121 : decode cL_law 1121 = .ok (.iaload, 1) := by decide +kernel
theorem dL_law_1122 : decode cL_law 1122 = .ok (.invokevirtual 141, 3) := by decide +kernel
theorem dL_law_1125 : decode cL_law 1125 = .ok (.if_icmp .eq 499, 3) := by decide +kernel
theorem dL_law_1128 : decode cL_law 1128 = .ok (.iconst 0, 1) := by decide +kernel
theorem dL_law_1129 : decode cL_law 1129 = .ok (.ireturn, 1) := by decide +kernel
theorem dL_law_1130 : decode cL_law 1130 = .ok (.aload_n 1, 1) := by decide +kernel
theorem dL_law_1131 : decode cL_law 1131 = .ok (.aload_n 0, 1) := by decide +kernel
theorem dL_law_1132 : decode cL_law 1132 = .ok (.iload_n 3, 1) := by decide +kernel
theorem dL_law_1133 : decode cL_law 1133 = .ok (.iconst 1, 1) := by decide +kernel
theorem dL_law_1134 : decode cL_law 1134 = .ok (.iadd, 1) := by decide +kernel
theorem dL_law_1135 : decode cL_law 1135 = .ok (.iaload, 1) := by decide +kernel
theorem dL_law_1136 : decode cL_law 1136 = .ok (.aload_n 0, 1) := by decide +kernel
theorem dL_law_1137 : decode cL_law 1137 = .ok (.iload_n 3, 1) := by decide +kernel
theorem dL_law_1138 : decode cL_law 1138 = .ok (.iconst 2, 1) := by decide +kernel
theorem dL_law_1139 : decode cL_law 1139 = .ok (.iadd, 1) := by decide +kernel
theorem dL_law_1140 : decode cL_law 1140 = .ok (.iaload, 1) := by decide +kernel
theorem dL_law_1141 : decode cL_law 1141 = .ok (.aload_n 0, 1) := by decide +kernel
theorem dL_law_1142 : decode cL_law 1142 = .ok (.iload_n 3, 1) := by decide +kernel
theorem dL_law_1143 : decode cL_law 1143 = .ok (.iconst 3, 1) := by decide +kernel
theorem dL_law_1144 : decode cL_law 1144 = .ok (.iadd, 1) := by decide +kernel
theorem dL_law_1145 : decode cL_law 1145 = .ok (.iaload, 1) := by decide +kernel
theorem dL_law_1146 : decode cL_law 1146 = .ok (.invokevirtual 142, 3) := by decide +kernel
theorem dL_law_1149 : decode cL_law 1149 = .ok (.aload_n 2, 1) := by decide +kernel
theorem dL_law_1150 : decode cL_law 1150 = .ok (.aload_n 0, 1) := by decide +kernel
theorem dL_law_1151 : decode cL_law 1151 = .ok (.iload_n 3, 1) := by decide +kernel
theorem dL_law_1152 : decode cL_law 1152 = .ok (.iconst 1, 1) := by decide +kernel
theorem dL_law_1153 : decode cL_law 1153 = .ok (.iadd, 1) := by decide +kernel
theorem dL_law_1154 : decode cL_law 1154 = .ok (.iaload, 1) := by decide +kernel
theorem dL_law_1155 : decode cL_law 1155 = .ok (.aload_n 0, 1) := by decide +kernel
theorem dL_law_1156 : decode cL_law 1156 = .ok (.iload_n 3, 1) := by decide +kernel
theorem dL_law_1157 : decode cL_law 1157 = .ok (.iconst 2, 1) := by decide +kernel
theorem dL_law_1158 : decode cL_law 1158 = .ok (.iadd, 1) := by decide +kernel
theorem dL_law_1159 : decode cL_law 1159 = .ok (.iaload, 1) := by decide +kernel
theorem dL_law_1160 : decode cL_law 1160 = .ok (.aload_n 0, 1) := by decide +kernel
theorem dL_law_1161 : decode cL_law 1161 = .ok (.iload_n 3, 1) := by decide +kernel
theorem dL_law_1162 : decode cL_law 1162 = .ok (.iconst 3, 1) := by decide +kernel
theorem dL_law_1163 : decode cL_law 1163 = .ok (.iadd, 1) := by decide +kernel
theorem dL_law_1164 : decode cL_law 1164 = .ok (.iaload, 1) := by decide +kernel
theorem dL_law_1165 : decode cL_law 1165 = .ok (.invokevirtual 145, 3) := by decide +kernel
theorem dL_law_1168 : decode cL_law 1168 = .ok (.if_icmp .eq 456, 3) := by decide +kernel
theorem dL_law_1171 : decode cL_law 1171 = .ok (.iconst 0, 1) := by decide +kernel
theorem dL_law_1172 : decode cL_law 1172 = .ok (.ireturn, 1) := by decide +kernel
theorem dL_law_1173 : decode cL_law 1173 = .ok (.aload_n 1, 1) := by decide +kernel
theorem dL_law_1174 : decode cL_law 1174 = .ok (.aload_n 0, 1) := by decide +kernel
theorem dL_law_1175 : decode cL_law 1175 = .ok (.iload_n 3, 1) := by decide +kernel
theorem dL_law_1176 : decode cL_law 1176 = .ok (.iconst 1, 1) := by decide +kernel
theorem dL_law_1177 : decode cL_law 1177 = .ok (.iadd, 1) := by decide +kernel
theorem dL_law_1178 : decode cL_law 1178 = .ok (.iaload, 1) := by decide +kernel
theorem dL_law_1179 : decode cL_law 1179 = .ok (.invokevirtual 146, 3) := by decide +kernel
theorem dL_law_1182 : decode cL_law 1182 = .ok (.aload_n 2, 1) := by decide +kernel
theorem dL_law_1183 : decode cL_law 1183 = .ok (.aload_n 0, 1) := by decide +kernel
theorem dL_law_1184 : decode cL_law 1184 = .ok (.iload_n 3, 1) := by decide +kernel
theorem dL_law_1185 : decode cL_law 1185 = .ok (.iconst 1, 1) := by decide +kernel
theorem dL_law_1186 : decode cL_law 1186 = .ok (.iadd, 1) := by decide +kernel
theorem dL_law_1187 : decode cL_law 1187 = .ok (.iaload, 1) := by decide +kernel
theorem dL_law_1188 : decode cL_law 1188 = .ok (.invokevirtual 149, 3) := by decide +kernel
theorem dL_law_1191 : decode cL_law 1191 = .ok (.if_icmp .eq 433, 3) := by decide +kernel
theorem dL_law_1194 : decode cL_law 1194 = .ok (.iconst 0, 1) := by decide +kernel
theorem dL_law_1195 : decode cL_law 1195 = .ok (.ireturn, 1) := by decide +kernel
theorem dL_law_1196 : decode cL_law 1196 = .ok (.aload_n 1, 1) := by decide +kernel
theorem dL_law_1197 : decode cL_law 1197 = .ok (.aload_n 0, 1) := by decide +kernel
theorem dL_law_1198 : decode cL_law 1198 = .ok (.iload_n 3, 1) := by decide +kernel
theorem dL_law_1199 : decode cL_law 1199 = .ok (.iconst 1, 1) := by decide +kernel
theorem dL_law_1200 : decode cL_law 1200 = .ok (.iadd, 1) := by decide +kernel
theorem dL_law_1201 : decode cL_law 1201 = .ok (.iaload, 1) := by decide +kernel
theorem dL_law_1202 : decode cL_law 1202 = .ok (.aload_n 0, 1) := by decide +kernel
theorem dL_law_1203 : decode cL_law 1203 = .ok (.iload_n 3, 1) := by decide +kernel
theorem dL_law_1204 : decode cL_law 1204 = .ok (.iconst 2, 1) := by decide +kernel
theorem dL_law_1205 : decode cL_law 1205 = .ok (.iadd, 1) := by decide +kernel
theorem dL_law_1206 : decode cL_law 1206 = .ok (.iaload, 1) := by decide +kernel
theorem dL_law_1207 : decode cL_law 1207 = .ok (.aload_n 0, 1) := by decide +kernel
theorem dL_law_1208 : decode cL_law 1208 = .ok (.iload_n 3, 1) := by decide +kernel
theorem dL_law_1209 : decode cL_law 1209 = .ok (.iconst 3, 1) := by decide +kernel
theorem dL_law_1210 : decode cL_law 1210 = .ok (.iadd, 1) := by decide +kernel
theorem dL_law_1211 : decode cL_law 1211 = .ok (.iaload, 1) := by decide +kernel
theorem dL_law_1212 : decode cL_law 1212 = .ok (.aload_n 0, 1) := by decide +kernel
theorem dL_law_1213 : decode cL_law 1213 = .ok (.iload_n 3, 1) := by decide +kernel
theorem dL_law_1214 : decode cL_law 1214 = .ok (.iconst 4, 1) := by decide +kernel
theorem dL_law_1215 : decode cL_law 1215 = .ok (.iadd, 1) := by decide +kernel
theorem dL_law_1216 : decode cL_law 1216 = .ok (.iaload, 1) := by decide +kernel
theorem dL_law_1217 : decode cL_law 1217 = .ok (.aload_n 0, 1) := by decide +kernel
theorem dL_law_1218 : decode cL_law 1218 = .ok (.iload_n 3, 1) := by decide +kernel
theorem dL_law_1219 : decode cL_law 1219 = .ok (.iconst 5, 1) := by decide +kernel
theorem dL_law_1220 : decode cL_law 1220 = .ok (.iadd, 1) := by decide +kernel
theorem dL_law_1221 : decode cL_law 1221 = .ok (.iaload, 1) := by decide +kernel
theorem dL_law_1222 : decode cL_law 1222 = .ok (.invokevirtual 150, 3) := by decide +kernel
theorem dL_law_1225 : decode cL_law 1225 = .ok (.aload_n 2, 1) := by decide +kernel
theorem dL_law_1226 : decode cL_law 1226 = .ok (.aload_n 0, 1) := by decide +kernel
theorem dL_law_1227 : decode cL_law 1227 = .ok (.iload_n 3, 1) := by decide +kernel
theorem dL_law_1228 : decode cL_law 1228 = .ok (.iconst 1, 1) := by decide +kernel
theorem dL_law_1229 : decode cL_law 1229 = .ok (.iadd, 1) := by decide +kernel
theorem dL_law_1230 : decode cL_law 1230 = .ok (.iaload, 1) := by decide +kernel
theorem dL_law_1231 : decode cL_law 1231 = .ok (.aload_n 0, 1) := by decide +kernel
theorem dL_law_1232 : decode cL_law 1232 = .ok (.iload_n 3, 1) := by decide +kernel
theorem dL_law_1233 : decode cL_law 1233 = .ok (.iconst 2, 1) := by decide +kernel
theorem dL_law_1234 : decode cL_law 1234 = .ok (.iadd, 1) := by decide +kernel
theorem dL_law_1235 : decode cL_law 1235 = .ok (.iaload, 1) := by decide +kernel
theorem dL_law_1236 : decode cL_law 1236 = .ok (.aload_n 0, 1) := by decide +kernel
theorem dL_law_1237 : decode cL_law 1237 = .ok (.iload_n 3, 1) := by decide +kernel
theorem dL_law_1238 : decode cL_law 1238 = .ok (.iconst 3, 1) := by decide +kernel
theorem dL_law_1239 : decode cL_law 1239 = .ok (.iadd, 1) := by decide +kernel
theorem dL_law_1240 : decode cL_law 1240 = .ok (.iaload, 1) := by decide +kernel
theorem dL_law_1241 : decode cL_law 1241 = .ok (.aload_n 0, 1) := by decide +kernel
theorem dL_law_1242 : decode cL_law 1242 = .ok (.iload_n 3, 1) := by decide +kernel
theorem dL_law_1243 : decode cL_law 1243 = .ok (.iconst 4, 1) := by decide +kernel
theorem dL_law_1244 : decode cL_law 1244 = .ok (.iadd, 1) := by decide +kernel
theorem dL_law_1245 : decode cL_law 1245 = .ok (.iaload, 1) := by decide +kernel
theorem dL_law_1246 : decode cL_law 1246 = .ok (.aload_n 0, 1) := by decide +kernel
theorem dL_law_1247 : decode cL_law 1247 = .ok (.iload_n 3, 1) := by decide +kernel
theorem dL_law_1248 : decode cL_law 1248 = .ok (.iconst 5, 1) := by decide +kernel
theorem dL_law_1249 : decode cL_law 1249 = .ok (.iadd, 1) := by decide +kernel
theorem dL_law_1250 : decode cL_law 1250 = .ok (.iaload, 1) := by decide +kernel
theorem dL_law_1251 : decode cL_law 1251 = .ok (.invokevirtual 153, 3) := by decide +kernel
theorem dL_law_1254 : decode cL_law 1254 = .ok (.if_icmp .eq 370, 3) := by decide +kernel
theorem dL_law_1257 : decode cL_law 1257 = .ok (.iconst 0, 1) := by decide +kernel
theorem dL_law_1258 : decode cL_law 1258 = .ok (.ireturn, 1) := by decide +kernel
theorem dL_law_1259 : decode cL_law 1259 = .ok (.aload_n 1, 1) := by decide +kernel
theorem dL_law_1260 : decode cL_law 1260 = .ok (.aload_n 0, 1) := by decide +kernel
theorem dL_law_1261 : decode cL_law 1261 = .ok (.iload_n 3, 1) := by decide +kernel
theorem dL_law_1262 : decode cL_law 1262 = .ok (.iconst 1, 1) := by decide +kernel
theorem dL_law_1263 : decode cL_law 1263 = .ok (.iadd, 1) := by decide +kernel
theorem dL_law_1264 : decode cL_law 1264 = .ok (.iaload, 1) := by decide +kernel
theorem dL_law_1265 : decode cL_law 1265 = .ok (.aload_n 0, 1) := by decide +kernel
theorem dL_law_1266 : decode cL_law 1266 = .ok (.iload_n 3, 1) := by decide +kernel
theorem dL_law_1267 : decode cL_law 1267 = .ok (.iconst 2, 1) := by decide +kernel
theorem dL_law_1268 : decode cL_law 1268 = .ok (.iadd, 1) := by decide +kernel
theorem dL_law_1269 : decode cL_law 1269 = .ok (.iaload, 1) := by decide +kernel
theorem dL_law_1270 : decode cL_law 1270 = .ok (.invokevirtual 154, 3) := by decide +kernel
theorem dL_law_1273 : decode cL_law 1273 = .ok (.aload_n 2, 1) := by decide +kernel
theorem dL_law_1274 : decode cL_law 1274 = .ok (.aload_n 0, 1) := by decide +kernel
theorem dL_law_1275 : decode cL_law 1275 = .ok (.iload_n 3, 1) := by decide +kernel
theorem dL_law_1276 : decode cL_law 1276 = .ok (.iconst 1, 1) := by decide +kernel
theorem dL_law_1277 : decode cL_law 1277 = .ok (.iadd, 1) := by decide +kernel
theorem dL_law_1278 : decode cL_law 1278 = .ok (.iaload, 1) := by decide +kernel
theorem dL_law_1279 : decode cL_law 1279 = .ok (.aload_n 0, 1) := by decide +kernel
theorem dL_law_1280 : decode cL_law 1280 = .ok (.iload_n 3, 1) := by decide +kernel
theorem dL_law_1281 : decode cL_law 1281 = .ok (.iconst 2, 1) := by decide +kernel
theorem dL_law_1282 : decode cL_law 1282 = .ok (.iadd, 1) := by decide +kernel
theorem dL_law_1283 : decode cL_law 1283 = .ok (.iaload, 1) := by decide +kernel
theorem dL_law_1284 : decode cL_law 1284 = .ok (.invokevirtual 157, 3) := by decide +kernel
theorem dL_law_1287 : decode cL_law 1287 = .ok (.if_icmp .eq 337, 3) := by decide +kernel
theorem dL_law_1290 : decode cL_law 1290 = .ok (.iconst 0, 1) := by decide +kernel
theorem dL_law_1291 : decode cL_law 1291 = .ok (.ireturn, 1) := by decide +kernel
theorem dL_law_1292 : decode cL_law 1292 = .ok (.aload_n 1, 1) := by decide +kernel
theorem dL_law_1293 : decode cL_law 1293 = .ok (.aload_n 0, 1) := by decide +kernel
theorem dL_law_1294 : decode cL_law 1294 = .ok (.iload_n 3, 1) := by decide +kernel
theorem dL_law_1295 : decode cL_law 1295 = .ok (.iconst 1, 1) := by decide +kernel
theorem dL_law_1296 : decode cL_law 1296 = .ok (.iadd, 1) := by decide +kernel
theorem dL_law_1297 : decode cL_law 1297 = .ok (.iaload, 1) := by decide +kernel
theorem dL_law_1298 : decode cL_law 1298 = .ok (.aload_n 0, 1) := by decide +kernel
theorem dL_law_1299 : decode cL_law 1299 = .ok (.iload_n 3, 1) := by decide +kernel
theorem dL_law_1300 : decode cL_law 1300 = .ok (.iconst 2, 1) := by decide +kernel
theorem dL_law_1301 : decode cL_law 1301 = .ok (.iadd, 1) := by decide +kernel
theorem dL_law_1302 : decode cL_law 1302 = .ok (.iaload, 1) := by decide +kernel
theorem dL_law_1303 : decode cL_law 1303 = .ok (.invokevirtual 158, 3) := by decide +kernel
theorem dL_law_1306 : decode cL_law 1306 = .ok (.aload_n 2, 1) := by decide +kernel
theorem dL_law_1307 : decode cL_law 1307 = .ok (.aload_n 0, 1) := by decide +kernel
theorem dL_law_1308 : decode cL_law 1308 = .ok (.iload_n 3, 1) := by decide +kernel
theorem dL_law_1309 : decode cL_law 1309 = .ok (.iconst 1, 1) := by decide +kernel
theorem dL_law_1310 : decode cL_law 1310 = .ok (.iadd, 1) := by decide +kernel
theorem dL_law_1311 : decode cL_law 1311 = .ok (.iaload, 1) := by decide +kernel
theorem dL_law_1312 : decode cL_law 1312 = .ok (.aload_n 0, 1) := by decide +kernel
theorem dL_law_1313 : decode cL_law 1313 = .ok (.iload_n 3, 1) := by decide +kernel
theorem dL_law_1314 : decode cL_law 1314 = .ok (.iconst 2, 1) := by decide +kernel
theorem dL_law_1315 : decode cL_law 1315 = .ok (.iadd, 1) := by decide +kernel
theorem dL_law_1316 : decode cL_law 1316 = .ok (.iaload, 1) := by decide +kernel
theorem dL_law_1317 : decode cL_law 1317 = .ok (.invokevirtual 161, 3) := by decide +kernel
theorem dL_law_1320 : decode cL_law 1320 = .ok (.if_icmp .eq 304, 3) := by decide +kernel
theorem dL_law_1323 : decode cL_law 1323 = .ok (.iconst 0, 1) := by decide +kernel
theorem dL_law_1324 : decode cL_law 1324 = .ok (.ireturn, 1) := by decide +kernel
theorem dL_law_1325 : decode cL_law 1325 = .ok (.aload_n 1, 1) := by decide +kernel
theorem dL_law_1326 : decode cL_law 1326 = .ok (.aload_n 0, 1) := by decide +kernel
theorem dL_law_1327 : decode cL_law 1327 = .ok (.iload_n 3, 1) := by decide +kernel
theorem dL_law_1328 : decode cL_law 1328 = .ok (.iconst 1, 1) := by decide +kernel
theorem dL_law_1329 : decode cL_law 1329 = .ok (.iadd, 1) := by decide +kernel
theorem dL_law_1330 : decode cL_law 1330 = .ok (.iaload, 1) := by decide +kernel
theorem dL_law_1331 : decode cL_law 1331 = .ok (.invokevirtual 162, 3) := by decide +kernel
theorem dL_law_1334 : decode cL_law 1334 = .ok (.aload_n 2, 1) := by decide +kernel
theorem dL_law_1335 : decode cL_law 1335 = .ok (.aload_n 0, 1) := by decide +kernel
theorem dL_law_1336 : decode cL_law 1336 = .ok (.iload_n 3, 1) := by decide +kernel
theorem dL_law_1337 : decode cL_law 1337 = .ok (.iconst 1, 1) := by decide +kernel
theorem dL_law_1338 : decode cL_law 1338 = .ok (.iadd, 1) := by decide +kernel
theorem dL_law_1339 : decode cL_law 1339 = .ok (.iaload, 1) := by decide +kernel
theorem dL_law_1340 : decode cL_law 1340 = .ok (.invokevirtual 165, 3) := by decide +kernel
theorem dL_law_1343 : decode cL_law 1343 = .ok (.if_icmp .eq 281, 3) := by decide +kernel
theorem dL_law_1346 : decode cL_law 1346 = .ok (.iconst 0, 1) := by decide +kernel
theorem dL_law_1347 : decode cL_law 1347 = .ok (.ireturn, 1) := by decide +kernel
theorem dL_law_1348 : decode cL_law 1348 = .ok (.aload_n 1, 1) := by decide +kernel
theorem dL_law_1349 : decode cL_law 1349 = .ok (.aload_n 0, 1) := by decide +kernel
theorem dL_law_1350 : decode cL_law 1350 = .ok (.iload_n 3, 1) := by decide +kernel
theorem dL_law_1351 : decode cL_law 1351 = .ok (.iconst 1, 1) := by decide +kernel
theorem dL_law_1352 : decode cL_law 1352 = .ok (.iadd, 1) := by decide +kernel
theorem dL_law_1353 : decode cL_law 1353 = .ok (.iaload, 1) := by decide +kernel
theorem dL_law_1354 : decode cL_law 1354 = .ok (.invokevirtual 166, 3) := by decide +kernel
theorem dL_law_1357 : decode cL_law 1357 = .ok (.aload_n 2, 1) := by decide +kernel
theorem dL_law_1358 : decode cL_law 1358 = .ok (.aload_n 0, 1) := by decide +kernel
theorem dL_law_1359 : decode cL_law 1359 = .ok (.iload_n 3, 1) := by decide +kernel
theorem dL_law_1360 : decode cL_law 1360 = .ok (.iconst 1, 1) := by decide +kernel
theorem dL_law_1361 : decode cL_law 1361 = .ok (.iadd, 1) := by decide +kernel
theorem dL_law_1362 : decode cL_law 1362 = .ok (.iaload, 1) := by decide +kernel
theorem dL_law_1363 : decode cL_law 1363 = .ok (.invokevirtual 169, 3) := by decide +kernel
theorem dL_law_1366 : decode cL_law 1366 = .ok (.if_icmp .eq 258, 3) := by decide +kernel
theorem dL_law_1369 : decode cL_law 1369 = .ok (.iconst 0, 1) := by decide +kernel
theorem dL_law_1370 : decode cL_law 1370 = .ok (.ireturn, 1) := by decide +kernel
theorem dL_law_1371 : decode cL_law 1371 = .ok (.aload_n 1, 1) := by decide +kernel
theorem dL_law_1372 : decode cL_law 1372 = .ok (.aload_n 0, 1) := by decide +kernel
theorem dL_law_1373 : decode cL_law 1373 = .ok (.iload_n 3, 1) := by decide +kernel
theorem dL_law_1374 : decode cL_law 1374 = .ok (.iconst 1, 1) := by decide +kernel
theorem dL_law_1375 : decode cL_law 1375 = .ok (.iadd, 1) := by decide +kernel
theorem dL_law_1376 : decode cL_law 1376 = .ok (.iaload, 1) := by decide +kernel
theorem dL_law_1377 : decode cL_law 1377 = .ok (.aload_n 0, 1) := by decide +kernel
theorem dL_law_1378 : decode cL_law 1378 = .ok (.iload_n 3, 1) := by decide +kernel
theorem dL_law_1379 : decode cL_law 1379 = .ok (.iconst 2, 1) := by decide +kernel
theorem dL_law_1380 : decode cL_law 1380 = .ok (.iadd, 1) := by decide +kernel
theorem dL_law_1381 : decode cL_law 1381 = .ok (.iaload, 1) := by decide +kernel
theorem dL_law_1382 : decode cL_law 1382 = .ok (.aload_n 0, 1) := by decide +kernel
theorem dL_law_1383 : decode cL_law 1383 = .ok (.iload_n 3, 1) := by decide +kernel
theorem dL_law_1384 : decode cL_law 1384 = .ok (.iconst 3, 1) := by decide +kernel
theorem dL_law_1385 : decode cL_law 1385 = .ok (.iadd, 1) := by decide +kernel
theorem dL_law_1386 : decode cL_law 1386 = .ok (.iaload, 1) := by decide +kernel
theorem dL_law_1387 : decode cL_law 1387 = .ok (.aload_n 0, 1) := by decide +kernel
theorem dL_law_1388 : decode cL_law 1388 = .ok (.iload_n 3, 1) := by decide +kernel
theorem dL_law_1389 : decode cL_law 1389 = .ok (.iconst 4, 1) := by decide +kernel
theorem dL_law_1390 : decode cL_law 1390 = .ok (.iadd, 1) := by decide +kernel
theorem dL_law_1391 : decode cL_law 1391 = .ok (.iaload, 1) := by decide +kernel
theorem dL_law_1392 : decode cL_law 1392 = .ok (.aload_n 0, 1) := by decide +kernel
theorem dL_law_1393 : decode cL_law 1393 = .ok (.iload_n 3, 1) := by decide +kernel
theorem dL_law_1394 : decode cL_law 1394 = .ok (.iconst 5, 1) := by decide +kernel
theorem dL_law_1395 : decode cL_law 1395 = .ok (.iadd, 1) := by decide +kernel
theorem dL_law_1396 : decode cL_law 1396 = .ok (.iaload, 1) := by decide +kernel
theorem dL_law_1397 : decode cL_law 1397 = .ok (.aload_n 0, 1) := by decide +kernel
theorem dL_law_1398 : decode cL_law 1398 = .ok (.iload_n 3, 1) := by decide +kernel
theorem dL_law_1399 : decode cL_law 1399 = .ok (.bipush 6, 2) := by decide +kernel
theorem dL_law_1401 : decode cL_law 1401 = .ok (.iadd, 1) := by decide +kernel
theorem dL_law_1402 : decode cL_law 1402 = .ok (.iaload, 1) := by decide +kernel
theorem dL_law_1403 : decode cL_law 1403 = .ok (.invokevirtual 170, 3) := by decide +kernel
theorem dL_law_1406 : decode cL_law 1406 = .ok (.aload_n 2, 1) := by decide +kernel
theorem dL_law_1407 : decode cL_law 1407 = .ok (.aload_n 0, 1) := by decide +kernel
theorem dL_law_1408 : decode cL_law 1408 = .ok (.iload_n 3, 1) := by decide +kernel
theorem dL_law_1409 : decode cL_law 1409 = .ok (.iconst 1, 1) := by decide +kernel
theorem dL_law_1410 : decode cL_law 1410 = .ok (.iadd, 1) := by decide +kernel
theorem dL_law_1411 : decode cL_law 1411 = .ok (.iaload, 1) := by decide +kernel
theorem dL_law_1412 : decode cL_law 1412 = .ok (.aload_n 0, 1) := by decide +kernel
theorem dL_law_1413 : decode cL_law 1413 = .ok (.iload_n 3, 1) := by decide +kernel
theorem dL_law_1414 : decode cL_law 1414 = .ok (.iconst 2, 1) := by decide +kernel
theorem dL_law_1415 : decode cL_law 1415 = .ok (.iadd, 1) := by decide +kernel
theorem dL_law_1416 : decode cL_law 1416 = .ok (.iaload, 1) := by decide +kernel
theorem dL_law_1417 : decode cL_law 1417 = .ok (.aload_n 0, 1) := by decide +kernel
theorem dL_law_1418 : decode cL_law 1418 = .ok (.iload_n 3, 1) := by decide +kernel
theorem dL_law_1419 : decode cL_law 1419 = .ok (.iconst 3, 1) := by decide +kernel
theorem dL_law_1420 : decode cL_law 1420 = .ok (.iadd, 1) := by decide +kernel
theorem dL_law_1421 : decode cL_law 1421 = .ok (.iaload, 1) := by decide +kernel
theorem dL_law_1422 : decode cL_law 1422 = .ok (.aload_n 0, 1) := by decide +kernel
theorem dL_law_1423 : decode cL_law 1423 = .ok (.iload_n 3, 1) := by decide +kernel
theorem dL_law_1424 : decode cL_law 1424 = .ok (.iconst 4, 1) := by decide +kernel
theorem dL_law_1425 : decode cL_law 1425 = .ok (.iadd, 1) := by decide +kernel
theorem dL_law_1426 : decode cL_law 1426 = .ok (.iaload, 1) := by decide +kernel
theorem dL_law_1427 : decode cL_law 1427 = .ok (.aload_n 0, 1) := by decide +kernel
theorem dL_law_1428 : decode cL_law 1428 = .ok (.iload_n 3, 1) := by decide +kernel
theorem dL_law_1429 : decode cL_law 1429 = .ok (.iconst 5, 1) := by decide +kernel
theorem dL_law_1430 : decode cL_law 1430 = .ok (.iadd, 1) := by decide +kernel
theorem dL_law_1431 : decode cL_law 1431 = .ok (.iaload, 1) := by decide +kernel
theorem dL_law_1432 : decode cL_law 1432 = .ok (.aload_n 0, 1) := by decide +kernel
theorem dL_law_1433 : decode cL_law 1433 = .ok (.iload_n 3, 1) := by decide +kernel
theorem dL_law_1434 : decode cL_law 1434 = .ok (.bipush 6, 2) := by decide +kernel
theorem dL_law_1436 : decode cL_law 1436 = .ok (.iadd, 1) := by decide +kernel
theorem dL_law_1437 : decode cL_law 1437 = .ok (.iaload, 1) := by decide +kernel
theorem dL_law_1438 : decode cL_law 1438 = .ok (.invokevirtual 174, 3) := by decide +kernel
theorem dL_law_1441 : decode cL_law 1441 = .ok (.if_icmp .eq 183, 3) := by decide +kernel
theorem dL_law_1444 : decode cL_law 1444 = .ok (.iconst 0, 1) := by decide +kernel
theorem dL_law_1445 : decode cL_law 1445 = .ok (.ireturn, 1) := by decide +kernel
theorem dL_law_1446 : decode cL_law 1446 = .ok (.aload_n 1, 1) := by decide +kernel
theorem dL_law_1447 : decode cL_law 1447 = .ok (.aload_n 0, 1) := by decide +kernel
theorem dL_law_1448 : decode cL_law 1448 = .ok (.iload_n 3, 1) := by decide +kernel
theorem dL_law_1449 : decode cL_law 1449 = .ok (.iconst 1, 1) := by decide +kernel
theorem dL_law_1450 : decode cL_law 1450 = .ok (.iadd, 1) := by decide +kernel
theorem dL_law_1451 : decode cL_law 1451 = .ok (.iaload, 1) := by decide +kernel
theorem dL_law_1452 : decode cL_law 1452 = .ok (.aload_n 0, 1) := by decide +kernel
theorem dL_law_1453 : decode cL_law 1453 = .ok (.iload_n 3, 1) := by decide +kernel
theorem dL_law_1454 : decode cL_law 1454 = .ok (.iconst 2, 1) := by decide +kernel
theorem dL_law_1455 : decode cL_law 1455 = .ok (.iadd, 1) := by decide +kernel
theorem dL_law_1456 : decode cL_law 1456 = .ok (.iaload, 1) := by decide +kernel
theorem dL_law_1457 : decode cL_law 1457 = .ok (.aload_n 0, 1) := by decide +kernel
theorem dL_law_1458 : decode cL_law 1458 = .ok (.iload_n 3, 1) := by decide +kernel
theorem dL_law_1459 : decode cL_law 1459 = .ok (.iconst 3, 1) := by decide +kernel
theorem dL_law_1460 : decode cL_law 1460 = .ok (.iadd, 1) := by decide +kernel
theorem dL_law_1461 : decode cL_law 1461 = .ok (.iaload, 1) := by decide +kernel
theorem dL_law_1462 : decode cL_law 1462 = .ok (.invokevirtual 175, 3) := by decide +kernel
theorem dL_law_1465 : decode cL_law 1465 = .ok (.aload_n 2, 1) := by decide +kernel
theorem dL_law_1466 : decode cL_law 1466 = .ok (.aload_n 0, 1) := by decide +kernel
theorem dL_law_1467 : decode cL_law 1467 = .ok (.iload_n 3, 1) := by decide +kernel
theorem dL_law_1468 : decode cL_law 1468 = .ok (.iconst 1, 1) := by decide +kernel
theorem dL_law_1469 : decode cL_law 1469 = .ok (.iadd, 1) := by decide +kernel
theorem dL_law_1470 : decode cL_law 1470 = .ok (.iaload, 1) := by decide +kernel
theorem dL_law_1471 : decode cL_law 1471 = .ok (.aload_n 0, 1) := by decide +kernel
theorem dL_law_1472 : decode cL_law 1472 = .ok (.iload_n 3, 1) := by decide +kernel
theorem dL_law_1473 : decode cL_law 1473 = .ok (.iconst 2, 1) := by decide +kernel
theorem dL_law_1474 : decode cL_law 1474 = .ok (.iadd, 1) := by decide +kernel
theorem dL_law_1475 : decode cL_law 1475 = .ok (.iaload, 1) := by decide +kernel
theorem dL_law_1476 : decode cL_law 1476 = .ok (.aload_n 0, 1) := by decide +kernel
theorem dL_law_1477 : decode cL_law 1477 = .ok (.iload_n 3, 1) := by decide +kernel
theorem dL_law_1478 : decode cL_law 1478 = .ok (.iconst 3, 1) := by decide +kernel
theorem dL_law_1479 : decode cL_law 1479 = .ok (.iadd, 1) := by decide +kernel
theorem dL_law_1480 : decode cL_law 1480 = .ok (.iaload, 1) := by decide +kernel
theorem dL_law_1481 : decode cL_law 1481 = .ok (.invokevirtual 178, 3) := by decide +kernel
theorem dL_law_1484 : decode cL_law 1484 = .ok (.if_icmp .eq 140, 3) := by decide +kernel
theorem dL_law_1487 : decode cL_law 1487 = .ok (.iconst 0, 1) := by decide +kernel
theorem dL_law_1488 : decode cL_law 1488 = .ok (.ireturn, 1) := by decide +kernel
theorem dL_law_1489 : decode cL_law 1489 = .ok (.aload_n 1, 1) := by decide +kernel
theorem dL_law_1490 : decode cL_law 1490 = .ok (.aload_n 0, 1) := by decide +kernel
theorem dL_law_1491 : decode cL_law 1491 = .ok (.iload_n 3, 1) := by decide +kernel
theorem dL_law_1492 : decode cL_law 1492 = .ok (.iconst 1, 1) := by decide +kernel
theorem dL_law_1493 : decode cL_law 1493 = .ok (.iadd, 1) := by decide +kernel
theorem dL_law_1494 : decode cL_law 1494 = .ok (.iaload, 1) := by decide +kernel
theorem dL_law_1495 : decode cL_law 1495 = .ok (.invokevirtual 179, 3) := by decide +kernel
theorem dL_law_1498 : decode cL_law 1498 = .ok (.aload_n 2, 1) := by decide +kernel
theorem dL_law_1499 : decode cL_law 1499 = .ok (.aload_n 0, 1) := by decide +kernel
theorem dL_law_1500 : decode cL_law 1500 = .ok (.iload_n 3, 1) := by decide +kernel
theorem dL_law_1501 : decode cL_law 1501 = .ok (.iconst 1, 1) := by decide +kernel
theorem dL_law_1502 : decode cL_law 1502 = .ok (.iadd, 1) := by decide +kernel
theorem dL_law_1503 : decode cL_law 1503 = .ok (.iaload, 1) := by decide +kernel
theorem dL_law_1504 : decode cL_law 1504 = .ok (.invokevirtual 182, 3) := by decide +kernel
theorem dL_law_1507 : decode cL_law 1507 = .ok (.if_icmp .eq 117, 3) := by decide +kernel
theorem dL_law_1510 : decode cL_law 1510 = .ok (.iconst 0, 1) := by decide +kernel
theorem dL_law_1511 : decode cL_law 1511 = .ok (.ireturn, 1) := by decide +kernel
theorem dL_law_1512 : decode cL_law 1512 = .ok (.aload_n 1, 1) := by decide +kernel
theorem dL_law_1513 : decode cL_law 1513 = .ok (.aload_n 0, 1) := by decide +kernel
theorem dL_law_1514 : decode cL_law 1514 = .ok (.iload_n 3, 1) := by decide +kernel
theorem dL_law_1515 : decode cL_law 1515 = .ok (.iconst 1, 1) := by decide +kernel
theorem dL_law_1516 : decode cL_law 1516 = .ok (.iadd, 1) := by decide +kernel
theorem dL_law_1517 : decode cL_law 1517 = .ok (.iaload, 1) := by decide +kernel
theorem dL_law_1518 : decode cL_law 1518 = .ok (.aload_n 0, 1) := by decide +kernel
theorem dL_law_1519 : decode cL_law 1519 = .ok (.iload_n 3, 1) := by decide +kernel
theorem dL_law_1520 : decode cL_law 1520 = .ok (.iconst 2, 1) := by decide +kernel
theorem dL_law_1521 : decode cL_law 1521 = .ok (.iadd, 1) := by decide +kernel
theorem dL_law_1522 : decode cL_law 1522 = .ok (.iaload, 1) := by decide +kernel
theorem dL_law_1523 : decode cL_law 1523 = .ok (.aload_n 0, 1) := by decide +kernel
theorem dL_law_1524 : decode cL_law 1524 = .ok (.iload_n 3, 1) := by decide +kernel
theorem dL_law_1525 : decode cL_law 1525 = .ok (.iconst 3, 1) := by decide +kernel
theorem dL_law_1526 : decode cL_law 1526 = .ok (.iadd, 1) := by decide +kernel
theorem dL_law_1527 : decode cL_law 1527 = .ok (.iaload, 1) := by decide +kernel
theorem dL_law_1528 : decode cL_law 1528 = .ok (.invokevirtual 183, 3) := by decide +kernel
theorem dL_law_1531 : decode cL_law 1531 = .ok (.aload_n 2, 1) := by decide +kernel
theorem dL_law_1532 : decode cL_law 1532 = .ok (.aload_n 0, 1) := by decide +kernel
theorem dL_law_1533 : decode cL_law 1533 = .ok (.iload_n 3, 1) := by decide +kernel
theorem dL_law_1534 : decode cL_law 1534 = .ok (.iconst 1, 1) := by decide +kernel
theorem dL_law_1535 : decode cL_law 1535 = .ok (.iadd, 1) := by decide +kernel
theorem dL_law_1536 : decode cL_law 1536 = .ok (.iaload, 1) := by decide +kernel
theorem dL_law_1537 : decode cL_law 1537 = .ok (.aload_n 0, 1) := by decide +kernel
theorem dL_law_1538 : decode cL_law 1538 = .ok (.iload_n 3, 1) := by decide +kernel
theorem dL_law_1539 : decode cL_law 1539 = .ok (.iconst 2, 1) := by decide +kernel
theorem dL_law_1540 : decode cL_law 1540 = .ok (.iadd, 1) := by decide +kernel
theorem dL_law_1541 : decode cL_law 1541 = .ok (.iaload, 1) := by decide +kernel
theorem dL_law_1542 : decode cL_law 1542 = .ok (.aload_n 0, 1) := by decide +kernel
theorem dL_law_1543 : decode cL_law 1543 = .ok (.iload_n 3, 1) := by decide +kernel
theorem dL_law_1544 : decode cL_law 1544 = .ok (.iconst 3, 1) := by decide +kernel
theorem dL_law_1545 : decode cL_law 1545 = .ok (.iadd, 1) := by decide +kernel
theorem dL_law_1546 : decode cL_law 1546 = .ok (.iaload, 1) := by decide +kernel
theorem dL_law_1547 : decode cL_law 1547 = .ok (.invokevirtual 186, 3) := by decide +kernel
theorem dL_law_1550 : decode cL_law 1550 = .ok (.if_icmp .eq 74, 3) := by decide +kernel
theorem dL_law_1553 : decode cL_law 1553 = .ok (.iconst 0, 1) := by decide +kernel
theorem dL_law_1554 : decode cL_law 1554 = .ok (.ireturn, 1) := by decide +kernel
theorem dL_law_1555 : decode cL_law 1555 = .ok (.aload_n 1, 1) := by decide +kernel
theorem dL_law_1556 : decode cL_law 1556 = .ok (.aload_n 0, 1) := by decide +kernel
theorem dL_law_1557 : decode cL_law 1557 = .ok (.iload_n 3, 1) := by decide +kernel
theorem dL_law_1558 : decode cL_law 1558 = .ok (.iconst 1, 1) := by decide +kernel
theorem dL_law_1559 : decode cL_law 1559 = .ok (.iadd, 1) := by decide +kernel
theorem dL_law_1560 : decode cL_law 1560 = .ok (.iaload, 1) := by decide +kernel
theorem dL_law_1561 : decode cL_law 1561 = .ok (.aload_n 0, 1) := by decide +kernel
theorem dL_law_1562 : decode cL_law 1562 = .ok (.iload_n 3, 1) := by decide +kernel
theorem dL_law_1563 : decode cL_law 1563 = .ok (.iconst 2, 1) := by decide +kernel
theorem dL_law_1564 : decode cL_law 1564 = .ok (.iadd, 1) := by decide +kernel
theorem dL_law_1565 : decode cL_law 1565 = .ok (.iaload, 1) := by decide +kernel
theorem dL_law_1566 : decode cL_law 1566 = .ok (.aload_n 0, 1) := by decide +kernel
theorem dL_law_1567 : decode cL_law 1567 = .ok (.iload_n 3, 1) := by decide +kernel
theorem dL_law_1568 : decode cL_law 1568 = .ok (.iconst 3, 1) := by decide +kernel
theorem dL_law_1569 : decode cL_law 1569 = .ok (.iadd, 1) := by decide +kernel
theorem dL_law_1570 : decode cL_law 1570 = .ok (.iaload, 1) := by decide +kernel
theorem dL_law_1571 : decode cL_law 1571 = .ok (.invokevirtual 187, 3) := by decide +kernel
theorem dL_law_1574 : decode cL_law 1574 = .ok (.aload_n 2, 1) := by decide +kernel
theorem dL_law_1575 : decode cL_law 1575 = .ok (.aload_n 0, 1) := by decide +kernel
theorem dL_law_1576 : decode cL_law 1576 = .ok (.iload_n 3, 1) := by decide +kernel
theorem dL_law_1577 : decode cL_law 1577 = .ok (.iconst 1, 1) := by decide +kernel
theorem dL_law_1578 : decode cL_law 1578 = .ok (.iadd, 1) := by decide +kernel
theorem dL_law_1579 : decode cL_law 1579 = .ok (.iaload, 1) := by decide +kernel
theorem dL_law_1580 : decode cL_law 1580 = .ok (.aload_n 0, 1) := by decide +kernel
theorem dL_law_1581 : decode cL_law 1581 = .ok (.iload_n 3, 1) := by decide +kernel
theorem dL_law_1582 : decode cL_law 1582 = .ok (.iconst 2, 1) := by decide +kernel
theorem dL_law_1583 : decode cL_law 1583 = .ok (.iadd, 1) := by decide +kernel
theorem dL_law_1584 : decode cL_law 1584 = .ok (.iaload, 1) := by decide +kernel
theorem dL_law_1585 : decode cL_law 1585 = .ok (.aload_n 0, 1) := by decide +kernel
theorem dL_law_1586 : decode cL_law 1586 = .ok (.iload_n 3, 1) := by decide +kernel
theorem dL_law_1587 : decode cL_law 1587 = .ok (.iconst 3, 1) := by decide +kernel
theorem dL_law_1588 : decode cL_law 1588 = .ok (.iadd, 1) := by decide +kernel
theorem dL_law_1589 : decode cL_law 1589 = .ok (.iaload, 1) := by decide +kernel
theorem dL_law_1590 : decode cL_law 1590 = .ok (.invokevirtual 190, 3) := by decide +kernel
theorem dL_law_1593 : decode cL_law 1593 = .ok (.if_icmp .eq 31, 3) := by decide +kernel
theorem dL_law_1596 : decode cL_law 1596 = .ok (.iconst 0, 1) := by decide +kernel
theorem dL_law_1597 : decode cL_law 1597 = .ok (.ireturn, 1) := by decide +kernel
theorem dL_law_1598 : decode cL_law 1598 = .ok (.aload_n 1, 1) := by decide +kernel
theorem dL_law_1599 : decode cL_law 1599 = .ok (.invokevirtual 191, 3) := by decide +kernel
theorem dL_law_1602 : decode cL_law 1602 = .ok (.aload_n 2, 1) := by decide +kernel
theorem dL_law_1603 : decode cL_law 1603 = .ok (.invokevirtual 194, 3) := by decide +kernel
theorem dL_law_1606 : decode cL_law 1606 = .ok (.if_icmp .eq 18, 3) := by decide +kernel
theorem dL_law_1609 : decode cL_law 1609 = .ok (.iconst 0, 1) := by decide +kernel
theorem dL_law_1610 : decode cL_law 1610 = .ok (.ireturn, 1) := by decide +kernel
theorem dL_law_1611 : decode cL_law 1611 = .ok (.aload_n 1, 1) := by decide +kernel
theorem dL_law_1612 : decode cL_law 1612 = .ok (.invokevirtual 195, 3) := by decide +kernel
theorem dL_law_1615 : decode cL_law 1615 = .ok (.aload_n 2, 1) := by decide +kernel
theorem dL_law_1616 : decode cL_law 1616 = .ok (.invokevirtual 198, 3) := by decide +kernel
theorem dL_law_1619 : decode cL_law 1619 = .ok (.if_icmp .eq 5, 3) := by decide +kernel
theorem dL_law_1622 : decode cL_law 1622 = .ok (.iconst 0, 1) := by decide +kernel
theorem dL_law_1623 : decode cL_law 1623 = .ok (.ireturn, 1) := by decide +kernel
theorem dL_law_1624 : decode cL_law 1624 = .ok (.iinc 3 7, 3) := by decide +kernel
theorem dL_law_1627 : decode cL_law 1627 = .ok (.goto (-1609), 3) := by decide +kernel
theorem dL_law_1630 : decode cL_law 1630 = .ok (.iconst 1, 1) := by decide +kernel
theorem dL_law_1631 : decode cL_law 1631 = .ok (.ireturn, 1) := by decide +kernel
