theorem dX0_init_0 : decode cX0_init 0 = .ok (.aload_n 0, 1) := by decide +kernel
theorem dX0_init_1 : decode cX0_init 1 = .ok (.invokespecial 1, 3) := by decide +kernel
theorem dX0_init_4 : decode cX0_init 4 = .ok (.aload_n 0, 1) := by decide +kernel
theorem dX0_init_5 : decode cX0_init 5 = .ok (.sipush 160, 3) := by decide +kernel
theorem dX0_init_8 : decode cX0_init 8 = .ok (.newarray .int, 2) := by decide +kernel
theorem dX0_init_10 : decode cX0_init 10 = .ok (.putfield 9, 3) := by decide +kernel
theorem dX0_init_13 : decode cX0_init 13 = .ok (.aload_n 0, 1) := by decide +kernel
theorem dX0_init_14 : decode cX0_init 14 = .ok (.sipush 160, 3) := by decide +kernel
theorem dX0_init_17 : decode cX0_init 17 = .ok (.newarray .int, 2) := by decide +kernel
theorem dX0_init_19 : decode cX0_init 19 = .ok (.putfield 13, 3) := by decide +kernel
theorem dX0_init_22 : decode cX0_init 22 = .ok (.aload_n 0, 1) := by decide +kernel
theorem dX0_init_23 : decode cX0_init 23 = .ok (.iconst 0, 1) := by decide +kernel
theorem dX0_init_24 : decode cX0_init 24 = .ok (.putfield 16, 3) := by decide +kernel
theorem dX0_init_27 : decode cX0_init 27 = .ok (.return_, 1) := by decide +kernel
theorem dX0_clear_0 : decode cX0_clear 0 = .ok (.aload_n 0, 1) := by decide +kernel
theorem dX0_clear_1 : decode cX0_clear 1 = .ok (.iconst 0, 1) := by decide +kernel
theorem dX0_clear_2 : decode cX0_clear 2 = .ok (.putfield 16, 3) := by decide +kernel
theorem dX0_clear_5 : decode cX0_clear 5 = .ok (.return_, 1) := by decide +kernel
theorem dX0_isTold_0 : decode cX0_isTold 0 = .ok (.aload_n 0, 1) := by decide +kernel
theorem dX0_isTold_1 : decode cX0_isTold 1 = .ok (.getfield 16, 3) := by decide +kernel
theorem dX0_isTold_4 : decode cX0_isTold 4 = .ok (.ifCond .le 7, 3) := by decide +kernel
theorem dX0_isTold_7 : decode cX0_isTold 7 = .ok (.iconst 1, 1) := by decide +kernel
theorem dX0_isTold_8 : decode cX0_isTold 8 = .ok (.goto 4, 3) := by decide +kernel
theorem dX0_isTold_11 : decode cX0_isTold 11 = .ok (.iconst 0, 1) := by decide +kernel
theorem dX0_isTold_12 : decode cX0_isTold 12 = .ok (.ireturn, 1) := by decide +kernel
theorem dX0_addComparison_0 : decode cX0_addComparison 0 = .ok (.aload_n 0, 1) := by decide +kernel
theorem dX0_addComparison_1 : decode cX0_addComparison 1 = .ok (.iload_n 1, 1) := by decide +kernel
theorem dX0_addComparison_2 : decode cX0_addComparison 2 = .ok (.iconst 3, 1) := by decide +kernel
theorem dX0_addComparison_3 : decode cX0_addComparison 3 = .ok (.imul, 1) := by decide +kernel
theorem dX0_addComparison_4 : decode cX0_addComparison 4 = .ok (.iload_n 2, 1) := by decide +kernel
theorem dX0_addComparison_5 : decode cX0_addComparison 5 = .ok (.iadd, 1) := by decide +kernel
theorem dX0_addComparison_6 : decode cX0_addComparison 6 = .ok (.iload_n 3, 1) := by decide +kernel
theorem dX0_addComparison_7 : decode cX0_addComparison 7 = .ok (.invokevirtual 20, 3) := by decide +kernel
theorem dX0_addComparison_10 : decode cX0_addComparison 10 = .ok (.return_, 1) := by decide +kernel
theorem dX0_addJoint_0 : decode cX0_addJoint 0 = .ok (.aload_n 0, 1) := by decide +kernel
theorem dX0_addJoint_1 : decode cX0_addJoint 1 = .ok (.iload_n 1, 1) := by decide +kernel
theorem dX0_addJoint_2 : decode cX0_addJoint 2 = .ok (.iconst 0, 1) := by decide +kernel
theorem dX0_addJoint_3 : decode cX0_addJoint 3 = .ok (.invokevirtual 20, 3) := by decide +kernel
theorem dX0_addJoint_6 : decode cX0_addJoint 6 = .ok (.return_, 1) := by decide +kernel
theorem dX0_addStep_0 : decode cX0_addStep 0 = .ok (.aload_n 0, 1) := by decide +kernel
theorem dX0_addStep_1 : decode cX0_addStep 1 = .ok (.getfield 16, 3) := by decide +kernel
theorem dX0_addStep_4 : decode cX0_addStep 4 = .ok (.sipush 160, 3) := by decide +kernel
theorem dX0_addStep_7 : decode cX0_addStep 7 = .ok (.if_icmp .ge 33, 3) := by decide +kernel
theorem dX0_addStep_10 : decode cX0_addStep 10 = .ok (.aload_n 0, 1) := by decide +kernel
theorem dX0_addStep_11 : decode cX0_addStep 11 = .ok (.getfield 9, 3) := by decide +kernel
theorem dX0_addStep_14 : decode cX0_addStep 14 = .ok (.aload_n 0, 1) := by decide +kernel
theorem dX0_addStep_15 : decode cX0_addStep 15 = .ok (.getfield 16, 3) := by decide +kernel
theorem dX0_addStep_18 : decode cX0_addStep 18 = .ok (.iload_n 1, 1) := by decide +kernel
theorem dX0_addStep_19 : decode cX0_addStep 19 = .ok (.iastore, 1) := by decide +kernel
theorem dX0_addStep_20 : decode cX0_addStep 20 = .ok (.aload_n 0, 1) := by decide +kernel
theorem dX0_addStep_21 : decode cX0_addStep 21 = .ok (.getfield 13, 3) := by decide +kernel
theorem dX0_addStep_24 : decode cX0_addStep 24 = .ok (.aload_n 0, 1) := by decide +kernel
theorem dX0_addStep_25 : decode cX0_addStep 25 = .ok (.getfield 16, 3) := by decide +kernel
theorem dX0_addStep_28 : decode cX0_addStep 28 = .ok (.iload_n 2, 1) := by decide +kernel
theorem dX0_addStep_29 : decode cX0_addStep 29 = .ok (.iastore, 1) := by decide +kernel
theorem dX0_addStep_30 : decode cX0_addStep 30 = .ok (.aload_n 0, 1) := by decide +kernel
theorem dX0_addStep_31 : decode cX0_addStep 31 = .ok (.dup, 1) := by decide +kernel
theorem dX0_addStep_32 : decode cX0_addStep 32 = .ok (.getfield 16, 3) := by decide +kernel
theorem dX0_addStep_35 : decode cX0_addStep 35 = .ok (.iconst 1, 1) := by decide +kernel
theorem dX0_addStep_36 : decode cX0_addStep 36 = .ok (.iadd, 1) := by decide +kernel
theorem dX0_addStep_37 : decode cX0_addStep 37 = .ok (.putfield 16, 3) := by decide +kernel
theorem dX0_addStep_40 : decode cX0_addStep 40 = .ok (.return_, 1) := by decide +kernel
theorem dX0_isSoOf_0 : decode cX0_isSoOf 0 = .ok (.iconst 0, 1) := by decide +kernel
theorem dX0_isSoOf_1 : decode cX0_isSoOf 1 = .ok (.istore_n 3, 1) := by decide +kernel
theorem dX0_isSoOf_2 : decode cX0_isSoOf 2 = .ok (.iconst 0, 1) := by decide +kernel
theorem dX0_isSoOf_3 : decode cX0_isSoOf 3 = .ok (.istore 4, 2) := by decide +kernel
theorem dX0_isSoOf_5 : decode cX0_isSoOf 5 = .ok (.iload 4, 2) := by decide +kernel
theorem dX0_isSoOf_7 : decode cX0_isSoOf 7 = .ok (.aload_n 0, 1) := by decide +kernel
theorem dX0_isSoOf_8 : decode cX0_isSoOf 8 = .ok (.getfield 16, 3) := by decide +kernel
theorem dX0_isSoOf_11 : decode cX0_isSoOf 11 = .ok (.if_icmp .ge 108, 3) := by decide +kernel
theorem dX0_isSoOf_14 : decode cX0_isSoOf 14 = .ok (.iload_n 3, 1) := by decide +kernel
theorem dX0_isSoOf_15 : decode cX0_isSoOf 15 = .ok (.iconst 1, 1) := by decide +kernel
theorem dX0_isSoOf_16 : decode cX0_isSoOf 16 = .ok (.iand, 1) := by decide +kernel
theorem dX0_isSoOf_17 : decode cX0_isSoOf 17 = .ok (.istore 5, 2) := by decide +kernel
theorem dX0_isSoOf_19 : decode cX0_isSoOf 19 = .ok (.iload_n 3, 1) := by decide +kernel
theorem dX0_isSoOf_20 : decode cX0_isSoOf 20 = .ok (.iconst 1, 1) := by decide +kernel
theorem dX0_isSoOf_21 : decode cX0_isSoOf 21 = .ok (.ishr, 1) := by decide +kernel
theorem dX0_isSoOf_22 : decode cX0_isSoOf 22 = .ok (.istore 6, 2) := by decide +kernel
theorem dX0_isSoOf_24 : decode cX0_isSoOf 24 = .ok (.aload_n 0, 1) := by decide +kernel
theorem dX0_isSoOf_25 : decode cX0_isSoOf 25 = .ok (.getfield 9, 3) := by decide +kernel
theorem dX0_isSoOf_28 : decode cX0_isSoOf 28 = .ok (.iload 4, 2) := by decide +kernel
theorem dX0_isSoOf_30 : decode cX0_isSoOf 30 = .ok (.iaload, 1) := by decide +kernel
theorem dX0_isSoOf_31 : decode cX0_isSoOf 31 = .ok (.tableswitch 61 100 102 #[25, 32, 52], 25) := by decide +kernel
theorem dX0_isSoOf_56 : decode cX0_isSoOf 56 = .ok (.iload_n 3, 1) := by decide +kernel
theorem dX0_isSoOf_57 : decode cX0_isSoOf 57 = .ok (.iconst 1, 1) := by decide +kernel
theorem dX0_isSoOf_58 : decode cX0_isSoOf 58 = .ok (.ixor, 1) := by decide +kernel
theorem dX0_isSoOf_59 : decode cX0_isSoOf 59 = .ok (.istore_n 3, 1) := by decide +kernel
theorem dX0_isSoOf_60 : decode cX0_isSoOf 60 = .ok (.goto 53, 3) := by decide +kernel
theorem dX0_isSoOf_63 : decode cX0_isSoOf 63 = .ok (.iload 5, 2) := by decide +kernel
theorem dX0_isSoOf_65 : decode cX0_isSoOf 65 = .ok (.iconst 1, 1) := by decide +kernel
theorem dX0_isSoOf_66 : decode cX0_isSoOf 66 = .ok (.if_icmp .ne 8, 3) := by decide +kernel
theorem dX0_isSoOf_69 : decode cX0_isSoOf 69 = .ok (.iload 6, 2) := by decide +kernel
theorem dX0_isSoOf_71 : decode cX0_isSoOf 71 = .ok (.goto 8, 3) := by decide +kernel
theorem dX0_isSoOf_74 : decode cX0_isSoOf 74 = .ok (.iload 6, 2) := by decide +kernel
theorem dX0_isSoOf_76 : decode cX0_isSoOf 76 = .ok (.bipush (-2), 2) := by decide +kernel
theorem dX0_isSoOf_78 : decode cX0_isSoOf 78 = .ok (.iand, 1) := by decide +kernel
theorem dX0_isSoOf_79 : decode cX0_isSoOf 79 = .ok (.istore_n 3, 1) := by decide +kernel
theorem dX0_isSoOf_80 : decode cX0_isSoOf 80 = .ok (.goto 33, 3) := by decide +kernel
theorem dX0_isSoOf_83 : decode cX0_isSoOf 83 = .ok (.iload 6, 2) := by decide +kernel
theorem dX0_isSoOf_85 : decode cX0_isSoOf 85 = .ok (.iload 5, 2) := by decide +kernel
theorem dX0_isSoOf_87 : decode cX0_isSoOf 87 = .ok (.ior, 1) := by decide +kernel
theorem dX0_isSoOf_88 : decode cX0_isSoOf 88 = .ok (.istore_n 3, 1) := by decide +kernel
theorem dX0_isSoOf_89 : decode cX0_isSoOf 89 = .ok (.goto 24, 3) := by decide +kernel
theorem dX0_isSoOf_92 : decode cX0_isSoOf 92 = .ok (.iload_n 3, 1) := by decide +kernel
theorem dX0_isSoOf_93 : decode cX0_isSoOf 93 = .ok (.iconst 1, 1) := by decide +kernel
theorem dX0_isSoOf_94 : decode cX0_isSoOf 94 = .ok (.ishl, 1) := by decide +kernel
theorem dX0_isSoOf_95 : decode cX0_isSoOf 95 = .ok (.aload_n 0, 1) := by decide +kernel
theorem dX0_isSoOf_96 : decode cX0_isSoOf 96 = .ok (.iload 4, 2) := by decide +kernel
theorem dX0_isSoOf_98 : decode cX0_isSoOf 98 = .ok (.aload_n 1, 1) := by decide +kernel
theorem dX0_isSoOf_99 : decode cX0_isSoOf 99 = .ok (.iload_n 2, 1) := by decide +kernel
theorem dX0_isSoOf_100 : decode cX0_isSoOf 100 = .ok (.invokevirtual 24, 3) := by decide +kernel
theorem dX0_isSoOf_103 : decode cX0_isSoOf 103 = .ok (.ifCond .eq 7, 3) := by decide +kernel
theorem dX0_isSoOf_106 : decode cX0_isSoOf 106 = .ok (.iconst 1, 1) := by decide +kernel
theorem dX0_isSoOf_107 : decode cX0_isSoOf 107 = .ok (.goto 4, 3) := by decide +kernel
theorem dX0_isSoOf_110 : decode cX0_isSoOf 110 = .ok (.iconst 0, 1) := by decide +kernel
theorem dX0_isSoOf_111 : decode cX0_isSoOf 111 = .ok (.ior, 1) := by decide +kernel
theorem dX0_isSoOf_112 : decode cX0_isSoOf 112 = .ok (.istore_n 3, 1) := by decide +kernel
theorem dX0_isSoOf_113 : decode cX0_isSoOf 113 = .ok (.iinc 4 1, 3) := by decide +kernel
theorem dX0_isSoOf_116 : decode cX0_isSoOf 116 = .ok (.goto (-111), 3) := by decide +kernel
theorem dX0_isSoOf_119 : decode cX0_isSoOf 119 = .ok (.iload_n 3, 1) := by decide +kernel
theorem dX0_isSoOf_120 : decode cX0_isSoOf 120 = .ok (.iconst 1, 1) := by decide +kernel
theorem dX0_isSoOf_121 : decode cX0_isSoOf 121 = .ok (.iand, 1) := by decide +kernel
theorem dX0_isSoOf_122 : decode cX0_isSoOf 122 = .ok (.iconst 1, 1) := by decide +kernel
theorem dX0_isSoOf_123 : decode cX0_isSoOf 123 = .ok (.if_icmp .ne 7, 3) := by decide +kernel
theorem dX0_isSoOf_126 : decode cX0_isSoOf 126 = .ok (.iconst 1, 1) := by decide +kernel
theorem dX0_isSoOf_127 : decode cX0_isSoOf 127 = .ok (.goto 4, 3) := by decide +kernel
theorem dX0_isSoOf_130 : decode cX0_isSoOf 130 = .ok (.iconst 0, 1) := by decide +kernel
theorem dX0_isSoOf_131 : decode cX0_isSoOf 131 = .ok (.ireturn, 1) := by decide +kernel
theorem dX0_compares_0 : decode cX0_compares 0 = .ok (.aload_n 0, 1) := by decide +kernel
theorem dX0_compares_1 : decode cX0_compares 1 = .ok (.getfield 9, 3) := by decide +kernel
theorem dX0_compares_4 : decode cX0_compares 4 = .ok (.iload_n 1, 1) := by decide +kernel
theorem dX0_compares_5 : decode cX0_compares 5 = .ok (.iaload, 1) := by decide +kernel
theorem dX0_compares_6 : decode cX0_compares 6 = .ok (.iconst 3, 1) := by decide +kernel
theorem dX0_compares_7 : decode cX0_compares 7 = .ok (.idiv, 1) := by decide +kernel
theorem dX0_compares_8 : decode cX0_compares 8 = .ok (.istore 4, 2) := by decide +kernel
theorem dX0_compares_10 : decode cX0_compares 10 = .ok (.iload 4, 2) := by decide +kernel
theorem dX0_compares_12 : decode cX0_compares 12 = .ok (.bipush 6, 2) := by decide +kernel
theorem dX0_compares_14 : decode cX0_compares 14 = .ok (.if_icmp .ne 17, 3) := by decide +kernel
theorem dX0_compares_17 : decode cX0_compares 17 = .ok (.aload_n 2, 1) := by decide +kernel
theorem dX0_compares_18 : decode cX0_compares 18 = .ok (.aload_n 2, 1) := by decide +kernel
theorem dX0_compares_19 : decode cX0_compares 19 = .ok (.getfield 30, 3) := by decide +kernel
theorem dX0_compares_22 : decode cX0_compares 22 = .ok (.iload_n 3, 1) := by decide +kernel
theorem dX0_compares_23 : decode cX0_compares 23 = .ok (.iaload, 1) := by decide +kernel
theorem dX0_compares_24 : decode cX0_compares 24 = .ok (.invokevirtual 33, 3) := by decide +kernel
theorem dX0_compares_27 : decode cX0_compares 27 = .ok (.i2l, 1) := by decide +kernel
theorem dX0_compares_28 : decode cX0_compares 28 = .ok (.goto 10, 3) := by decide +kernel
theorem dX0_compares_31 : decode cX0_compares 31 = .ok (.aload_n 2, 1) := by decide +kernel
theorem dX0_compares_32 : decode cX0_compares 32 = .ok (.iload_n 3, 1) := by decide +kernel
theorem dX0_compares_33 : decode cX0_compares 33 = .ok (.iload 4, 2) := by decide +kernel
theorem dX0_compares_35 : decode cX0_compares 35 = .ok (.invokevirtual 37, 3) := by decide +kernel
theorem dX0_compares_38 : decode cX0_compares 38 = .ok (.lstore 5, 2) := by decide +kernel
theorem dX0_compares_40 : decode cX0_compares 40 = .ok (.aload_n 0, 1) := by decide +kernel
theorem dX0_compares_41 : decode cX0_compares 41 = .ok (.getfield 9, 3) := by decide +kernel
theorem dX0_compares_44 : decode cX0_compares 44 = .ok (.iload_n 1, 1) := by decide +kernel
theorem dX0_compares_45 : decode cX0_compares 45 = .ok (.iaload, 1) := by decide +kernel
theorem dX0_compares_46 : decode cX0_compares 46 = .ok (.iconst 3, 1) := by decide +kernel
theorem dX0_compares_47 : decode cX0_compares 47 = .ok (.irem, 1) := by decide +kernel
theorem dX0_compares_48 : decode cX0_compares 48 = .ok (.lookupswitch 66 #[(0, 28), (1, 47)], 28) := by decide +kernel
theorem dX0_compares_76 : decode cX0_compares 76 = .ok (.lload 5, 2) := by decide +kernel
theorem dX0_compares_78 : decode cX0_compares 78 = .ok (.aload_n 0, 1) := by decide +kernel
theorem dX0_compares_79 : decode cX0_compares 79 = .ok (.getfield 13, 3) := by decide +kernel
theorem dX0_compares_82 : decode cX0_compares 82 = .ok (.iload_n 1, 1) := by decide +kernel
theorem dX0_compares_83 : decode cX0_compares 83 = .ok (.iaload, 1) := by decide +kernel
theorem dX0_compares_84 : decode cX0_compares 84 = .ok (.i2l, 1) := by decide +kernel
theorem dX0_compares_85 : decode cX0_compares 85 = .ok (.lcmp, 1) := by decide +kernel
theorem dX0_compares_86 : decode cX0_compares 86 = .ok (.ifCond .ge 7, 3) := by decide +kernel
theorem dX0_compares_89 : decode cX0_compares 89 = .ok (.iconst 1, 1) := by decide +kernel
theorem dX0_compares_90 : decode cX0_compares 90 = .ok (.goto 4, 3) := by decide +kernel
theorem dX0_compares_93 : decode cX0_compares 93 = .ok (.iconst 0, 1) := by decide +kernel
theorem dX0_compares_94 : decode cX0_compares 94 = .ok (.ireturn, 1) := by decide +kernel
theorem dX0_compares_95 : decode cX0_compares 95 = .ok (.lload 5, 2) := by decide +kernel
theorem dX0_compares_97 : decode cX0_compares 97 = .ok (.aload_n 0, 1) := by decide +kernel
theorem dX0_compares_98 : decode cX0_compares 98 = .ok (.getfield 13, 3) := by decide +kernel
theorem dX0_compares_101 : decode cX0_compares 101 = .ok (.iload_n 1, 1) := by decide +kernel
theorem dX0_compares_102 : decode cX0_compares 102 = .ok (.iaload, 1) := by decide +kernel
theorem dX0_compares_103 : decode cX0_compares 103 = .ok (.i2l, 1) := by decide +kernel
theorem dX0_compares_104 : decode cX0_compares 104 = .ok (.lcmp, 1) := by decide +kernel
theorem dX0_compares_105 : decode cX0_compares 105 = .ok (.ifCond .ne 7, 3) := by decide +kernel
theorem dX0_compares_108 : decode cX0_compares 108 = .ok (.iconst 1, 1) := by decide +kernel
theorem dX0_compares_109 : decode cX0_compares 109 = .ok (.goto 4, 3) := by decide +kernel
theorem dX0_compares_112 : decode cX0_compares 112 = .ok (.iconst 0, 1) := by decide +kernel
theorem dX0_compares_113 : decode cX0_compares 113 = .ok (.ireturn, 1) := by decide +kernel
theorem dX0_compares_114 : decode cX0_compares 114 = .ok (.lload 5, 2) := by decide +kernel
theorem dX0_compares_116 : decode cX0_compares 116 = .ok (.aload_n 0, 1) := by decide +kernel
theorem dX0_compares_117 : decode cX0_compares 117 = .ok (.getfield 13, 3) := by decide +kernel
theorem dX0_compares_120 : decode cX0_compares 120 = .ok (.iload_n 1, 1) := by decide +kernel
theorem dX0_compares_121 : decode cX0_compares 121 = .ok (.iaload, 1) := by decide +kernel
theorem dX0_compares_122 : decode cX0_compares 122 = .ok (.i2l, 1) := by decide +kernel
theorem dX0_compares_123 : decode cX0_compares 123 = .ok (.lcmp, 1) := by decide +kernel
theorem dX0_compares_124 : decode cX0_compares 124 = .ok (.ifCond .le 7, 3) := by decide +kernel
theorem dX0_compares_127 : decode cX0_compares 127 = .ok (.iconst 1, 1) := by decide +kernel
theorem dX0_compares_128 : decode cX0_compares 128 = .ok (.goto 4, 3) := by decide +kernel
theorem dX0_compares_131 : decode cX0_compares 131 = .ok (.iconst 0, 1) := by decide +kernel
theorem dX0_compares_132 : decode cX0_compares 132 = .ok (.ireturn, 1) := by decide +kernel
theorem dX1_init_0 : decode cX1_init 0 = .ok (.aload_n 0, 1) := by decide +kernel
theorem dX1_init_1 : decode cX1_init 1 = .ok (.invokespecial 3, 3) := by decide +kernel
theorem dX1_init_4 : decode cX1_init 4 = .ok (.aload_n 0, 1) := by decide +kernel
theorem dX1_init_5 : decode cX1_init 5 = .ok (.bipush 100, 2) := by decide +kernel
theorem dX1_init_7 : decode cX1_init 7 = .ok (.newarray .int, 2) := by decide +kernel
theorem dX1_init_9 : decode cX1_init 9 = .ok (.putfield 11, 3) := by decide +kernel
theorem dX1_init_12 : decode cX1_init 12 = .ok (.aload_n 0, 1) := by decide +kernel
theorem dX1_init_13 : decode cX1_init 13 = .ok (.bipush 100, 2) := by decide +kernel
theorem dX1_init_15 : decode cX1_init 15 = .ok (.newarray .int, 2) := by decide +kernel
theorem dX1_init_17 : decode cX1_init 17 = .ok (.putfield 15, 3) := by decide +kernel
theorem dX1_init_20 : decode cX1_init 20 = .ok (.aload_n 0, 1) := by decide +kernel
theorem dX1_init_21 : decode cX1_init 21 = .ok (.bipush 100, 2) := by decide +kernel
theorem dX1_init_23 : decode cX1_init 23 = .ok (.newarray .int, 2) := by decide +kernel
theorem dX1_init_25 : decode cX1_init 25 = .ok (.putfield 18, 3) := by decide +kernel
theorem dX1_init_28 : decode cX1_init 28 = .ok (.aload_n 0, 1) := by decide +kernel
theorem dX1_init_29 : decode cX1_init 29 = .ok (.bipush 100, 2) := by decide +kernel
theorem dX1_init_31 : decode cX1_init 31 = .ok (.newarray .int, 2) := by decide +kernel
theorem dX1_init_33 : decode cX1_init 33 = .ok (.putfield 21, 3) := by decide +kernel
theorem dX1_init_36 : decode cX1_init 36 = .ok (.aload_n 0, 1) := by decide +kernel
theorem dX1_init_37 : decode cX1_init 37 = .ok (.iconst 0, 1) := by decide +kernel
theorem dX1_init_38 : decode cX1_init 38 = .ok (.putfield 24, 3) := by decide +kernel
theorem dX1_init_41 : decode cX1_init 41 = .ok (.aload_n 0, 1) := by decide +kernel
theorem dX1_init_42 : decode cX1_init 42 = .ok (.aload_n 1, 1) := by decide +kernel
theorem dX1_init_43 : decode cX1_init 43 = .ok (.putfield 28, 3) := by decide +kernel
theorem dX1_init_46 : decode cX1_init 46 = .ok (.return_, 1) := by decide +kernel
theorem dX1_read_0 : decode cX1_read 0 = .ok (.aload_n 0, 1) := by decide +kernel
theorem dX1_read_1 : decode cX1_read 1 = .ok (.iconst 0, 1) := by decide +kernel
theorem dX1_read_2 : decode cX1_read 2 = .ok (.putfield 24, 3) := by decide +kernel
theorem dX1_read_5 : decode cX1_read 5 = .ok (.aload_n 0, 1) := by decide +kernel
theorem dX1_read_6 : decode cX1_read 6 = .ok (.getfield 28, 3) := by decide +kernel
theorem dX1_read_9 : decode cX1_read 9 = .ok (.iload_n 1, 1) := by decide +kernel
theorem dX1_read_10 : decode cX1_read 10 = .ok (.invokevirtual 32, 3) := by decide +kernel
theorem dX1_read_13 : decode cX1_read 13 = .ok (.iconst 0, 1) := by decide +kernel
theorem dX1_read_14 : decode cX1_read 14 = .ok (.istore_n 2, 1) := by decide +kernel
theorem dX1_read_15 : decode cX1_read 15 = .ok (.iload_n 2, 1) := by decide +kernel
theorem dX1_read_16 : decode cX1_read 16 = .ok (.bipush 100, 2) := by decide +kernel
theorem dX1_read_18 : decode cX1_read 18 = .ok (.if_icmp .ge 35, 3) := by decide +kernel
theorem dX1_read_21 : decode cX1_read 21 = .ok (.aload_n 0, 1) := by decide +kernel
theorem dX1_read_22 : decode cX1_read 22 = .ok (.getfield 28, 3) := by decide +kernel
theorem dX1_read_25 : decode cX1_read 25 = .ok (.getfield 38, 3) := by decide +kernel
theorem dX1_read_28 : decode cX1_read 28 = .ok (.ifCond .eq 25, 3) := by decide +kernel
theorem dX1_read_31 : decode cX1_read 31 = .ok (.aload_n 0, 1) := by decide +kernel
theorem dX1_read_32 : decode cX1_read 32 = .ok (.invokevirtual 40, 3) := by decide +kernel
theorem dX1_read_35 : decode cX1_read 35 = .ok (.ifCond .ne 5, 3) := by decide +kernel
theorem dX1_read_38 : decode cX1_read 38 = .ok (.iconst 0, 1) := by decide +kernel
theorem dX1_read_39 : decode cX1_read 39 = .ok (.ireturn, 1) := by decide +kernel
theorem dX1_read_40 : decode cX1_read 40 = .ok (.aload_n 0, 1) := by decide +kernel
theorem dX1_read_41 : decode cX1_read 41 = .ok (.iload_n 2, 1) := by decide +kernel
theorem dX1_read_42 : decode cX1_read 42 = .ok (.iconst 1, 1) := by decide +kernel
theorem dX1_read_43 : decode cX1_read 43 = .ok (.iadd, 1) := by decide +kernel
theorem dX1_read_44 : decode cX1_read 44 = .ok (.putfield 24, 3) := by decide +kernel
theorem dX1_read_47 : decode cX1_read 47 = .ok (.iinc 2 1, 3) := by decide +kernel
theorem dX1_read_50 : decode cX1_read 50 = .ok (.goto (-35), 3) := by decide +kernel
theorem dX1_read_53 : decode cX1_read 53 = .ok (.iconst 1, 1) := by decide +kernel
theorem dX1_read_54 : decode cX1_read 54 = .ok (.ireturn, 1) := by decide +kernel
theorem dX1_readLine_0 : decode cX1_readLine 0 = .ok (.aload_n 0, 1) := by decide +kernel
theorem dX1_readLine_1 : decode cX1_readLine 1 = .ok (.invokevirtual 44, 3) := by decide +kernel
theorem dX1_readLine_4 : decode cX1_readLine 4 = .ok (.istore_n 1, 1) := by decide +kernel
theorem dX1_readLine_5 : decode cX1_readLine 5 = .ok (.iload_n 1, 1) := by decide +kernel
theorem dX1_readLine_6 : decode cX1_readLine 6 = .ok (.iconst (-1), 1) := by decide +kernel
theorem dX1_readLine_7 : decode cX1_readLine 7 = .ok (.if_icmp .ne 12, 3) := by decide +kernel
theorem dX1_readLine_10 : decode cX1_readLine 10 = .ok (.aload_n 0, 1) := by decide +kernel
theorem dX1_readLine_11 : decode cX1_readLine 11 = .ok (.getfield 28, 3) := by decide +kernel
theorem dX1_readLine_14 : decode cX1_readLine 14 = .ok (.iconst 1, 1) := by decide +kernel
theorem dX1_readLine_15 : decode cX1_readLine 15 = .ok (.invokevirtual 48, 3) := by decide +kernel
theorem dX1_readLine_18 : decode cX1_readLine 18 = .ok (.ireturn, 1) := by decide +kernel
theorem dX1_readLine_19 : decode cX1_readLine 19 = .ok (.aload_n 0, 1) := by decide +kernel
theorem dX1_readLine_20 : decode cX1_readLine 20 = .ok (.getfield 28, 3) := by decide +kernel
theorem dX1_readLine_23 : decode cX1_readLine 23 = .ok (.invokevirtual 52, 3) := by decide +kernel
theorem dX1_readLine_26 : decode cX1_readLine 26 = .ok (.aload_n 0, 1) := by decide +kernel
theorem dX1_readLine_27 : decode cX1_readLine 27 = .ok (.getfield 11, 3) := by decide +kernel
theorem dX1_readLine_30 : decode cX1_readLine 30 = .ok (.aload_n 0, 1) := by decide +kernel
theorem dX1_readLine_31 : decode cX1_readLine 31 = .ok (.getfield 24, 3) := by decide +kernel
theorem dX1_readLine_34 : decode cX1_readLine 34 = .ok (.iload_n 1, 1) := by decide +kernel
theorem dX1_readLine_35 : decode cX1_readLine 35 = .ok (.iastore, 1) := by decide +kernel
theorem dX1_readLine_36 : decode cX1_readLine 36 = .ok (.aload_n 0, 1) := by decide +kernel
theorem dX1_readLine_37 : decode cX1_readLine 37 = .ok (.getfield 28, 3) := by decide +kernel
theorem dX1_readLine_40 : decode cX1_readLine 40 = .ok (.iconst 0, 1) := by decide +kernel
theorem dX1_readLine_41 : decode cX1_readLine 41 = .ok (.bipush 9, 2) := by decide +kernel
theorem dX1_readLine_43 : decode cX1_readLine 43 = .ok (.invokevirtual 55, 3) := by decide +kernel
theorem dX1_readLine_46 : decode cX1_readLine 46 = .ok (.ifCond .ne 5, 3) := by decide +kernel
theorem dX1_readLine_49 : decode cX1_readLine 49 = .ok (.iconst 0, 1) := by decide +kernel
theorem dX1_readLine_50 : decode cX1_readLine 50 = .ok (.ireturn, 1) := by decide +kernel
theorem dX1_readLine_51 : decode cX1_readLine 51 = .ok (.aload_n 0, 1) := by decide +kernel
theorem dX1_readLine_52 : decode cX1_readLine 52 = .ok (.getfield 15, 3) := by decide +kernel
theorem dX1_readLine_55 : decode cX1_readLine 55 = .ok (.aload_n 0, 1) := by decide +kernel
theorem dX1_readLine_56 : decode cX1_readLine 56 = .ok (.getfield 24, 3) := by decide +kernel
theorem dX1_readLine_59 : decode cX1_readLine 59 = .ok (.aload_n 0, 1) := by decide +kernel
theorem dX1_readLine_60 : decode cX1_readLine 60 = .ok (.getfield 28, 3) := by decide +kernel
theorem dX1_readLine_63 : decode cX1_readLine 63 = .ok (.getfield 59, 3) := by decide +kernel
theorem dX1_readLine_66 : decode cX1_readLine 66 = .ok (.iastore, 1) := by decide +kernel
theorem dX1_readLine_67 : decode cX1_readLine 67 = .ok (.iload_n 1, 1) := by decide +kernel
theorem dX1_readLine_68 : decode cX1_readLine 68 = .ok (.iconst 2, 1) := by decide +kernel
theorem dX1_readLine_69 : decode cX1_readLine 69 = .ok (.if_icmp .eq 17, 3) := by decide +kernel
theorem dX1_readLine_72 : decode cX1_readLine 72 = .ok (.aload_n 0, 1) := by decide +kernel
theorem dX1_readLine_73 : decode cX1_readLine 73 = .ok (.getfield 28, 3) := by decide +kernel
theorem dX1_readLine_76 : decode cX1_readLine 76 = .ok (.ldc 62, 2) := by decide +kernel
theorem dX1_readLine_78 : decode cX1_readLine 78 = .ok (.invokevirtual 63, 3) := by decide +kernel
theorem dX1_readLine_81 : decode cX1_readLine 81 = .ok (.ifCond .ne 5, 3) := by decide +kernel
theorem dX1_readLine_84 : decode cX1_readLine 84 = .ok (.iconst 0, 1) := by decide +kernel
theorem dX1_readLine_85 : decode cX1_readLine 85 = .ok (.ireturn, 1) := by decide +kernel
theorem dX1_readLine_86 : decode cX1_readLine 86 = .ok (.aload_n 0, 1) := by decide +kernel
theorem dX1_readLine_87 : decode cX1_readLine 87 = .ok (.getfield 18, 3) := by decide +kernel
theorem dX1_readLine_90 : decode cX1_readLine 90 = .ok (.aload_n 0, 1) := by decide +kernel
theorem dX1_readLine_91 : decode cX1_readLine 91 = .ok (.getfield 24, 3) := by decide +kernel
theorem dX1_readLine_94 : decode cX1_readLine 94 = .ok (.aload_n 0, 1) := by decide +kernel
theorem dX1_readLine_95 : decode cX1_readLine 95 = .ok (.getfield 28, 3) := by decide +kernel
theorem dX1_readLine_98 : decode cX1_readLine 98 = .ok (.getfield 59, 3) := by decide +kernel
theorem dX1_readLine_101 : decode cX1_readLine 101 = .ok (.iastore, 1) := by decide +kernel
theorem dX1_readLine_102 : decode cX1_readLine 102 = .ok (.iload_n 1, 1) := by decide +kernel
theorem dX1_readLine_103 : decode cX1_readLine 103 = .ok (.ifCond .ne 18, 3) := by decide +kernel
theorem dX1_readLine_106 : decode cX1_readLine 106 = .ok (.aload_n 0, 1) := by decide +kernel
theorem dX1_readLine_107 : decode cX1_readLine 107 = .ok (.getfield 28, 3) := by decide +kernel
theorem dX1_readLine_110 : decode cX1_readLine 110 = .ok (.sipush 10000, 3) := by decide +kernel
theorem dX1_readLine_113 : decode cX1_readLine 113 = .ok (.invokevirtual 63, 3) := by decide +kernel
theorem dX1_readLine_116 : decode cX1_readLine 116 = .ok (.ifCond .ne 5, 3) := by decide +kernel
theorem dX1_readLine_119 : decode cX1_readLine 119 = .ok (.iconst 0, 1) := by decide +kernel
theorem dX1_readLine_120 : decode cX1_readLine 120 = .ok (.ireturn, 1) := by decide +kernel
theorem dX1_readLine_121 : decode cX1_readLine 121 = .ok (.aload_n 0, 1) := by decide +kernel
theorem dX1_readLine_122 : decode cX1_readLine 122 = .ok (.getfield 21, 3) := by decide +kernel
theorem dX1_readLine_125 : decode cX1_readLine 125 = .ok (.aload_n 0, 1) := by decide +kernel
theorem dX1_readLine_126 : decode cX1_readLine 126 = .ok (.getfield 24, 3) := by decide +kernel
theorem dX1_readLine_129 : decode cX1_readLine 129 = .ok (.aload_n 0, 1) := by decide +kernel
theorem dX1_readLine_130 : decode cX1_readLine 130 = .ok (.getfield 28, 3) := by decide +kernel
theorem dX1_readLine_133 : decode cX1_readLine 133 = .ok (.getfield 59, 3) := by decide +kernel
theorem dX1_readLine_136 : decode cX1_readLine 136 = .ok (.iastore, 1) := by decide +kernel
theorem dX1_readLine_137 : decode cX1_readLine 137 = .ok (.aload_n 0, 1) := by decide +kernel
theorem dX1_readLine_138 : decode cX1_readLine 138 = .ok (.getfield 28, 3) := by decide +kernel
theorem dX1_readLine_141 : decode cX1_readLine 141 = .ok (.bipush 59, 2) := by decide +kernel
theorem dX1_readLine_143 : decode cX1_readLine 143 = .ok (.invokevirtual 66, 3) := by decide +kernel
theorem dX1_readLine_146 : decode cX1_readLine 146 = .ok (.ireturn, 1) := by decide +kernel
theorem dX1_kindHere_0 : decode cX1_kindHere 0 = .ok (.aload_n 0, 1) := by decide +kernel
theorem dX1_kindHere_1 : decode cX1_kindHere 1 = .ok (.getfield 28, 3) := by decide +kernel
theorem dX1_kindHere_4 : decode cX1_kindHere 4 = .ok (.ldc 70, 2) := by decide +kernel
theorem dX1_kindHere_6 : decode cX1_kindHere 6 = .ok (.invokevirtual 72, 3) := by decide +kernel
theorem dX1_kindHere_9 : decode cX1_kindHere 9 = .ok (.ifCond .eq 5, 3) := by decide +kernel
theorem dX1_kindHere_12 : decode cX1_kindHere 12 = .ok (.iconst 0, 1) := by decide +kernel
theorem dX1_kindHere_13 : decode cX1_kindHere 13 = .ok (.ireturn, 1) := by decide +kernel
theorem dX1_kindHere_14 : decode cX1_kindHere 14 = .ok (.aload_n 0, 1) := by decide +kernel
theorem dX1_kindHere_15 : decode cX1_kindHere 15 = .ok (.getfield 28, 3) := by decide +kernel
theorem dX1_kindHere_18 : decode cX1_kindHere 18 = .ok (.ldc 76, 2) := by decide +kernel
theorem dX1_kindHere_20 : decode cX1_kindHere 20 = .ok (.invokevirtual 72, 3) := by decide +kernel
theorem dX1_kindHere_23 : decode cX1_kindHere 23 = .ok (.ifCond .eq 5, 3) := by decide +kernel
theorem dX1_kindHere_26 : decode cX1_kindHere 26 = .ok (.iconst 1, 1) := by decide +kernel
theorem dX1_kindHere_27 : decode cX1_kindHere 27 = .ok (.ireturn, 1) := by decide +kernel
theorem dX1_kindHere_28 : decode cX1_kindHere 28 = .ok (.aload_n 0, 1) := by decide +kernel
theorem dX1_kindHere_29 : decode cX1_kindHere 29 = .ok (.getfield 28, 3) := by decide +kernel
theorem dX1_kindHere_32 : decode cX1_kindHere 32 = .ok (.ldc 78, 2) := by decide +kernel
theorem dX1_kindHere_34 : decode cX1_kindHere 34 = .ok (.invokevirtual 72, 3) := by decide +kernel
theorem dX1_kindHere_37 : decode cX1_kindHere 37 = .ok (.ifCond .eq 7, 3) := by decide +kernel
theorem dX1_kindHere_40 : decode cX1_kindHere 40 = .ok (.iconst 2, 1) := by decide +kernel
theorem dX1_kindHere_41 : decode cX1_kindHere 41 = .ok (.goto 4, 3) := by decide +kernel
theorem dX1_kindHere_44 : decode cX1_kindHere 44 = .ok (.iconst (-1), 1) := by decide +kernel
theorem dX1_kindHere_45 : decode cX1_kindHere 45 = .ok (.ireturn, 1) := by decide +kernel
theorem dX2_init_0 : decode cX2_init 0 = .ok (.aload_n 0, 1) := by decide +kernel
theorem dX2_init_1 : decode cX2_init 1 = .ok (.invokespecial 3, 3) := by decide +kernel
theorem dX2_init_4 : decode cX2_init 4 = .ok (.aload_n 0, 1) := by decide +kernel
theorem dX2_init_5 : decode cX2_init 5 = .ok (.iconst 4, 1) := by decide +kernel
theorem dX2_init_6 : decode cX2_init 6 = .ok (.newarray .int, 2) := by decide +kernel
theorem dX2_init_8 : decode cX2_init 8 = .ok (.putfield 11, 3) := by decide +kernel
theorem dX2_init_11 : decode cX2_init 11 = .ok (.aload_n 0, 1) := by decide +kernel
theorem dX2_init_12 : decode cX2_init 12 = .ok (.iconst 4, 1) := by decide +kernel
theorem dX2_init_13 : decode cX2_init 13 = .ok (.newarray .int, 2) := by decide +kernel
theorem dX2_init_15 : decode cX2_init 15 = .ok (.putfield 15, 3) := by decide +kernel
theorem dX2_init_18 : decode cX2_init 18 = .ok (.aload_n 0, 1) := by decide +kernel
theorem dX2_init_19 : decode cX2_init 19 = .ok (.new 18, 3) := by decide +kernel
theorem dX2_init_22 : decode cX2_init 22 = .ok (.dup, 1) := by decide +kernel
theorem dX2_init_23 : decode cX2_init 23 = .ok (.invokespecial 20, 3) := by decide +kernel
theorem dX2_init_26 : decode cX2_init 26 = .ok (.putfield 21, 3) := by decide +kernel
theorem dX2_init_29 : decode cX2_init 29 = .ok (.aload_n 0, 1) := by decide +kernel
theorem dX2_init_30 : decode cX2_init 30 = .ok (.iconst 4, 1) := by decide +kernel
theorem dX2_init_31 : decode cX2_init 31 = .ok (.putfield 25, 3) := by decide +kernel
theorem dX2_init_34 : decode cX2_init 34 = .ok (.aload_n 0, 1) := by decide +kernel
theorem dX2_init_35 : decode cX2_init 35 = .ok (.invokevirtual 29, 3) := by decide +kernel
theorem dX2_init_38 : decode cX2_init 38 = .ok (.return_, 1) := by decide +kernel
theorem dX2_clear_0 : decode cX2_clear 0 = .ok (.aload_n 0, 1) := by decide +kernel
theorem dX2_clear_1 : decode cX2_clear 1 = .ok (.iconst 0, 1) := by decide +kernel
theorem dX2_clear_2 : decode cX2_clear 2 = .ok (.putfield 32, 3) := by decide +kernel
theorem dX2_clear_5 : decode cX2_clear 5 = .ok (.aload_n 0, 1) := by decide +kernel
theorem dX2_clear_6 : decode cX2_clear 6 = .ok (.iconst 4, 1) := by decide +kernel
theorem dX2_clear_7 : decode cX2_clear 7 = .ok (.putfield 25, 3) := by decide +kernel
theorem dX2_clear_10 : decode cX2_clear 10 = .ok (.aload_n 0, 1) := by decide +kernel
theorem dX2_clear_11 : decode cX2_clear 11 = .ok (.getfield 21, 3) := by decide +kernel
theorem dX2_clear_14 : decode cX2_clear 14 = .ok (.invokevirtual 35, 3) := by decide +kernel
theorem dX2_clear_17 : decode cX2_clear 17 = .ok (.return_, 1) := by decide +kernel
theorem dX2_takeFirstTiers_0 : decode cX2_takeFirstTiers 0 = .ok (.aload_n 0, 1) := by decide +kernel
theorem dX2_takeFirstTiers_1 : decode cX2_takeFirstTiers 1 = .ok (.getstatic 38, 3) := by decide +kernel
theorem dX2_takeFirstTiers_4 : decode cX2_takeFirstTiers 4 = .ok (.arraylength, 1) := by decide +kernel
theorem dX2_takeFirstTiers_5 : decode cX2_takeFirstTiers 5 = .ok (.putfield 32, 3) := by decide +kernel
theorem dX2_takeFirstTiers_8 : decode cX2_takeFirstTiers 8 = .ok (.iconst 0, 1) := by decide +kernel
theorem dX2_takeFirstTiers_9 : decode cX2_takeFirstTiers 9 = .ok (.istore_n 1, 1) := by decide +kernel
theorem dX2_takeFirstTiers_10 : decode cX2_takeFirstTiers 10 = .ok (.iload_n 1, 1) := by decide +kernel
theorem dX2_takeFirstTiers_11 : decode cX2_takeFirstTiers 11 = .ok (.aload_n 0, 1) := by decide +kernel
theorem dX2_takeFirstTiers_12 : decode cX2_takeFirstTiers 12 = .ok (.getfield 32, 3) := by decide +kernel
theorem dX2_takeFirstTiers_15 : decode cX2_takeFirstTiers 15 = .ok (.if_icmp .ge 31, 3) := by decide +kernel
theorem dX2_takeFirstTiers_18 : decode cX2_takeFirstTiers 18 = .ok (.aload_n 0, 1) := by decide +kernel
theorem dX2_takeFirstTiers_19 : decode cX2_takeFirstTiers 19 = .ok (.getfield 11, 3) := by decide +kernel
theorem dX2_takeFirstTiers_22 : decode cX2_takeFirstTiers 22 = .ok (.iload_n 1, 1) := by decide +kernel
theorem dX2_takeFirstTiers_23 : decode cX2_takeFirstTiers 23 = .ok (.getstatic 38, 3) := by decide +kernel
theorem dX2_takeFirstTiers_26 : decode cX2_takeFirstTiers 26 = .ok (.iload_n 1, 1) := by decide +kernel
theorem dX2_takeFirstTiers_27 : decode cX2_takeFirstTiers 27 = .ok (.iaload, 1) := by decide +kernel
theorem dX2_takeFirstTiers_28 : decode cX2_takeFirstTiers 28 = .ok (.iastore, 1) := by decide +kernel
theorem dX2_takeFirstTiers_29 : decode cX2_takeFirstTiers 29 = .ok (.aload_n 0, 1) := by decide +kernel
theorem dX2_takeFirstTiers_30 : decode cX2_takeFirstTiers 30 = .ok (.getfield 15, 3) := by decide +kernel
theorem dX2_takeFirstTiers_33 : decode cX2_takeFirstTiers 33 = .ok (.iload_n 1, 1) := by decide +kernel
theorem dX2_takeFirstTiers_34 : decode cX2_takeFirstTiers 34 = .ok (.getstatic 41, 3) := by decide +kernel
theorem dX2_takeFirstTiers_37 : decode cX2_takeFirstTiers 37 = .ok (.iload_n 1, 1) := by decide +kernel
theorem dX2_takeFirstTiers_38 : decode cX2_takeFirstTiers 38 = .ok (.iaload, 1) := by decide +kernel
theorem dX2_takeFirstTiers_39 : decode cX2_takeFirstTiers 39 = .ok (.iastore, 1) := by decide +kernel
theorem dX2_takeFirstTiers_40 : decode cX2_takeFirstTiers 40 = .ok (.iinc 1 1, 3) := by decide +kernel
theorem dX2_takeFirstTiers_43 : decode cX2_takeFirstTiers 43 = .ok (.goto (-33), 3) := by decide +kernel
theorem dX2_takeFirstTiers_46 : decode cX2_takeFirstTiers 46 = .ok (.return_, 1) := by decide +kernel
theorem dX2_isFull_0 : decode cX2_isFull 0 = .ok (.aload_n 0, 1) := by decide +kernel
theorem dX2_isFull_1 : decode cX2_isFull 1 = .ok (.getfield 32, 3) := by decide +kernel
theorem dX2_isFull_4 : decode cX2_isFull 4 = .ok (.iconst 4, 1) := by decide +kernel
theorem dX2_isFull_5 : decode cX2_isFull 5 = .ok (.if_icmp .lt 7, 3) := by decide +kernel
theorem dX2_isFull_8 : decode cX2_isFull 8 = .ok (.iconst 1, 1) := by decide +kernel
theorem dX2_isFull_9 : decode cX2_isFull 9 = .ok (.goto 4, 3) := by decide +kernel
theorem dX2_isFull_12 : decode cX2_isFull 12 = .ok (.iconst 0, 1) := by decide +kernel
theorem dX2_isFull_13 : decode cX2_isFull 13 = .ok (.ireturn, 1) := by decide +kernel
theorem dX2_addTier_0 : decode cX2_addTier 0 = .ok (.aload_n 0, 1) := by decide +kernel
theorem dX2_addTier_1 : decode cX2_addTier 1 = .ok (.invokevirtual 44, 3) := by decide +kernel
theorem dX2_addTier_4 : decode cX2_addTier 4 = .ok (.ifCond .ne 33, 3) := by decide +kernel
theorem dX2_addTier_7 : decode cX2_addTier 7 = .ok (.aload_n 0, 1) := by decide +kernel
theorem dX2_addTier_8 : decode cX2_addTier 8 = .ok (.getfield 11, 3) := by decide +kernel
theorem dX2_addTier_11 : decode cX2_addTier 11 = .ok (.aload_n 0, 1) := by decide +kernel
theorem dX2_addTier_12 : decode cX2_addTier 12 = .ok (.getfield 32, 3) := by decide +kernel
theorem dX2_addTier_15 : decode cX2_addTier 15 = .ok (.iload_n 1, 1) := by decide +kernel
theorem dX2_addTier_16 : decode cX2_addTier 16 = .ok (.iastore, 1) := by decide +kernel
theorem dX2_addTier_17 : decode cX2_addTier 17 = .ok (.aload_n 0, 1) := by decide +kernel
theorem dX2_addTier_18 : decode cX2_addTier 18 = .ok (.getfield 15, 3) := by decide +kernel
theorem dX2_addTier_21 : decode cX2_addTier 21 = .ok (.aload_n 0, 1) := by decide +kernel
theorem dX2_addTier_22 : decode cX2_addTier 22 = .ok (.getfield 32, 3) := by decide +kernel
theorem dX2_addTier_25 : decode cX2_addTier 25 = .ok (.iload_n 2, 1) := by decide +kernel
theorem dX2_addTier_26 : decode cX2_addTier 26 = .ok (.iastore, 1) := by decide +kernel
theorem dX2_addTier_27 : decode cX2_addTier 27 = .ok (.aload_n 0, 1) := by decide +kernel
theorem dX2_addTier_28 : decode cX2_addTier 28 = .ok (.dup, 1) := by decide +kernel
theorem dX2_addTier_29 : decode cX2_addTier 29 = .ok (.getfield 32, 3) := by decide +kernel
theorem dX2_addTier_32 : decode cX2_addTier 32 = .ok (.iconst 1, 1) := by decide +kernel
theorem dX2_addTier_33 : decode cX2_addTier 33 = .ok (.iadd, 1) := by decide +kernel
theorem dX2_addTier_34 : decode cX2_addTier 34 = .ok (.putfield 32, 3) := by decide +kernel
theorem dX2_addTier_37 : decode cX2_addTier 37 = .ok (.return_, 1) := by decide +kernel
theorem dX2_canFollow_0 : decode cX2_canFollow 0 = .ok (.aload_n 0, 1) := by decide +kernel
theorem dX2_canFollow_1 : decode cX2_canFollow 1 = .ok (.getfield 32, 3) := by decide +kernel
theorem dX2_canFollow_4 : decode cX2_canFollow 4 = .ok (.ifCond .ne 5, 3) := by decide +kernel
theorem dX2_canFollow_7 : decode cX2_canFollow 7 = .ok (.iconst 1, 1) := by decide +kernel
theorem dX2_canFollow_8 : decode cX2_canFollow 8 = .ok (.ireturn, 1) := by decide +kernel
theorem dX2_canFollow_9 : decode cX2_canFollow 9 = .ok (.aload_n 0, 1) := by decide +kernel
theorem dX2_canFollow_10 : decode cX2_canFollow 10 = .ok (.getfield 11, 3) := by decide +kernel
theorem dX2_canFollow_13 : decode cX2_canFollow 13 = .ok (.aload_n 0, 1) := by decide +kernel
theorem dX2_canFollow_14 : decode cX2_canFollow 14 = .ok (.getfield 32, 3) := by decide +kernel
theorem dX2_canFollow_17 : decode cX2_canFollow 17 = .ok (.iconst 1, 1) := by decide +kernel
theorem dX2_canFollow_18 : decode cX2_canFollow 18 = .ok (.isub, 1) := by decide +kernel
theorem dX2_canFollow_19 : decode cX2_canFollow 19 = .ok (.iaload, 1) := by decide +kernel
theorem dX2_canFollow_20 : decode cX2_canFollow 20 = .ok (.istore_n 2, 1) := by decide +kernel
theorem dX2_canFollow_21 : decode cX2_canFollow 21 = .ok (.iload_n 1, 1) := by decide +kernel
theorem dX2_canFollow_22 : decode cX2_canFollow 22 = .ok (.iconst 2, 1) := by decide +kernel
theorem dX2_canFollow_23 : decode cX2_canFollow 23 = .ok (.iload_n 2, 1) := by decide +kernel
theorem dX2_canFollow_24 : decode cX2_canFollow 24 = .ok (.imul, 1) := by decide +kernel
theorem dX2_canFollow_25 : decode cX2_canFollow 25 = .ok (.if_icmp .lt 16, 3) := by decide +kernel
theorem dX2_canFollow_28 : decode cX2_canFollow 28 = .ok (.iload_n 1, 1) := by decide +kernel
theorem dX2_canFollow_29 : decode cX2_canFollow 29 = .ok (.iload_n 2, 1) := by decide +kernel
theorem dX2_canFollow_30 : decode cX2_canFollow 30 = .ok (.invokestatic 48, 3) := by decide +kernel
theorem dX2_canFollow_33 : decode cX2_canFollow 33 = .ok (.iload_n 1, 1) := by decide +kernel
theorem dX2_canFollow_34 : decode cX2_canFollow 34 = .ok (.if_icmp .ne 7, 3) := by decide +kernel
theorem dX2_canFollow_37 : decode cX2_canFollow 37 = .ok (.iconst 1, 1) := by decide +kernel
theorem dX2_canFollow_38 : decode cX2_canFollow 38 = .ok (.goto 4, 3) := by decide +kernel
theorem dX2_canFollow_41 : decode cX2_canFollow 41 = .ok (.iconst 0, 1) := by decide +kernel
theorem dX2_canFollow_42 : decode cX2_canFollow 42 = .ok (.ireturn, 1) := by decide +kernel
theorem dX2_findSeams_0 : decode cX2_findSeams 0 = .ok (.iload_n 1, 1) := by decide +kernel
theorem dX2_findSeams_1 : decode cX2_findSeams 1 = .ok (.aload_n 0, 1) := by decide +kernel
theorem dX2_findSeams_2 : decode cX2_findSeams 2 = .ok (.getfield 11, 3) := by decide +kernel
theorem dX2_findSeams_5 : decode cX2_findSeams 5 = .ok (.iconst 0, 1) := by decide +kernel
theorem dX2_findSeams_6 : decode cX2_findSeams 6 = .ok (.iaload, 1) := by decide +kernel
theorem dX2_findSeams_7 : decode cX2_findSeams 7 = .ok (.invokestatic 48, 3) := by decide +kernel
theorem dX2_findSeams_10 : decode cX2_findSeams 10 = .ok (.aload_n 0, 1) := by decide +kernel
theorem dX2_findSeams_11 : decode cX2_findSeams 11 = .ok (.getfield 11, 3) := by decide +kernel
theorem dX2_findSeams_14 : decode cX2_findSeams 14 = .ok (.iconst 0, 1) := by decide +kernel
theorem dX2_findSeams_15 : decode cX2_findSeams 15 = .ok (.iaload, 1) := by decide +kernel
theorem dX2_findSeams_16 : decode cX2_findSeams 16 = .ok (.iadd, 1) := by decide +kernel
theorem dX2_findSeams_17 : decode cX2_findSeams 17 = .ok (.istore_n 3, 1) := by decide +kernel
theorem dX2_findSeams_18 : decode cX2_findSeams 18 = .ok (.iconst 0, 1) := by decide +kernel
theorem dX2_findSeams_19 : decode cX2_findSeams 19 = .ok (.istore 4, 2) := by decide +kernel
theorem dX2_findSeams_21 : decode cX2_findSeams 21 = .ok (.iload 4, 2) := by decide +kernel
theorem dX2_findSeams_23 : decode cX2_findSeams 23 = .ok (.aload_n 0, 1) := by decide +kernel
theorem dX2_findSeams_24 : decode cX2_findSeams 24 = .ok (.getfield 32, 3) := by decide +kernel
theorem dX2_findSeams_27 : decode cX2_findSeams 27 = .ok (.if_icmp .ge 57, 3) := by decide +kernel
theorem dX2_findSeams_30 : decode cX2_findSeams 30 = .ok (.iload_n 3, 1) := by decide +kernel
theorem dX2_findSeams_31 : decode cX2_findSeams 31 = .ok (.aload_n 0, 1) := by decide +kernel
theorem dX2_findSeams_32 : decode cX2_findSeams 32 = .ok (.getfield 15, 3) := by decide +kernel
theorem dX2_findSeams_35 : decode cX2_findSeams 35 = .ok (.iload 4, 2) := by decide +kernel
theorem dX2_findSeams_37 : decode cX2_findSeams 37 = .ok (.iaload, 1) := by decide +kernel
theorem dX2_findSeams_38 : decode cX2_findSeams 38 = .ok (.aload_n 0, 1) := by decide +kernel
theorem dX2_findSeams_39 : decode cX2_findSeams 39 = .ok (.getfield 11, 3) := by decide +kernel
theorem dX2_findSeams_42 : decode cX2_findSeams 42 = .ok (.iload 4, 2) := by decide +kernel
theorem dX2_findSeams_44 : decode cX2_findSeams 44 = .ok (.iaload, 1) := by decide +kernel
theorem dX2_findSeams_45 : decode cX2_findSeams 45 = .ok (.imul, 1) := by decide +kernel
theorem dX2_findSeams_46 : decode cX2_findSeams 46 = .ok (.isub, 1) := by decide +kernel
theorem dX2_findSeams_47 : decode cX2_findSeams 47 = .ok (.istore_n 3, 1) := by decide +kernel
theorem dX2_findSeams_48 : decode cX2_findSeams 48 = .ok (.iload 4, 2) := by decide +kernel
theorem dX2_findSeams_50 : decode cX2_findSeams 50 = .ok (.iconst 1, 1) := by decide +kernel
theorem dX2_findSeams_51 : decode cX2_findSeams 51 = .ok (.iadd, 1) := by decide +kernel
theorem dX2_findSeams_52 : decode cX2_findSeams 52 = .ok (.aload_n 0, 1) := by decide +kernel
theorem dX2_findSeams_53 : decode cX2_findSeams 53 = .ok (.getfield 32, 3) := by decide +kernel
theorem dX2_findSeams_56 : decode cX2_findSeams 56 = .ok (.if_icmp .ge 17, 3) := by decide +kernel
theorem dX2_findSeams_59 : decode cX2_findSeams 59 = .ok (.iload_n 3, 1) := by decide +kernel
theorem dX2_findSeams_60 : decode cX2_findSeams 60 = .ok (.aload_n 0, 1) := by decide +kernel
theorem dX2_findSeams_61 : decode cX2_findSeams 61 = .ok (.getfield 11, 3) := by decide +kernel
theorem dX2_findSeams_64 : decode cX2_findSeams 64 = .ok (.iload 4, 2) := by decide +kernel
theorem dX2_findSeams_66 : decode cX2_findSeams 66 = .ok (.iconst 1, 1) := by decide +kernel
theorem dX2_findSeams_67 : decode cX2_findSeams 67 = .ok (.iadd, 1) := by decide +kernel
theorem dX2_findSeams_68 : decode cX2_findSeams 68 = .ok (.iaload, 1) := by decide +kernel
theorem dX2_findSeams_69 : decode cX2_findSeams 69 = .ok (.invokestatic 48, 3) := by decide +kernel
theorem dX2_findSeams_72 : decode cX2_findSeams 72 = .ok (.istore_n 3, 1) := by decide +kernel
theorem dX2_findSeams_73 : decode cX2_findSeams 73 = .ok (.aload_n 2, 1) := by decide +kernel
theorem dX2_findSeams_74 : decode cX2_findSeams 74 = .ok (.iload 4, 2) := by decide +kernel
theorem dX2_findSeams_76 : decode cX2_findSeams 76 = .ok (.iload_n 3, 1) := by decide +kernel
theorem dX2_findSeams_77 : decode cX2_findSeams 77 = .ok (.iastore, 1) := by decide +kernel
theorem dX2_findSeams_78 : decode cX2_findSeams 78 = .ok (.iinc 4 1, 3) := by decide +kernel
theorem dX2_findSeams_81 : decode cX2_findSeams 81 = .ok (.goto (-60), 3) := by decide +kernel
theorem dX2_findSeams_84 : decode cX2_findSeams 84 = .ok (.return_, 1) := by decide +kernel
theorem dX2_leastHeadPast_0 : decode cX2_leastHeadPast 0 = .ok (.iload_n 2, 1) := by decide +kernel
theorem dX2_leastHeadPast_1 : decode cX2_leastHeadPast 1 = .ok (.iconst 1, 1) := by decide +kernel
theorem dX2_leastHeadPast_2 : decode cX2_leastHeadPast 2 = .ok (.iadd, 1) := by decide +kernel
theorem dX2_leastHeadPast_3 : decode cX2_leastHeadPast 3 = .ok (.istore_n 3, 1) := by decide +kernel
theorem dX2_leastHeadPast_4 : decode cX2_leastHeadPast 4 = .ok (.iload_n 1, 1) := by decide +kernel
theorem dX2_leastHeadPast_5 : decode cX2_leastHeadPast 5 = .ok (.istore 4, 2) := by decide +kernel
theorem dX2_leastHeadPast_7 : decode cX2_leastHeadPast 7 = .ok (.iload 4, 2) := by decide +kernel
theorem dX2_leastHeadPast_9 : decode cX2_leastHeadPast 9 = .ok (.ifCond .lt 52, 3) := by decide +kernel
theorem dX2_leastHeadPast_12 : decode cX2_leastHeadPast 12 = .ok (.iload 4, 2) := by decide +kernel
theorem dX2_leastHeadPast_14 : decode cX2_leastHeadPast 14 = .ok (.iconst 1, 1) := by decide +kernel
theorem dX2_leastHeadPast_15 : decode cX2_leastHeadPast 15 = .ok (.iadd, 1) := by decide +kernel
theorem dX2_leastHeadPast_16 : decode cX2_leastHeadPast 16 = .ok (.aload_n 0, 1) := by decide +kernel
theorem dX2_leastHeadPast_17 : decode cX2_leastHeadPast 17 = .ok (.getfield 32, 3) := by decide +kernel
theorem dX2_leastHeadPast_20 : decode cX2_leastHeadPast 20 = .ok (.if_icmp .ge 17, 3) := by decide +kernel
theorem dX2_leastHeadPast_23 : decode cX2_leastHeadPast 23 = .ok (.iload_n 3, 1) := by decide +kernel
theorem dX2_leastHeadPast_24 : decode cX2_leastHeadPast 24 = .ok (.aload_n 0, 1) := by decide +kernel
theorem dX2_leastHeadPast_25 : decode cX2_leastHeadPast 25 = .ok (.getfield 11, 3) := by decide +kernel
theorem dX2_leastHeadPast_28 : decode cX2_leastHeadPast 28 = .ok (.iload 4, 2) := by decide +kernel
theorem dX2_leastHeadPast_30 : decode cX2_leastHeadPast 30 = .ok (.iconst 1, 1) := by decide +kernel
theorem dX2_leastHeadPast_31 : decode cX2_leastHeadPast 31 = .ok (.iadd, 1) := by decide +kernel
theorem dX2_leastHeadPast_32 : decode cX2_leastHeadPast 32 = .ok (.iaload, 1) := by decide +kernel
theorem dX2_leastHeadPast_33 : decode cX2_leastHeadPast 33 = .ok (.invokestatic 52, 3) := by decide +kernel
theorem dX2_leastHeadPast_36 : decode cX2_leastHeadPast 36 = .ok (.istore_n 3, 1) := by decide +kernel
theorem dX2_leastHeadPast_37 : decode cX2_leastHeadPast 37 = .ok (.iload_n 3, 1) := by decide +kernel
theorem dX2_leastHeadPast_38 : decode cX2_leastHeadPast 38 = .ok (.aload_n 0, 1) := by decide +kernel
theorem dX2_leastHeadPast_39 : decode cX2_leastHeadPast 39 = .ok (.getfield 15, 3) := by decide +kernel
theorem dX2_leastHeadPast_42 : decode cX2_leastHeadPast 42 = .ok (.iload 4, 2) := by decide +kernel
theorem dX2_leastHeadPast_44 : decode cX2_leastHeadPast 44 = .ok (.iaload, 1) := by decide +kernel
theorem dX2_leastHeadPast_45 : decode cX2_leastHeadPast 45 = .ok (.aload_n 0, 1) := by decide +kernel
theorem dX2_leastHeadPast_46 : decode cX2_leastHeadPast 46 = .ok (.getfield 11, 3) := by decide +kernel
theorem dX2_leastHeadPast_49 : decode cX2_leastHeadPast 49 = .ok (.iload 4, 2) := by decide +kernel
theorem dX2_leastHeadPast_51 : decode cX2_leastHeadPast 51 = .ok (.iaload, 1) := by decide +kernel
theorem dX2_leastHeadPast_52 : decode cX2_leastHeadPast 52 = .ok (.imul, 1) := by decide +kernel
theorem dX2_leastHeadPast_53 : decode cX2_leastHeadPast 53 = .ok (.iadd, 1) := by decide +kernel
theorem dX2_leastHeadPast_54 : decode cX2_leastHeadPast 54 = .ok (.istore_n 3, 1) := by decide +kernel
theorem dX2_leastHeadPast_55 : decode cX2_leastHeadPast 55 = .ok (.iinc 4 (-1), 3) := by decide +kernel
theorem dX2_leastHeadPast_58 : decode cX2_leastHeadPast 58 = .ok (.goto (-51), 3) := by decide +kernel
theorem dX2_leastHeadPast_61 : decode cX2_leastHeadPast 61 = .ok (.iload_n 3, 1) := by decide +kernel
theorem dX2_leastHeadPast_62 : decode cX2_leastHeadPast 62 = .ok (.aload_n 0, 1) := by decide +kernel
theorem dX2_leastHeadPast_63 : decode cX2_leastHeadPast 63 = .ok (.getfield 11, 3) := by decide +kernel
theorem dX2_leastHeadPast_66 : decode cX2_leastHeadPast 66 = .ok (.iconst 0, 1) := by decide +kernel
theorem dX2_leastHeadPast_67 : decode cX2_leastHeadPast 67 = .ok (.iaload, 1) := by decide +kernel
theorem dX2_leastHeadPast_68 : decode cX2_leastHeadPast 68 = .ok (.isub, 1) := by decide +kernel
theorem dX2_leastHeadPast_69 : decode cX2_leastHeadPast 69 = .ok (.aload_n 0, 1) := by decide +kernel
theorem dX2_leastHeadPast_70 : decode cX2_leastHeadPast 70 = .ok (.getfield 11, 3) := by decide +kernel
theorem dX2_leastHeadPast_73 : decode cX2_leastHeadPast 73 = .ok (.iconst 0, 1) := by decide +kernel
theorem dX2_leastHeadPast_74 : decode cX2_leastHeadPast 74 = .ok (.iaload, 1) := by decide +kernel
theorem dX2_leastHeadPast_75 : decode cX2_leastHeadPast 75 = .ok (.invokestatic 52, 3) := by decide +kernel
theorem dX2_leastHeadPast_78 : decode cX2_leastHeadPast 78 = .ok (.ireturn, 1) := by decide +kernel
theorem dX2_tierUnder_0 : decode cX2_tierUnder 0 = .ok (.iconst 0, 1) := by decide +kernel
theorem dX2_tierUnder_1 : decode cX2_tierUnder 1 = .ok (.istore_n 3, 1) := by decide +kernel
theorem dX2_tierUnder_2 : decode cX2_tierUnder 2 = .ok (.iload_n 3, 1) := by decide +kernel
theorem dX2_tierUnder_3 : decode cX2_tierUnder 3 = .ok (.aload_n 0, 1) := by decide +kernel
theorem dX2_tierUnder_4 : decode cX2_tierUnder 4 = .ok (.getfield 32, 3) := by decide +kernel
theorem dX2_tierUnder_7 : decode cX2_tierUnder 7 = .ok (.if_icmp .ge 18, 3) := by decide +kernel
theorem dX2_tierUnder_10 : decode cX2_tierUnder 10 = .ok (.iload_n 2, 1) := by decide +kernel
theorem dX2_tierUnder_11 : decode cX2_tierUnder 11 = .ok (.aload_n 1, 1) := by decide +kernel
theorem dX2_tierUnder_12 : decode cX2_tierUnder 12 = .ok (.iload_n 3, 1) := by decide +kernel
theorem dX2_tierUnder_13 : decode cX2_tierUnder 13 = .ok (.iaload, 1) := by decide +kernel
theorem dX2_tierUnder_14 : decode cX2_tierUnder 14 = .ok (.if_icmp .lt 5, 3) := by decide +kernel
theorem dX2_tierUnder_17 : decode cX2_tierUnder 17 = .ok (.iload_n 3, 1) := by decide +kernel
theorem dX2_tierUnder_18 : decode cX2_tierUnder 18 = .ok (.ireturn, 1) := by decide +kernel
theorem dX2_tierUnder_19 : decode cX2_tierUnder 19 = .ok (.iinc 3 1, 3) := by decide +kernel
theorem dX2_tierUnder_22 : decode cX2_tierUnder 22 = .ok (.goto (-20), 3) := by decide +kernel
theorem dX2_tierUnder_25 : decode cX2_tierUnder 25 = .ok (.iconst (-1), 1) := by decide +kernel
theorem dX2_tierUnder_26 : decode cX2_tierUnder 26 = .ok (.ireturn, 1) := by decide +kernel
theorem dX2_isBarWidth_0 : decode cX2_isBarWidth 0 = .ok (.iload_n 1, 1) := by decide +kernel
theorem dX2_isBarWidth_1 : decode cX2_isBarWidth 1 = .ok (.iconst 1, 1) := by decide +kernel
theorem dX2_isBarWidth_2 : decode cX2_isBarWidth 2 = .ok (.if_icmp .lt 32, 3) := by decide +kernel
theorem dX2_isBarWidth_5 : decode cX2_isBarWidth 5 = .ok (.iload_n 1, 1) := by decide +kernel
theorem dX2_isBarWidth_6 : decode cX2_isBarWidth 6 = .ok (.ldc 55, 2) := by decide +kernel
theorem dX2_isBarWidth_8 : decode cX2_isBarWidth 8 = .ok (.if_icmp .gt 26, 3) := by decide +kernel
theorem dX2_isBarWidth_11 : decode cX2_isBarWidth 11 = .ok (.iload_n 1, 1) := by decide +kernel
theorem dX2_isBarWidth_12 : decode cX2_isBarWidth 12 = .ok (.aload_n 0, 1) := by decide +kernel
theorem dX2_isBarWidth_13 : decode cX2_isBarWidth 13 = .ok (.getfield 11, 3) := by decide +kernel
theorem dX2_isBarWidth_16 : decode cX2_isBarWidth 16 = .ok (.aload_n 0, 1) := by decide +kernel
theorem dX2_isBarWidth_17 : decode cX2_isBarWidth 17 = .ok (.getfield 32, 3) := by decide +kernel
theorem dX2_isBarWidth_20 : decode cX2_isBarWidth 20 = .ok (.iconst 1, 1) := by decide +kernel
theorem dX2_isBarWidth_21 : decode cX2_isBarWidth 21 = .ok (.isub, 1) := by decide +kernel
theorem dX2_isBarWidth_22 : decode cX2_isBarWidth 22 = .ok (.iaload, 1) := by decide +kernel
theorem dX2_isBarWidth_23 : decode cX2_isBarWidth 23 = .ok (.invokestatic 48, 3) := by decide +kernel
theorem dX2_isBarWidth_26 : decode cX2_isBarWidth 26 = .ok (.iload_n 1, 1) := by decide +kernel
theorem dX2_isBarWidth_27 : decode cX2_isBarWidth 27 = .ok (.if_icmp .ne 7, 3) := by decide +kernel
theorem dX2_isBarWidth_30 : decode cX2_isBarWidth 30 = .ok (.iconst 1, 1) := by decide +kernel
theorem dX2_isBarWidth_31 : decode cX2_isBarWidth 31 = .ok (.goto 4, 3) := by decide +kernel
theorem dX2_isBarWidth_34 : decode cX2_isBarWidth 34 = .ok (.iconst 0, 1) := by decide +kernel
theorem dX2_isBarWidth_35 : decode cX2_isBarWidth 35 = .ok (.ireturn, 1) := by decide +kernel
theorem dX3_init_0 : decode cX3_init 0 = .ok (.aload_n 0, 1) := by decide +kernel
theorem dX3_init_1 : decode cX3_init 1 = .ok (.invokespecial 3, 3) := by decide +kernel
theorem dX3_init_4 : decode cX3_init 4 = .ok (.aload_n 0, 1) := by decide +kernel
theorem dX3_init_5 : decode cX3_init 5 = .ok (.aload_n 1, 1) := by decide +kernel
theorem dX3_init_6 : decode cX3_init 6 = .ok (.putfield 9, 3) := by decide +kernel
theorem dX3_init_9 : decode cX3_init 9 = .ok (.return_, 1) := by decide +kernel
theorem dX3_read_0 : decode cX3_read 0 = .ok (.aload_n 2, 1) := by decide +kernel
theorem dX3_read_1 : decode cX3_read 1 = .ok (.invokevirtual 15, 3) := by decide +kernel
theorem dX3_read_4 : decode cX3_read 4 = .ok (.aload_n 0, 1) := by decide +kernel
theorem dX3_read_5 : decode cX3_read 5 = .ok (.getfield 9, 3) := by decide +kernel
theorem dX3_read_8 : decode cX3_read 8 = .ok (.iload_n 1, 1) := by decide +kernel
theorem dX3_read_9 : decode cX3_read 9 = .ok (.invokevirtual 20, 3) := by decide +kernel
theorem dX3_read_12 : decode cX3_read 12 = .ok (.iconst 0, 1) := by decide +kernel
theorem dX3_read_13 : decode cX3_read 13 = .ok (.istore_n 3, 1) := by decide +kernel
theorem dX3_read_14 : decode cX3_read 14 = .ok (.iload_n 3, 1) := by decide +kernel
theorem dX3_read_15 : decode cX3_read 15 = .ok (.sipush 600, 3) := by decide +kernel
theorem dX3_read_18 : decode cX3_read 18 = .ok (.if_icmp .ge 41, 3) := by decide +kernel
theorem dX3_read_21 : decode cX3_read 21 = .ok (.aload_n 0, 1) := by decide +kernel
theorem dX3_read_22 : decode cX3_read 22 = .ok (.getfield 9, 3) := by decide +kernel
theorem dX3_read_25 : decode cX3_read 25 = .ok (.getfield 26, 3) := by decide +kernel
theorem dX3_read_28 : decode cX3_read 28 = .ok (.ifCond .eq 31, 3) := by decide +kernel
theorem dX3_read_31 : decode cX3_read 31 = .ok (.aload_n 0, 1) := by decide +kernel
theorem dX3_read_32 : decode cX3_read 32 = .ok (.aload_n 2, 1) := by decide +kernel
theorem dX3_read_33 : decode cX3_read 33 = .ok (.invokevirtual 30, 3) := by decide +kernel
theorem dX3_read_36 : decode cX3_read 36 = .ok (.ifCond .eq 15, 3) := by decide +kernel
theorem dX3_read_39 : decode cX3_read 39 = .ok (.aload_n 0, 1) := by decide +kernel
theorem dX3_read_40 : decode cX3_read 40 = .ok (.getfield 9, 3) := by decide +kernel
theorem dX3_read_43 : decode cX3_read 43 = .ok (.bipush 59, 2) := by decide +kernel
theorem dX3_read_45 : decode cX3_read 45 = .ok (.invokevirtual 34, 3) := by decide +kernel
theorem dX3_read_48 : decode cX3_read 48 = .ok (.ifCond .ne 5, 3) := by decide +kernel
theorem dX3_read_51 : decode cX3_read 51 = .ok (.iconst 0, 1) := by decide +kernel
theorem dX3_read_52 : decode cX3_read 52 = .ok (.ireturn, 1) := by decide +kernel
theorem dX3_read_53 : decode cX3_read 53 = .ok (.iinc 3 1, 3) := by decide +kernel
theorem dX3_read_56 : decode cX3_read 56 = .ok (.goto (-42), 3) := by decide +kernel
theorem dX3_read_59 : decode cX3_read 59 = .ok (.aload_n 2, 1) := by decide +kernel
theorem dX3_read_60 : decode cX3_read 60 = .ok (.getfield 38, 3) := by decide +kernel
theorem dX3_read_63 : decode cX3_read 63 = .ok (.ifCond .ne 7, 3) := by decide +kernel
theorem dX3_read_66 : decode cX3_read 66 = .ok (.aload_n 2, 1) := by decide +kernel
theorem dX3_read_67 : decode cX3_read 67 = .ok (.invokevirtual 41, 3) := by decide +kernel
theorem dX3_read_70 : decode cX3_read 70 = .ok (.iconst 1, 1) := by decide +kernel
theorem dX3_read_71 : decode cX3_read 71 = .ok (.ireturn, 1) := by decide +kernel
theorem dX3_readClause_0 : decode cX3_readClause 0 = .ok (.aload_n 0, 1) := by decide +kernel
theorem dX3_readClause_1 : decode cX3_readClause 1 = .ok (.getfield 9, 3) := by decide +kernel
theorem dX3_readClause_4 : decode cX3_readClause 4 = .ok (.ldc 44, 2) := by decide +kernel
theorem dX3_readClause_6 : decode cX3_readClause 6 = .ok (.invokevirtual 46, 3) := by decide +kernel
theorem dX3_readClause_9 : decode cX3_readClause 9 = .ok (.ifCond .eq 9, 3) := by decide +kernel
theorem dX3_readClause_12 : decode cX3_readClause 12 = .ok (.aload_n 0, 1) := by decide +kernel
theorem dX3_readClause_13 : decode cX3_readClause 13 = .ok (.aload_n 1, 1) := by decide +kernel
theorem dX3_readClause_14 : decode cX3_readClause 14 = .ok (.invokevirtual 50, 3) := by decide +kernel
theorem dX3_readClause_17 : decode cX3_readClause 17 = .ok (.ireturn, 1) := by decide +kernel
theorem dX3_readClause_18 : decode cX3_readClause 18 = .ok (.aload_n 0, 1) := by decide +kernel
theorem dX3_readClause_19 : decode cX3_readClause 19 = .ok (.getfield 9, 3) := by decide +kernel
theorem dX3_readClause_22 : decode cX3_readClause 22 = .ok (.ldc 53, 2) := by decide +kernel
theorem dX3_readClause_24 : decode cX3_readClause 24 = .ok (.invokevirtual 46, 3) := by decide +kernel
theorem dX3_readClause_27 : decode cX3_readClause 27 = .ok (.ifCond .eq 34, 3) := by decide +kernel
theorem dX3_readClause_30 : decode cX3_readClause 30 = .ok (.aload_n 0, 1) := by decide +kernel
theorem dX3_readClause_31 : decode cX3_readClause 31 = .ok (.getfield 9, 3) := by decide +kernel
theorem dX3_readClause_34 : decode cX3_readClause 34 = .ok (.invokevirtual 55, 3) := by decide +kernel
theorem dX3_readClause_37 : decode cX3_readClause 37 = .ok (.aload_n 0, 1) := by decide +kernel
theorem dX3_readClause_38 : decode cX3_readClause 38 = .ok (.getfield 9, 3) := by decide +kernel
theorem dX3_readClause_41 : decode cX3_readClause 41 = .ok (.iconst 1, 1) := by decide +kernel
theorem dX3_readClause_42 : decode cX3_readClause 42 = .ok (.bipush 6, 2) := by decide +kernel
theorem dX3_readClause_44 : decode cX3_readClause 44 = .ok (.invokevirtual 58, 3) := by decide +kernel
theorem dX3_readClause_47 : decode cX3_readClause 47 = .ok (.istore_n 2, 1) := by decide +kernel
theorem dX3_readClause_48 : decode cX3_readClause 48 = .ok (.aload_n 1, 1) := by decide +kernel
theorem dX3_readClause_49 : decode cX3_readClause 49 = .ok (.aload_n 0, 1) := by decide +kernel
theorem dX3_readClause_50 : decode cX3_readClause 50 = .ok (.getfield 9, 3) := by decide +kernel
theorem dX3_readClause_53 : decode cX3_readClause 53 = .ok (.getfield 62, 3) := by decide +kernel
theorem dX3_readClause_56 : decode cX3_readClause 56 = .ok (.putfield 65, 3) := by decide +kernel
theorem dX3_readClause_59 : decode cX3_readClause 59 = .ok (.iload_n 2, 1) := by decide +kernel
theorem dX3_readClause_60 : decode cX3_readClause 60 = .ok (.ireturn, 1) := by decide +kernel
theorem dX3_readClause_61 : decode cX3_readClause 61 = .ok (.aload_n 0, 1) := by decide +kernel
theorem dX3_readClause_62 : decode cX3_readClause 62 = .ok (.getfield 9, 3) := by decide +kernel
theorem dX3_readClause_65 : decode cX3_readClause 65 = .ok (.ldc 67, 2) := by decide +kernel
theorem dX3_readClause_67 : decode cX3_readClause 67 = .ok (.invokevirtual 46, 3) := by decide +kernel
theorem dX3_readClause_70 : decode cX3_readClause 70 = .ok (.ifCond .eq 27, 3) := by decide +kernel
theorem dX3_readClause_73 : decode cX3_readClause 73 = .ok (.aload_n 0, 1) := by decide +kernel
theorem dX3_readClause_74 : decode cX3_readClause 74 = .ok (.getfield 9, 3) := by decide +kernel
theorem dX3_readClause_77 : decode cX3_readClause 77 = .ok (.invokevirtual 55, 3) := by decide +kernel
theorem dX3_readClause_80 : decode cX3_readClause 80 = .ok (.aload_n 1, 1) := by decide +kernel
theorem dX3_readClause_81 : decode cX3_readClause 81 = .ok (.getfield 69, 3) := by decide +kernel
theorem dX3_readClause_84 : decode cX3_readClause 84 = .ok (.invokevirtual 72, 3) := by decide +kernel
theorem dX3_readClause_87 : decode cX3_readClause 87 = .ok (.aload_n 0, 1) := by decide +kernel
theorem dX3_readClause_88 : decode cX3_readClause 88 = .ok (.aload_n 1, 1) := by decide +kernel
theorem dX3_readClause_89 : decode cX3_readClause 89 = .ok (.getfield 69, 3) := by decide +kernel
theorem dX3_readClause_92 : decode cX3_readClause 92 = .ok (.iconst 0, 1) := by decide +kernel
theorem dX3_readClause_93 : decode cX3_readClause 93 = .ok (.invokevirtual 75, 3) := by decide +kernel
theorem dX3_readClause_96 : decode cX3_readClause 96 = .ok (.ireturn, 1) := by decide +kernel
theorem dX3_readClause_97 : decode cX3_readClause 97 = .ok (.aload_n 0, 1) := by decide +kernel
theorem dX3_readClause_98 : decode cX3_readClause 98 = .ok (.getfield 9, 3) := by decide +kernel
theorem dX3_readClause_101 : decode cX3_readClause 101 = .ok (.iconst 1, 1) := by decide +kernel
theorem dX3_readClause_102 : decode cX3_readClause 102 = .ok (.invokevirtual 79, 3) := by decide +kernel
theorem dX3_readClause_105 : decode cX3_readClause 105 = .ok (.ireturn, 1) := by decide +kernel
theorem dX3_readTier_0 : decode cX3_readTier 0 = .ok (.aload_n 1, 1) := by decide +kernel
theorem dX3_readTier_1 : decode cX3_readTier 1 = .ok (.invokevirtual 83, 3) := by decide +kernel
theorem dX3_readTier_4 : decode cX3_readTier 4 = .ok (.ifCond .eq 12, 3) := by decide +kernel
theorem dX3_readTier_7 : decode cX3_readTier 7 = .ok (.aload_n 0, 1) := by decide +kernel
theorem dX3_readTier_8 : decode cX3_readTier 8 = .ok (.getfield 9, 3) := by decide +kernel
theorem dX3_readTier_11 : decode cX3_readTier 11 = .ok (.iconst 2, 1) := by decide +kernel
theorem dX3_readTier_12 : decode cX3_readTier 12 = .ok (.invokevirtual 79, 3) := by decide +kernel
theorem dX3_readTier_15 : decode cX3_readTier 15 = .ok (.ireturn, 1) := by decide +kernel
theorem dX3_readTier_16 : decode cX3_readTier 16 = .ok (.aload_n 0, 1) := by decide +kernel
theorem dX3_readTier_17 : decode cX3_readTier 17 = .ok (.getfield 9, 3) := by decide +kernel
theorem dX3_readTier_20 : decode cX3_readTier 20 = .ok (.invokevirtual 55, 3) := by decide +kernel
theorem dX3_readTier_23 : decode cX3_readTier 23 = .ok (.aload_n 0, 1) := by decide +kernel
theorem dX3_readTier_24 : decode cX3_readTier 24 = .ok (.getfield 9, 3) := by decide +kernel
theorem dX3_readTier_27 : decode cX3_readTier 27 = .ok (.iconst 1, 1) := by decide +kernel
theorem dX3_readTier_28 : decode cX3_readTier 28 = .ok (.ldc 87, 2) := by decide +kernel
theorem dX3_readTier_30 : decode cX3_readTier 30 = .ok (.invokevirtual 88, 3) := by decide +kernel
theorem dX3_readTier_33 : decode cX3_readTier 33 = .ok (.ifCond .ne 5, 3) := by decide +kernel
theorem dX3_readTier_36 : decode cX3_readTier 36 = .ok (.iconst 0, 1) := by decide +kernel
theorem dX3_readTier_37 : decode cX3_readTier 37 = .ok (.ireturn, 1) := by decide +kernel
theorem dX3_readTier_38 : decode cX3_readTier 38 = .ok (.aload_n 0, 1) := by decide +kernel
theorem dX3_readTier_39 : decode cX3_readTier 39 = .ok (.getfield 9, 3) := by decide +kernel
theorem dX3_readTier_42 : decode cX3_readTier 42 = .ok (.getfield 91, 3) := by decide +kernel
theorem dX3_readTier_45 : decode cX3_readTier 45 = .ok (.istore_n 2, 1) := by decide +kernel
theorem dX3_readTier_46 : decode cX3_readTier 46 = .ok (.aload_n 1, 1) := by decide +kernel
theorem dX3_readTier_47 : decode cX3_readTier 47 = .ok (.iload_n 2, 1) := by decide +kernel
theorem dX3_readTier_48 : decode cX3_readTier 48 = .ok (.invokevirtual 94, 3) := by decide +kernel
theorem dX3_readTier_51 : decode cX3_readTier 51 = .ok (.ifCond .ne 12, 3) := by decide +kernel
theorem dX3_readTier_54 : decode cX3_readTier 54 = .ok (.aload_n 0, 1) := by decide +kernel
theorem dX3_readTier_55 : decode cX3_readTier 55 = .ok (.getfield 9, 3) := by decide +kernel
theorem dX3_readTier_58 : decode cX3_readTier 58 = .ok (.iconst 3, 1) := by decide +kernel
theorem dX3_readTier_59 : decode cX3_readTier 59 = .ok (.invokevirtual 79, 3) := by decide +kernel
theorem dX3_readTier_62 : decode cX3_readTier 62 = .ok (.ireturn, 1) := by decide +kernel
theorem dX3_readTier_63 : decode cX3_readTier 63 = .ok (.aload_n 0, 1) := by decide +kernel
theorem dX3_readTier_64 : decode cX3_readTier 64 = .ok (.getfield 9, 3) := by decide +kernel
theorem dX3_readTier_67 : decode cX3_readTier 67 = .ok (.invokevirtual 55, 3) := by decide +kernel
theorem dX3_readTier_70 : decode cX3_readTier 70 = .ok (.aload_n 0, 1) := by decide +kernel
theorem dX3_readTier_71 : decode cX3_readTier 71 = .ok (.getfield 9, 3) := by decide +kernel
theorem dX3_readTier_74 : decode cX3_readTier 74 = .ok (.iconst 1, 1) := by decide +kernel
theorem dX3_readTier_75 : decode cX3_readTier 75 = .ok (.bipush 20, 2) := by decide +kernel
theorem dX3_readTier_77 : decode cX3_readTier 77 = .ok (.invokevirtual 58, 3) := by decide +kernel
theorem dX3_readTier_80 : decode cX3_readTier 80 = .ok (.ifCond .ne 5, 3) := by decide +kernel
theorem dX3_readTier_83 : decode cX3_readTier 83 = .ok (.iconst 0, 1) := by decide +kernel
theorem dX3_readTier_84 : decode cX3_readTier 84 = .ok (.ireturn, 1) := by decide +kernel
theorem dX3_readTier_85 : decode cX3_readTier 85 = .ok (.aload_n 1, 1) := by decide +kernel
theorem dX3_readTier_86 : decode cX3_readTier 86 = .ok (.iload_n 2, 1) := by decide +kernel
theorem dX3_readTier_87 : decode cX3_readTier 87 = .ok (.aload_n 0, 1) := by decide +kernel
theorem dX3_readTier_88 : decode cX3_readTier 88 = .ok (.getfield 9, 3) := by decide +kernel
theorem dX3_readTier_91 : decode cX3_readTier 91 = .ok (.getfield 62, 3) := by decide +kernel
theorem dX3_readTier_94 : decode cX3_readTier 94 = .ok (.invokevirtual 97, 3) := by decide +kernel
theorem dX3_readTier_97 : decode cX3_readTier 97 = .ok (.iconst 1, 1) := by decide +kernel
theorem dX3_readTier_98 : decode cX3_readTier 98 = .ok (.ireturn, 1) := by decide +kernel
theorem dX3_readTest_0 : decode cX3_readTest 0 = .ok (.iconst 0, 1) := by decide +kernel
theorem dX3_readTest_1 : decode cX3_readTest 1 = .ok (.istore_n 3, 1) := by decide +kernel
theorem dX3_readTest_2 : decode cX3_readTest 2 = .ok (.iload_n 3, 1) := by decide +kernel
theorem dX3_readTest_3 : decode cX3_readTest 3 = .ok (.sipush 600, 3) := by decide +kernel
theorem dX3_readTest_6 : decode cX3_readTest 6 = .ok (.if_icmp .ge 104, 3) := by decide +kernel
theorem dX3_readTest_9 : decode cX3_readTest 9 = .ok (.aload_n 0, 1) := by decide +kernel
theorem dX3_readTest_10 : decode cX3_readTest 10 = .ok (.aload_n 1, 1) := by decide +kernel
theorem dX3_readTest_11 : decode cX3_readTest 11 = .ok (.iload_n 2, 1) := by decide +kernel
theorem dX3_readTest_12 : decode cX3_readTest 12 = .ok (.invokevirtual 101, 3) := by decide +kernel
theorem dX3_readTest_15 : decode cX3_readTest 15 = .ok (.ifCond .ne 5, 3) := by decide +kernel
theorem dX3_readTest_18 : decode cX3_readTest 18 = .ok (.iconst 0, 1) := by decide +kernel
theorem dX3_readTest_19 : decode cX3_readTest 19 = .ok (.ireturn, 1) := by decide +kernel
theorem dX3_readTest_20 : decode cX3_readTest 20 = .ok (.iconst 0, 1) := by decide +kernel
theorem dX3_readTest_21 : decode cX3_readTest 21 = .ok (.istore 4, 2) := by decide +kernel
theorem dX3_readTest_23 : decode cX3_readTest 23 = .ok (.iload 4, 2) := by decide +kernel
theorem dX3_readTest_25 : decode cX3_readTest 25 = .ok (.sipush 600, 3) := by decide +kernel
theorem dX3_readTest_28 : decode cX3_readTest 28 = .ok (.if_icmp .ge 45, 3) := by decide +kernel
theorem dX3_readTest_31 : decode cX3_readTest 31 = .ok (.aload_n 0, 1) := by decide +kernel
theorem dX3_readTest_32 : decode cX3_readTest 32 = .ok (.getfield 9, 3) := by decide +kernel
theorem dX3_readTest_35 : decode cX3_readTest 35 = .ok (.ldc 104, 2) := by decide +kernel
theorem dX3_readTest_37 : decode cX3_readTest 37 = .ok (.invokevirtual 46, 3) := by decide +kernel
theorem dX3_readTest_40 : decode cX3_readTest 40 = .ok (.ifCond .eq 33, 3) := by decide +kernel
theorem dX3_readTest_43 : decode cX3_readTest 43 = .ok (.aload_n 0, 1) := by decide +kernel
theorem dX3_readTest_44 : decode cX3_readTest 44 = .ok (.getfield 9, 3) := by decide +kernel
theorem dX3_readTest_47 : decode cX3_readTest 47 = .ok (.invokevirtual 55, 3) := by decide +kernel
theorem dX3_readTest_50 : decode cX3_readTest 50 = .ok (.aload_n 0, 1) := by decide +kernel
theorem dX3_readTest_51 : decode cX3_readTest 51 = .ok (.aload_n 1, 1) := by decide +kernel
theorem dX3_readTest_52 : decode cX3_readTest 52 = .ok (.iload_n 2, 1) := by decide +kernel
theorem dX3_readTest_53 : decode cX3_readTest 53 = .ok (.invokevirtual 101, 3) := by decide +kernel
theorem dX3_readTest_56 : decode cX3_readTest 56 = .ok (.ifCond .ne 5, 3) := by decide +kernel
theorem dX3_readTest_59 : decode cX3_readTest 59 = .ok (.iconst 0, 1) := by decide +kernel
theorem dX3_readTest_60 : decode cX3_readTest 60 = .ok (.ireturn, 1) := by decide +kernel
theorem dX3_readTest_61 : decode cX3_readTest 61 = .ok (.aload_n 1, 1) := by decide +kernel
theorem dX3_readTest_62 : decode cX3_readTest 62 = .ok (.bipush 101, 2) := by decide +kernel
theorem dX3_readTest_64 : decode cX3_readTest 64 = .ok (.invokevirtual 106, 3) := by decide +kernel
theorem dX3_readTest_67 : decode cX3_readTest 67 = .ok (.iinc 4 1, 3) := by decide +kernel
theorem dX3_readTest_70 : decode cX3_readTest 70 = .ok (.goto (-47), 3) := by decide +kernel
theorem dX3_readTest_73 : decode cX3_readTest 73 = .ok (.iload_n 3, 1) := by decide +kernel
theorem dX3_readTest_74 : decode cX3_readTest 74 = .ok (.ifCond .le 9, 3) := by decide +kernel
theorem dX3_readTest_77 : decode cX3_readTest 77 = .ok (.aload_n 1, 1) := by decide +kernel
theorem dX3_readTest_78 : decode cX3_readTest 78 = .ok (.bipush 102, 2) := by decide +kernel
theorem dX3_readTest_80 : decode cX3_readTest 80 = .ok (.invokevirtual 106, 3) := by decide +kernel
theorem dX3_readTest_83 : decode cX3_readTest 83 = .ok (.aload_n 0, 1) := by decide +kernel
theorem dX3_readTest_84 : decode cX3_readTest 84 = .ok (.getfield 9, 3) := by decide +kernel
theorem dX3_readTest_87 : decode cX3_readTest 87 = .ok (.ldc 109, 2) := by decide +kernel
theorem dX3_readTest_89 : decode cX3_readTest 89 = .ok (.invokevirtual 46, 3) := by decide +kernel
theorem dX3_readTest_92 : decode cX3_readTest 92 = .ok (.ifCond .ne 5, 3) := by decide +kernel
theorem dX3_readTest_95 : decode cX3_readTest 95 = .ok (.iconst 1, 1) := by decide +kernel
theorem dX3_readTest_96 : decode cX3_readTest 96 = .ok (.ireturn, 1) := by decide +kernel
theorem dX3_readTest_97 : decode cX3_readTest 97 = .ok (.aload_n 0, 1) := by decide +kernel
theorem dX3_readTest_98 : decode cX3_readTest 98 = .ok (.getfield 9, 3) := by decide +kernel
theorem dX3_readTest_101 : decode cX3_readTest 101 = .ok (.invokevirtual 55, 3) := by decide +kernel
theorem dX3_readTest_104 : decode cX3_readTest 104 = .ok (.iinc 3 1, 3) := by decide +kernel
theorem dX3_readTest_107 : decode cX3_readTest 107 = .ok (.goto (-105), 3) := by decide +kernel
theorem dX3_readTest_110 : decode cX3_readTest 110 = .ok (.iconst 0, 1) := by decide +kernel
theorem dX3_readTest_111 : decode cX3_readTest 111 = .ok (.ireturn, 1) := by decide +kernel
theorem dX3_readUnit_0 : decode cX3_readUnit 0 = .ok (.aload_n 0, 1) := by decide +kernel
theorem dX3_readUnit_1 : decode cX3_readUnit 1 = .ok (.getfield 9, 3) := by decide +kernel
theorem dX3_readUnit_4 : decode cX3_readUnit 4 = .ok (.ldc 111, 2) := by decide +kernel
theorem dX3_readUnit_6 : decode cX3_readUnit 6 = .ok (.invokevirtual 46, 3) := by decide +kernel
theorem dX3_readUnit_9 : decode cX3_readUnit 9 = .ok (.istore_n 3, 1) := by decide +kernel
theorem dX3_readUnit_10 : decode cX3_readUnit 10 = .ok (.iload_n 3, 1) := by decide +kernel
theorem dX3_readUnit_11 : decode cX3_readUnit 11 = .ok (.ifCond .ne 15, 3) := by decide +kernel
theorem dX3_readUnit_14 : decode cX3_readUnit 14 = .ok (.aload_n 0, 1) := by decide +kernel
theorem dX3_readUnit_15 : decode cX3_readUnit 15 = .ok (.getfield 9, 3) := by decide +kernel
theorem dX3_readUnit_18 : decode cX3_readUnit 18 = .ok (.bipush 40, 2) := by decide +kernel
theorem dX3_readUnit_20 : decode cX3_readUnit 20 = .ok (.invokevirtual 113, 3) := by decide +kernel
theorem dX3_readUnit_23 : decode cX3_readUnit 23 = .ok (.ifCond .eq 77, 3) := by decide +kernel
theorem dX3_readUnit_26 : decode cX3_readUnit 26 = .ok (.iload_n 2, 1) := by decide +kernel
theorem dX3_readUnit_27 : decode cX3_readUnit 27 = .ok (.bipush 6, 2) := by decide +kernel
theorem dX3_readUnit_29 : decode cX3_readUnit 29 = .ok (.if_icmp .lt 12, 3) := by decide +kernel
theorem dX3_readUnit_32 : decode cX3_readUnit 32 = .ok (.aload_n 0, 1) := by decide +kernel
theorem dX3_readUnit_33 : decode cX3_readUnit 33 = .ok (.getfield 9, 3) := by decide +kernel
theorem dX3_readUnit_36 : decode cX3_readUnit 36 = .ok (.iconst 2, 1) := by decide +kernel
theorem dX3_readUnit_37 : decode cX3_readUnit 37 = .ok (.invokevirtual 79, 3) := by decide +kernel
theorem dX3_readUnit_40 : decode cX3_readUnit 40 = .ok (.ireturn, 1) := by decide +kernel
theorem dX3_readUnit_41 : decode cX3_readUnit 41 = .ok (.aload_n 0, 1) := by decide +kernel
theorem dX3_readUnit_42 : decode cX3_readUnit 42 = .ok (.getfield 9, 3) := by decide +kernel
theorem dX3_readUnit_45 : decode cX3_readUnit 45 = .ok (.invokevirtual 55, 3) := by decide +kernel
theorem dX3_readUnit_48 : decode cX3_readUnit 48 = .ok (.iload_n 3, 1) := by decide +kernel
theorem dX3_readUnit_49 : decode cX3_readUnit 49 = .ok (.ifCond .ne 32, 3) := by decide +kernel
theorem dX3_readUnit_52 : decode cX3_readUnit 52 = .ok (.aload_n 0, 1) := by decide +kernel
theorem dX3_readUnit_53 : decode cX3_readUnit 53 = .ok (.aload_n 1, 1) := by decide +kernel
theorem dX3_readUnit_54 : decode cX3_readUnit 54 = .ok (.iload_n 2, 1) := by decide +kernel
theorem dX3_readUnit_55 : decode cX3_readUnit 55 = .ok (.iconst 1, 1) := by decide +kernel
theorem dX3_readUnit_56 : decode cX3_readUnit 56 = .ok (.iadd, 1) := by decide +kernel
theorem dX3_readUnit_57 : decode cX3_readUnit 57 = .ok (.invokevirtual 75, 3) := by decide +kernel
theorem dX3_readUnit_60 : decode cX3_readUnit 60 = .ok (.ifCond .eq 19, 3) := by decide +kernel
theorem dX3_readUnit_63 : decode cX3_readUnit 63 = .ok (.aload_n 0, 1) := by decide +kernel
theorem dX3_readUnit_64 : decode cX3_readUnit 64 = .ok (.getfield 9, 3) := by decide +kernel
theorem dX3_readUnit_67 : decode cX3_readUnit 67 = .ok (.bipush 41, 2) := by decide +kernel
theorem dX3_readUnit_69 : decode cX3_readUnit 69 = .ok (.invokevirtual 34, 3) := by decide +kernel
theorem dX3_readUnit_72 : decode cX3_readUnit 72 = .ok (.ifCond .eq 7, 3) := by decide +kernel
theorem dX3_readUnit_75 : decode cX3_readUnit 75 = .ok (.iconst 1, 1) := by decide +kernel
theorem dX3_readUnit_76 : decode cX3_readUnit 76 = .ok (.goto 4, 3) := by decide +kernel
theorem dX3_readUnit_79 : decode cX3_readUnit 79 = .ok (.iconst 0, 1) := by decide +kernel
theorem dX3_readUnit_80 : decode cX3_readUnit 80 = .ok (.ireturn, 1) := by decide +kernel
theorem dX3_readUnit_81 : decode cX3_readUnit 81 = .ok (.aload_n 0, 1) := by decide +kernel
theorem dX3_readUnit_82 : decode cX3_readUnit 82 = .ok (.aload_n 1, 1) := by decide +kernel
theorem dX3_readUnit_83 : decode cX3_readUnit 83 = .ok (.iload_n 2, 1) := by decide +kernel
theorem dX3_readUnit_84 : decode cX3_readUnit 84 = .ok (.iconst 1, 1) := by decide +kernel
theorem dX3_readUnit_85 : decode cX3_readUnit 85 = .ok (.iadd, 1) := by decide +kernel
theorem dX3_readUnit_86 : decode cX3_readUnit 86 = .ok (.invokevirtual 101, 3) := by decide +kernel
theorem dX3_readUnit_89 : decode cX3_readUnit 89 = .ok (.istore 4, 2) := by decide +kernel
theorem dX3_readUnit_91 : decode cX3_readUnit 91 = .ok (.aload_n 1, 1) := by decide +kernel
theorem dX3_readUnit_92 : decode cX3_readUnit 92 = .ok (.bipush 100, 2) := by decide +kernel
theorem dX3_readUnit_94 : decode cX3_readUnit 94 = .ok (.invokevirtual 106, 3) := by decide +kernel
theorem dX3_readUnit_97 : decode cX3_readUnit 97 = .ok (.iload 4, 2) := by decide +kernel
theorem dX3_readUnit_99 : decode cX3_readUnit 99 = .ok (.ireturn, 1) := by decide +kernel
theorem dX3_readUnit_100 : decode cX3_readUnit 100 = .ok (.aload_n 0, 1) := by decide +kernel
theorem dX3_readUnit_101 : decode cX3_readUnit 101 = .ok (.invokevirtual 116, 3) := by decide +kernel
theorem dX3_readUnit_104 : decode cX3_readUnit 104 = .ok (.istore 4, 2) := by decide +kernel
theorem dX3_readUnit_106 : decode cX3_readUnit 106 = .ok (.iload 4, 2) := by decide +kernel
theorem dX3_readUnit_108 : decode cX3_readUnit 108 = .ok (.iconst (-1), 1) := by decide +kernel
theorem dX3_readUnit_109 : decode cX3_readUnit 109 = .ok (.if_icmp .ne 12, 3) := by decide +kernel
theorem dX3_readUnit_112 : decode cX3_readUnit 112 = .ok (.aload_n 0, 1) := by decide +kernel
theorem dX3_readUnit_113 : decode cX3_readUnit 113 = .ok (.getfield 9, 3) := by decide +kernel
theorem dX3_readUnit_116 : decode cX3_readUnit 116 = .ok (.iconst 1, 1) := by decide +kernel
theorem dX3_readUnit_117 : decode cX3_readUnit 117 = .ok (.invokevirtual 79, 3) := by decide +kernel
theorem dX3_readUnit_120 : decode cX3_readUnit 120 = .ok (.ireturn, 1) := by decide +kernel
theorem dX3_readUnit_121 : decode cX3_readUnit 121 = .ok (.aload_n 0, 1) := by decide +kernel
theorem dX3_readUnit_122 : decode cX3_readUnit 122 = .ok (.getfield 9, 3) := by decide +kernel
theorem dX3_readUnit_125 : decode cX3_readUnit 125 = .ok (.invokevirtual 55, 3) := by decide +kernel
theorem dX3_readUnit_128 : decode cX3_readUnit 128 = .ok (.aload_n 0, 1) := by decide +kernel
theorem dX3_readUnit_129 : decode cX3_readUnit 129 = .ok (.invokevirtual 120, 3) := by decide +kernel
theorem dX3_readUnit_132 : decode cX3_readUnit 132 = .ok (.istore 5, 2) := by decide +kernel
theorem dX3_readUnit_134 : decode cX3_readUnit 134 = .ok (.iload 5, 2) := by decide +kernel
theorem dX3_readUnit_136 : decode cX3_readUnit 136 = .ok (.iconst (-1), 1) := by decide +kernel
theorem dX3_readUnit_137 : decode cX3_readUnit 137 = .ok (.if_icmp .ne 12, 3) := by decide +kernel
theorem dX3_readUnit_140 : decode cX3_readUnit 140 = .ok (.aload_n 0, 1) := by decide +kernel
theorem dX3_readUnit_141 : decode cX3_readUnit 141 = .ok (.getfield 9, 3) := by decide +kernel
theorem dX3_readUnit_144 : decode cX3_readUnit 144 = .ok (.iconst 1, 1) := by decide +kernel
theorem dX3_readUnit_145 : decode cX3_readUnit 145 = .ok (.invokevirtual 79, 3) := by decide +kernel
theorem dX3_readUnit_148 : decode cX3_readUnit 148 = .ok (.ireturn, 1) := by decide +kernel
theorem dX3_readUnit_149 : decode cX3_readUnit 149 = .ok (.aload_n 0, 1) := by decide +kernel
theorem dX3_readUnit_150 : decode cX3_readUnit 150 = .ok (.getfield 9, 3) := by decide +kernel
theorem dX3_readUnit_153 : decode cX3_readUnit 153 = .ok (.invokevirtual 55, 3) := by decide +kernel
theorem dX3_readUnit_156 : decode cX3_readUnit 156 = .ok (.aload_n 0, 1) := by decide +kernel
theorem dX3_readUnit_157 : decode cX3_readUnit 157 = .ok (.getfield 9, 3) := by decide +kernel
theorem dX3_readUnit_160 : decode cX3_readUnit 160 = .ok (.ldc 123, 2) := by decide +kernel
theorem dX3_readUnit_162 : decode cX3_readUnit 162 = .ok (.invokevirtual 124, 3) := by decide +kernel
theorem dX3_readUnit_165 : decode cX3_readUnit 165 = .ok (.istore 6, 2) := by decide +kernel
theorem dX3_readUnit_167 : decode cX3_readUnit 167 = .ok (.aload_n 1, 1) := by decide +kernel
theorem dX3_readUnit_168 : decode cX3_readUnit 168 = .ok (.iload 4, 2) := by decide +kernel
theorem dX3_readUnit_170 : decode cX3_readUnit 170 = .ok (.iload 5, 2) := by decide +kernel
theorem dX3_readUnit_172 : decode cX3_readUnit 172 = .ok (.aload_n 0, 1) := by decide +kernel
theorem dX3_readUnit_173 : decode cX3_readUnit 173 = .ok (.getfield 9, 3) := by decide +kernel
theorem dX3_readUnit_176 : decode cX3_readUnit 176 = .ok (.getfield 62, 3) := by decide +kernel
theorem dX3_readUnit_179 : decode cX3_readUnit 179 = .ok (.invokevirtual 127, 3) := by decide +kernel
theorem dX3_readUnit_182 : decode cX3_readUnit 182 = .ok (.iload 6, 2) := by decide +kernel
theorem dX3_readUnit_184 : decode cX3_readUnit 184 = .ok (.ireturn, 1) := by decide +kernel
theorem dX3_factHere_0 : decode cX3_factHere 0 = .ok (.aload_n 0, 1) := by decide +kernel
theorem dX3_factHere_1 : decode cX3_factHere 1 = .ok (.getfield 9, 3) := by decide +kernel
theorem dX3_factHere_4 : decode cX3_factHere 4 = .ok (.ldc 131, 2) := by decide +kernel
theorem dX3_factHere_6 : decode cX3_factHere 6 = .ok (.invokevirtual 46, 3) := by decide +kernel
theorem dX3_factHere_9 : decode cX3_factHere 9 = .ok (.ifCond .eq 5, 3) := by decide +kernel
theorem dX3_factHere_12 : decode cX3_factHere 12 = .ok (.iconst 1, 1) := by decide +kernel
theorem dX3_factHere_13 : decode cX3_factHere 13 = .ok (.ireturn, 1) := by decide +kernel
theorem dX3_factHere_14 : decode cX3_factHere 14 = .ok (.aload_n 0, 1) := by decide +kernel
theorem dX3_factHere_15 : decode cX3_factHere 15 = .ok (.getfield 9, 3) := by decide +kernel
theorem dX3_factHere_18 : decode cX3_factHere 18 = .ok (.ldc 135, 2) := by decide +kernel
theorem dX3_factHere_20 : decode cX3_factHere 20 = .ok (.invokevirtual 46, 3) := by decide +kernel
theorem dX3_factHere_23 : decode cX3_factHere 23 = .ok (.ifCond .eq 5, 3) := by decide +kernel
theorem dX3_factHere_26 : decode cX3_factHere 26 = .ok (.iconst 2, 1) := by decide +kernel
theorem dX3_factHere_27 : decode cX3_factHere 27 = .ok (.ireturn, 1) := by decide +kernel
theorem dX3_factHere_28 : decode cX3_factHere 28 = .ok (.aload_n 0, 1) := by decide +kernel
theorem dX3_factHere_29 : decode cX3_factHere 29 = .ok (.getfield 9, 3) := by decide +kernel
theorem dX3_factHere_32 : decode cX3_factHere 32 = .ok (.ldc 137, 2) := by decide +kernel
theorem dX3_factHere_34 : decode cX3_factHere 34 = .ok (.invokevirtual 46, 3) := by decide +kernel
theorem dX3_factHere_37 : decode cX3_factHere 37 = .ok (.ifCond .eq 5, 3) := by decide +kernel
theorem dX3_factHere_40 : decode cX3_factHere 40 = .ok (.iconst 3, 1) := by decide +kernel
theorem dX3_factHere_41 : decode cX3_factHere 41 = .ok (.ireturn, 1) := by decide +kernel
theorem dX3_factHere_42 : decode cX3_factHere 42 = .ok (.aload_n 0, 1) := by decide +kernel
theorem dX3_factHere_43 : decode cX3_factHere 43 = .ok (.getfield 9, 3) := by decide +kernel
theorem dX3_factHere_46 : decode cX3_factHere 46 = .ok (.ldc 139, 2) := by decide +kernel
theorem dX3_factHere_48 : decode cX3_factHere 48 = .ok (.invokevirtual 46, 3) := by decide +kernel
theorem dX3_factHere_51 : decode cX3_factHere 51 = .ok (.ifCond .eq 5, 3) := by decide +kernel
theorem dX3_factHere_54 : decode cX3_factHere 54 = .ok (.iconst 4, 1) := by decide +kernel
theorem dX3_factHere_55 : decode cX3_factHere 55 = .ok (.ireturn, 1) := by decide +kernel
theorem dX3_factHere_56 : decode cX3_factHere 56 = .ok (.aload_n 0, 1) := by decide +kernel
theorem dX3_factHere_57 : decode cX3_factHere 57 = .ok (.getfield 9, 3) := by decide +kernel
theorem dX3_factHere_60 : decode cX3_factHere 60 = .ok (.ldc 141, 2) := by decide +kernel
theorem dX3_factHere_62 : decode cX3_factHere 62 = .ok (.invokevirtual 46, 3) := by decide +kernel
theorem dX3_factHere_65 : decode cX3_factHere 65 = .ok (.ifCond .eq 5, 3) := by decide +kernel
theorem dX3_factHere_68 : decode cX3_factHere 68 = .ok (.iconst 5, 1) := by decide +kernel
theorem dX3_factHere_69 : decode cX3_factHere 69 = .ok (.ireturn, 1) := by decide +kernel
theorem dX3_factHere_70 : decode cX3_factHere 70 = .ok (.aload_n 0, 1) := by decide +kernel
theorem dX3_factHere_71 : decode cX3_factHere 71 = .ok (.getfield 9, 3) := by decide +kernel
theorem dX3_factHere_74 : decode cX3_factHere 74 = .ok (.ldc 44, 2) := by decide +kernel
theorem dX3_factHere_76 : decode cX3_factHere 76 = .ok (.invokevirtual 46, 3) := by decide +kernel
theorem dX3_factHere_79 : decode cX3_factHere 79 = .ok (.ifCond .eq 8, 3) := by decide +kernel
theorem dX3_factHere_82 : decode cX3_factHere 82 = .ok (.bipush 6, 2) := by decide +kernel
theorem dX3_factHere_84 : decode cX3_factHere 84 = .ok (.goto 4, 3) := by decide +kernel
theorem dX3_factHere_87 : decode cX3_factHere 87 = .ok (.iconst (-1), 1) := by decide +kernel
theorem dX3_factHere_88 : decode cX3_factHere 88 = .ok (.ireturn, 1) := by decide +kernel
theorem dX3_relationHere_0 : decode cX3_relationHere 0 = .ok (.aload_n 0, 1) := by decide +kernel
theorem dX3_relationHere_1 : decode cX3_relationHere 1 = .ok (.getfield 9, 3) := by decide +kernel
theorem dX3_relationHere_4 : decode cX3_relationHere 4 = .ok (.bipush 60, 2) := by decide +kernel
theorem dX3_relationHere_6 : decode cX3_relationHere 6 = .ok (.invokevirtual 113, 3) := by decide +kernel
theorem dX3_relationHere_9 : decode cX3_relationHere 9 = .ok (.ifCond .eq 5, 3) := by decide +kernel
theorem dX3_relationHere_12 : decode cX3_relationHere 12 = .ok (.iconst 0, 1) := by decide +kernel
theorem dX3_relationHere_13 : decode cX3_relationHere 13 = .ok (.ireturn, 1) := by decide +kernel
theorem dX3_relationHere_14 : decode cX3_relationHere 14 = .ok (.aload_n 0, 1) := by decide +kernel
theorem dX3_relationHere_15 : decode cX3_relationHere 15 = .ok (.getfield 9, 3) := by decide +kernel
theorem dX3_relationHere_18 : decode cX3_relationHere 18 = .ok (.bipush 61, 2) := by decide +kernel
theorem dX3_relationHere_20 : decode cX3_relationHere 20 = .ok (.invokevirtual 113, 3) := by decide +kernel
theorem dX3_relationHere_23 : decode cX3_relationHere 23 = .ok (.ifCond .eq 5, 3) := by decide +kernel
theorem dX3_relationHere_26 : decode cX3_relationHere 26 = .ok (.iconst 1, 1) := by decide +kernel
theorem dX3_relationHere_27 : decode cX3_relationHere 27 = .ok (.ireturn, 1) := by decide +kernel
theorem dX3_relationHere_28 : decode cX3_relationHere 28 = .ok (.aload_n 0, 1) := by decide +kernel
theorem dX3_relationHere_29 : decode cX3_relationHere 29 = .ok (.getfield 9, 3) := by decide +kernel
theorem dX3_relationHere_32 : decode cX3_relationHere 32 = .ok (.bipush 62, 2) := by decide +kernel
theorem dX3_relationHere_34 : decode cX3_relationHere 34 = .ok (.invokevirtual 113, 3) := by decide +kernel
theorem dX3_relationHere_37 : decode cX3_relationHere 37 = .ok (.ifCond .eq 7, 3) := by decide +kernel
theorem dX3_relationHere_40 : decode cX3_relationHere 40 = .ok (.iconst 2, 1) := by decide +kernel
theorem dX3_relationHere_41 : decode cX3_relationHere 41 = .ok (.goto 4, 3) := by decide +kernel
theorem dX3_relationHere_44 : decode cX3_relationHere 44 = .ok (.iconst (-1), 1) := by decide +kernel
theorem dX3_relationHere_45 : decode cX3_relationHere 45 = .ok (.ireturn, 1) := by decide +kernel
theorem dX4_init_0 : decode cX4_init 0 = .ok (.aload_n 0, 1) := by decide +kernel
theorem dX4_init_1 : decode cX4_init 1 = .ok (.invokespecial 3, 3) := by decide +kernel
theorem dX4_init_4 : decode cX4_init 4 = .ok (.aload_n 0, 1) := by decide +kernel
theorem dX4_init_5 : decode cX4_init 5 = .ok (.bipush 10, 2) := by decide +kernel
theorem dX4_init_7 : decode cX4_init 7 = .ok (.newarray .int, 2) := by decide +kernel
theorem dX4_init_9 : decode cX4_init 9 = .ok (.putfield 9, 3) := by decide +kernel
theorem dX4_init_12 : decode cX4_init 12 = .ok (.aload_n 0, 1) := by decide +kernel
theorem dX4_init_13 : decode cX4_init 13 = .ok (.bipush 10, 2) := by decide +kernel
theorem dX4_init_15 : decode cX4_init 15 = .ok (.newarray .int, 2) := by decide +kernel
theorem dX4_init_17 : decode cX4_init 17 = .ok (.putfield 15, 3) := by decide +kernel
theorem dX4_init_20 : decode cX4_init 20 = .ok (.aload_n 0, 1) := by decide +kernel
theorem dX4_init_21 : decode cX4_init 21 = .ok (.iconst 0, 1) := by decide +kernel
theorem dX4_init_22 : decode cX4_init 22 = .ok (.putfield 18, 3) := by decide +kernel
theorem dX4_init_25 : decode cX4_init 25 = .ok (.return_, 1) := by decide +kernel
theorem dX4_clear_0 : decode cX4_clear 0 = .ok (.aload_n 0, 1) := by decide +kernel
theorem dX4_clear_1 : decode cX4_clear 1 = .ok (.iconst 0, 1) := by decide +kernel
theorem dX4_clear_2 : decode cX4_clear 2 = .ok (.putfield 18, 3) := by decide +kernel
theorem dX4_clear_5 : decode cX4_clear 5 = .ok (.return_, 1) := by decide +kernel
theorem dX4_copyFrom_0 : decode cX4_copyFrom 0 = .ok (.aload_n 0, 1) := by decide +kernel
theorem dX4_copyFrom_1 : decode cX4_copyFrom 1 = .ok (.aload_n 1, 1) := by decide +kernel
theorem dX4_copyFrom_2 : decode cX4_copyFrom 2 = .ok (.getfield 18, 3) := by decide +kernel
theorem dX4_copyFrom_5 : decode cX4_copyFrom 5 = .ok (.putfield 18, 3) := by decide +kernel
theorem dX4_copyFrom_8 : decode cX4_copyFrom 8 = .ok (.iconst 0, 1) := by decide +kernel
theorem dX4_copyFrom_9 : decode cX4_copyFrom 9 = .ok (.istore_n 2, 1) := by decide +kernel
theorem dX4_copyFrom_10 : decode cX4_copyFrom 10 = .ok (.iload_n 2, 1) := by decide +kernel
theorem dX4_copyFrom_11 : decode cX4_copyFrom 11 = .ok (.bipush 10, 2) := by decide +kernel
theorem dX4_copyFrom_13 : decode cX4_copyFrom 13 = .ok (.if_icmp .ge 33, 3) := by decide +kernel
theorem dX4_copyFrom_16 : decode cX4_copyFrom 16 = .ok (.aload_n 0, 1) := by decide +kernel
theorem dX4_copyFrom_17 : decode cX4_copyFrom 17 = .ok (.getfield 9, 3) := by decide +kernel
theorem dX4_copyFrom_20 : decode cX4_copyFrom 20 = .ok (.iload_n 2, 1) := by decide +kernel
theorem dX4_copyFrom_21 : decode cX4_copyFrom 21 = .ok (.aload_n 1, 1) := by decide +kernel
theorem dX4_copyFrom_22 : decode cX4_copyFrom 22 = .ok (.getfield 9, 3) := by decide +kernel
theorem dX4_copyFrom_25 : decode cX4_copyFrom 25 = .ok (.iload_n 2, 1) := by decide +kernel
theorem dX4_copyFrom_26 : decode cX4_copyFrom 26 = .ok (.iaload, 1) := by decide +kernel
theorem dX4_copyFrom_27 : decode cX4_copyFrom 27 = .ok (.iastore, 1) := by decide +kernel
theorem dX4_copyFrom_28 : decode cX4_copyFrom 28 = .ok (.aload_n 0, 1) := by decide +kernel
theorem dX4_copyFrom_29 : decode cX4_copyFrom 29 = .ok (.getfield 15, 3) := by decide +kernel
theorem dX4_copyFrom_32 : decode cX4_copyFrom 32 = .ok (.iload_n 2, 1) := by decide +kernel
theorem dX4_copyFrom_33 : decode cX4_copyFrom 33 = .ok (.aload_n 1, 1) := by decide +kernel
theorem dX4_copyFrom_34 : decode cX4_copyFrom 34 = .ok (.getfield 15, 3) := by decide +kernel
theorem dX4_copyFrom_37 : decode cX4_copyFrom 37 = .ok (.iload_n 2, 1) := by decide +kernel
theorem dX4_copyFrom_38 : decode cX4_copyFrom 38 = .ok (.iaload, 1) := by decide +kernel
theorem dX4_copyFrom_39 : decode cX4_copyFrom 39 = .ok (.iastore, 1) := by decide +kernel
theorem dX4_copyFrom_40 : decode cX4_copyFrom 40 = .ok (.iinc 2 1, 3) := by decide +kernel
theorem dX4_copyFrom_43 : decode cX4_copyFrom 43 = .ok (.goto (-33), 3) := by decide +kernel
theorem dX4_copyFrom_46 : decode cX4_copyFrom 46 = .ok (.return_, 1) := by decide +kernel
theorem dX4_knows_0 : decode cX4_knows 0 = .ok (.aload_n 0, 1) := by decide +kernel
theorem dX4_knows_1 : decode cX4_knows 1 = .ok (.iload_n 1, 1) := by decide +kernel
theorem dX4_knows_2 : decode cX4_knows 2 = .ok (.invokevirtual 22, 3) := by decide +kernel
theorem dX4_knows_5 : decode cX4_knows 5 = .ok (.iconst (-1), 1) := by decide +kernel
theorem dX4_knows_6 : decode cX4_knows 6 = .ok (.if_icmp .eq 7, 3) := by decide +kernel
theorem dX4_knows_9 : decode cX4_knows 9 = .ok (.iconst 1, 1) := by decide +kernel
theorem dX4_knows_10 : decode cX4_knows 10 = .ok (.goto 4, 3) := by decide +kernel
theorem dX4_knows_13 : decode cX4_knows 13 = .ok (.iconst 0, 1) := by decide +kernel
theorem dX4_knows_14 : decode cX4_knows 14 = .ok (.ireturn, 1) := by decide +kernel
theorem dX4_use_0 : decode cX4_use 0 = .ok (.iconst (-1), 1) := by decide +kernel
theorem dX4_use_1 : decode cX4_use 1 = .ok (.istore 4, 2) := by decide +kernel
theorem dX4_use_3 : decode cX4_use 3 = .ok (.aload_n 0, 1) := by decide +kernel
theorem dX4_use_4 : decode cX4_use 4 = .ok (.iload_n 1, 1) := by decide +kernel
theorem dX4_use_5 : decode cX4_use 5 = .ok (.invokevirtual 22, 3) := by decide +kernel
theorem dX4_use_8 : decode cX4_use 8 = .ok (.istore 5, 2) := by decide +kernel
theorem dX4_use_10 : decode cX4_use 10 = .ok (.iload 5, 2) := by decide +kernel
theorem dX4_use_12 : decode cX4_use 12 = .ok (.iconst (-1), 1) := by decide +kernel
theorem dX4_use_13 : decode cX4_use 13 = .ok (.if_icmp .ne 62, 3) := by decide +kernel
theorem dX4_use_16 : decode cX4_use 16 = .ok (.aload_n 0, 1) := by decide +kernel
theorem dX4_use_17 : decode cX4_use 17 = .ok (.getfield 18, 3) := by decide +kernel
theorem dX4_use_20 : decode cX4_use 20 = .ok (.ifCond .le 32, 3) := by decide +kernel
theorem dX4_use_23 : decode cX4_use 23 = .ok (.aload_n 0, 1) := by decide +kernel
theorem dX4_use_24 : decode cX4_use 24 = .ok (.getfield 18, 3) := by decide +kernel
theorem dX4_use_27 : decode cX4_use 27 = .ok (.iload_n 3, 1) := by decide +kernel
theorem dX4_use_28 : decode cX4_use 28 = .ok (.if_icmp .lt 24, 3) := by decide +kernel
theorem dX4_use_31 : decode cX4_use 31 = .ok (.aload_n 0, 1) := by decide +kernel
theorem dX4_use_32 : decode cX4_use 32 = .ok (.dup, 1) := by decide +kernel
theorem dX4_use_33 : decode cX4_use 33 = .ok (.getfield 18, 3) := by decide +kernel
theorem dX4_use_36 : decode cX4_use 36 = .ok (.iconst 1, 1) := by decide +kernel
theorem dX4_use_37 : decode cX4_use 37 = .ok (.isub, 1) := by decide +kernel
theorem dX4_use_38 : decode cX4_use 38 = .ok (.putfield 18, 3) := by decide +kernel
theorem dX4_use_41 : decode cX4_use 41 = .ok (.aload_n 0, 1) := by decide +kernel
theorem dX4_use_42 : decode cX4_use 42 = .ok (.getfield 9, 3) := by decide +kernel
theorem dX4_use_45 : decode cX4_use 45 = .ok (.aload_n 0, 1) := by decide +kernel
theorem dX4_use_46 : decode cX4_use 46 = .ok (.getfield 18, 3) := by decide +kernel
theorem dX4_use_49 : decode cX4_use 49 = .ok (.iaload, 1) := by decide +kernel
theorem dX4_use_50 : decode cX4_use 50 = .ok (.istore 4, 2) := by decide +kernel
theorem dX4_use_52 : decode cX4_use 52 = .ok (.aload_n 0, 1) := by decide +kernel
theorem dX4_use_53 : decode cX4_use 53 = .ok (.getfield 18, 3) := by decide +kernel
theorem dX4_use_56 : decode cX4_use 56 = .ok (.istore 5, 2) := by decide +kernel
theorem dX4_use_58 : decode cX4_use 58 = .ok (.aload_n 0, 1) := by decide +kernel
theorem dX4_use_59 : decode cX4_use 59 = .ok (.dup, 1) := by decide +kernel
theorem dX4_use_60 : decode cX4_use 60 = .ok (.getfield 18, 3) := by decide +kernel
theorem dX4_use_63 : decode cX4_use 63 = .ok (.iconst 1, 1) := by decide +kernel
theorem dX4_use_64 : decode cX4_use 64 = .ok (.iadd, 1) := by decide +kernel
theorem dX4_use_65 : decode cX4_use 65 = .ok (.putfield 18, 3) := by decide +kernel
theorem dX4_use_68 : decode cX4_use 68 = .ok (.aload_n 0, 1) := by decide +kernel
theorem dX4_use_69 : decode cX4_use 69 = .ok (.getfield 15, 3) := by decide +kernel
theorem dX4_use_72 : decode cX4_use 72 = .ok (.iload_n 1, 1) := by decide +kernel
theorem dX4_use_73 : decode cX4_use 73 = .ok (.iload_n 2, 1) := by decide +kernel
theorem dX4_use_74 : decode cX4_use 74 = .ok (.iastore, 1) := by decide +kernel
theorem dX4_use_75 : decode cX4_use 75 = .ok (.iload 5, 2) := by decide +kernel
theorem dX4_use_77 : decode cX4_use 77 = .ok (.istore 6, 2) := by decide +kernel
theorem dX4_use_79 : decode cX4_use 79 = .ok (.iload 6, 2) := by decide +kernel
theorem dX4_use_81 : decode cX4_use 81 = .ok (.ifCond .le 25, 3) := by decide +kernel
theorem dX4_use_84 : decode cX4_use 84 = .ok (.aload_n 0, 1) := by decide +kernel
theorem dX4_use_85 : decode cX4_use 85 = .ok (.getfield 9, 3) := by decide +kernel
theorem dX4_use_88 : decode cX4_use 88 = .ok (.iload 6, 2) := by decide +kernel
theorem dX4_use_90 : decode cX4_use 90 = .ok (.aload_n 0, 1) := by decide +kernel
theorem dX4_use_91 : decode cX4_use 91 = .ok (.getfield 9, 3) := by decide +kernel
theorem dX4_use_94 : decode cX4_use 94 = .ok (.iload 6, 2) := by decide +kernel
theorem dX4_use_96 : decode cX4_use 96 = .ok (.iconst 1, 1) := by decide +kernel
theorem dX4_use_97 : decode cX4_use 97 = .ok (.isub, 1) := by decide +kernel
theorem dX4_use_98 : decode cX4_use 98 = .ok (.iaload, 1) := by decide +kernel
theorem dX4_use_99 : decode cX4_use 99 = .ok (.iastore, 1) := by decide +kernel
theorem dX4_use_100 : decode cX4_use 100 = .ok (.iinc 6 (-1), 3) := by decide +kernel
theorem dX4_use_103 : decode cX4_use 103 = .ok (.goto (-24), 3) := by decide +kernel
theorem dX4_use_106 : decode cX4_use 106 = .ok (.aload_n 0, 1) := by decide +kernel
theorem dX4_use_107 : decode cX4_use 107 = .ok (.getfield 9, 3) := by decide +kernel
theorem dX4_use_110 : decode cX4_use 110 = .ok (.iconst 0, 1) := by decide +kernel
theorem dX4_use_111 : decode cX4_use 111 = .ok (.iload_n 1, 1) := by decide +kernel
theorem dX4_use_112 : decode cX4_use 112 = .ok (.iastore, 1) := by decide +kernel
theorem dX4_use_113 : decode cX4_use 113 = .ok (.aload_n 0, 1) := by decide +kernel
theorem dX4_use_114 : decode cX4_use 114 = .ok (.getfield 15, 3) := by decide +kernel
theorem dX4_use_117 : decode cX4_use 117 = .ok (.iload_n 1, 1) := by decide +kernel
theorem dX4_use_118 : decode cX4_use 118 = .ok (.aload_n 0, 1) := by decide +kernel
theorem dX4_use_119 : decode cX4_use 119 = .ok (.getfield 15, 3) := by decide +kernel
theorem dX4_use_122 : decode cX4_use 122 = .ok (.iload_n 1, 1) := by decide +kernel
theorem dX4_use_123 : decode cX4_use 123 = .ok (.iaload, 1) := by decide +kernel
theorem dX4_use_124 : decode cX4_use 124 = .ok (.iload_n 2, 1) := by decide +kernel
theorem dX4_use_125 : decode cX4_use 125 = .ok (.invokestatic 26, 3) := by decide +kernel
theorem dX4_use_128 : decode cX4_use 128 = .ok (.iastore, 1) := by decide +kernel
theorem dX4_use_129 : decode cX4_use 129 = .ok (.iload 4, 2) := by decide +kernel
theorem dX4_use_131 : decode cX4_use 131 = .ok (.ireturn, 1) := by decide +kernel
theorem dX4_remove_0 : decode cX4_remove 0 = .ok (.aload_n 0, 1) := by decide +kernel
theorem dX4_remove_1 : decode cX4_remove 1 = .ok (.iload_n 1, 1) := by decide +kernel
theorem dX4_remove_2 : decode cX4_remove 2 = .ok (.invokevirtual 22, 3) := by decide +kernel
theorem dX4_remove_5 : decode cX4_remove 5 = .ok (.istore_n 2, 1) := by decide +kernel
theorem dX4_remove_6 : decode cX4_remove 6 = .ok (.iload_n 2, 1) := by decide +kernel
theorem dX4_remove_7 : decode cX4_remove 7 = .ok (.iconst (-1), 1) := by decide +kernel
theorem dX4_remove_8 : decode cX4_remove 8 = .ok (.if_icmp .ne 4, 3) := by decide +kernel
theorem dX4_remove_11 : decode cX4_remove 11 = .ok (.return_, 1) := by decide +kernel
theorem dX4_remove_12 : decode cX4_remove 12 = .ok (.aload_n 0, 1) := by decide +kernel
theorem dX4_remove_13 : decode cX4_remove 13 = .ok (.dup, 1) := by decide +kernel
theorem dX4_remove_14 : decode cX4_remove 14 = .ok (.getfield 18, 3) := by decide +kernel
theorem dX4_remove_17 : decode cX4_remove 17 = .ok (.iconst 1, 1) := by decide +kernel
theorem dX4_remove_18 : decode cX4_remove 18 = .ok (.isub, 1) := by decide +kernel
theorem dX4_remove_19 : decode cX4_remove 19 = .ok (.putfield 18, 3) := by decide +kernel
theorem dX4_remove_22 : decode cX4_remove 22 = .ok (.iload_n 2, 1) := by decide +kernel
theorem dX4_remove_23 : decode cX4_remove 23 = .ok (.istore_n 3, 1) := by decide +kernel
theorem dX4_remove_24 : decode cX4_remove 24 = .ok (.iload_n 3, 1) := by decide +kernel
theorem dX4_remove_25 : decode cX4_remove 25 = .ok (.aload_n 0, 1) := by decide +kernel
theorem dX4_remove_26 : decode cX4_remove 26 = .ok (.getfield 18, 3) := by decide +kernel
theorem dX4_remove_29 : decode cX4_remove 29 = .ok (.if_icmp .ge 23, 3) := by decide +kernel
theorem dX4_remove_32 : decode cX4_remove 32 = .ok (.aload_n 0, 1) := by decide +kernel
theorem dX4_remove_33 : decode cX4_remove 33 = .ok (.getfield 9, 3) := by decide +kernel
theorem dX4_remove_36 : decode cX4_remove 36 = .ok (.iload_n 3, 1) := by decide +kernel
theorem dX4_remove_37 : decode cX4_remove 37 = .ok (.aload_n 0, 1) := by decide +kernel
theorem dX4_remove_38 : decode cX4_remove 38 = .ok (.getfield 9, 3) := by decide +kernel
theorem dX4_remove_41 : decode cX4_remove 41 = .ok (.iload_n 3, 1) := by decide +kernel
theorem dX4_remove_42 : decode cX4_remove 42 = .ok (.iconst 1, 1) := by decide +kernel
theorem dX4_remove_43 : decode cX4_remove 43 = .ok (.iadd, 1) := by decide +kernel
theorem dX4_remove_44 : decode cX4_remove 44 = .ok (.iaload, 1) := by decide +kernel
theorem dX4_remove_45 : decode cX4_remove 45 = .ok (.iastore, 1) := by decide +kernel
theorem dX4_remove_46 : decode cX4_remove 46 = .ok (.iinc 3 1, 3) := by decide +kernel
theorem dX4_remove_49 : decode cX4_remove 49 = .ok (.goto (-25), 3) := by decide +kernel
theorem dX4_remove_52 : decode cX4_remove 52 = .ok (.return_, 1) := by decide +kernel
theorem dX4_placeOf_0 : decode cX4_placeOf 0 = .ok (.iconst 0, 1) := by decide +kernel
theorem dX4_placeOf_1 : decode cX4_placeOf 1 = .ok (.istore_n 2, 1) := by decide +kernel
theorem dX4_placeOf_2 : decode cX4_placeOf 2 = .ok (.iload_n 2, 1) := by decide +kernel
theorem dX4_placeOf_3 : decode cX4_placeOf 3 = .ok (.aload_n 0, 1) := by decide +kernel
theorem dX4_placeOf_4 : decode cX4_placeOf 4 = .ok (.getfield 18, 3) := by decide +kernel
theorem dX4_placeOf_7 : decode cX4_placeOf 7 = .ok (.if_icmp .ge 21, 3) := by decide +kernel
theorem dX4_placeOf_10 : decode cX4_placeOf 10 = .ok (.aload_n 0, 1) := by decide +kernel
theorem dX4_placeOf_11 : decode cX4_placeOf 11 = .ok (.getfield 9, 3) := by decide +kernel
theorem dX4_placeOf_14 : decode cX4_placeOf 14 = .ok (.iload_n 2, 1) := by decide +kernel
theorem dX4_placeOf_15 : decode cX4_placeOf 15 = .ok (.iaload, 1) := by decide +kernel
theorem dX4_placeOf_16 : decode cX4_placeOf 16 = .ok (.iload_n 1, 1) := by decide +kernel
theorem dX4_placeOf_17 : decode cX4_placeOf 17 = .ok (.if_icmp .ne 5, 3) := by decide +kernel
theorem dX4_placeOf_20 : decode cX4_placeOf 20 = .ok (.iload_n 2, 1) := by decide +kernel
theorem dX4_placeOf_21 : decode cX4_placeOf 21 = .ok (.ireturn, 1) := by decide +kernel
theorem dX4_placeOf_22 : decode cX4_placeOf 22 = .ok (.iinc 2 1, 3) := by decide +kernel
theorem dX4_placeOf_25 : decode cX4_placeOf 25 = .ok (.goto (-23), 3) := by decide +kernel
theorem dX4_placeOf_28 : decode cX4_placeOf 28 = .ok (.iconst (-1), 1) := by decide +kernel
theorem dX4_placeOf_29 : decode cX4_placeOf 29 = .ok (.ireturn, 1) := by decide +kernel
theorem dX5_init_0 : decode cX5_init 0 = .ok (.aload_n 0, 1) := by decide +kernel
theorem dX5_init_1 : decode cX5_init 1 = .ok (.invokespecial 3, 3) := by decide +kernel
theorem dX5_init_4 : decode cX5_init 4 = .ok (.aload_n 0, 1) := by decide +kernel
theorem dX5_init_5 : decode cX5_init 5 = .ok (.iconst 4, 1) := by decide +kernel
theorem dX5_init_6 : decode cX5_init 6 = .ok (.newarray .int, 2) := by decide +kernel
theorem dX5_init_8 : decode cX5_init 8 = .ok (.putfield 11, 3) := by decide +kernel
theorem dX5_init_11 : decode cX5_init 11 = .ok (.aload_n 0, 1) := by decide +kernel
theorem dX5_init_12 : decode cX5_init 12 = .ok (.iconst 4, 1) := by decide +kernel
theorem dX5_init_13 : decode cX5_init 13 = .ok (.newarray .int, 2) := by decide +kernel
theorem dX5_init_15 : decode cX5_init 15 = .ok (.putfield 17, 3) := by decide +kernel
theorem dX5_init_18 : decode cX5_init 18 = .ok (.aload_n 0, 1) := by decide +kernel
theorem dX5_init_19 : decode cX5_init 19 = .ok (.bipush 16, 2) := by decide +kernel
theorem dX5_init_21 : decode cX5_init 21 = .ok (.newarray .int, 2) := by decide +kernel
theorem dX5_init_23 : decode cX5_init 23 = .ok (.putfield 20, 3) := by decide +kernel
theorem dX5_init_26 : decode cX5_init 26 = .ok (.aload_n 0, 1) := by decide +kernel
theorem dX5_init_27 : decode cX5_init 27 = .ok (.bipush 16, 2) := by decide +kernel
theorem dX5_init_29 : decode cX5_init 29 = .ok (.newarray .int, 2) := by decide +kernel
theorem dX5_init_31 : decode cX5_init 31 = .ok (.putfield 23, 3) := by decide +kernel
theorem dX5_init_34 : decode cX5_init 34 = .ok (.aload_n 0, 1) := by decide +kernel
theorem dX5_init_35 : decode cX5_init 35 = .ok (.bipush 16, 2) := by decide +kernel
theorem dX5_init_37 : decode cX5_init 37 = .ok (.newarray .long, 2) := by decide +kernel
theorem dX5_init_39 : decode cX5_init 39 = .ok (.putfield 26, 3) := by decide +kernel
theorem dX5_init_42 : decode cX5_init 42 = .ok (.aload_n 0, 1) := by decide +kernel
theorem dX5_init_43 : decode cX5_init 43 = .ok (.bipush 16, 2) := by decide +kernel
theorem dX5_init_45 : decode cX5_init 45 = .ok (.newarray .int, 2) := by decide +kernel
theorem dX5_init_47 : decode cX5_init 47 = .ok (.putfield 30, 3) := by decide +kernel
theorem dX5_init_50 : decode cX5_init 50 = .ok (.aload_n 0, 1) := by decide +kernel
theorem dX5_init_51 : decode cX5_init 51 = .ok (.bipush 16, 2) := by decide +kernel
theorem dX5_init_53 : decode cX5_init 53 = .ok (.newarray .int, 2) := by decide +kernel
theorem dX5_init_55 : decode cX5_init 55 = .ok (.putfield 33, 3) := by decide +kernel
theorem dX5_init_58 : decode cX5_init 58 = .ok (.aload_n 0, 1) := by decide +kernel
theorem dX5_init_59 : decode cX5_init 59 = .ok (.iconst 0, 1) := by decide +kernel
theorem dX5_init_60 : decode cX5_init 60 = .ok (.putfield 36, 3) := by decide +kernel
theorem dX5_init_63 : decode cX5_init 63 = .ok (.aload_n 0, 1) := by decide +kernel
theorem dX5_init_64 : decode cX5_init 64 = .ok (.iconst 0, 1) := by decide +kernel
theorem dX5_init_65 : decode cX5_init 65 = .ok (.putfield 40, 3) := by decide +kernel
theorem dX5_init_68 : decode cX5_init 68 = .ok (.aload_n 0, 1) := by decide +kernel
theorem dX5_init_69 : decode cX5_init 69 = .ok (.iconst 0, 1) := by decide +kernel
theorem dX5_init_70 : decode cX5_init 70 = .ok (.putfield 43, 3) := by decide +kernel
theorem dX5_init_73 : decode cX5_init 73 = .ok (.aload_n 0, 1) := by decide +kernel
theorem dX5_init_74 : decode cX5_init 74 = .ok (.aload_n 1, 1) := by decide +kernel
theorem dX5_init_75 : decode cX5_init 75 = .ok (.putfield 46, 3) := by decide +kernel
theorem dX5_init_78 : decode cX5_init 78 = .ok (.return_, 1) := by decide +kernel
theorem dX5_begin_0 : decode cX5_begin 0 = .ok (.aload_n 0, 1) := by decide +kernel
theorem dX5_begin_1 : decode cX5_begin 1 = .ok (.aload_n 1, 1) := by decide +kernel
theorem dX5_begin_2 : decode cX5_begin 2 = .ok (.putfield 46, 3) := by decide +kernel
theorem dX5_begin_5 : decode cX5_begin 5 = .ok (.aload_n 0, 1) := by decide +kernel
theorem dX5_begin_6 : decode cX5_begin 6 = .ok (.iconst 0, 1) := by decide +kernel
theorem dX5_begin_7 : decode cX5_begin 7 = .ok (.putfield 36, 3) := by decide +kernel
theorem dX5_begin_10 : decode cX5_begin 10 = .ok (.aload_n 0, 1) := by decide +kernel
theorem dX5_begin_11 : decode cX5_begin 11 = .ok (.iconst 0, 1) := by decide +kernel
theorem dX5_begin_12 : decode cX5_begin 12 = .ok (.putfield 40, 3) := by decide +kernel
theorem dX5_begin_15 : decode cX5_begin 15 = .ok (.aload_n 0, 1) := by decide +kernel
theorem dX5_begin_16 : decode cX5_begin 16 = .ok (.iconst 0, 1) := by decide +kernel
theorem dX5_begin_17 : decode cX5_begin 17 = .ok (.putfield 43, 3) := by decide +kernel
theorem dX5_begin_20 : decode cX5_begin 20 = .ok (.aload_n 0, 1) := by decide +kernel
theorem dX5_begin_21 : decode cX5_begin 21 = .ok (.getfield 46, 3) := by decide +kernel
theorem dX5_begin_24 : decode cX5_begin 24 = .ok (.iload_n 2, 1) := by decide +kernel
theorem dX5_begin_25 : decode cX5_begin 25 = .ok (.aload_n 0, 1) := by decide +kernel
theorem dX5_begin_26 : decode cX5_begin 26 = .ok (.getfield 11, 3) := by decide +kernel
theorem dX5_begin_29 : decode cX5_begin 29 = .ok (.invokevirtual 50, 3) := by decide +kernel
theorem dX5_begin_32 : decode cX5_begin 32 = .ok (.return_, 1) := by decide +kernel
theorem dX5_tierOf_0 : decode cX5_tierOf 0 = .ok (.aload_n 0, 1) := by decide +kernel
theorem dX5_tierOf_1 : decode cX5_tierOf 1 = .ok (.getfield 46, 3) := by decide +kernel
theorem dX5_tierOf_4 : decode cX5_tierOf 4 = .ok (.aload_n 0, 1) := by decide +kernel
theorem dX5_tierOf_5 : decode cX5_tierOf 5 = .ok (.getfield 11, 3) := by decide +kernel
theorem dX5_tierOf_8 : decode cX5_tierOf 8 = .ok (.iload_n 1, 1) := by decide +kernel
theorem dX5_tierOf_9 : decode cX5_tierOf 9 = .ok (.invokevirtual 54, 3) := by decide +kernel
theorem dX5_tierOf_12 : decode cX5_tierOf 12 = .ok (.ireturn, 1) := by decide +kernel
theorem dX5_spanAt_0 : decode cX5_spanAt 0 = .ok (.aload_n 0, 1) := by decide +kernel
theorem dX5_spanAt_1 : decode cX5_spanAt 1 = .ok (.aload_n 0, 1) := by decide +kernel
theorem dX5_spanAt_2 : decode cX5_spanAt 2 = .ok (.getfield 20, 3) := by decide +kernel
theorem dX5_spanAt_5 : decode cX5_spanAt 5 = .ok (.iload_n 1, 1) := by decide +kernel
theorem dX5_spanAt_6 : decode cX5_spanAt 6 = .ok (.iaload, 1) := by decide +kernel
theorem dX5_spanAt_7 : decode cX5_spanAt 7 = .ok (.invokevirtual 58, 3) := by decide +kernel
theorem dX5_spanAt_10 : decode cX5_spanAt 10 = .ok (.istore_n 2, 1) := by decide +kernel
theorem dX5_spanAt_11 : decode cX5_spanAt 11 = .ok (.iload_n 2, 1) := by decide +kernel
theorem dX5_spanAt_12 : decode cX5_spanAt 12 = .ok (.iconst (-1), 1) := by decide +kernel
theorem dX5_spanAt_13 : decode cX5_spanAt 13 = .ok (.if_icmp .ne 7, 3) := by decide +kernel
theorem dX5_spanAt_16 : decode cX5_spanAt 16 = .ok (.iconst 1, 1) := by decide +kernel
theorem dX5_spanAt_17 : decode cX5_spanAt 17 = .ok (.goto 12, 3) := by decide +kernel
theorem dX5_spanAt_20 : decode cX5_spanAt 20 = .ok (.aload_n 0, 1) := by decide +kernel
theorem dX5_spanAt_21 : decode cX5_spanAt 21 = .ok (.getfield 46, 3) := by decide +kernel
theorem dX5_spanAt_24 : decode cX5_spanAt 24 = .ok (.getfield 62, 3) := by decide +kernel
theorem dX5_spanAt_27 : decode cX5_spanAt 27 = .ok (.iload_n 2, 1) := by decide +kernel
theorem dX5_spanAt_28 : decode cX5_spanAt 28 = .ok (.iaload, 1) := by decide +kernel
theorem dX5_spanAt_29 : decode cX5_spanAt 29 = .ok (.ireturn, 1) := by decide +kernel
theorem dX5_beginOf_0 : decode cX5_beginOf 0 = .ok (.aload_n 0, 1) := by decide +kernel
theorem dX5_beginOf_1 : decode cX5_beginOf 1 = .ok (.aload_n 0, 1) := by decide +kernel
theorem dX5_beginOf_2 : decode cX5_beginOf 2 = .ok (.getfield 11, 3) := by decide +kernel
theorem dX5_beginOf_5 : decode cX5_beginOf 5 = .ok (.iload_n 1, 1) := by decide +kernel
theorem dX5_beginOf_6 : decode cX5_beginOf 6 = .ok (.iaload, 1) := by decide +kernel
theorem dX5_beginOf_7 : decode cX5_beginOf 7 = .ok (.invokevirtual 65, 3) := by decide +kernel
theorem dX5_beginOf_10 : decode cX5_beginOf 10 = .ok (.ireturn, 1) := by decide +kernel
theorem dX5_endOf_0 : decode cX5_endOf 0 = .ok (.iload_n 1, 1) := by decide +kernel
theorem dX5_endOf_1 : decode cX5_endOf 1 = .ok (.ifCond .ne 10, 3) := by decide +kernel
theorem dX5_endOf_4 : decode cX5_endOf 4 = .ok (.aload_n 0, 1) := by decide +kernel
theorem dX5_endOf_5 : decode cX5_endOf 5 = .ok (.getfield 36, 3) := by decide +kernel
theorem dX5_endOf_8 : decode cX5_endOf 8 = .ok (.goto 15, 3) := by decide +kernel
theorem dX5_endOf_11 : decode cX5_endOf 11 = .ok (.aload_n 0, 1) := by decide +kernel
theorem dX5_endOf_12 : decode cX5_endOf 12 = .ok (.aload_n 0, 1) := by decide +kernel
theorem dX5_endOf_13 : decode cX5_endOf 13 = .ok (.getfield 11, 3) := by decide +kernel
theorem dX5_endOf_16 : decode cX5_endOf 16 = .ok (.iload_n 1, 1) := by decide +kernel
theorem dX5_endOf_17 : decode cX5_endOf 17 = .ok (.iconst 1, 1) := by decide +kernel
theorem dX5_endOf_18 : decode cX5_endOf 18 = .ok (.isub, 1) := by decide +kernel
theorem dX5_endOf_19 : decode cX5_endOf 19 = .ok (.iaload, 1) := by decide +kernel
theorem dX5_endOf_20 : decode cX5_endOf 20 = .ok (.invokevirtual 65, 3) := by decide +kernel
theorem dX5_endOf_23 : decode cX5_endOf 23 = .ok (.ireturn, 1) := by decide +kernel
theorem dX5_firstFrom_0 : decode cX5_firstFrom 0 = .ok (.iconst 0, 1) := by decide +kernel
theorem dX5_firstFrom_1 : decode cX5_firstFrom 1 = .ok (.istore_n 2, 1) := by decide +kernel
theorem dX5_firstFrom_2 : decode cX5_firstFrom 2 = .ok (.aload_n 0, 1) := by decide +kernel
theorem dX5_firstFrom_3 : decode cX5_firstFrom 3 = .ok (.getfield 36, 3) := by decide +kernel
theorem dX5_firstFrom_6 : decode cX5_firstFrom 6 = .ok (.istore_n 3, 1) := by decide +kernel
theorem dX5_firstFrom_7 : decode cX5_firstFrom 7 = .ok (.iload_n 2, 1) := by decide +kernel
theorem dX5_firstFrom_8 : decode cX5_firstFrom 8 = .ok (.iload_n 3, 1) := by decide +kernel
theorem dX5_firstFrom_9 : decode cX5_firstFrom 9 = .ok (.if_icmp .ge 35, 3) := by decide +kernel
theorem dX5_firstFrom_12 : decode cX5_firstFrom 12 = .ok (.iload_n 2, 1) := by decide +kernel
theorem dX5_firstFrom_13 : decode cX5_firstFrom 13 = .ok (.iload_n 3, 1) := by decide +kernel
theorem dX5_firstFrom_14 : decode cX5_firstFrom 14 = .ok (.iadd, 1) := by decide +kernel
theorem dX5_firstFrom_15 : decode cX5_firstFrom 15 = .ok (.iconst 1, 1) := by decide +kernel
theorem dX5_firstFrom_16 : decode cX5_firstFrom 16 = .ok (.iushr, 1) := by decide +kernel
theorem dX5_firstFrom_17 : decode cX5_firstFrom 17 = .ok (.istore 4, 2) := by decide +kernel
theorem dX5_firstFrom_19 : decode cX5_firstFrom 19 = .ok (.aload_n 0, 1) := by decide +kernel
theorem dX5_firstFrom_20 : decode cX5_firstFrom 20 = .ok (.getfield 20, 3) := by decide +kernel
theorem dX5_firstFrom_23 : decode cX5_firstFrom 23 = .ok (.iload 4, 2) := by decide +kernel
theorem dX5_firstFrom_25 : decode cX5_firstFrom 25 = .ok (.iaload, 1) := by decide +kernel
theorem dX5_firstFrom_26 : decode cX5_firstFrom 26 = .ok (.iload_n 1, 1) := by decide +kernel
theorem dX5_firstFrom_27 : decode cX5_firstFrom 27 = .ok (.if_icmp .ge 11, 3) := by decide +kernel
theorem dX5_firstFrom_30 : decode cX5_firstFrom 30 = .ok (.iload 4, 2) := by decide +kernel
theorem dX5_firstFrom_32 : decode cX5_firstFrom 32 = .ok (.iconst 1, 1) := by decide +kernel
theorem dX5_firstFrom_33 : decode cX5_firstFrom 33 = .ok (.iadd, 1) := by decide +kernel
theorem dX5_firstFrom_34 : decode cX5_firstFrom 34 = .ok (.istore_n 2, 1) := by decide +kernel
theorem dX5_firstFrom_35 : decode cX5_firstFrom 35 = .ok (.goto 6, 3) := by decide +kernel
theorem dX5_firstFrom_38 : decode cX5_firstFrom 38 = .ok (.iload 4, 2) := by decide +kernel
theorem dX5_firstFrom_40 : decode cX5_firstFrom 40 = .ok (.istore_n 3, 1) := by decide +kernel
theorem dX5_firstFrom_41 : decode cX5_firstFrom 41 = .ok (.goto (-34), 3) := by decide +kernel
theorem dX5_firstFrom_44 : decode cX5_firstFrom 44 = .ok (.iload_n 2, 1) := by decide +kernel
theorem dX5_firstFrom_45 : decode cX5_firstFrom 45 = .ok (.ireturn, 1) := by decide +kernel
theorem dX5_hasStart_0 : decode cX5_hasStart 0 = .ok (.iload_n 1, 1) := by decide +kernel
theorem dX5_hasStart_1 : decode cX5_hasStart 1 = .ok (.aload_n 0, 1) := by decide +kernel
theorem dX5_hasStart_2 : decode cX5_hasStart 2 = .ok (.getfield 36, 3) := by decide +kernel
theorem dX5_hasStart_5 : decode cX5_hasStart 5 = .ok (.if_icmp .ge 17, 3) := by decide +kernel
theorem dX5_hasStart_8 : decode cX5_hasStart 8 = .ok (.aload_n 0, 1) := by decide +kernel
theorem dX5_hasStart_9 : decode cX5_hasStart 9 = .ok (.getfield 20, 3) := by decide +kernel
theorem dX5_hasStart_12 : decode cX5_hasStart 12 = .ok (.iload_n 1, 1) := by decide +kernel
theorem dX5_hasStart_13 : decode cX5_hasStart 13 = .ok (.iaload, 1) := by decide +kernel
theorem dX5_hasStart_14 : decode cX5_hasStart 14 = .ok (.iload_n 2, 1) := by decide +kernel
theorem dX5_hasStart_15 : decode cX5_hasStart 15 = .ok (.if_icmp .ne 7, 3) := by decide +kernel
theorem dX5_hasStart_18 : decode cX5_hasStart 18 = .ok (.iconst 1, 1) := by decide +kernel
theorem dX5_hasStart_19 : decode cX5_hasStart 19 = .ok (.goto 4, 3) := by decide +kernel
theorem dX5_hasStart_22 : decode cX5_hasStart 22 = .ok (.iconst 0, 1) := by decide +kernel
theorem dX5_hasStart_23 : decode cX5_hasStart 23 = .ok (.ireturn, 1) := by decide +kernel
theorem dX5_pointsFrom_0 : decode cX5_pointsFrom 0 = .ok (.aload_n 0, 1) := by decide +kernel
theorem dX5_pointsFrom_1 : decode cX5_pointsFrom 1 = .ok (.iload_n 1, 1) := by decide +kernel
theorem dX5_pointsFrom_2 : decode cX5_pointsFrom 2 = .ok (.invokevirtual 65, 3) := by decide +kernel
theorem dX5_pointsFrom_5 : decode cX5_pointsFrom 5 = .ok (.istore_n 2, 1) := by decide +kernel
theorem dX5_pointsFrom_6 : decode cX5_pointsFrom 6 = .ok (.aload_n 0, 1) := by decide +kernel
theorem dX5_pointsFrom_7 : decode cX5_pointsFrom 7 = .ok (.iload_n 2, 1) := by decide +kernel
theorem dX5_pointsFrom_8 : decode cX5_pointsFrom 8 = .ok (.iload_n 1, 1) := by decide +kernel
theorem dX5_pointsFrom_9 : decode cX5_pointsFrom 9 = .ok (.invokevirtual 68, 3) := by decide +kernel
theorem dX5_pointsFrom_12 : decode cX5_pointsFrom 12 = .ok (.ifCond .eq 12, 3) := by decide +kernel
theorem dX5_pointsFrom_15 : decode cX5_pointsFrom 15 = .ok (.aload_n 0, 1) := by decide +kernel
theorem dX5_pointsFrom_16 : decode cX5_pointsFrom 16 = .ok (.getfield 23, 3) := by decide +kernel
theorem dX5_pointsFrom_19 : decode cX5_pointsFrom 19 = .ok (.iload_n 2, 1) := by decide +kernel
theorem dX5_pointsFrom_20 : decode cX5_pointsFrom 20 = .ok (.iaload, 1) := by decide +kernel
theorem dX5_pointsFrom_21 : decode cX5_pointsFrom 21 = .ok (.goto 4, 3) := by decide +kernel
theorem dX5_pointsFrom_24 : decode cX5_pointsFrom 24 = .ok (.iconst 0, 1) := by decide +kernel
theorem dX5_pointsFrom_25 : decode cX5_pointsFrom 25 = .ok (.ireturn, 1) := by decide +kernel
theorem dX5_mean_0 : decode cX5_mean 0 = .ok (.aload_n 0, 1) := by decide +kernel
theorem dX5_mean_1 : decode cX5_mean 1 = .ok (.getfield 26, 3) := by decide +kernel
theorem dX5_mean_4 : decode cX5_mean 4 = .ok (.iload_n 1, 1) := by decide +kernel
theorem dX5_mean_5 : decode cX5_mean 5 = .ok (.laload, 1) := by decide +kernel
theorem dX5_mean_6 : decode cX5_mean 6 = .ok (.aload_n 0, 1) := by decide +kernel
theorem dX5_mean_7 : decode cX5_mean 7 = .ok (.getfield 23, 3) := by decide +kernel
theorem dX5_mean_10 : decode cX5_mean 10 = .ok (.iload_n 1, 1) := by decide +kernel
theorem dX5_mean_11 : decode cX5_mean 11 = .ok (.iaload, 1) := by decide +kernel
theorem dX5_mean_12 : decode cX5_mean 12 = .ok (.invokestatic 72, 3) := by decide +kernel
theorem dX5_mean_15 : decode cX5_mean 15 = .ok (.ireturn, 1) := by decide +kernel
theorem dX5_fact_0 : decode cX5_fact 0 = .ok (.iload_n 2, 1) := by decide +kernel
theorem dX5_fact_1 : decode cX5_fact 1 = .ok (.tableswitch 74 0 4 #[35, 43, 51, 58, 66], 35) := by decide +kernel
theorem dX5_fact_36 : decode cX5_fact 36 = .ok (.aload_n 0, 1) := by decide +kernel
theorem dX5_fact_37 : decode cX5_fact 37 = .ok (.getfield 20, 3) := by decide +kernel
theorem dX5_fact_40 : decode cX5_fact 40 = .ok (.iload_n 1, 1) := by decide +kernel
theorem dX5_fact_41 : decode cX5_fact 41 = .ok (.iaload, 1) := by decide +kernel
theorem dX5_fact_42 : decode cX5_fact 42 = .ok (.i2l, 1) := by decide +kernel
theorem dX5_fact_43 : decode cX5_fact 43 = .ok (.lreturn, 1) := by decide +kernel
theorem dX5_fact_44 : decode cX5_fact 44 = .ok (.aload_n 0, 1) := by decide +kernel
theorem dX5_fact_45 : decode cX5_fact 45 = .ok (.getfield 23, 3) := by decide +kernel
theorem dX5_fact_48 : decode cX5_fact 48 = .ok (.iload_n 1, 1) := by decide +kernel
theorem dX5_fact_49 : decode cX5_fact 49 = .ok (.iaload, 1) := by decide +kernel
theorem dX5_fact_50 : decode cX5_fact 50 = .ok (.i2l, 1) := by decide +kernel
theorem dX5_fact_51 : decode cX5_fact 51 = .ok (.lreturn, 1) := by decide +kernel
theorem dX5_fact_52 : decode cX5_fact 52 = .ok (.aload_n 0, 1) := by decide +kernel
theorem dX5_fact_53 : decode cX5_fact 53 = .ok (.getfield 26, 3) := by decide +kernel
theorem dX5_fact_56 : decode cX5_fact 56 = .ok (.iload_n 1, 1) := by decide +kernel
theorem dX5_fact_57 : decode cX5_fact 57 = .ok (.laload, 1) := by decide +kernel
theorem dX5_fact_58 : decode cX5_fact 58 = .ok (.lreturn, 1) := by decide +kernel
theorem dX5_fact_59 : decode cX5_fact 59 = .ok (.aload_n 0, 1) := by decide +kernel
theorem dX5_fact_60 : decode cX5_fact 60 = .ok (.getfield 30, 3) := by decide +kernel
theorem dX5_fact_63 : decode cX5_fact 63 = .ok (.iload_n 1, 1) := by decide +kernel
theorem dX5_fact_64 : decode cX5_fact 64 = .ok (.iaload, 1) := by decide +kernel
theorem dX5_fact_65 : decode cX5_fact 65 = .ok (.i2l, 1) := by decide +kernel
theorem dX5_fact_66 : decode cX5_fact 66 = .ok (.lreturn, 1) := by decide +kernel
theorem dX5_fact_67 : decode cX5_fact 67 = .ok (.aload_n 0, 1) := by decide +kernel
theorem dX5_fact_68 : decode cX5_fact 68 = .ok (.getfield 33, 3) := by decide +kernel
theorem dX5_fact_71 : decode cX5_fact 71 = .ok (.iload_n 1, 1) := by decide +kernel
theorem dX5_fact_72 : decode cX5_fact 72 = .ok (.iaload, 1) := by decide +kernel
theorem dX5_fact_73 : decode cX5_fact 73 = .ok (.i2l, 1) := by decide +kernel
theorem dX5_fact_74 : decode cX5_fact 74 = .ok (.lreturn, 1) := by decide +kernel
theorem dX5_fact_75 : decode cX5_fact 75 = .ok (.aload_n 0, 1) := by decide +kernel
theorem dX5_fact_76 : decode cX5_fact 76 = .ok (.iload_n 1, 1) := by decide +kernel
theorem dX5_fact_77 : decode cX5_fact 77 = .ok (.invokevirtual 76, 3) := by decide +kernel
theorem dX5_fact_80 : decode cX5_fact 80 = .ok (.i2l, 1) := by decide +kernel
theorem dX5_fact_81 : decode cX5_fact 81 = .ok (.lreturn, 1) := by decide +kernel
theorem dX5_add_0 : decode cX5_add 0 = .ok (.aload_n 0, 1) := by decide +kernel
theorem dX5_add_1 : decode cX5_add 1 = .ok (.iload_n 1, 1) := by decide +kernel
theorem dX5_add_2 : decode cX5_add 2 = .ok (.invokevirtual 58, 3) := by decide +kernel
theorem dX5_add_5 : decode cX5_add 5 = .ok (.istore_n 3, 1) := by decide +kernel
theorem dX5_add_6 : decode cX5_add 6 = .ok (.iload_n 3, 1) := by decide +kernel
theorem dX5_add_7 : decode cX5_add 7 = .ok (.iconst (-1), 1) := by decide +kernel
theorem dX5_add_8 : decode cX5_add 8 = .ok (.if_icmp .ne 4, 3) := by decide +kernel
theorem dX5_add_11 : decode cX5_add 11 = .ok (.return_, 1) := by decide +kernel
theorem dX5_add_12 : decode cX5_add 12 = .ok (.iload_n 1, 1) := by decide +kernel
theorem dX5_add_13 : decode cX5_add 13 = .ok (.aload_n 0, 1) := by decide +kernel
theorem dX5_add_14 : decode cX5_add 14 = .ok (.getfield 46, 3) := by decide +kernel
theorem dX5_add_17 : decode cX5_add 17 = .ok (.getfield 62, 3) := by decide +kernel
theorem dX5_add_20 : decode cX5_add 20 = .ok (.iload_n 3, 1) := by decide +kernel
theorem dX5_add_21 : decode cX5_add 21 = .ok (.iaload, 1) := by decide +kernel
theorem dX5_add_22 : decode cX5_add 22 = .ok (.invokestatic 79, 3) := by decide +kernel
theorem dX5_add_25 : decode cX5_add 25 = .ok (.istore 4, 2) := by decide +kernel
theorem dX5_add_27 : decode cX5_add 27 = .ok (.aload_n 0, 1) := by decide +kernel
theorem dX5_add_28 : decode cX5_add 28 = .ok (.iload 4, 2) := by decide +kernel
theorem dX5_add_30 : decode cX5_add 30 = .ok (.invokevirtual 65, 3) := by decide +kernel
theorem dX5_add_33 : decode cX5_add 33 = .ok (.istore 5, 2) := by decide +kernel
theorem dX5_add_35 : decode cX5_add 35 = .ok (.aload_n 0, 1) := by decide +kernel
theorem dX5_add_36 : decode cX5_add 36 = .ok (.iload 5, 2) := by decide +kernel
theorem dX5_add_38 : decode cX5_add 38 = .ok (.iload 4, 2) := by decide +kernel
theorem dX5_add_40 : decode cX5_add 40 = .ok (.invokevirtual 68, 3) := by decide +kernel
theorem dX5_add_43 : decode cX5_add 43 = .ok (.ifCond .ne 20, 3) := by decide +kernel
theorem dX5_add_46 : decode cX5_add 46 = .ok (.aload_n 0, 1) := by decide +kernel
theorem dX5_add_47 : decode cX5_add 47 = .ok (.invokevirtual 83, 3) := by decide +kernel
theorem dX5_add_50 : decode cX5_add 50 = .ok (.ifCond .ne 4, 3) := by decide +kernel
theorem dX5_add_53 : decode cX5_add 53 = .ok (.return_, 1) := by decide +kernel
theorem dX5_add_54 : decode cX5_add 54 = .ok (.aload_n 0, 1) := by decide +kernel
theorem dX5_add_55 : decode cX5_add 55 = .ok (.iload 5, 2) := by decide +kernel
theorem dX5_add_57 : decode cX5_add 57 = .ok (.iload 4, 2) := by decide +kernel
theorem dX5_add_59 : decode cX5_add 59 = .ok (.iload_n 2, 1) := by decide +kernel
theorem dX5_add_60 : decode cX5_add 60 = .ok (.invokevirtual 87, 3) := by decide +kernel
theorem dX5_add_63 : decode cX5_add 63 = .ok (.aload_n 0, 1) := by decide +kernel
theorem dX5_add_64 : decode cX5_add 64 = .ok (.getfield 23, 3) := by decide +kernel
theorem dX5_add_67 : decode cX5_add 67 = .ok (.iload 5, 2) := by decide +kernel
theorem dX5_add_69 : decode cX5_add 69 = .ok (.dup2, 1) := by decide +kernel
theorem dX5_add_70 : decode cX5_add 70 = .ok (.iaload, 1) := by decide +kernel
theorem dX5_add_71 : decode cX5_add 71 = .ok (.iconst 1, 1) := by decide +kernel
theorem dX5_add_72 : decode cX5_add 72 = .ok (.iadd, 1) := by decide +kernel
theorem dX5_add_73 : decode cX5_add 73 = .ok (.iastore, 1) := by decide +kernel
theorem dX5_add_74 : decode cX5_add 74 = .ok (.aload_n 0, 1) := by decide +kernel
theorem dX5_add_75 : decode cX5_add 75 = .ok (.getfield 26, 3) := by decide +kernel
theorem dX5_add_78 : decode cX5_add 78 = .ok (.iload 5, 2) := by decide +kernel
theorem dX5_add_80 : decode cX5_add 80 = .ok (.dup2, 1) := by decide +kernel
theorem dX5_add_81 : decode cX5_add 81 = .ok (.laload, 1) := by decide +kernel
theorem dX5_add_82 : decode cX5_add 82 = .ok (.iload_n 2, 1) := by decide +kernel
theorem dX5_add_83 : decode cX5_add 83 = .ok (.i2l, 1) := by decide +kernel
theorem dX5_add_84 : decode cX5_add 84 = .ok (.ladd, 1) := by decide +kernel
theorem dX5_add_85 : decode cX5_add 85 = .ok (.lastore, 1) := by decide +kernel
theorem dX5_add_86 : decode cX5_add 86 = .ok (.aload_n 0, 1) := by decide +kernel
theorem dX5_add_87 : decode cX5_add 87 = .ok (.getfield 30, 3) := by decide +kernel
theorem dX5_add_90 : decode cX5_add 90 = .ok (.iload 5, 2) := by decide +kernel
theorem dX5_add_92 : decode cX5_add 92 = .ok (.aload_n 0, 1) := by decide +kernel
theorem dX5_add_93 : decode cX5_add 93 = .ok (.getfield 30, 3) := by decide +kernel
theorem dX5_add_96 : decode cX5_add 96 = .ok (.iload 5, 2) := by decide +kernel
theorem dX5_add_98 : decode cX5_add 98 = .ok (.iaload, 1) := by decide +kernel
theorem dX5_add_99 : decode cX5_add 99 = .ok (.iload_n 2, 1) := by decide +kernel
theorem dX5_add_100 : decode cX5_add 100 = .ok (.invokestatic 91, 3) := by decide +kernel
theorem dX5_add_103 : decode cX5_add 103 = .ok (.iastore, 1) := by decide +kernel
theorem dX5_add_104 : decode cX5_add 104 = .ok (.aload_n 0, 1) := by decide +kernel
theorem dX5_add_105 : decode cX5_add 105 = .ok (.getfield 33, 3) := by decide +kernel
theorem dX5_add_108 : decode cX5_add 108 = .ok (.iload 5, 2) := by decide +kernel
theorem dX5_add_110 : decode cX5_add 110 = .ok (.aload_n 0, 1) := by decide +kernel
theorem dX5_add_111 : decode cX5_add 111 = .ok (.getfield 33, 3) := by decide +kernel
theorem dX5_add_114 : decode cX5_add 114 = .ok (.iload 5, 2) := by decide +kernel
theorem dX5_add_116 : decode cX5_add 116 = .ok (.iaload, 1) := by decide +kernel
theorem dX5_add_117 : decode cX5_add 117 = .ok (.iload_n 2, 1) := by decide +kernel
theorem dX5_add_118 : decode cX5_add 118 = .ok (.invokestatic 96, 3) := by decide +kernel
theorem dX5_add_121 : decode cX5_add 121 = .ok (.iastore, 1) := by decide +kernel
theorem dX5_add_122 : decode cX5_add 122 = .ok (.return_, 1) := by decide +kernel
theorem dX5_moveTo_0 : decode cX5_moveTo 0 = .ok (.aload_n 0, 1) := by decide +kernel
theorem dX5_moveTo_1 : decode cX5_moveTo 1 = .ok (.getfield 46, 3) := by decide +kernel
theorem dX5_moveTo_4 : decode cX5_moveTo 4 = .ok (.iload_n 1, 1) := by decide +kernel
theorem dX5_moveTo_5 : decode cX5_moveTo 5 = .ok (.aload_n 0, 1) := by decide +kernel
theorem dX5_moveTo_6 : decode cX5_moveTo 6 = .ok (.getfield 17, 3) := by decide +kernel
theorem dX5_moveTo_9 : decode cX5_moveTo 9 = .ok (.invokevirtual 50, 3) := by decide +kernel
theorem dX5_moveTo_12 : decode cX5_moveTo 12 = .ok (.aload_n 0, 1) := by decide +kernel
theorem dX5_moveTo_13 : decode cX5_moveTo 13 = .ok (.getfield 17, 3) := by decide +kernel
theorem dX5_moveTo_16 : decode cX5_moveTo 16 = .ok (.iconst 0, 1) := by decide +kernel
theorem dX5_moveTo_17 : decode cX5_moveTo 17 = .ok (.iaload, 1) := by decide +kernel
theorem dX5_moveTo_18 : decode cX5_moveTo 18 = .ok (.aload_n 0, 1) := by decide +kernel
theorem dX5_moveTo_19 : decode cX5_moveTo 19 = .ok (.getfield 11, 3) := by decide +kernel
theorem dX5_moveTo_22 : decode cX5_moveTo 22 = .ok (.iconst 0, 1) := by decide +kernel
theorem dX5_moveTo_23 : decode cX5_moveTo 23 = .ok (.iaload, 1) := by decide +kernel
theorem dX5_moveTo_24 : decode cX5_moveTo 24 = .ok (.if_icmp .ne 5, 3) := by decide +kernel
theorem dX5_moveTo_27 : decode cX5_moveTo 27 = .ok (.iconst 0, 1) := by decide +kernel
theorem dX5_moveTo_28 : decode cX5_moveTo 28 = .ok (.ireturn, 1) := by decide +kernel
theorem dX5_moveTo_29 : decode cX5_moveTo 29 = .ok (.aload_n 0, 1) := by decide +kernel
theorem dX5_moveTo_30 : decode cX5_moveTo 30 = .ok (.getfield 17, 3) := by decide +kernel
theorem dX5_moveTo_33 : decode cX5_moveTo 33 = .ok (.iconst 0, 1) := by decide +kernel
theorem dX5_moveTo_34 : decode cX5_moveTo 34 = .ok (.aload_n 0, 1) := by decide +kernel
theorem dX5_moveTo_35 : decode cX5_moveTo 35 = .ok (.getfield 11, 3) := by decide +kernel
theorem dX5_moveTo_38 : decode cX5_moveTo 38 = .ok (.iconst 0, 1) := by decide +kernel
theorem dX5_moveTo_39 : decode cX5_moveTo 39 = .ok (.aload_n 0, 1) := by decide +kernel
theorem dX5_moveTo_40 : decode cX5_moveTo 40 = .ok (.getfield 11, 3) := by decide +kernel
theorem dX5_moveTo_43 : decode cX5_moveTo 43 = .ok (.arraylength, 1) := by decide +kernel
theorem dX5_moveTo_44 : decode cX5_moveTo 44 = .ok (.invokestatic 99, 3) := by decide +kernel
theorem dX5_moveTo_47 : decode cX5_moveTo 47 = .ok (.iconst 0, 1) := by decide +kernel
theorem dX5_moveTo_48 : decode cX5_moveTo 48 = .ok (.istore_n 2, 1) := by decide +kernel
theorem dX5_moveTo_49 : decode cX5_moveTo 49 = .ok (.iconst 0, 1) := by decide +kernel
theorem dX5_moveTo_50 : decode cX5_moveTo 50 = .ok (.istore_n 3, 1) := by decide +kernel
theorem dX5_moveTo_51 : decode cX5_moveTo 51 = .ok (.iconst 0, 1) := by decide +kernel
theorem dX5_moveTo_52 : decode cX5_moveTo 52 = .ok (.istore 4, 2) := by decide +kernel
theorem dX5_moveTo_54 : decode cX5_moveTo 54 = .ok (.iload 4, 2) := by decide +kernel
theorem dX5_moveTo_56 : decode cX5_moveTo 56 = .ok (.aload_n 0, 1) := by decide +kernel
theorem dX5_moveTo_57 : decode cX5_moveTo 57 = .ok (.getfield 36, 3) := by decide +kernel
theorem dX5_moveTo_60 : decode cX5_moveTo 60 = .ok (.if_icmp .ge 104, 3) := by decide +kernel
theorem dX5_moveTo_63 : decode cX5_moveTo 63 = .ok (.aload_n 0, 1) := by decide +kernel
theorem dX5_moveTo_64 : decode cX5_moveTo 64 = .ok (.aload_n 0, 1) := by decide +kernel
theorem dX5_moveTo_65 : decode cX5_moveTo 65 = .ok (.getfield 20, 3) := by decide +kernel
theorem dX5_moveTo_68 : decode cX5_moveTo 68 = .ok (.iload 4, 2) := by decide +kernel
theorem dX5_moveTo_70 : decode cX5_moveTo 70 = .ok (.iaload, 1) := by decide +kernel
theorem dX5_moveTo_71 : decode cX5_moveTo 71 = .ok (.invokevirtual 58, 3) := by decide +kernel
theorem dX5_moveTo_74 : decode cX5_moveTo 74 = .ok (.istore 5, 2) := by decide +kernel
theorem dX5_moveTo_76 : decode cX5_moveTo 76 = .ok (.iload 5, 2) := by decide +kernel
theorem dX5_moveTo_78 : decode cX5_moveTo 78 = .ok (.iconst (-1), 1) := by decide +kernel
theorem dX5_moveTo_79 : decode cX5_moveTo 79 = .ok (.if_icmp .ne 16, 3) := by decide +kernel
theorem dX5_moveTo_82 : decode cX5_moveTo 82 = .ok (.iload_n 3, 1) := by decide +kernel
theorem dX5_moveTo_83 : decode cX5_moveTo 83 = .ok (.aload_n 0, 1) := by decide +kernel
theorem dX5_moveTo_84 : decode cX5_moveTo 84 = .ok (.getfield 23, 3) := by decide +kernel
theorem dX5_moveTo_87 : decode cX5_moveTo 87 = .ok (.iload 4, 2) := by decide +kernel
theorem dX5_moveTo_89 : decode cX5_moveTo 89 = .ok (.iaload, 1) := by decide +kernel
theorem dX5_moveTo_90 : decode cX5_moveTo 90 = .ok (.iadd, 1) := by decide +kernel
theorem dX5_moveTo_91 : decode cX5_moveTo 91 = .ok (.istore_n 3, 1) := by decide +kernel
theorem dX5_moveTo_92 : decode cX5_moveTo 92 = .ok (.goto 66, 3) := by decide +kernel
theorem dX5_moveTo_95 : decode cX5_moveTo 95 = .ok (.aload_n 0, 1) := by decide +kernel
theorem dX5_moveTo_96 : decode cX5_moveTo 96 = .ok (.getfield 20, 3) := by decide +kernel
theorem dX5_moveTo_99 : decode cX5_moveTo 99 = .ok (.iload 4, 2) := by decide +kernel
theorem dX5_moveTo_101 : decode cX5_moveTo 101 = .ok (.iaload, 1) := by decide +kernel
theorem dX5_moveTo_102 : decode cX5_moveTo 102 = .ok (.aload_n 0, 1) := by decide +kernel
theorem dX5_moveTo_103 : decode cX5_moveTo 103 = .ok (.getfield 46, 3) := by decide +kernel
theorem dX5_moveTo_106 : decode cX5_moveTo 106 = .ok (.getfield 62, 3) := by decide +kernel
theorem dX5_moveTo_109 : decode cX5_moveTo 109 = .ok (.iload 5, 2) := by decide +kernel
theorem dX5_moveTo_111 : decode cX5_moveTo 111 = .ok (.iaload, 1) := by decide +kernel
theorem dX5_moveTo_112 : decode cX5_moveTo 112 = .ok (.invokestatic 79, 3) := by decide +kernel
theorem dX5_moveTo_115 : decode cX5_moveTo 115 = .ok (.istore 6, 2) := by decide +kernel
theorem dX5_moveTo_117 : decode cX5_moveTo 117 = .ok (.iload_n 2, 1) := by decide +kernel
theorem dX5_moveTo_118 : decode cX5_moveTo 118 = .ok (.ifCond .le 28, 3) := by decide +kernel
theorem dX5_moveTo_121 : decode cX5_moveTo 121 = .ok (.aload_n 0, 1) := by decide +kernel
theorem dX5_moveTo_122 : decode cX5_moveTo 122 = .ok (.getfield 20, 3) := by decide +kernel
theorem dX5_moveTo_125 : decode cX5_moveTo 125 = .ok (.iload_n 2, 1) := by decide +kernel
theorem dX5_moveTo_126 : decode cX5_moveTo 126 = .ok (.iconst 1, 1) := by decide +kernel
theorem dX5_moveTo_127 : decode cX5_moveTo 127 = .ok (.isub, 1) := by decide +kernel
theorem dX5_moveTo_128 : decode cX5_moveTo 128 = .ok (.iaload, 1) := by decide +kernel
theorem dX5_moveTo_129 : decode cX5_moveTo 129 = .ok (.iload 6, 2) := by decide +kernel
theorem dX5_moveTo_131 : decode cX5_moveTo 131 = .ok (.if_icmp .ne 15, 3) := by decide +kernel
theorem dX5_moveTo_134 : decode cX5_moveTo 134 = .ok (.aload_n 0, 1) := by decide +kernel
theorem dX5_moveTo_135 : decode cX5_moveTo 135 = .ok (.iload 4, 2) := by decide +kernel
theorem dX5_moveTo_137 : decode cX5_moveTo 137 = .ok (.iload_n 2, 1) := by decide +kernel
theorem dX5_moveTo_138 : decode cX5_moveTo 138 = .ok (.iconst 1, 1) := by decide +kernel
theorem dX5_moveTo_139 : decode cX5_moveTo 139 = .ok (.isub, 1) := by decide +kernel
theorem dX5_moveTo_140 : decode cX5_moveTo 140 = .ok (.invokevirtual 105, 3) := by decide +kernel
theorem dX5_moveTo_143 : decode cX5_moveTo 143 = .ok (.goto 15, 3) := by decide +kernel
theorem dX5_moveTo_146 : decode cX5_moveTo 146 = .ok (.aload_n 0, 1) := by decide +kernel
theorem dX5_moveTo_147 : decode cX5_moveTo 147 = .ok (.iload 4, 2) := by decide +kernel
theorem dX5_moveTo_149 : decode cX5_moveTo 149 = .ok (.iload_n 2, 1) := by decide +kernel
theorem dX5_moveTo_150 : decode cX5_moveTo 150 = .ok (.iload 6, 2) := by decide +kernel
theorem dX5_moveTo_152 : decode cX5_moveTo 152 = .ok (.invokevirtual 109, 3) := by decide +kernel
theorem dX5_moveTo_155 : decode cX5_moveTo 155 = .ok (.iinc 2 1, 3) := by decide +kernel
theorem dX5_moveTo_158 : decode cX5_moveTo 158 = .ok (.iinc 4 1, 3) := by decide +kernel
theorem dX5_moveTo_161 : decode cX5_moveTo 161 = .ok (.goto (-107), 3) := by decide +kernel
theorem dX5_moveTo_164 : decode cX5_moveTo 164 = .ok (.aload_n 0, 1) := by decide +kernel
theorem dX5_moveTo_165 : decode cX5_moveTo 165 = .ok (.iload_n 2, 1) := by decide +kernel
theorem dX5_moveTo_166 : decode cX5_moveTo 166 = .ok (.putfield 36, 3) := by decide +kernel
theorem dX5_moveTo_169 : decode cX5_moveTo 169 = .ok (.aload_n 0, 1) := by decide +kernel
theorem dX5_moveTo_170 : decode cX5_moveTo 170 = .ok (.dup, 1) := by decide +kernel
theorem dX5_moveTo_171 : decode cX5_moveTo 171 = .ok (.getfield 43, 3) := by decide +kernel
theorem dX5_moveTo_174 : decode cX5_moveTo 174 = .ok (.iload_n 3, 1) := by decide +kernel
theorem dX5_moveTo_175 : decode cX5_moveTo 175 = .ok (.iadd, 1) := by decide +kernel
theorem dX5_moveTo_176 : decode cX5_moveTo 176 = .ok (.putfield 43, 3) := by decide +kernel
theorem dX5_moveTo_179 : decode cX5_moveTo 179 = .ok (.iload_n 3, 1) := by decide +kernel
theorem dX5_moveTo_180 : decode cX5_moveTo 180 = .ok (.ireturn, 1) := by decide +kernel
theorem dX5_foresee_0 : decode cX5_foresee 0 = .ok (.aload_n 0, 1) := by decide +kernel
theorem dX5_foresee_1 : decode cX5_foresee 1 = .ok (.getfield 46, 3) := by decide +kernel
theorem dX5_foresee_4 : decode cX5_foresee 4 = .ok (.iload_n 1, 1) := by decide +kernel
theorem dX5_foresee_5 : decode cX5_foresee 5 = .ok (.aload_n 0, 1) := by decide +kernel
theorem dX5_foresee_6 : decode cX5_foresee 6 = .ok (.getfield 17, 3) := by decide +kernel
theorem dX5_foresee_9 : decode cX5_foresee 9 = .ok (.invokevirtual 50, 3) := by decide +kernel
theorem dX5_foresee_12 : decode cX5_foresee 12 = .ok (.iconst 0, 1) := by decide +kernel
theorem dX5_foresee_13 : decode cX5_foresee 13 = .ok (.istore_n 3, 1) := by decide +kernel
theorem dX5_foresee_14 : decode cX5_foresee 14 = .ok (.iconst 0, 1) := by decide +kernel
theorem dX5_foresee_15 : decode cX5_foresee 15 = .ok (.istore 4, 2) := by decide +kernel
theorem dX5_foresee_17 : decode cX5_foresee 17 = .ok (.iconst 0, 1) := by decide +kernel
theorem dX5_foresee_18 : decode cX5_foresee 18 = .ok (.istore 5, 2) := by decide +kernel
theorem dX5_foresee_20 : decode cX5_foresee 20 = .ok (.iconst 0, 1) := by decide +kernel
theorem dX5_foresee_21 : decode cX5_foresee 21 = .ok (.istore 6, 2) := by decide +kernel
theorem dX5_foresee_23 : decode cX5_foresee 23 = .ok (.iconst 0, 1) := by decide +kernel
theorem dX5_foresee_24 : decode cX5_foresee 24 = .ok (.istore 7, 2) := by decide +kernel
theorem dX5_foresee_26 : decode cX5_foresee 26 = .ok (.iload 7, 2) := by decide +kernel
theorem dX5_foresee_28 : decode cX5_foresee 28 = .ok (.aload_n 0, 1) := by decide +kernel
theorem dX5_foresee_29 : decode cX5_foresee 29 = .ok (.getfield 36, 3) := by decide +kernel
theorem dX5_foresee_32 : decode cX5_foresee 32 = .ok (.if_icmp .ge 109, 3) := by decide +kernel
theorem dX5_foresee_35 : decode cX5_foresee 35 = .ok (.aload_n 0, 1) := by decide +kernel
theorem dX5_foresee_36 : decode cX5_foresee 36 = .ok (.getfield 46, 3) := by decide +kernel
theorem dX5_foresee_39 : decode cX5_foresee 39 = .ok (.aload_n 0, 1) := by decide +kernel
theorem dX5_foresee_40 : decode cX5_foresee 40 = .ok (.getfield 17, 3) := by decide +kernel
theorem dX5_foresee_43 : decode cX5_foresee 43 = .ok (.aload_n 0, 1) := by decide +kernel
theorem dX5_foresee_44 : decode cX5_foresee 44 = .ok (.getfield 20, 3) := by decide +kernel
theorem dX5_foresee_47 : decode cX5_foresee 47 = .ok (.iload 7, 2) := by decide +kernel
theorem dX5_foresee_49 : decode cX5_foresee 49 = .ok (.iaload, 1) := by decide +kernel
theorem dX5_foresee_50 : decode cX5_foresee 50 = .ok (.invokevirtual 54, 3) := by decide +kernel
theorem dX5_foresee_53 : decode cX5_foresee 53 = .ok (.istore 8, 2) := by decide +kernel
theorem dX5_foresee_55 : decode cX5_foresee 55 = .ok (.iload 8, 2) := by decide +kernel
theorem dX5_foresee_57 : decode cX5_foresee 57 = .ok (.aload_n 0, 1) := by decide +kernel
theorem dX5_foresee_58 : decode cX5_foresee 58 = .ok (.aload_n 0, 1) := by decide +kernel
theorem dX5_foresee_59 : decode cX5_foresee 59 = .ok (.getfield 20, 3) := by decide +kernel
theorem dX5_foresee_62 : decode cX5_foresee 62 = .ok (.iload 7, 2) := by decide +kernel
theorem dX5_foresee_64 : decode cX5_foresee 64 = .ok (.iaload, 1) := by decide +kernel
theorem dX5_foresee_65 : decode cX5_foresee 65 = .ok (.invokevirtual 58, 3) := by decide +kernel
theorem dX5_foresee_68 : decode cX5_foresee 68 = .ok (.if_icmp .eq 6, 3) := by decide +kernel
theorem dX5_foresee_71 : decode cX5_foresee 71 = .ok (.iinc 5 1, 3) := by decide +kernel
theorem dX5_foresee_74 : decode cX5_foresee 74 = .ok (.iload 8, 2) := by decide +kernel
theorem dX5_foresee_76 : decode cX5_foresee 76 = .ok (.iconst (-1), 1) := by decide +kernel
theorem dX5_foresee_77 : decode cX5_foresee 77 = .ok (.if_icmp .ne 18, 3) := by decide +kernel
theorem dX5_foresee_80 : decode cX5_foresee 80 = .ok (.iload 4, 2) := by decide +kernel
theorem dX5_foresee_82 : decode cX5_foresee 82 = .ok (.aload_n 0, 1) := by decide +kernel
theorem dX5_foresee_83 : decode cX5_foresee 83 = .ok (.getfield 23, 3) := by decide +kernel
theorem dX5_foresee_86 : decode cX5_foresee 86 = .ok (.iload 7, 2) := by decide +kernel
theorem dX5_foresee_88 : decode cX5_foresee 88 = .ok (.iaload, 1) := by decide +kernel
theorem dX5_foresee_89 : decode cX5_foresee 89 = .ok (.iadd, 1) := by decide +kernel
theorem dX5_foresee_90 : decode cX5_foresee 90 = .ok (.istore 4, 2) := by decide +kernel
theorem dX5_foresee_92 : decode cX5_foresee 92 = .ok (.goto 43, 3) := by decide +kernel
theorem dX5_foresee_95 : decode cX5_foresee 95 = .ok (.aload_n 0, 1) := by decide +kernel
theorem dX5_foresee_96 : decode cX5_foresee 96 = .ok (.getfield 20, 3) := by decide +kernel
theorem dX5_foresee_99 : decode cX5_foresee 99 = .ok (.iload 7, 2) := by decide +kernel
theorem dX5_foresee_101 : decode cX5_foresee 101 = .ok (.iaload, 1) := by decide +kernel
theorem dX5_foresee_102 : decode cX5_foresee 102 = .ok (.aload_n 0, 1) := by decide +kernel
theorem dX5_foresee_103 : decode cX5_foresee 103 = .ok (.getfield 46, 3) := by decide +kernel
theorem dX5_foresee_106 : decode cX5_foresee 106 = .ok (.getfield 62, 3) := by decide +kernel
theorem dX5_foresee_109 : decode cX5_foresee 109 = .ok (.iload 8, 2) := by decide +kernel
theorem dX5_foresee_111 : decode cX5_foresee 111 = .ok (.iaload, 1) := by decide +kernel
theorem dX5_foresee_112 : decode cX5_foresee 112 = .ok (.invokestatic 79, 3) := by decide +kernel
theorem dX5_foresee_115 : decode cX5_foresee 115 = .ok (.istore 9, 2) := by decide +kernel
theorem dX5_foresee_117 : decode cX5_foresee 117 = .ok (.iload_n 3, 1) := by decide +kernel
theorem dX5_foresee_118 : decode cX5_foresee 118 = .ok (.ifCond .eq 10, 3) := by decide +kernel
theorem dX5_foresee_121 : decode cX5_foresee 121 = .ok (.iload 9, 2) := by decide +kernel
theorem dX5_foresee_123 : decode cX5_foresee 123 = .ok (.iload 6, 2) := by decide +kernel
theorem dX5_foresee_125 : decode cX5_foresee 125 = .ok (.if_icmp .eq 6, 3) := by decide +kernel
theorem dX5_foresee_128 : decode cX5_foresee 128 = .ok (.iinc 3 1, 3) := by decide +kernel
theorem dX5_foresee_131 : decode cX5_foresee 131 = .ok (.iload 9, 2) := by decide +kernel
theorem dX5_foresee_133 : decode cX5_foresee 133 = .ok (.istore 6, 2) := by decide +kernel
theorem dX5_foresee_135 : decode cX5_foresee 135 = .ok (.iinc 7 1, 3) := by decide +kernel
theorem dX5_foresee_138 : decode cX5_foresee 138 = .ok (.goto (-112), 3) := by decide +kernel
theorem dX5_foresee_141 : decode cX5_foresee 141 = .ok (.aload_n 2, 1) := by decide +kernel
theorem dX5_foresee_142 : decode cX5_foresee 142 = .ok (.iconst 0, 1) := by decide +kernel
theorem dX5_foresee_143 : decode cX5_foresee 143 = .ok (.iload_n 3, 1) := by decide +kernel
theorem dX5_foresee_144 : decode cX5_foresee 144 = .ok (.iastore, 1) := by decide +kernel
theorem dX5_foresee_145 : decode cX5_foresee 145 = .ok (.aload_n 2, 1) := by decide +kernel
theorem dX5_foresee_146 : decode cX5_foresee 146 = .ok (.iconst 1, 1) := by decide +kernel
theorem dX5_foresee_147 : decode cX5_foresee 147 = .ok (.iload 4, 2) := by decide +kernel
theorem dX5_foresee_149 : decode cX5_foresee 149 = .ok (.iastore, 1) := by decide +kernel
theorem dX5_foresee_150 : decode cX5_foresee 150 = .ok (.aload_n 2, 1) := by decide +kernel
theorem dX5_foresee_151 : decode cX5_foresee 151 = .ok (.iconst 2, 1) := by decide +kernel
theorem dX5_foresee_152 : decode cX5_foresee 152 = .ok (.iload 5, 2) := by decide +kernel
theorem dX5_foresee_154 : decode cX5_foresee 154 = .ok (.iastore, 1) := by decide +kernel
theorem dX5_foresee_155 : decode cX5_foresee 155 = .ok (.return_, 1) := by decide +kernel
theorem dX5_surveyAlarms_0 : decode cX5_surveyAlarms 0 = .ok (.aload_n 1, 1) := by decide +kernel
theorem dX5_surveyAlarms_1 : decode cX5_surveyAlarms 1 = .ok (.iconst 0, 1) := by decide +kernel
theorem dX5_surveyAlarms_2 : decode cX5_surveyAlarms 2 = .ok (.iconst 0, 1) := by decide +kernel
theorem dX5_surveyAlarms_3 : decode cX5_surveyAlarms 3 = .ok (.iastore, 1) := by decide +kernel
theorem dX5_surveyAlarms_4 : decode cX5_surveyAlarms 4 = .ok (.aload_n 1, 1) := by decide +kernel
theorem dX5_surveyAlarms_5 : decode cX5_surveyAlarms 5 = .ok (.iconst 1, 1) := by decide +kernel
theorem dX5_surveyAlarms_6 : decode cX5_surveyAlarms 6 = .ok (.sipush (-20000), 3) := by decide +kernel
theorem dX5_surveyAlarms_9 : decode cX5_surveyAlarms 9 = .ok (.iastore, 1) := by decide +kernel
theorem dX5_surveyAlarms_10 : decode cX5_surveyAlarms 10 = .ok (.aload_n 1, 1) := by decide +kernel
theorem dX5_surveyAlarms_11 : decode cX5_surveyAlarms 11 = .ok (.iconst 2, 1) := by decide +kernel
theorem dX5_surveyAlarms_12 : decode cX5_surveyAlarms 12 = .ok (.iconst 0, 1) := by decide +kernel
theorem dX5_surveyAlarms_13 : decode cX5_surveyAlarms 13 = .ok (.iastore, 1) := by decide +kernel
theorem dX5_surveyAlarms_14 : decode cX5_surveyAlarms 14 = .ok (.aload_n 1, 1) := by decide +kernel
theorem dX5_surveyAlarms_15 : decode cX5_surveyAlarms 15 = .ok (.iconst 3, 1) := by decide +kernel
theorem dX5_surveyAlarms_16 : decode cX5_surveyAlarms 16 = .ok (.sipush (-20000), 3) := by decide +kernel
theorem dX5_surveyAlarms_19 : decode cX5_surveyAlarms 19 = .ok (.iastore, 1) := by decide +kernel
theorem dX5_surveyAlarms_20 : decode cX5_surveyAlarms 20 = .ok (.aload_n 0, 1) := by decide +kernel
theorem dX5_surveyAlarms_21 : decode cX5_surveyAlarms 21 = .ok (.getfield 46, 3) := by decide +kernel
theorem dX5_surveyAlarms_24 : decode cX5_surveyAlarms 24 = .ok (.getfield 112, 3) := by decide +kernel
theorem dX5_surveyAlarms_27 : decode cX5_surveyAlarms 27 = .ok (.invokevirtual 116, 3) := by decide +kernel
theorem dX5_surveyAlarms_30 : decode cX5_surveyAlarms 30 = .ok (.ifCond .ne 4, 3) := by decide +kernel
theorem dX5_surveyAlarms_33 : decode cX5_surveyAlarms 33 = .ok (.return_, 1) := by decide +kernel
theorem dX5_surveyAlarms_34 : decode cX5_surveyAlarms 34 = .ok (.iconst 0, 1) := by decide +kernel
theorem dX5_surveyAlarms_35 : decode cX5_surveyAlarms 35 = .ok (.istore_n 2, 1) := by decide +kernel
theorem dX5_surveyAlarms_36 : decode cX5_surveyAlarms 36 = .ok (.iconst 0, 1) := by decide +kernel
theorem dX5_surveyAlarms_37 : decode cX5_surveyAlarms 37 = .ok (.istore_n 3, 1) := by decide +kernel
theorem dX5_surveyAlarms_38 : decode cX5_surveyAlarms 38 = .ok (.iconst 0, 1) := by decide +kernel
theorem dX5_surveyAlarms_39 : decode cX5_surveyAlarms 39 = .ok (.istore 4, 2) := by decide +kernel
theorem dX5_surveyAlarms_41 : decode cX5_surveyAlarms 41 = .ok (.iload 4, 2) := by decide +kernel
theorem dX5_surveyAlarms_43 : decode cX5_surveyAlarms 43 = .ok (.aload_n 0, 1) := by decide +kernel
theorem dX5_surveyAlarms_44 : decode cX5_surveyAlarms 44 = .ok (.getfield 36, 3) := by decide +kernel
theorem dX5_surveyAlarms_47 : decode cX5_surveyAlarms 47 = .ok (.if_icmp .ge 94, 3) := by decide +kernel
theorem dX5_surveyAlarms_50 : decode cX5_surveyAlarms 50 = .ok (.aload_n 0, 1) := by decide +kernel
theorem dX5_surveyAlarms_51 : decode cX5_surveyAlarms 51 = .ok (.getfield 46, 3) := by decide +kernel
theorem dX5_surveyAlarms_54 : decode cX5_surveyAlarms 54 = .ok (.getfield 112, 3) := by decide +kernel
theorem dX5_surveyAlarms_57 : decode cX5_surveyAlarms 57 = .ok (.aload_n 0, 1) := by decide +kernel
theorem dX5_surveyAlarms_58 : decode cX5_surveyAlarms 58 = .ok (.iload 4, 2) := by decide +kernel
theorem dX5_surveyAlarms_60 : decode cX5_surveyAlarms 60 = .ok (.invokevirtual 121, 3) := by decide +kernel
theorem dX5_surveyAlarms_63 : decode cX5_surveyAlarms 63 = .ok (.ifCond .ne 8, 3) := by decide +kernel
theorem dX5_surveyAlarms_66 : decode cX5_surveyAlarms 66 = .ok (.iconst 0, 1) := by decide +kernel
theorem dX5_surveyAlarms_67 : decode cX5_surveyAlarms 67 = .ok (.istore_n 2, 1) := by decide +kernel
theorem dX5_surveyAlarms_68 : decode cX5_surveyAlarms 68 = .ok (.goto 67, 3) := by decide +kernel
theorem dX5_surveyAlarms_71 : decode cX5_surveyAlarms 71 = .ok (.iload_n 2, 1) := by decide +kernel
theorem dX5_surveyAlarms_72 : decode cX5_surveyAlarms 72 = .ok (.ifCond .eq 12, 3) := by decide +kernel
theorem dX5_surveyAlarms_75 : decode cX5_surveyAlarms 75 = .ok (.aload_n 0, 1) := by decide +kernel
theorem dX5_surveyAlarms_76 : decode cX5_surveyAlarms 76 = .ok (.iload 4, 2) := by decide +kernel
theorem dX5_surveyAlarms_78 : decode cX5_surveyAlarms 78 = .ok (.invokevirtual 125, 3) := by decide +kernel
theorem dX5_surveyAlarms_81 : decode cX5_surveyAlarms 81 = .ok (.ifCond .ne 13, 3) := by decide +kernel
theorem dX5_surveyAlarms_84 : decode cX5_surveyAlarms 84 = .ok (.iconst 0, 1) := by decide +kernel
theorem dX5_surveyAlarms_85 : decode cX5_surveyAlarms 85 = .ok (.istore_n 2, 1) := by decide +kernel
theorem dX5_surveyAlarms_86 : decode cX5_surveyAlarms 86 = .ok (.aload_n 0, 1) := by decide +kernel
theorem dX5_surveyAlarms_87 : decode cX5_surveyAlarms 87 = .ok (.getfield 20, 3) := by decide +kernel
theorem dX5_surveyAlarms_90 : decode cX5_surveyAlarms 90 = .ok (.iload 4, 2) := by decide +kernel
theorem dX5_surveyAlarms_92 : decode cX5_surveyAlarms 92 = .ok (.iaload, 1) := by decide +kernel
theorem dX5_surveyAlarms_93 : decode cX5_surveyAlarms 93 = .ok (.istore_n 3, 1) := by decide +kernel
theorem dX5_surveyAlarms_94 : decode cX5_surveyAlarms 94 = .ok (.iinc 2 1, 3) := by decide +kernel
theorem dX5_surveyAlarms_97 : decode cX5_surveyAlarms 97 = .ok (.aload_n 1, 1) := by decide +kernel
theorem dX5_surveyAlarms_98 : decode cX5_surveyAlarms 98 = .ok (.iconst 0, 1) := by decide +kernel
theorem dX5_surveyAlarms_99 : decode cX5_surveyAlarms 99 = .ok (.iaload, 1) := by decide +kernel
theorem dX5_surveyAlarms_100 : decode cX5_surveyAlarms 100 = .ok (.ifCond .ne 13, 3) := by decide +kernel
theorem dX5_surveyAlarms_103 : decode cX5_surveyAlarms 103 = .ok (.aload_n 1, 1) := by decide +kernel
theorem dX5_surveyAlarms_104 : decode cX5_surveyAlarms 104 = .ok (.iconst 1, 1) := by decide +kernel
theorem dX5_surveyAlarms_105 : decode cX5_surveyAlarms 105 = .ok (.aload_n 0, 1) := by decide +kernel
theorem dX5_surveyAlarms_106 : decode cX5_surveyAlarms 106 = .ok (.getfield 20, 3) := by decide +kernel
theorem dX5_surveyAlarms_109 : decode cX5_surveyAlarms 109 = .ok (.iload 4, 2) := by decide +kernel
theorem dX5_surveyAlarms_111 : decode cX5_surveyAlarms 111 = .ok (.iaload, 1) := by decide +kernel
theorem dX5_surveyAlarms_112 : decode cX5_surveyAlarms 112 = .ok (.iastore, 1) := by decide +kernel
theorem dX5_surveyAlarms_113 : decode cX5_surveyAlarms 113 = .ok (.aload_n 1, 1) := by decide +kernel
theorem dX5_surveyAlarms_114 : decode cX5_surveyAlarms 114 = .ok (.iconst 0, 1) := by decide +kernel
theorem dX5_surveyAlarms_115 : decode cX5_surveyAlarms 115 = .ok (.dup2, 1) := by decide +kernel
theorem dX5_surveyAlarms_116 : decode cX5_surveyAlarms 116 = .ok (.iaload, 1) := by decide +kernel
theorem dX5_surveyAlarms_117 : decode cX5_surveyAlarms 117 = .ok (.iconst 1, 1) := by decide +kernel
theorem dX5_surveyAlarms_118 : decode cX5_surveyAlarms 118 = .ok (.iadd, 1) := by decide +kernel
theorem dX5_surveyAlarms_119 : decode cX5_surveyAlarms 119 = .ok (.iastore, 1) := by decide +kernel
theorem dX5_surveyAlarms_120 : decode cX5_surveyAlarms 120 = .ok (.iload_n 2, 1) := by decide +kernel
theorem dX5_surveyAlarms_121 : decode cX5_surveyAlarms 121 = .ok (.aload_n 1, 1) := by decide +kernel
theorem dX5_surveyAlarms_122 : decode cX5_surveyAlarms 122 = .ok (.iconst 2, 1) := by decide +kernel
theorem dX5_surveyAlarms_123 : decode cX5_surveyAlarms 123 = .ok (.iaload, 1) := by decide +kernel
theorem dX5_surveyAlarms_124 : decode cX5_surveyAlarms 124 = .ok (.if_icmp .le 11, 3) := by decide +kernel
theorem dX5_surveyAlarms_127 : decode cX5_surveyAlarms 127 = .ok (.aload_n 1, 1) := by decide +kernel
theorem dX5_surveyAlarms_128 : decode cX5_surveyAlarms 128 = .ok (.iconst 2, 1) := by decide +kernel
theorem dX5_surveyAlarms_129 : decode cX5_surveyAlarms 129 = .ok (.iload_n 2, 1) := by decide +kernel
theorem dX5_surveyAlarms_130 : decode cX5_surveyAlarms 130 = .ok (.iastore, 1) := by decide +kernel
theorem dX5_surveyAlarms_131 : decode cX5_surveyAlarms 131 = .ok (.aload_n 1, 1) := by decide +kernel
theorem dX5_surveyAlarms_132 : decode cX5_surveyAlarms 132 = .ok (.iconst 3, 1) := by decide +kernel
theorem dX5_surveyAlarms_133 : decode cX5_surveyAlarms 133 = .ok (.iload_n 3, 1) := by decide +kernel
theorem dX5_surveyAlarms_134 : decode cX5_surveyAlarms 134 = .ok (.iastore, 1) := by decide +kernel
theorem dX5_surveyAlarms_135 : decode cX5_surveyAlarms 135 = .ok (.iinc 4 1, 3) := by decide +kernel
theorem dX5_surveyAlarms_138 : decode cX5_surveyAlarms 138 = .ok (.goto (-97), 3) := by decide +kernel
theorem dX5_surveyAlarms_141 : decode cX5_surveyAlarms 141 = .ok (.return_, 1) := by decide +kernel
theorem dX5_surveyTrend_0 : decode cX5_surveyTrend 0 = .ok (.aload_n 2, 1) := by decide +kernel
theorem dX5_surveyTrend_1 : decode cX5_surveyTrend 1 = .ok (.iconst 0, 1) := by decide +kernel
theorem dX5_surveyTrend_2 : decode cX5_surveyTrend 2 = .ok (.iconst 0, 1) := by decide +kernel
theorem dX5_surveyTrend_3 : decode cX5_surveyTrend 3 = .ok (.iastore, 1) := by decide +kernel
theorem dX5_surveyTrend_4 : decode cX5_surveyTrend 4 = .ok (.aload_n 2, 1) := by decide +kernel
theorem dX5_surveyTrend_5 : decode cX5_surveyTrend 5 = .ok (.iconst 1, 1) := by decide +kernel
theorem dX5_surveyTrend_6 : decode cX5_surveyTrend 6 = .ok (.iconst 0, 1) := by decide +kernel
theorem dX5_surveyTrend_7 : decode cX5_surveyTrend 7 = .ok (.iastore, 1) := by decide +kernel
theorem dX5_surveyTrend_8 : decode cX5_surveyTrend 8 = .ok (.aload_n 2, 1) := by decide +kernel
theorem dX5_surveyTrend_9 : decode cX5_surveyTrend 9 = .ok (.iconst 2, 1) := by decide +kernel
theorem dX5_surveyTrend_10 : decode cX5_surveyTrend 10 = .ok (.iconst 0, 1) := by decide +kernel
theorem dX5_surveyTrend_11 : decode cX5_surveyTrend 11 = .ok (.iastore, 1) := by decide +kernel
theorem dX5_surveyTrend_12 : decode cX5_surveyTrend 12 = .ok (.aload_n 2, 1) := by decide +kernel
theorem dX5_surveyTrend_13 : decode cX5_surveyTrend 13 = .ok (.iconst 3, 1) := by decide +kernel
theorem dX5_surveyTrend_14 : decode cX5_surveyTrend 14 = .ok (.sipush (-20000), 3) := by decide +kernel
theorem dX5_surveyTrend_17 : decode cX5_surveyTrend 17 = .ok (.iastore, 1) := by decide +kernel
theorem dX5_surveyTrend_18 : decode cX5_surveyTrend 18 = .ok (.aload_n 0, 1) := by decide +kernel
theorem dX5_surveyTrend_19 : decode cX5_surveyTrend 19 = .ok (.iload_n 1, 1) := by decide +kernel
theorem dX5_surveyTrend_20 : decode cX5_surveyTrend 20 = .ok (.invokevirtual 129, 3) := by decide +kernel
theorem dX5_surveyTrend_23 : decode cX5_surveyTrend 23 = .ok (.istore_n 3, 1) := by decide +kernel
theorem dX5_surveyTrend_24 : decode cX5_surveyTrend 24 = .ok (.aload_n 0, 1) := by decide +kernel
theorem dX5_surveyTrend_25 : decode cX5_surveyTrend 25 = .ok (.iload_n 1, 1) := by decide +kernel
theorem dX5_surveyTrend_26 : decode cX5_surveyTrend 26 = .ok (.invokevirtual 132, 3) := by decide +kernel
theorem dX5_surveyTrend_29 : decode cX5_surveyTrend 29 = .ok (.iconst 1, 1) := by decide +kernel
theorem dX5_surveyTrend_30 : decode cX5_surveyTrend 30 = .ok (.iadd, 1) := by decide +kernel
theorem dX5_surveyTrend_31 : decode cX5_surveyTrend 31 = .ok (.istore 4, 2) := by decide +kernel
theorem dX5_surveyTrend_33 : decode cX5_surveyTrend 33 = .ok (.iload 4, 2) := by decide +kernel
theorem dX5_surveyTrend_35 : decode cX5_surveyTrend 35 = .ok (.iload_n 3, 1) := by decide +kernel
theorem dX5_surveyTrend_36 : decode cX5_surveyTrend 36 = .ok (.if_icmp .ge 81, 3) := by decide +kernel
theorem dX5_surveyTrend_39 : decode cX5_surveyTrend 39 = .ok (.aload_n 0, 1) := by decide +kernel
theorem dX5_surveyTrend_40 : decode cX5_surveyTrend 40 = .ok (.iload 4, 2) := by decide +kernel
theorem dX5_surveyTrend_42 : decode cX5_surveyTrend 42 = .ok (.invokevirtual 76, 3) := by decide +kernel
theorem dX5_surveyTrend_45 : decode cX5_surveyTrend 45 = .ok (.aload_n 0, 1) := by decide +kernel
theorem dX5_surveyTrend_46 : decode cX5_surveyTrend 46 = .ok (.iload 4, 2) := by decide +kernel
theorem dX5_surveyTrend_48 : decode cX5_surveyTrend 48 = .ok (.iconst 1, 1) := by decide +kernel
theorem dX5_surveyTrend_49 : decode cX5_surveyTrend 49 = .ok (.isub, 1) := by decide +kernel
theorem dX5_surveyTrend_50 : decode cX5_surveyTrend 50 = .ok (.invokevirtual 76, 3) := by decide +kernel
theorem dX5_surveyTrend_53 : decode cX5_surveyTrend 53 = .ok (.isub, 1) := by decide +kernel
theorem dX5_surveyTrend_54 : decode cX5_surveyTrend 54 = .ok (.istore 5, 2) := by decide +kernel
theorem dX5_surveyTrend_56 : decode cX5_surveyTrend 56 = .ok (.aload_n 2, 1) := by decide +kernel
theorem dX5_surveyTrend_57 : decode cX5_surveyTrend 57 = .ok (.iconst 0, 1) := by decide +kernel
theorem dX5_surveyTrend_58 : decode cX5_surveyTrend 58 = .ok (.dup2, 1) := by decide +kernel
theorem dX5_surveyTrend_59 : decode cX5_surveyTrend 59 = .ok (.iaload, 1) := by decide +kernel
theorem dX5_surveyTrend_60 : decode cX5_surveyTrend 60 = .ok (.iload 5, 2) := by decide +kernel
theorem dX5_surveyTrend_62 : decode cX5_surveyTrend 62 = .ok (.ifCond .le 7, 3) := by decide +kernel
theorem dX5_surveyTrend_65 : decode cX5_surveyTrend 65 = .ok (.iconst 1, 1) := by decide +kernel
theorem dX5_surveyTrend_66 : decode cX5_surveyTrend 66 = .ok (.goto 4, 3) := by decide +kernel
theorem dX5_surveyTrend_69 : decode cX5_surveyTrend 69 = .ok (.iconst 0, 1) := by decide +kernel
theorem dX5_surveyTrend_70 : decode cX5_surveyTrend 70 = .ok (.iadd, 1) := by decide +kernel
theorem dX5_surveyTrend_71 : decode cX5_surveyTrend 71 = .ok (.iastore, 1) := by decide +kernel
theorem dX5_surveyTrend_72 : decode cX5_surveyTrend 72 = .ok (.aload_n 2, 1) := by decide +kernel
theorem dX5_surveyTrend_73 : decode cX5_surveyTrend 73 = .ok (.iconst 1, 1) := by decide +kernel
theorem dX5_surveyTrend_74 : decode cX5_surveyTrend 74 = .ok (.dup2, 1) := by decide +kernel
theorem dX5_surveyTrend_75 : decode cX5_surveyTrend 75 = .ok (.iaload, 1) := by decide +kernel
theorem dX5_surveyTrend_76 : decode cX5_surveyTrend 76 = .ok (.iload 5, 2) := by decide +kernel
theorem dX5_surveyTrend_78 : decode cX5_surveyTrend 78 = .ok (.ifCond .ge 7, 3) := by decide +kernel
theorem dX5_surveyTrend_81 : decode cX5_surveyTrend 81 = .ok (.iconst 1, 1) := by decide +kernel
theorem dX5_surveyTrend_82 : decode cX5_surveyTrend 82 = .ok (.goto 4, 3) := by decide +kernel
theorem dX5_surveyTrend_85 : decode cX5_surveyTrend 85 = .ok (.iconst 0, 1) := by decide +kernel
theorem dX5_surveyTrend_86 : decode cX5_surveyTrend 86 = .ok (.iadd, 1) := by decide +kernel
theorem dX5_surveyTrend_87 : decode cX5_surveyTrend 87 = .ok (.iastore, 1) := by decide +kernel
theorem dX5_surveyTrend_88 : decode cX5_surveyTrend 88 = .ok (.iload 5, 2) := by decide +kernel
theorem dX5_surveyTrend_90 : decode cX5_surveyTrend 90 = .ok (.aload_n 2, 1) := by decide +kernel
theorem dX5_surveyTrend_91 : decode cX5_surveyTrend 91 = .ok (.iconst 2, 1) := by decide +kernel
theorem dX5_surveyTrend_92 : decode cX5_surveyTrend 92 = .ok (.iaload, 1) := by decide +kernel
theorem dX5_surveyTrend_93 : decode cX5_surveyTrend 93 = .ok (.if_icmp .le 18, 3) := by decide +kernel
theorem dX5_surveyTrend_96 : decode cX5_surveyTrend 96 = .ok (.aload_n 2, 1) := by decide +kernel
theorem dX5_surveyTrend_97 : decode cX5_surveyTrend 97 = .ok (.iconst 2, 1) := by decide +kernel
theorem dX5_surveyTrend_98 : decode cX5_surveyTrend 98 = .ok (.iload 5, 2) := by decide +kernel
theorem dX5_surveyTrend_100 : decode cX5_surveyTrend 100 = .ok (.iastore, 1) := by decide +kernel
theorem dX5_surveyTrend_101 : decode cX5_surveyTrend 101 = .ok (.aload_n 2, 1) := by decide +kernel
theorem dX5_surveyTrend_102 : decode cX5_surveyTrend 102 = .ok (.iconst 3, 1) := by decide +kernel
theorem dX5_surveyTrend_103 : decode cX5_surveyTrend 103 = .ok (.aload_n 0, 1) := by decide +kernel
theorem dX5_surveyTrend_104 : decode cX5_surveyTrend 104 = .ok (.getfield 20, 3) := by decide +kernel
theorem dX5_surveyTrend_107 : decode cX5_surveyTrend 107 = .ok (.iload 4, 2) := by decide +kernel
theorem dX5_surveyTrend_109 : decode cX5_surveyTrend 109 = .ok (.iaload, 1) := by decide +kernel
theorem dX5_surveyTrend_110 : decode cX5_surveyTrend 110 = .ok (.iastore, 1) := by decide +kernel
theorem dX5_surveyTrend_111 : decode cX5_surveyTrend 111 = .ok (.iinc 4 1, 3) := by decide +kernel
theorem dX5_surveyTrend_114 : decode cX5_surveyTrend 114 = .ok (.goto (-81), 3) := by decide +kernel
theorem dX5_surveyTrend_117 : decode cX5_surveyTrend 117 = .ok (.return_, 1) := by decide +kernel
theorem dX5_isBesideTheOneAhead_0 : decode cX5_isBesideTheOneAhead 0 = .ok (.iload_n 1, 1) := by decide +kernel
theorem dX5_isBesideTheOneAhead_1 : decode cX5_isBesideTheOneAhead 1 = .ok (.ifCond .le 55, 3) := by decide +kernel
theorem dX5_isBesideTheOneAhead_4 : decode cX5_isBesideTheOneAhead 4 = .ok (.aload_n 0, 1) := by decide +kernel
theorem dX5_isBesideTheOneAhead_5 : decode cX5_isBesideTheOneAhead 5 = .ok (.aload_n 0, 1) := by decide +kernel
theorem dX5_isBesideTheOneAhead_6 : decode cX5_isBesideTheOneAhead 6 = .ok (.getfield 20, 3) := by decide +kernel
theorem dX5_isBesideTheOneAhead_9 : decode cX5_isBesideTheOneAhead 9 = .ok (.iload_n 1, 1) := by decide +kernel
theorem dX5_isBesideTheOneAhead_10 : decode cX5_isBesideTheOneAhead 10 = .ok (.iconst 1, 1) := by decide +kernel
theorem dX5_isBesideTheOneAhead_11 : decode cX5_isBesideTheOneAhead 11 = .ok (.isub, 1) := by decide +kernel
theorem dX5_isBesideTheOneAhead_12 : decode cX5_isBesideTheOneAhead 12 = .ok (.iaload, 1) := by decide +kernel
theorem dX5_isBesideTheOneAhead_13 : decode cX5_isBesideTheOneAhead 13 = .ok (.invokevirtual 58, 3) := by decide +kernel
theorem dX5_isBesideTheOneAhead_16 : decode cX5_isBesideTheOneAhead 16 = .ok (.aload_n 0, 1) := by decide +kernel
theorem dX5_isBesideTheOneAhead_17 : decode cX5_isBesideTheOneAhead 17 = .ok (.aload_n 0, 1) := by decide +kernel
theorem dX5_isBesideTheOneAhead_18 : decode cX5_isBesideTheOneAhead 18 = .ok (.getfield 20, 3) := by decide +kernel
theorem dX5_isBesideTheOneAhead_21 : decode cX5_isBesideTheOneAhead 21 = .ok (.iload_n 1, 1) := by decide +kernel
theorem dX5_isBesideTheOneAhead_22 : decode cX5_isBesideTheOneAhead 22 = .ok (.iaload, 1) := by decide +kernel
theorem dX5_isBesideTheOneAhead_23 : decode cX5_isBesideTheOneAhead 23 = .ok (.invokevirtual 58, 3) := by decide +kernel
theorem dX5_isBesideTheOneAhead_26 : decode cX5_isBesideTheOneAhead 26 = .ok (.if_icmp .ne 30, 3) := by decide +kernel
theorem dX5_isBesideTheOneAhead_29 : decode cX5_isBesideTheOneAhead 29 = .ok (.aload_n 0, 1) := by decide +kernel
theorem dX5_isBesideTheOneAhead_30 : decode cX5_isBesideTheOneAhead 30 = .ok (.getfield 20, 3) := by decide +kernel
theorem dX5_isBesideTheOneAhead_33 : decode cX5_isBesideTheOneAhead 33 = .ok (.iload_n 1, 1) := by decide +kernel
theorem dX5_isBesideTheOneAhead_34 : decode cX5_isBesideTheOneAhead 34 = .ok (.iaload, 1) := by decide +kernel
theorem dX5_isBesideTheOneAhead_35 : decode cX5_isBesideTheOneAhead 35 = .ok (.aload_n 0, 1) := by decide +kernel
theorem dX5_isBesideTheOneAhead_36 : decode cX5_isBesideTheOneAhead 36 = .ok (.getfield 20, 3) := by decide +kernel
theorem dX5_isBesideTheOneAhead_39 : decode cX5_isBesideTheOneAhead 39 = .ok (.iload_n 1, 1) := by decide +kernel
theorem dX5_isBesideTheOneAhead_40 : decode cX5_isBesideTheOneAhead 40 = .ok (.iconst 1, 1) := by decide +kernel
theorem dX5_isBesideTheOneAhead_41 : decode cX5_isBesideTheOneAhead 41 = .ok (.isub, 1) := by decide +kernel
theorem dX5_isBesideTheOneAhead_42 : decode cX5_isBesideTheOneAhead 42 = .ok (.iaload, 1) := by decide +kernel
theorem dX5_isBesideTheOneAhead_43 : decode cX5_isBesideTheOneAhead 43 = .ok (.isub, 1) := by decide +kernel
theorem dX5_isBesideTheOneAhead_44 : decode cX5_isBesideTheOneAhead 44 = .ok (.aload_n 0, 1) := by decide +kernel
theorem dX5_isBesideTheOneAhead_45 : decode cX5_isBesideTheOneAhead 45 = .ok (.iload_n 1, 1) := by decide +kernel
theorem dX5_isBesideTheOneAhead_46 : decode cX5_isBesideTheOneAhead 46 = .ok (.invokevirtual 135, 3) := by decide +kernel
theorem dX5_isBesideTheOneAhead_49 : decode cX5_isBesideTheOneAhead 49 = .ok (.if_icmp .ne 7, 3) := by decide +kernel
theorem dX5_isBesideTheOneAhead_52 : decode cX5_isBesideTheOneAhead 52 = .ok (.iconst 1, 1) := by decide +kernel
theorem dX5_isBesideTheOneAhead_53 : decode cX5_isBesideTheOneAhead 53 = .ok (.goto 4, 3) := by decide +kernel
theorem dX5_isBesideTheOneAhead_56 : decode cX5_isBesideTheOneAhead 56 = .ok (.iconst 0, 1) := by decide +kernel
theorem dX5_isBesideTheOneAhead_57 : decode cX5_isBesideTheOneAhead 57 = .ok (.ireturn, 1) := by decide +kernel
theorem dX5_join_0 : decode cX5_join 0 = .ok (.aload_n 0, 1) := by decide +kernel
theorem dX5_join_1 : decode cX5_join 1 = .ok (.getfield 23, 3) := by decide +kernel
theorem dX5_join_4 : decode cX5_join 4 = .ok (.iload_n 2, 1) := by decide +kernel
theorem dX5_join_5 : decode cX5_join 5 = .ok (.dup2, 1) := by decide +kernel
theorem dX5_join_6 : decode cX5_join 6 = .ok (.iaload, 1) := by decide +kernel
theorem dX5_join_7 : decode cX5_join 7 = .ok (.aload_n 0, 1) := by decide +kernel
theorem dX5_join_8 : decode cX5_join 8 = .ok (.getfield 23, 3) := by decide +kernel
theorem dX5_join_11 : decode cX5_join 11 = .ok (.iload_n 1, 1) := by decide +kernel
theorem dX5_join_12 : decode cX5_join 12 = .ok (.iaload, 1) := by decide +kernel
theorem dX5_join_13 : decode cX5_join 13 = .ok (.iadd, 1) := by decide +kernel
theorem dX5_join_14 : decode cX5_join 14 = .ok (.iastore, 1) := by decide +kernel
theorem dX5_join_15 : decode cX5_join 15 = .ok (.aload_n 0, 1) := by decide +kernel
theorem dX5_join_16 : decode cX5_join 16 = .ok (.getfield 26, 3) := by decide +kernel
theorem dX5_join_19 : decode cX5_join 19 = .ok (.iload_n 2, 1) := by decide +kernel
theorem dX5_join_20 : decode cX5_join 20 = .ok (.dup2, 1) := by decide +kernel
theorem dX5_join_21 : decode cX5_join 21 = .ok (.laload, 1) := by decide +kernel
theorem dX5_join_22 : decode cX5_join 22 = .ok (.aload_n 0, 1) := by decide +kernel
theorem dX5_join_23 : decode cX5_join 23 = .ok (.getfield 26, 3) := by decide +kernel
theorem dX5_join_26 : decode cX5_join 26 = .ok (.iload_n 1, 1) := by decide +kernel
theorem dX5_join_27 : decode cX5_join 27 = .ok (.laload, 1) := by decide +kernel
theorem dX5_join_28 : decode cX5_join 28 = .ok (.ladd, 1) := by decide +kernel
theorem dX5_join_29 : decode cX5_join 29 = .ok (.lastore, 1) := by decide +kernel
theorem dX5_join_30 : decode cX5_join 30 = .ok (.aload_n 0, 1) := by decide +kernel
theorem dX5_join_31 : decode cX5_join 31 = .ok (.getfield 30, 3) := by decide +kernel
theorem dX5_join_34 : decode cX5_join 34 = .ok (.iload_n 2, 1) := by decide +kernel
theorem dX5_join_35 : decode cX5_join 35 = .ok (.aload_n 0, 1) := by decide +kernel
theorem dX5_join_36 : decode cX5_join 36 = .ok (.getfield 30, 3) := by decide +kernel
theorem dX5_join_39 : decode cX5_join 39 = .ok (.iload_n 2, 1) := by decide +kernel
theorem dX5_join_40 : decode cX5_join 40 = .ok (.iaload, 1) := by decide +kernel
theorem dX5_join_41 : decode cX5_join 41 = .ok (.aload_n 0, 1) := by decide +kernel
theorem dX5_join_42 : decode cX5_join 42 = .ok (.getfield 30, 3) := by decide +kernel
theorem dX5_join_45 : decode cX5_join 45 = .ok (.iload_n 1, 1) := by decide +kernel
theorem dX5_join_46 : decode cX5_join 46 = .ok (.iaload, 1) := by decide +kernel
theorem dX5_join_47 : decode cX5_join 47 = .ok (.invokestatic 91, 3) := by decide +kernel
theorem dX5_join_50 : decode cX5_join 50 = .ok (.iastore, 1) := by decide +kernel
theorem dX5_join_51 : decode cX5_join 51 = .ok (.aload_n 0, 1) := by decide +kernel
theorem dX5_join_52 : decode cX5_join 52 = .ok (.getfield 33, 3) := by decide +kernel
theorem dX5_join_55 : decode cX5_join 55 = .ok (.iload_n 2, 1) := by decide +kernel
theorem dX5_join_56 : decode cX5_join 56 = .ok (.aload_n 0, 1) := by decide +kernel
theorem dX5_join_57 : decode cX5_join 57 = .ok (.getfield 33, 3) := by decide +kernel
theorem dX5_join_60 : decode cX5_join 60 = .ok (.iload_n 2, 1) := by decide +kernel
theorem dX5_join_61 : decode cX5_join 61 = .ok (.iaload, 1) := by decide +kernel
theorem dX5_join_62 : decode cX5_join 62 = .ok (.aload_n 0, 1) := by decide +kernel
theorem dX5_join_63 : decode cX5_join 63 = .ok (.getfield 33, 3) := by decide +kernel
theorem dX5_join_66 : decode cX5_join 66 = .ok (.iload_n 1, 1) := by decide +kernel
theorem dX5_join_67 : decode cX5_join 67 = .ok (.iaload, 1) := by decide +kernel
theorem dX5_join_68 : decode cX5_join 68 = .ok (.invokestatic 96, 3) := by decide +kernel
theorem dX5_join_71 : decode cX5_join 71 = .ok (.iastore, 1) := by decide +kernel
theorem dX5_join_72 : decode cX5_join 72 = .ok (.return_, 1) := by decide +kernel
theorem dX5_carry_0 : decode cX5_carry 0 = .ok (.aload_n 0, 1) := by decide +kernel
theorem dX5_carry_1 : decode cX5_carry 1 = .ok (.getfield 20, 3) := by decide +kernel
theorem dX5_carry_4 : decode cX5_carry 4 = .ok (.iload_n 2, 1) := by decide +kernel
theorem dX5_carry_5 : decode cX5_carry 5 = .ok (.iload_n 3, 1) := by decide +kernel
theorem dX5_carry_6 : decode cX5_carry 6 = .ok (.iastore, 1) := by decide +kernel
theorem dX5_carry_7 : decode cX5_carry 7 = .ok (.aload_n 0, 1) := by decide +kernel
theorem dX5_carry_8 : decode cX5_carry 8 = .ok (.getfield 23, 3) := by decide +kernel
theorem dX5_carry_11 : decode cX5_carry 11 = .ok (.iload_n 2, 1) := by decide +kernel
theorem dX5_carry_12 : decode cX5_carry 12 = .ok (.aload_n 0, 1) := by decide +kernel
theorem dX5_carry_13 : decode cX5_carry 13 = .ok (.getfield 23, 3) := by decide +kernel
theorem dX5_carry_16 : decode cX5_carry 16 = .ok (.iload_n 1, 1) := by decide +kernel
theorem dX5_carry_17 : decode cX5_carry 17 = .ok (.iaload, 1) := by decide +kernel
theorem dX5_carry_18 : decode cX5_carry 18 = .ok (.iastore, 1) := by decide +kernel
theorem dX5_carry_19 : decode cX5_carry 19 = .ok (.aload_n 0, 1) := by decide +kernel
theorem dX5_carry_20 : decode cX5_carry 20 = .ok (.getfield 26, 3) := by decide +kernel
theorem dX5_carry_23 : decode cX5_carry 23 = .ok (.iload_n 2, 1) := by decide +kernel
theorem dX5_carry_24 : decode cX5_carry 24 = .ok (.aload_n 0, 1) := by decide +kernel
theorem dX5_carry_25 : decode cX5_carry 25 = .ok (.getfield 26, 3) := by decide +kernel
theorem dX5_carry_28 : decode cX5_carry 28 = .ok (.iload_n 1, 1) := by decide +kernel
theorem dX5_carry_29 : decode cX5_carry 29 = .ok (.laload, 1) := by decide +kernel
theorem dX5_carry_30 : decode cX5_carry 30 = .ok (.lastore, 1) := by decide +kernel
theorem dX5_carry_31 : decode cX5_carry 31 = .ok (.aload_n 0, 1) := by decide +kernel
theorem dX5_carry_32 : decode cX5_carry 32 = .ok (.getfield 30, 3) := by decide +kernel
theorem dX5_carry_35 : decode cX5_carry 35 = .ok (.iload_n 2, 1) := by decide +kernel
theorem dX5_carry_36 : decode cX5_carry 36 = .ok (.aload_n 0, 1) := by decide +kernel
theorem dX5_carry_37 : decode cX5_carry 37 = .ok (.getfield 30, 3) := by decide +kernel
theorem dX5_carry_40 : decode cX5_carry 40 = .ok (.iload_n 1, 1) := by decide +kernel
theorem dX5_carry_41 : decode cX5_carry 41 = .ok (.iaload, 1) := by decide +kernel
theorem dX5_carry_42 : decode cX5_carry 42 = .ok (.iastore, 1) := by decide +kernel
theorem dX5_carry_43 : decode cX5_carry 43 = .ok (.aload_n 0, 1) := by decide +kernel
theorem dX5_carry_44 : decode cX5_carry 44 = .ok (.getfield 33, 3) := by decide +kernel
theorem dX5_carry_47 : decode cX5_carry 47 = .ok (.iload_n 2, 1) := by decide +kernel
theorem dX5_carry_48 : decode cX5_carry 48 = .ok (.aload_n 0, 1) := by decide +kernel
theorem dX5_carry_49 : decode cX5_carry 49 = .ok (.getfield 33, 3) := by decide +kernel
theorem dX5_carry_52 : decode cX5_carry 52 = .ok (.iload_n 1, 1) := by decide +kernel
theorem dX5_carry_53 : decode cX5_carry 53 = .ok (.iaload, 1) := by decide +kernel
theorem dX5_carry_54 : decode cX5_carry 54 = .ok (.iastore, 1) := by decide +kernel
theorem dX5_carry_55 : decode cX5_carry 55 = .ok (.return_, 1) := by decide +kernel
theorem dX5_makeRoom_0 : decode cX5_makeRoom 0 = .ok (.aload_n 0, 1) := by decide +kernel
theorem dX5_makeRoom_1 : decode cX5_makeRoom 1 = .ok (.getfield 36, 3) := by decide +kernel
theorem dX5_makeRoom_4 : decode cX5_makeRoom 4 = .ok (.aload_n 0, 1) := by decide +kernel
theorem dX5_makeRoom_5 : decode cX5_makeRoom 5 = .ok (.getfield 20, 3) := by decide +kernel
theorem dX5_makeRoom_8 : decode cX5_makeRoom 8 = .ok (.arraylength, 1) := by decide +kernel
theorem dX5_makeRoom_9 : decode cX5_makeRoom 9 = .ok (.if_icmp .ge 5, 3) := by decide +kernel
theorem dX5_makeRoom_12 : decode cX5_makeRoom 12 = .ok (.iconst 1, 1) := by decide +kernel
theorem dX5_makeRoom_13 : decode cX5_makeRoom 13 = .ok (.ireturn, 1) := by decide +kernel
theorem dX5_makeRoom_14 : decode cX5_makeRoom 14 = .ok (.aload_n 0, 1) := by decide +kernel
theorem dX5_makeRoom_15 : decode cX5_makeRoom 15 = .ok (.getfield 20, 3) := by decide +kernel
theorem dX5_makeRoom_18 : decode cX5_makeRoom 18 = .ok (.arraylength, 1) := by decide +kernel
theorem dX5_makeRoom_19 : decode cX5_makeRoom 19 = .ok (.ldc 138, 2) := by decide +kernel
theorem dX5_makeRoom_21 : decode cX5_makeRoom 21 = .ok (.if_icmp .lt 5, 3) := by decide +kernel
theorem dX5_makeRoom_24 : decode cX5_makeRoom 24 = .ok (.iconst 0, 1) := by decide +kernel
theorem dX5_makeRoom_25 : decode cX5_makeRoom 25 = .ok (.ireturn, 1) := by decide +kernel
theorem dX5_makeRoom_26 : decode cX5_makeRoom 26 = .ok (.aload_n 0, 1) := by decide +kernel
theorem dX5_makeRoom_27 : decode cX5_makeRoom 27 = .ok (.getfield 20, 3) := by decide +kernel
theorem dX5_makeRoom_30 : decode cX5_makeRoom 30 = .ok (.arraylength, 1) := by decide +kernel
theorem dX5_makeRoom_31 : decode cX5_makeRoom 31 = .ok (.iconst 2, 1) := by decide +kernel
theorem dX5_makeRoom_32 : decode cX5_makeRoom 32 = .ok (.imul, 1) := by decide +kernel
theorem dX5_makeRoom_33 : decode cX5_makeRoom 33 = .ok (.istore_n 1, 1) := by decide +kernel
theorem dX5_makeRoom_34 : decode cX5_makeRoom 34 = .ok (.aload_n 0, 1) := by decide +kernel
theorem dX5_makeRoom_35 : decode cX5_makeRoom 35 = .ok (.aload_n 0, 1) := by decide +kernel
theorem dX5_makeRoom_36 : decode cX5_makeRoom 36 = .ok (.getfield 20, 3) := by decide +kernel
theorem dX5_makeRoom_39 : decode cX5_makeRoom 39 = .ok (.iload_n 1, 1) := by decide +kernel
theorem dX5_makeRoom_40 : decode cX5_makeRoom 40 = .ok (.invokestatic 139, 3) := by decide +kernel
theorem dX5_makeRoom_43 : decode cX5_makeRoom 43 = .ok (.putfield 20, 3) := by decide +kernel
theorem dX5_makeRoom_46 : decode cX5_makeRoom 46 = .ok (.aload_n 0, 1) := by decide +kernel
theorem dX5_makeRoom_47 : decode cX5_makeRoom 47 = .ok (.aload_n 0, 1) := by decide +kernel
theorem dX5_makeRoom_48 : decode cX5_makeRoom 48 = .ok (.getfield 23, 3) := by decide +kernel
theorem dX5_makeRoom_51 : decode cX5_makeRoom 51 = .ok (.iload_n 1, 1) := by decide +kernel
theorem dX5_makeRoom_52 : decode cX5_makeRoom 52 = .ok (.invokestatic 139, 3) := by decide +kernel
theorem dX5_makeRoom_55 : decode cX5_makeRoom 55 = .ok (.putfield 23, 3) := by decide +kernel
theorem dX5_makeRoom_58 : decode cX5_makeRoom 58 = .ok (.aload_n 0, 1) := by decide +kernel
theorem dX5_makeRoom_59 : decode cX5_makeRoom 59 = .ok (.aload_n 0, 1) := by decide +kernel
theorem dX5_makeRoom_60 : decode cX5_makeRoom 60 = .ok (.getfield 26, 3) := by decide +kernel
theorem dX5_makeRoom_63 : decode cX5_makeRoom 63 = .ok (.iload_n 1, 1) := by decide +kernel
theorem dX5_makeRoom_64 : decode cX5_makeRoom 64 = .ok (.invokestatic 145, 3) := by decide +kernel
theorem dX5_makeRoom_67 : decode cX5_makeRoom 67 = .ok (.putfield 26, 3) := by decide +kernel
theorem dX5_makeRoom_70 : decode cX5_makeRoom 70 = .ok (.aload_n 0, 1) := by decide +kernel
theorem dX5_makeRoom_71 : decode cX5_makeRoom 71 = .ok (.aload_n 0, 1) := by decide +kernel
theorem dX5_makeRoom_72 : decode cX5_makeRoom 72 = .ok (.getfield 30, 3) := by decide +kernel
theorem dX5_makeRoom_75 : decode cX5_makeRoom 75 = .ok (.iload_n 1, 1) := by decide +kernel
theorem dX5_makeRoom_76 : decode cX5_makeRoom 76 = .ok (.invokestatic 139, 3) := by decide +kernel
theorem dX5_makeRoom_79 : decode cX5_makeRoom 79 = .ok (.putfield 30, 3) := by decide +kernel
theorem dX5_makeRoom_82 : decode cX5_makeRoom 82 = .ok (.aload_n 0, 1) := by decide +kernel
theorem dX5_makeRoom_83 : decode cX5_makeRoom 83 = .ok (.aload_n 0, 1) := by decide +kernel
theorem dX5_makeRoom_84 : decode cX5_makeRoom 84 = .ok (.getfield 33, 3) := by decide +kernel
theorem dX5_makeRoom_87 : decode cX5_makeRoom 87 = .ok (.iload_n 1, 1) := by decide +kernel
theorem dX5_makeRoom_88 : decode cX5_makeRoom 88 = .ok (.invokestatic 139, 3) := by decide +kernel
theorem dX5_makeRoom_91 : decode cX5_makeRoom 91 = .ok (.putfield 33, 3) := by decide +kernel
theorem dX5_makeRoom_94 : decode cX5_makeRoom 94 = .ok (.iconst 1, 1) := by decide +kernel
theorem dX5_makeRoom_95 : decode cX5_makeRoom 95 = .ok (.ireturn, 1) := by decide +kernel
theorem dX5_openAt_0 : decode cX5_openAt 0 = .ok (.aload_n 0, 1) := by decide +kernel
theorem dX5_openAt_1 : decode cX5_openAt 1 = .ok (.getfield 36, 3) := by decide +kernel
theorem dX5_openAt_4 : decode cX5_openAt 4 = .ok (.iload_n 1, 1) := by decide +kernel
theorem dX5_openAt_5 : decode cX5_openAt 5 = .ok (.isub, 1) := by decide +kernel
theorem dX5_openAt_6 : decode cX5_openAt 6 = .ok (.istore 4, 2) := by decide +kernel
theorem dX5_openAt_8 : decode cX5_openAt 8 = .ok (.aload_n 0, 1) := by decide +kernel
theorem dX5_openAt_9 : decode cX5_openAt 9 = .ok (.getfield 20, 3) := by decide +kernel
theorem dX5_openAt_12 : decode cX5_openAt 12 = .ok (.iload_n 1, 1) := by decide +kernel
theorem dX5_openAt_13 : decode cX5_openAt 13 = .ok (.aload_n 0, 1) := by decide +kernel
theorem dX5_openAt_14 : decode cX5_openAt 14 = .ok (.getfield 20, 3) := by decide +kernel
theorem dX5_openAt_17 : decode cX5_openAt 17 = .ok (.iload_n 1, 1) := by decide +kernel
theorem dX5_openAt_18 : decode cX5_openAt 18 = .ok (.iconst 1, 1) := by decide +kernel
theorem dX5_openAt_19 : decode cX5_openAt 19 = .ok (.iadd, 1) := by decide +kernel
theorem dX5_openAt_20 : decode cX5_openAt 20 = .ok (.iload 4, 2) := by decide +kernel
theorem dX5_openAt_22 : decode cX5_openAt 22 = .ok (.invokestatic 99, 3) := by decide +kernel
theorem dX5_openAt_25 : decode cX5_openAt 25 = .ok (.aload_n 0, 1) := by decide +kernel
theorem dX5_openAt_26 : decode cX5_openAt 26 = .ok (.getfield 23, 3) := by decide +kernel
theorem dX5_openAt_29 : decode cX5_openAt 29 = .ok (.iload_n 1, 1) := by decide +kernel
theorem dX5_openAt_30 : decode cX5_openAt 30 = .ok (.aload_n 0, 1) := by decide +kernel
theorem dX5_openAt_31 : decode cX5_openAt 31 = .ok (.getfield 23, 3) := by decide +kernel
theorem dX5_openAt_34 : decode cX5_openAt 34 = .ok (.iload_n 1, 1) := by decide +kernel
theorem dX5_openAt_35 : decode cX5_openAt 35 = .ok (.iconst 1, 1) := by decide +kernel
theorem dX5_openAt_36 : decode cX5_openAt 36 = .ok (.iadd, 1) := by decide +kernel
theorem dX5_openAt_37 : decode cX5_openAt 37 = .ok (.iload 4, 2) := by decide +kernel
theorem dX5_openAt_39 : decode cX5_openAt 39 = .ok (.invokestatic 99, 3) := by decide +kernel
theorem dX5_openAt_42 : decode cX5_openAt 42 = .ok (.aload_n 0, 1) := by decide +kernel
theorem dX5_openAt_43 : decode cX5_openAt 43 = .ok (.getfield 26, 3) := by decide +kernel
theorem dX5_openAt_46 : decode cX5_openAt 46 = .ok (.iload_n 1, 1) := by decide +kernel
theorem dX5_openAt_47 : decode cX5_openAt 47 = .ok (.aload_n 0, 1) := by decide +kernel
theorem dX5_openAt_48 : decode cX5_openAt 48 = .ok (.getfield 26, 3) := by decide +kernel
theorem dX5_openAt_51 : decode cX5_openAt 51 = .ok (.iload_n 1, 1) := by decide +kernel
theorem dX5_openAt_52 : decode cX5_openAt 52 = .ok (.iconst 1, 1) := by decide +kernel
theorem dX5_openAt_53 : decode cX5_openAt 53 = .ok (.iadd, 1) := by decide +kernel
theorem dX5_openAt_54 : decode cX5_openAt 54 = .ok (.iload 4, 2) := by decide +kernel
theorem dX5_openAt_56 : decode cX5_openAt 56 = .ok (.invokestatic 99, 3) := by decide +kernel
theorem dX5_openAt_59 : decode cX5_openAt 59 = .ok (.aload_n 0, 1) := by decide +kernel
theorem dX5_openAt_60 : decode cX5_openAt 60 = .ok (.getfield 30, 3) := by decide +kernel
theorem dX5_openAt_63 : decode cX5_openAt 63 = .ok (.iload_n 1, 1) := by decide +kernel
theorem dX5_openAt_64 : decode cX5_openAt 64 = .ok (.aload_n 0, 1) := by decide +kernel
theorem dX5_openAt_65 : decode cX5_openAt 65 = .ok (.getfield 30, 3) := by decide +kernel
theorem dX5_openAt_68 : decode cX5_openAt 68 = .ok (.iload_n 1, 1) := by decide +kernel
theorem dX5_openAt_69 : decode cX5_openAt 69 = .ok (.iconst 1, 1) := by decide +kernel
theorem dX5_openAt_70 : decode cX5_openAt 70 = .ok (.iadd, 1) := by decide +kernel
theorem dX5_openAt_71 : decode cX5_openAt 71 = .ok (.iload 4, 2) := by decide +kernel
theorem dX5_openAt_73 : decode cX5_openAt 73 = .ok (.invokestatic 99, 3) := by decide +kernel
theorem dX5_openAt_76 : decode cX5_openAt 76 = .ok (.aload_n 0, 1) := by decide +kernel
theorem dX5_openAt_77 : decode cX5_openAt 77 = .ok (.getfield 33, 3) := by decide +kernel
theorem dX5_openAt_80 : decode cX5_openAt 80 = .ok (.iload_n 1, 1) := by decide +kernel
theorem dX5_openAt_81 : decode cX5_openAt 81 = .ok (.aload_n 0, 1) := by decide +kernel
theorem dX5_openAt_82 : decode cX5_openAt 82 = .ok (.getfield 33, 3) := by decide +kernel
theorem dX5_openAt_85 : decode cX5_openAt 85 = .ok (.iload_n 1, 1) := by decide +kernel
theorem dX5_openAt_86 : decode cX5_openAt 86 = .ok (.iconst 1, 1) := by decide +kernel
theorem dX5_openAt_87 : decode cX5_openAt 87 = .ok (.iadd, 1) := by decide +kernel
theorem dX5_openAt_88 : decode cX5_openAt 88 = .ok (.iload 4, 2) := by decide +kernel
theorem dX5_openAt_90 : decode cX5_openAt 90 = .ok (.invokestatic 99, 3) := by decide +kernel
theorem dX5_openAt_93 : decode cX5_openAt 93 = .ok (.aload_n 0, 1) := by decide +kernel
theorem dX5_openAt_94 : decode cX5_openAt 94 = .ok (.getfield 20, 3) := by decide +kernel
theorem dX5_openAt_97 : decode cX5_openAt 97 = .ok (.iload_n 1, 1) := by decide +kernel
theorem dX5_openAt_98 : decode cX5_openAt 98 = .ok (.iload_n 2, 1) := by decide +kernel
theorem dX5_openAt_99 : decode cX5_openAt 99 = .ok (.iastore, 1) := by decide +kernel
theorem dX5_openAt_100 : decode cX5_openAt 100 = .ok (.aload_n 0, 1) := by decide +kernel
theorem dX5_openAt_101 : decode cX5_openAt 101 = .ok (.getfield 23, 3) := by decide +kernel
theorem dX5_openAt_104 : decode cX5_openAt 104 = .ok (.iload_n 1, 1) := by decide +kernel
theorem dX5_openAt_105 : decode cX5_openAt 105 = .ok (.iconst 0, 1) := by decide +kernel
theorem dX5_openAt_106 : decode cX5_openAt 106 = .ok (.iastore, 1) := by decide +kernel
theorem dX5_openAt_107 : decode cX5_openAt 107 = .ok (.aload_n 0, 1) := by decide +kernel
theorem dX5_openAt_108 : decode cX5_openAt 108 = .ok (.getfield 26, 3) := by decide +kernel
theorem dX5_openAt_111 : decode cX5_openAt 111 = .ok (.iload_n 1, 1) := by decide +kernel
theorem dX5_openAt_112 : decode cX5_openAt 112 = .ok (.lconst 0, 1) := by decide +kernel
theorem dX5_openAt_113 : decode cX5_openAt 113 = .ok (.lastore, 1) := by decide +kernel
theorem dX5_openAt_114 : decode cX5_openAt 114 = .ok (.aload_n 0, 1) := by decide +kernel
theorem dX5_openAt_115 : decode cX5_openAt 115 = .ok (.getfield 30, 3) := by decide +kernel
theorem dX5_openAt_118 : decode cX5_openAt 118 = .ok (.iload_n 1, 1) := by decide +kernel
theorem dX5_openAt_119 : decode cX5_openAt 119 = .ok (.iload_n 3, 1) := by decide +kernel
theorem dX5_openAt_120 : decode cX5_openAt 120 = .ok (.iastore, 1) := by decide +kernel
theorem dX5_openAt_121 : decode cX5_openAt 121 = .ok (.aload_n 0, 1) := by decide +kernel
theorem dX5_openAt_122 : decode cX5_openAt 122 = .ok (.getfield 33, 3) := by decide +kernel
theorem dX5_openAt_125 : decode cX5_openAt 125 = .ok (.iload_n 1, 1) := by decide +kernel
theorem dX5_openAt_126 : decode cX5_openAt 126 = .ok (.iload_n 3, 1) := by decide +kernel
theorem dX5_openAt_127 : decode cX5_openAt 127 = .ok (.iastore, 1) := by decide +kernel
theorem dX5_openAt_128 : decode cX5_openAt 128 = .ok (.aload_n 0, 1) := by decide +kernel
theorem dX5_openAt_129 : decode cX5_openAt 129 = .ok (.dup, 1) := by decide +kernel
theorem dX5_openAt_130 : decode cX5_openAt 130 = .ok (.getfield 36, 3) := by decide +kernel
theorem dX5_openAt_133 : decode cX5_openAt 133 = .ok (.iconst 1, 1) := by decide +kernel
theorem dX5_openAt_134 : decode cX5_openAt 134 = .ok (.iadd, 1) := by decide +kernel
theorem dX5_openAt_135 : decode cX5_openAt 135 = .ok (.putfield 36, 3) := by decide +kernel
theorem dX5_openAt_138 : decode cX5_openAt 138 = .ok (.return_, 1) := by decide +kernel
theorem dX6_init_0 : decode cX6_init 0 = .ok (.aload_n 0, 1) := by decide +kernel
theorem dX6_init_1 : decode cX6_init 1 = .ok (.invokespecial 3, 3) := by decide +kernel
theorem dX6_init_4 : decode cX6_init 4 = .ok (.aload_n 0, 1) := by decide +kernel
theorem dX6_init_5 : decode cX6_init 5 = .ok (.iconst 0, 1) := by decide +kernel
theorem dX6_init_6 : decode cX6_init 6 = .ok (.putfield 9, 3) := by decide +kernel
theorem dX6_init_9 : decode cX6_init 9 = .ok (.aload_n 0, 1) := by decide +kernel
theorem dX6_init_10 : decode cX6_init 10 = .ok (.iconst 0, 1) := by decide +kernel
theorem dX6_init_11 : decode cX6_init 11 = .ok (.putfield 15, 3) := by decide +kernel
theorem dX6_init_14 : decode cX6_init 14 = .ok (.aload_n 0, 1) := by decide +kernel
theorem dX6_init_15 : decode cX6_init 15 = .ok (.lconst 0, 1) := by decide +kernel
theorem dX6_init_16 : decode cX6_init 16 = .ok (.putfield 18, 3) := by decide +kernel
theorem dX6_init_19 : decode cX6_init 19 = .ok (.aload_n 0, 1) := by decide +kernel
theorem dX6_init_20 : decode cX6_init 20 = .ok (.sipush (-20000), 3) := by decide +kernel
theorem dX6_init_23 : decode cX6_init 23 = .ok (.putfield 22, 3) := by decide +kernel
theorem dX6_init_26 : decode cX6_init 26 = .ok (.aload_n 0, 1) := by decide +kernel
theorem dX6_init_27 : decode cX6_init 27 = .ok (.sipush (-20000), 3) := by decide +kernel
theorem dX6_init_30 : decode cX6_init 30 = .ok (.putfield 25, 3) := by decide +kernel
theorem dX6_init_33 : decode cX6_init 33 = .ok (.return_, 1) := by decide +kernel
theorem dX6_clear_0 : decode cX6_clear 0 = .ok (.aload_n 0, 1) := by decide +kernel
theorem dX6_clear_1 : decode cX6_clear 1 = .ok (.iconst 0, 1) := by decide +kernel
theorem dX6_clear_2 : decode cX6_clear 2 = .ok (.putfield 9, 3) := by decide +kernel
theorem dX6_clear_5 : decode cX6_clear 5 = .ok (.aload_n 0, 1) := by decide +kernel
theorem dX6_clear_6 : decode cX6_clear 6 = .ok (.iconst 0, 1) := by decide +kernel
theorem dX6_clear_7 : decode cX6_clear 7 = .ok (.putfield 15, 3) := by decide +kernel
theorem dX6_clear_10 : decode cX6_clear 10 = .ok (.aload_n 0, 1) := by decide +kernel
theorem dX6_clear_11 : decode cX6_clear 11 = .ok (.lconst 0, 1) := by decide +kernel
theorem dX6_clear_12 : decode cX6_clear 12 = .ok (.putfield 18, 3) := by decide +kernel
theorem dX6_clear_15 : decode cX6_clear 15 = .ok (.aload_n 0, 1) := by decide +kernel
theorem dX6_clear_16 : decode cX6_clear 16 = .ok (.sipush (-20000), 3) := by decide +kernel
theorem dX6_clear_19 : decode cX6_clear 19 = .ok (.putfield 22, 3) := by decide +kernel
theorem dX6_clear_22 : decode cX6_clear 22 = .ok (.aload_n 0, 1) := by decide +kernel
theorem dX6_clear_23 : decode cX6_clear 23 = .ok (.sipush (-20000), 3) := by decide +kernel
theorem dX6_clear_26 : decode cX6_clear 26 = .ok (.putfield 25, 3) := by decide +kernel
theorem dX6_clear_29 : decode cX6_clear 29 = .ok (.return_, 1) := by decide +kernel
theorem dX6_add_0 : decode cX6_add 0 = .ok (.aload_n 0, 1) := by decide +kernel
theorem dX6_add_1 : decode cX6_add 1 = .ok (.aload_n 0, 1) := by decide +kernel
theorem dX6_add_2 : decode cX6_add 2 = .ok (.getfield 9, 3) := by decide +kernel
theorem dX6_add_5 : decode cX6_add 5 = .ok (.ifCond .ne 12, 3) := by decide +kernel
theorem dX6_add_8 : decode cX6_add 8 = .ok (.aload_n 1, 1) := by decide +kernel
theorem dX6_add_9 : decode cX6_add 9 = .ok (.getfield 28, 3) := by decide +kernel
theorem dX6_add_12 : decode cX6_add 12 = .ok (.iload_n 2, 1) := by decide +kernel
theorem dX6_add_13 : decode cX6_add 13 = .ok (.iaload, 1) := by decide +kernel
theorem dX6_add_14 : decode cX6_add 14 = .ok (.goto 16, 3) := by decide +kernel
theorem dX6_add_17 : decode cX6_add 17 = .ok (.aload_n 0, 1) := by decide +kernel
theorem dX6_add_18 : decode cX6_add 18 = .ok (.getfield 22, 3) := by decide +kernel
theorem dX6_add_21 : decode cX6_add 21 = .ok (.aload_n 1, 1) := by decide +kernel
theorem dX6_add_22 : decode cX6_add 22 = .ok (.getfield 28, 3) := by decide +kernel
theorem dX6_add_25 : decode cX6_add 25 = .ok (.iload_n 2, 1) := by decide +kernel
theorem dX6_add_26 : decode cX6_add 26 = .ok (.iaload, 1) := by decide +kernel
theorem dX6_add_27 : decode cX6_add 27 = .ok (.invokestatic 33, 3) := by decide +kernel
theorem dX6_add_30 : decode cX6_add 30 = .ok (.putfield 22, 3) := by decide +kernel
theorem dX6_add_33 : decode cX6_add 33 = .ok (.aload_n 0, 1) := by decide +kernel
theorem dX6_add_34 : decode cX6_add 34 = .ok (.aload_n 0, 1) := by decide +kernel
theorem dX6_add_35 : decode cX6_add 35 = .ok (.getfield 25, 3) := by decide +kernel
theorem dX6_add_38 : decode cX6_add 38 = .ok (.aload_n 1, 1) := by decide +kernel
theorem dX6_add_39 : decode cX6_add 39 = .ok (.getfield 39, 3) := by decide +kernel
theorem dX6_add_42 : decode cX6_add 42 = .ok (.iload_n 2, 1) := by decide +kernel
theorem dX6_add_43 : decode cX6_add 43 = .ok (.iaload, 1) := by decide +kernel
theorem dX6_add_44 : decode cX6_add 44 = .ok (.invokestatic 41, 3) := by decide +kernel
theorem dX6_add_47 : decode cX6_add 47 = .ok (.putfield 25, 3) := by decide +kernel
theorem dX6_add_50 : decode cX6_add 50 = .ok (.aload_n 0, 1) := by decide +kernel
theorem dX6_add_51 : decode cX6_add 51 = .ok (.dup, 1) := by decide +kernel
theorem dX6_add_52 : decode cX6_add 52 = .ok (.getfield 18, 3) := by decide +kernel
theorem dX6_add_55 : decode cX6_add 55 = .ok (.aload_n 1, 1) := by decide +kernel
theorem dX6_add_56 : decode cX6_add 56 = .ok (.getfield 44, 3) := by decide +kernel
theorem dX6_add_59 : decode cX6_add 59 = .ok (.iload_n 2, 1) := by decide +kernel
theorem dX6_add_60 : decode cX6_add 60 = .ok (.laload, 1) := by decide +kernel
theorem dX6_add_61 : decode cX6_add 61 = .ok (.ladd, 1) := by decide +kernel
theorem dX6_add_62 : decode cX6_add 62 = .ok (.putfield 18, 3) := by decide +kernel
theorem dX6_add_65 : decode cX6_add 65 = .ok (.aload_n 0, 1) := by decide +kernel
theorem dX6_add_66 : decode cX6_add 66 = .ok (.dup, 1) := by decide +kernel
theorem dX6_add_67 : decode cX6_add 67 = .ok (.getfield 15, 3) := by decide +kernel
theorem dX6_add_70 : decode cX6_add 70 = .ok (.aload_n 1, 1) := by decide +kernel
theorem dX6_add_71 : decode cX6_add 71 = .ok (.getfield 47, 3) := by decide +kernel
theorem dX6_add_74 : decode cX6_add 74 = .ok (.iload_n 2, 1) := by decide +kernel
theorem dX6_add_75 : decode cX6_add 75 = .ok (.iaload, 1) := by decide +kernel
theorem dX6_add_76 : decode cX6_add 76 = .ok (.iadd, 1) := by decide +kernel
theorem dX6_add_77 : decode cX6_add 77 = .ok (.putfield 15, 3) := by decide +kernel
theorem dX6_add_80 : decode cX6_add 80 = .ok (.aload_n 0, 1) := by decide +kernel
theorem dX6_add_81 : decode cX6_add 81 = .ok (.dup, 1) := by decide +kernel
theorem dX6_add_82 : decode cX6_add 82 = .ok (.getfield 9, 3) := by decide +kernel
theorem dX6_add_85 : decode cX6_add 85 = .ok (.iconst 1, 1) := by decide +kernel
theorem dX6_add_86 : decode cX6_add 86 = .ok (.iadd, 1) := by decide +kernel
theorem dX6_add_87 : decode cX6_add 87 = .ok (.putfield 9, 3) := by decide +kernel
theorem dX6_add_90 : decode cX6_add 90 = .ok (.return_, 1) := by decide +kernel
theorem dX6_fact_0 : decode cX6_fact 0 = .ok (.iload_n 1, 1) := by decide +kernel
theorem dX6_fact_1 : decode cX6_fact 1 = .ok (.tableswitch 44 0 2 #[27, 33, 38], 27) := by decide +kernel
theorem dX6_fact_28 : decode cX6_fact 28 = .ok (.aload_n 0, 1) := by decide +kernel
theorem dX6_fact_29 : decode cX6_fact 29 = .ok (.getfield 15, 3) := by decide +kernel
theorem dX6_fact_32 : decode cX6_fact 32 = .ok (.i2l, 1) := by decide +kernel
theorem dX6_fact_33 : decode cX6_fact 33 = .ok (.lreturn, 1) := by decide +kernel
theorem dX6_fact_34 : decode cX6_fact 34 = .ok (.aload_n 0, 1) := by decide +kernel
theorem dX6_fact_35 : decode cX6_fact 35 = .ok (.getfield 18, 3) := by decide +kernel
theorem dX6_fact_38 : decode cX6_fact 38 = .ok (.lreturn, 1) := by decide +kernel
theorem dX6_fact_39 : decode cX6_fact 39 = .ok (.aload_n 0, 1) := by decide +kernel
theorem dX6_fact_40 : decode cX6_fact 40 = .ok (.getfield 22, 3) := by decide +kernel
theorem dX6_fact_43 : decode cX6_fact 43 = .ok (.i2l, 1) := by decide +kernel
theorem dX6_fact_44 : decode cX6_fact 44 = .ok (.lreturn, 1) := by decide +kernel
theorem dX6_fact_45 : decode cX6_fact 45 = .ok (.aload_n 0, 1) := by decide +kernel
theorem dX6_fact_46 : decode cX6_fact 46 = .ok (.getfield 25, 3) := by decide +kernel
theorem dX6_fact_49 : decode cX6_fact 49 = .ok (.i2l, 1) := by decide +kernel
theorem dX6_fact_50 : decode cX6_fact 50 = .ok (.lreturn, 1) := by decide +kernel
theorem dX7_init_0 : decode cX7_init 0 = .ok (.aload_n 0, 1) := by decide +kernel
theorem dX7_init_1 : decode cX7_init 1 = .ok (.invokespecial 3, 3) := by decide +kernel
theorem dX7_init_4 : decode cX7_init 4 = .ok (.aload_n 0, 1) := by decide +kernel
theorem dX7_init_5 : decode cX7_init 5 = .ok (.iconst 0, 1) := by decide +kernel
theorem dX7_init_6 : decode cX7_init 6 = .ok (.putfield 9, 3) := by decide +kernel
theorem dX7_init_9 : decode cX7_init 9 = .ok (.aload_n 0, 1) := by decide +kernel
theorem dX7_init_10 : decode cX7_init 10 = .ok (.iconst 0, 1) := by decide +kernel
theorem dX7_init_11 : decode cX7_init 11 = .ok (.putfield 15, 3) := by decide +kernel
theorem dX7_init_14 : decode cX7_init 14 = .ok (.aload_n 0, 1) := by decide +kernel
theorem dX7_init_15 : decode cX7_init 15 = .ok (.iconst 0, 1) := by decide +kernel
theorem dX7_init_16 : decode cX7_init 16 = .ok (.putfield 18, 3) := by decide +kernel
theorem dX7_init_19 : decode cX7_init 19 = .ok (.aload_n 0, 1) := by decide +kernel
theorem dX7_init_20 : decode cX7_init 20 = .ok (.iconst 0, 1) := by decide +kernel
theorem dX7_init_21 : decode cX7_init 21 = .ok (.putfield 21, 3) := by decide +kernel
theorem dX7_init_24 : decode cX7_init 24 = .ok (.aload_n 0, 1) := by decide +kernel
theorem dX7_init_25 : decode cX7_init 25 = .ok (.iconst 0, 1) := by decide +kernel
theorem dX7_init_26 : decode cX7_init 26 = .ok (.putfield 24, 3) := by decide +kernel
theorem dX7_init_29 : decode cX7_init 29 = .ok (.aload_n 0, 1) := by decide +kernel
theorem dX7_init_30 : decode cX7_init 30 = .ok (.iconst 0, 1) := by decide +kernel
theorem dX7_init_31 : decode cX7_init 31 = .ok (.putfield 27, 3) := by decide +kernel
theorem dX7_init_34 : decode cX7_init 34 = .ok (.aload_n 0, 1) := by decide +kernel
theorem dX7_init_35 : decode cX7_init 35 = .ok (.iconst 0, 1) := by decide +kernel
theorem dX7_init_36 : decode cX7_init 36 = .ok (.putfield 30, 3) := by decide +kernel
theorem dX7_init_39 : decode cX7_init 39 = .ok (.aload_n 0, 1) := by decide +kernel
theorem dX7_init_40 : decode cX7_init 40 = .ok (.iconst (-1), 1) := by decide +kernel
theorem dX7_init_41 : decode cX7_init 41 = .ok (.putfield 33, 3) := by decide +kernel
theorem dX7_init_44 : decode cX7_init 44 = .ok (.aload_n 0, 1) := by decide +kernel
theorem dX7_init_45 : decode cX7_init 45 = .ok (.aload_n 1, 1) := by decide +kernel
theorem dX7_init_46 : decode cX7_init 46 = .ok (.putfield 36, 3) := by decide +kernel
theorem dX7_init_49 : decode cX7_init 49 = .ok (.return_, 1) := by decide +kernel
theorem dX7_open_0 : decode cX7_open 0 = .ok (.aload_n 0, 1) := by decide +kernel
theorem dX7_open_1 : decode cX7_open 1 = .ok (.iconst 0, 1) := by decide +kernel
theorem dX7_open_2 : decode cX7_open 2 = .ok (.iload_n 1, 1) := by decide +kernel
theorem dX7_open_3 : decode cX7_open 3 = .ok (.aload_n 0, 1) := by decide +kernel
theorem dX7_open_4 : decode cX7_open 4 = .ok (.getfield 36, 3) := by decide +kernel
theorem dX7_open_7 : decode cX7_open 7 = .ok (.arraylength, 1) := by decide +kernel
theorem dX7_open_8 : decode cX7_open 8 = .ok (.invokestatic 40, 3) := by decide +kernel
theorem dX7_open_11 : decode cX7_open 11 = .ok (.invokestatic 46, 3) := by decide +kernel
theorem dX7_open_14 : decode cX7_open 14 = .ok (.putfield 9, 3) := by decide +kernel
theorem dX7_open_17 : decode cX7_open 17 = .ok (.aload_n 0, 1) := by decide +kernel
theorem dX7_open_18 : decode cX7_open 18 = .ok (.iconst 0, 1) := by decide +kernel
theorem dX7_open_19 : decode cX7_open 19 = .ok (.putfield 18, 3) := by decide +kernel
theorem dX7_open_22 : decode cX7_open 22 = .ok (.aload_n 0, 1) := by decide +kernel
theorem dX7_open_23 : decode cX7_open 23 = .ok (.iconst 0, 1) := by decide +kernel
theorem dX7_open_24 : decode cX7_open 24 = .ok (.putfield 30, 3) := by decide +kernel
theorem dX7_open_27 : decode cX7_open 27 = .ok (.aload_n 0, 1) := by decide +kernel
theorem dX7_open_28 : decode cX7_open 28 = .ok (.iconst (-1), 1) := by decide +kernel
theorem dX7_open_29 : decode cX7_open 29 = .ok (.putfield 33, 3) := by decide +kernel
theorem dX7_open_32 : decode cX7_open 32 = .ok (.aload_n 0, 1) := by decide +kernel
theorem dX7_open_33 : decode cX7_open 33 = .ok (.invokevirtual 49, 3) := by decide +kernel
theorem dX7_open_36 : decode cX7_open 36 = .ok (.return_, 1) := by decide +kernel
theorem dX7_next_0 : decode cX7_next 0 = .ok (.aload_n 0, 1) := by decide +kernel
theorem dX7_next_1 : decode cX7_next 1 = .ok (.getfield 18, 3) := by decide +kernel
theorem dX7_next_4 : decode cX7_next 4 = .ok (.aload_n 0, 1) := by decide +kernel
theorem dX7_next_5 : decode cX7_next 5 = .ok (.getfield 9, 3) := by decide +kernel
theorem dX7_next_8 : decode cX7_next 8 = .ok (.if_icmp .ge 44, 3) := by decide +kernel
theorem dX7_next_11 : decode cX7_next 11 = .ok (.aload_n 0, 1) := by decide +kernel
theorem dX7_next_12 : decode cX7_next 12 = .ok (.getfield 36, 3) := by decide +kernel
theorem dX7_next_15 : decode cX7_next 15 = .ok (.aload_n 0, 1) := by decide +kernel
theorem dX7_next_16 : decode cX7_next 16 = .ok (.getfield 18, 3) := by decide +kernel
theorem dX7_next_19 : decode cX7_next 19 = .ok (.baload, 1) := by decide +kernel
theorem dX7_next_20 : decode cX7_next 20 = .ok (.bipush 32, 2) := by decide +kernel
theorem dX7_next_22 : decode cX7_next 22 = .ok (.if_icmp .eq 17, 3) := by decide +kernel
theorem dX7_next_25 : decode cX7_next 25 = .ok (.aload_n 0, 1) := by decide +kernel
theorem dX7_next_26 : decode cX7_next 26 = .ok (.getfield 36, 3) := by decide +kernel
theorem dX7_next_29 : decode cX7_next 29 = .ok (.aload_n 0, 1) := by decide +kernel
theorem dX7_next_30 : decode cX7_next 30 = .ok (.getfield 18, 3) := by decide +kernel
theorem dX7_next_33 : decode cX7_next 33 = .ok (.baload, 1) := by decide +kernel
theorem dX7_next_34 : decode cX7_next 34 = .ok (.bipush 10, 2) := by decide +kernel
theorem dX7_next_36 : decode cX7_next 36 = .ok (.if_icmp .ne 16, 3) := by decide +kernel
theorem dX7_next_39 : decode cX7_next 39 = .ok (.aload_n 0, 1) := by decide +kernel
theorem dX7_next_40 : decode cX7_next 40 = .ok (.dup, 1) := by decide +kernel
theorem dX7_next_41 : decode cX7_next 41 = .ok (.getfield 18, 3) := by decide +kernel
theorem dX7_next_44 : decode cX7_next 44 = .ok (.iconst 1, 1) := by decide +kernel
theorem dX7_next_45 : decode cX7_next 45 = .ok (.iadd, 1) := by decide +kernel
theorem dX7_next_46 : decode cX7_next 46 = .ok (.putfield 18, 3) := by decide +kernel
theorem dX7_next_49 : decode cX7_next 49 = .ok (.goto (-49), 3) := by decide +kernel
theorem dX7_next_52 : decode cX7_next 52 = .ok (.aload_n 0, 1) := by decide +kernel
theorem dX7_next_53 : decode cX7_next 53 = .ok (.aload_n 0, 1) := by decide +kernel
theorem dX7_next_54 : decode cX7_next 54 = .ok (.getfield 18, 3) := by decide +kernel
theorem dX7_next_57 : decode cX7_next 57 = .ok (.putfield 15, 3) := by decide +kernel
theorem dX7_next_60 : decode cX7_next 60 = .ok (.aload_n 0, 1) := by decide +kernel
theorem dX7_next_61 : decode cX7_next 61 = .ok (.getfield 15, 3) := by decide +kernel
theorem dX7_next_64 : decode cX7_next 64 = .ok (.aload_n 0, 1) := by decide +kernel
theorem dX7_next_65 : decode cX7_next 65 = .ok (.getfield 9, 3) := by decide +kernel
theorem dX7_next_68 : decode cX7_next 68 = .ok (.if_icmp .lt 11, 3) := by decide +kernel
theorem dX7_next_71 : decode cX7_next 71 = .ok (.aload_n 0, 1) := by decide +kernel
theorem dX7_next_72 : decode cX7_next 72 = .ok (.iconst 0, 1) := by decide +kernel
theorem dX7_next_73 : decode cX7_next 73 = .ok (.putfield 21, 3) := by decide +kernel
theorem dX7_next_76 : decode cX7_next 76 = .ok (.goto 114, 3) := by decide +kernel
theorem dX7_next_79 : decode cX7_next 79 = .ok (.aload_n 0, 1) := by decide +kernel
theorem dX7_next_80 : decode cX7_next 80 = .ok (.getfield 36, 3) := by decide +kernel
theorem dX7_next_83 : decode cX7_next 83 = .ok (.aload_n 0, 1) := by decide +kernel
theorem dX7_next_84 : decode cX7_next 84 = .ok (.getfield 15, 3) := by decide +kernel
theorem dX7_next_87 : decode cX7_next 87 = .ok (.baload, 1) := by decide +kernel
theorem dX7_next_88 : decode cX7_next 88 = .ok (.bipush 97, 2) := by decide +kernel
theorem dX7_next_90 : decode cX7_next 90 = .ok (.if_icmp .lt 24, 3) := by decide +kernel
theorem dX7_next_93 : decode cX7_next 93 = .ok (.aload_n 0, 1) := by decide +kernel
theorem dX7_next_94 : decode cX7_next 94 = .ok (.getfield 36, 3) := by decide +kernel
theorem dX7_next_97 : decode cX7_next 97 = .ok (.aload_n 0, 1) := by decide +kernel
theorem dX7_next_98 : decode cX7_next 98 = .ok (.getfield 15, 3) := by decide +kernel
theorem dX7_next_101 : decode cX7_next 101 = .ok (.baload, 1) := by decide +kernel
theorem dX7_next_102 : decode cX7_next 102 = .ok (.bipush 122, 2) := by decide +kernel
theorem dX7_next_104 : decode cX7_next 104 = .ok (.if_icmp .gt 10, 3) := by decide +kernel
theorem dX7_next_107 : decode cX7_next 107 = .ok (.aload_n 0, 1) := by decide +kernel
theorem dX7_next_108 : decode cX7_next 108 = .ok (.invokevirtual 52, 3) := by decide +kernel
theorem dX7_next_111 : decode cX7_next 111 = .ok (.goto 79, 3) := by decide +kernel
theorem dX7_next_114 : decode cX7_next 114 = .ok (.aload_n 0, 1) := by decide +kernel
theorem dX7_next_115 : decode cX7_next 115 = .ok (.getfield 36, 3) := by decide +kernel
theorem dX7_next_118 : decode cX7_next 118 = .ok (.aload_n 0, 1) := by decide +kernel
theorem dX7_next_119 : decode cX7_next 119 = .ok (.getfield 15, 3) := by decide +kernel
theorem dX7_next_122 : decode cX7_next 122 = .ok (.baload, 1) := by decide +kernel
theorem dX7_next_123 : decode cX7_next 123 = .ok (.bipush 48, 2) := by decide +kernel
theorem dX7_next_125 : decode cX7_next 125 = .ok (.if_icmp .lt 24, 3) := by decide +kernel
theorem dX7_next_128 : decode cX7_next 128 = .ok (.aload_n 0, 1) := by decide +kernel
theorem dX7_next_129 : decode cX7_next 129 = .ok (.getfield 36, 3) := by decide +kernel
theorem dX7_next_132 : decode cX7_next 132 = .ok (.aload_n 0, 1) := by decide +kernel
theorem dX7_next_133 : decode cX7_next 133 = .ok (.getfield 15, 3) := by decide +kernel
theorem dX7_next_136 : decode cX7_next 136 = .ok (.baload, 1) := by decide +kernel
theorem dX7_next_137 : decode cX7_next 137 = .ok (.bipush 57, 2) := by decide +kernel
theorem dX7_next_139 : decode cX7_next 139 = .ok (.if_icmp .gt 10, 3) := by decide +kernel
theorem dX7_next_142 : decode cX7_next 142 = .ok (.aload_n 0, 1) := by decide +kernel
theorem dX7_next_143 : decode cX7_next 143 = .ok (.invokevirtual 55, 3) := by decide +kernel
theorem dX7_next_146 : decode cX7_next 146 = .ok (.goto 44, 3) := by decide +kernel
theorem dX7_next_149 : decode cX7_next 149 = .ok (.aload_n 0, 1) := by decide +kernel
theorem dX7_next_150 : decode cX7_next 150 = .ok (.ldc 58, 2) := by decide +kernel
theorem dX7_next_152 : decode cX7_next 152 = .ok (.aload_n 0, 1) := by decide +kernel
theorem dX7_next_153 : decode cX7_next 153 = .ok (.getfield 36, 3) := by decide +kernel
theorem dX7_next_156 : decode cX7_next 156 = .ok (.aload_n 0, 1) := by decide +kernel
theorem dX7_next_157 : decode cX7_next 157 = .ok (.getfield 15, 3) := by decide +kernel
theorem dX7_next_160 : decode cX7_next 160 = .ok (.baload, 1) := by decide +kernel
theorem dX7_next_161 : decode cX7_next 161 = .ok (.sipush 255, 3) := by decide +kernel
theorem dX7_next_164 : decode cX7_next 164 = .ok (.iand, 1) := by decide +kernel
theorem dX7_next_165 : decode cX7_next 165 = .ok (.i2c, 1) := by decide +kernel
theorem dX7_next_166 : decode cX7_next 166 = .ok (.invokevirtual 60, 3) := by decide +kernel
theorem dX7_next_169 : decode cX7_next 169 = .ok (.ifCond .lt 7, 3) := by decide +kernel
theorem dX7_next_172 : decode cX7_next 172 = .ok (.iconst 3, 1) := by decide +kernel
theorem dX7_next_173 : decode cX7_next 173 = .ok (.goto 4, 3) := by decide +kernel
theorem dX7_next_176 : decode cX7_next 176 = .ok (.iconst 4, 1) := by decide +kernel
theorem dX7_next_177 : decode cX7_next 177 = .ok (.putfield 21, 3) := by decide +kernel
theorem dX7_next_180 : decode cX7_next 180 = .ok (.aload_n 0, 1) := by decide +kernel
theorem dX7_next_181 : decode cX7_next 181 = .ok (.aload_n 0, 1) := by decide +kernel
theorem dX7_next_182 : decode cX7_next 182 = .ok (.getfield 15, 3) := by decide +kernel
theorem dX7_next_185 : decode cX7_next 185 = .ok (.iconst 1, 1) := by decide +kernel
theorem dX7_next_186 : decode cX7_next 186 = .ok (.iadd, 1) := by decide +kernel
theorem dX7_next_187 : decode cX7_next 187 = .ok (.putfield 18, 3) := by decide +kernel
theorem dX7_next_190 : decode cX7_next 190 = .ok (.return_, 1) := by decide +kernel
theorem dX7_isWord_0 : decode cX7_isWord 0 = .ok (.aload_n 0, 1) := by decide +kernel
theorem dX7_isWord_1 : decode cX7_isWord 1 = .ok (.getfield 21, 3) := by decide +kernel
theorem dX7_isWord_4 : decode cX7_isWord 4 = .ok (.iconst 1, 1) := by decide +kernel
theorem dX7_isWord_5 : decode cX7_isWord 5 = .ok (.if_icmp .ne 19, 3) := by decide +kernel
theorem dX7_isWord_8 : decode cX7_isWord 8 = .ok (.aload_n 0, 1) := by decide +kernel
theorem dX7_isWord_9 : decode cX7_isWord 9 = .ok (.getfield 18, 3) := by decide +kernel
theorem dX7_isWord_12 : decode cX7_isWord 12 = .ok (.aload_n 0, 1) := by decide +kernel
theorem dX7_isWord_13 : decode cX7_isWord 13 = .ok (.getfield 15, 3) := by decide +kernel
theorem dX7_isWord_16 : decode cX7_isWord 16 = .ok (.isub, 1) := by decide +kernel
theorem dX7_isWord_17 : decode cX7_isWord 17 = .ok (.aload_n 1, 1) := by decide +kernel
theorem dX7_isWord_18 : decode cX7_isWord 18 = .ok (.invokevirtual 66, 3) := by decide +kernel
theorem dX7_isWord_21 : decode cX7_isWord 21 = .ok (.if_icmp .eq 5, 3) := by decide +kernel
theorem dX7_isWord_24 : decode cX7_isWord 24 = .ok (.iconst 0, 1) := by decide +kernel
theorem dX7_isWord_25 : decode cX7_isWord 25 = .ok (.ireturn, 1) := by decide +kernel
theorem dX7_isWord_26 : decode cX7_isWord 26 = .ok (.iconst 0, 1) := by decide +kernel
theorem dX7_isWord_27 : decode cX7_isWord 27 = .ok (.istore_n 2, 1) := by decide +kernel
theorem dX7_isWord_28 : decode cX7_isWord 28 = .ok (.iload_n 2, 1) := by decide +kernel
theorem dX7_isWord_29 : decode cX7_isWord 29 = .ok (.aload_n 1, 1) := by decide +kernel
theorem dX7_isWord_30 : decode cX7_isWord 30 = .ok (.invokevirtual 66, 3) := by decide +kernel
theorem dX7_isWord_33 : decode cX7_isWord 33 = .ok (.if_icmp .ge 30, 3) := by decide +kernel
theorem dX7_isWord_36 : decode cX7_isWord 36 = .ok (.aload_n 0, 1) := by decide +kernel
theorem dX7_isWord_37 : decode cX7_isWord 37 = .ok (.getfield 36, 3) := by decide +kernel
theorem dX7_isWord_40 : decode cX7_isWord 40 = .ok (.aload_n 0, 1) := by decide +kernel
theorem dX7_isWord_41 : decode cX7_isWord 41 = .ok (.getfield 15, 3) := by decide +kernel
theorem dX7_isWord_44 : decode cX7_isWord 44 = .ok (.iload_n 2, 1) := by decide +kernel
theorem dX7_isWord_45 : decode cX7_isWord 45 = .ok (.iadd, 1) := by decide +kernel
theorem dX7_isWord_46 : decode cX7_isWord 46 = .ok (.baload, 1) := by decide +kernel
theorem dX7_isWord_47 : decode cX7_isWord 47 = .ok (.aload_n 1, 1) := by decide +kernel
theorem dX7_isWord_48 : decode cX7_isWord 48 = .ok (.iload_n 2, 1) := by decide +kernel
theorem dX7_isWord_49 : decode cX7_isWord 49 = .ok (.invokevirtual 69, 3) := by decide +kernel
theorem dX7_isWord_52 : decode cX7_isWord 52 = .ok (.if_icmp .eq 5, 3) := by decide +kernel
theorem dX7_isWord_55 : decode cX7_isWord 55 = .ok (.iconst 0, 1) := by decide +kernel
theorem dX7_isWord_56 : decode cX7_isWord 56 = .ok (.ireturn, 1) := by decide +kernel
theorem dX7_isWord_57 : decode cX7_isWord 57 = .ok (.iinc 2 1, 3) := by decide +kernel
theorem dX7_isWord_60 : decode cX7_isWord 60 = .ok (.goto (-32), 3) := by decide +kernel
theorem dX7_isWord_63 : decode cX7_isWord 63 = .ok (.iconst 1, 1) := by decide +kernel
theorem dX7_isWord_64 : decode cX7_isWord 64 = .ok (.ireturn, 1) := by decide +kernel
theorem dX7_isSign_0 : decode cX7_isSign 0 = .ok (.aload_n 0, 1) := by decide +kernel
theorem dX7_isSign_1 : decode cX7_isSign 1 = .ok (.getfield 21, 3) := by decide +kernel
theorem dX7_isSign_4 : decode cX7_isSign 4 = .ok (.iconst 3, 1) := by decide +kernel
theorem dX7_isSign_5 : decode cX7_isSign 5 = .ok (.if_icmp .ne 20, 3) := by decide +kernel
theorem dX7_isSign_8 : decode cX7_isSign 8 = .ok (.aload_n 0, 1) := by decide +kernel
theorem dX7_isSign_9 : decode cX7_isSign 9 = .ok (.getfield 36, 3) := by decide +kernel
theorem dX7_isSign_12 : decode cX7_isSign 12 = .ok (.aload_n 0, 1) := by decide +kernel
theorem dX7_isSign_13 : decode cX7_isSign 13 = .ok (.getfield 15, 3) := by decide +kernel
theorem dX7_isSign_16 : decode cX7_isSign 16 = .ok (.baload, 1) := by decide +kernel
theorem dX7_isSign_17 : decode cX7_isSign 17 = .ok (.iload_n 1, 1) := by decide +kernel
theorem dX7_isSign_18 : decode cX7_isSign 18 = .ok (.if_icmp .ne 7, 3) := by decide +kernel
theorem dX7_isSign_21 : decode cX7_isSign 21 = .ok (.iconst 1, 1) := by decide +kernel
theorem dX7_isSign_22 : decode cX7_isSign 22 = .ok (.goto 4, 3) := by decide +kernel
theorem dX7_isSign_25 : decode cX7_isSign 25 = .ok (.iconst 0, 1) := by decide +kernel
theorem dX7_isSign_26 : decode cX7_isSign 26 = .ok (.ireturn, 1) := by decide +kernel
theorem dX7_refuse_0 : decode cX7_refuse 0 = .ok (.aload_n 0, 1) := by decide +kernel
theorem dX7_refuse_1 : decode cX7_refuse 1 = .ok (.iload_n 1, 1) := by decide +kernel
theorem dX7_refuse_2 : decode cX7_refuse 2 = .ok (.putfield 30, 3) := by decide +kernel
theorem dX7_refuse_5 : decode cX7_refuse 5 = .ok (.aload_n 0, 1) := by decide +kernel
theorem dX7_refuse_6 : decode cX7_refuse 6 = .ok (.aload_n 0, 1) := by decide +kernel
theorem dX7_refuse_7 : decode cX7_refuse 7 = .ok (.getfield 15, 3) := by decide +kernel
theorem dX7_refuse_10 : decode cX7_refuse 10 = .ok (.putfield 33, 3) := by decide +kernel
theorem dX7_refuse_13 : decode cX7_refuse 13 = .ok (.iconst 0, 1) := by decide +kernel
theorem dX7_refuse_14 : decode cX7_refuse 14 = .ok (.ireturn, 1) := by decide +kernel
theorem dX7_takeSign_0 : decode cX7_takeSign 0 = .ok (.aload_n 0, 1) := by decide +kernel
theorem dX7_takeSign_1 : decode cX7_takeSign 1 = .ok (.iload_n 1, 1) := by decide +kernel
theorem dX7_takeSign_2 : decode cX7_takeSign 2 = .ok (.invokevirtual 73, 3) := by decide +kernel
theorem dX7_takeSign_5 : decode cX7_takeSign 5 = .ok (.ifCond .ne 9, 3) := by decide +kernel
theorem dX7_takeSign_8 : decode cX7_takeSign 8 = .ok (.aload_n 0, 1) := by decide +kernel
theorem dX7_takeSign_9 : decode cX7_takeSign 9 = .ok (.iconst 1, 1) := by decide +kernel
theorem dX7_takeSign_10 : decode cX7_takeSign 10 = .ok (.invokevirtual 77, 3) := by decide +kernel
theorem dX7_takeSign_13 : decode cX7_takeSign 13 = .ok (.ireturn, 1) := by decide +kernel
theorem dX7_takeSign_14 : decode cX7_takeSign 14 = .ok (.aload_n 0, 1) := by decide +kernel
theorem dX7_takeSign_15 : decode cX7_takeSign 15 = .ok (.invokevirtual 49, 3) := by decide +kernel
theorem dX7_takeSign_18 : decode cX7_takeSign 18 = .ok (.iconst 1, 1) := by decide +kernel
theorem dX7_takeSign_19 : decode cX7_takeSign 19 = .ok (.ireturn, 1) := by decide +kernel
theorem dX7_isNumberWithin_0 : decode cX7_isNumberWithin 0 = .ok (.aload_n 0, 1) := by decide +kernel
theorem dX7_isNumberWithin_1 : decode cX7_isNumberWithin 1 = .ok (.getfield 21, 3) := by decide +kernel
theorem dX7_isNumberWithin_4 : decode cX7_isNumberWithin 4 = .ok (.iconst 2, 1) := by decide +kernel
theorem dX7_isNumberWithin_5 : decode cX7_isNumberWithin 5 = .ok (.if_icmp .eq 9, 3) := by decide +kernel
theorem dX7_isNumberWithin_8 : decode cX7_isNumberWithin 8 = .ok (.aload_n 0, 1) := by decide +kernel
theorem dX7_isNumberWithin_9 : decode cX7_isNumberWithin 9 = .ok (.iconst 1, 1) := by decide +kernel
theorem dX7_isNumberWithin_10 : decode cX7_isNumberWithin 10 = .ok (.invokevirtual 77, 3) := by decide +kernel
theorem dX7_isNumberWithin_13 : decode cX7_isNumberWithin 13 = .ok (.ireturn, 1) := by decide +kernel
theorem dX7_isNumberWithin_14 : decode cX7_isNumberWithin 14 = .ok (.aload_n 0, 1) := by decide +kernel
theorem dX7_isNumberWithin_15 : decode cX7_isNumberWithin 15 = .ok (.getfield 24, 3) := by decide +kernel
theorem dX7_isNumberWithin_18 : decode cX7_isNumberWithin 18 = .ok (.iload_n 1, 1) := by decide +kernel
theorem dX7_isNumberWithin_19 : decode cX7_isNumberWithin 19 = .ok (.if_icmp .lt 11, 3) := by decide +kernel
theorem dX7_isNumberWithin_22 : decode cX7_isNumberWithin 22 = .ok (.aload_n 0, 1) := by decide +kernel
theorem dX7_isNumberWithin_23 : decode cX7_isNumberWithin 23 = .ok (.getfield 24, 3) := by decide +kernel
theorem dX7_isNumberWithin_26 : decode cX7_isNumberWithin 26 = .ok (.iload_n 2, 1) := by decide +kernel
theorem dX7_isNumberWithin_27 : decode cX7_isNumberWithin 27 = .ok (.if_icmp .le 9, 3) := by decide +kernel
theorem dX7_isNumberWithin_30 : decode cX7_isNumberWithin 30 = .ok (.aload_n 0, 1) := by decide +kernel
theorem dX7_isNumberWithin_31 : decode cX7_isNumberWithin 31 = .ok (.iconst 2, 1) := by decide +kernel
theorem dX7_isNumberWithin_32 : decode cX7_isNumberWithin 32 = .ok (.invokevirtual 77, 3) := by decide +kernel
theorem dX7_isNumberWithin_35 : decode cX7_isNumberWithin 35 = .ok (.ireturn, 1) := by decide +kernel
theorem dX7_isNumberWithin_36 : decode cX7_isNumberWithin 36 = .ok (.iconst 1, 1) := by decide +kernel
theorem dX7_isNumberWithin_37 : decode cX7_isNumberWithin 37 = .ok (.ireturn, 1) := by decide +kernel
theorem dX7_takeNumber_0 : decode cX7_takeNumber 0 = .ok (.aload_n 0, 1) := by decide +kernel
theorem dX7_takeNumber_1 : decode cX7_takeNumber 1 = .ok (.iload_n 1, 1) := by decide +kernel
theorem dX7_takeNumber_2 : decode cX7_takeNumber 2 = .ok (.iload_n 2, 1) := by decide +kernel
theorem dX7_takeNumber_3 : decode cX7_takeNumber 3 = .ok (.invokevirtual 81, 3) := by decide +kernel
theorem dX7_takeNumber_6 : decode cX7_takeNumber 6 = .ok (.ifCond .ne 5, 3) := by decide +kernel
theorem dX7_takeNumber_9 : decode cX7_takeNumber 9 = .ok (.iconst 0, 1) := by decide +kernel
theorem dX7_takeNumber_10 : decode cX7_takeNumber 10 = .ok (.ireturn, 1) := by decide +kernel
theorem dX7_takeNumber_11 : decode cX7_takeNumber 11 = .ok (.aload_n 0, 1) := by decide +kernel
theorem dX7_takeNumber_12 : decode cX7_takeNumber 12 = .ok (.aload_n 0, 1) := by decide +kernel
theorem dX7_takeNumber_13 : decode cX7_takeNumber 13 = .ok (.getfield 24, 3) := by decide +kernel
theorem dX7_takeNumber_16 : decode cX7_takeNumber 16 = .ok (.putfield 27, 3) := by decide +kernel
theorem dX7_takeNumber_19 : decode cX7_takeNumber 19 = .ok (.aload_n 0, 1) := by decide +kernel
theorem dX7_takeNumber_20 : decode cX7_takeNumber 20 = .ok (.invokevirtual 49, 3) := by decide +kernel
theorem dX7_takeNumber_23 : decode cX7_takeNumber 23 = .ok (.iconst 1, 1) := by decide +kernel
theorem dX7_takeNumber_24 : decode cX7_takeNumber 24 = .ok (.ireturn, 1) := by decide +kernel
theorem dX7_takeSigned_0 : decode cX7_takeSigned 0 = .ok (.aload_n 0, 1) := by decide +kernel
theorem dX7_takeSigned_1 : decode cX7_takeSigned 1 = .ok (.bipush 45, 2) := by decide +kernel
theorem dX7_takeSigned_3 : decode cX7_takeSigned 3 = .ok (.invokevirtual 73, 3) := by decide +kernel
theorem dX7_takeSigned_6 : decode cX7_takeSigned 6 = .ok (.istore_n 2, 1) := by decide +kernel
theorem dX7_takeSigned_7 : decode cX7_takeSigned 7 = .ok (.iload_n 2, 1) := by decide +kernel
theorem dX7_takeSigned_8 : decode cX7_takeSigned 8 = .ok (.ifCond .eq 7, 3) := by decide +kernel
theorem dX7_takeSigned_11 : decode cX7_takeSigned 11 = .ok (.aload_n 0, 1) := by decide +kernel
theorem dX7_takeSigned_12 : decode cX7_takeSigned 12 = .ok (.invokevirtual 49, 3) := by decide +kernel
theorem dX7_takeSigned_15 : decode cX7_takeSigned 15 = .ok (.aload_n 0, 1) := by decide +kernel
theorem dX7_takeSigned_16 : decode cX7_takeSigned 16 = .ok (.iconst 0, 1) := by decide +kernel
theorem dX7_takeSigned_17 : decode cX7_takeSigned 17 = .ok (.iload_n 1, 1) := by decide +kernel
theorem dX7_takeSigned_18 : decode cX7_takeSigned 18 = .ok (.invokevirtual 81, 3) := by decide +kernel
theorem dX7_takeSigned_21 : decode cX7_takeSigned 21 = .ok (.ifCond .ne 5, 3) := by decide +kernel
theorem dX7_takeSigned_24 : decode cX7_takeSigned 24 = .ok (.iconst 0, 1) := by decide +kernel
theorem dX7_takeSigned_25 : decode cX7_takeSigned 25 = .ok (.ireturn, 1) := by decide +kernel
theorem dX7_takeSigned_26 : decode cX7_takeSigned 26 = .ok (.aload_n 0, 1) := by decide +kernel
theorem dX7_takeSigned_27 : decode cX7_takeSigned 27 = .ok (.iload_n 2, 1) := by decide +kernel
theorem dX7_takeSigned_28 : decode cX7_takeSigned 28 = .ok (.ifCond .eq 11, 3) := by decide +kernel
theorem dX7_takeSigned_31 : decode cX7_takeSigned 31 = .ok (.aload_n 0, 1) := by decide +kernel
theorem dX7_takeSigned_32 : decode cX7_takeSigned 32 = .ok (.getfield 24, 3) := by decide +kernel
theorem dX7_takeSigned_35 : decode cX7_takeSigned 35 = .ok (.ineg, 1) := by decide +kernel
theorem dX7_takeSigned_36 : decode cX7_takeSigned 36 = .ok (.goto 7, 3) := by decide +kernel
theorem dX7_takeSigned_39 : decode cX7_takeSigned 39 = .ok (.aload_n 0, 1) := by decide +kernel
theorem dX7_takeSigned_40 : decode cX7_takeSigned 40 = .ok (.getfield 24, 3) := by decide +kernel
theorem dX7_takeSigned_43 : decode cX7_takeSigned 43 = .ok (.putfield 27, 3) := by decide +kernel
theorem dX7_takeSigned_46 : decode cX7_takeSigned 46 = .ok (.aload_n 0, 1) := by decide +kernel
theorem dX7_takeSigned_47 : decode cX7_takeSigned 47 = .ok (.invokevirtual 49, 3) := by decide +kernel
theorem dX7_takeSigned_50 : decode cX7_takeSigned 50 = .ok (.iconst 1, 1) := by decide +kernel
theorem dX7_takeSigned_51 : decode cX7_takeSigned 51 = .ok (.ireturn, 1) := by decide +kernel
theorem dX7_readWord_0 : decode cX7_readWord 0 = .ok (.aload_n 0, 1) := by decide +kernel
theorem dX7_readWord_1 : decode cX7_readWord 1 = .ok (.iconst 1, 1) := by decide +kernel
theorem dX7_readWord_2 : decode cX7_readWord 2 = .ok (.putfield 21, 3) := by decide +kernel
theorem dX7_readWord_5 : decode cX7_readWord 5 = .ok (.aload_n 0, 1) := by decide +kernel
theorem dX7_readWord_6 : decode cX7_readWord 6 = .ok (.getfield 18, 3) := by decide +kernel
theorem dX7_readWord_9 : decode cX7_readWord 9 = .ok (.aload_n 0, 1) := by decide +kernel
theorem dX7_readWord_10 : decode cX7_readWord 10 = .ok (.getfield 9, 3) := by decide +kernel
theorem dX7_readWord_13 : decode cX7_readWord 13 = .ok (.if_icmp .ge 44, 3) := by decide +kernel
theorem dX7_readWord_16 : decode cX7_readWord 16 = .ok (.aload_n 0, 1) := by decide +kernel
theorem dX7_readWord_17 : decode cX7_readWord 17 = .ok (.getfield 36, 3) := by decide +kernel
theorem dX7_readWord_20 : decode cX7_readWord 20 = .ok (.aload_n 0, 1) := by decide +kernel
theorem dX7_readWord_21 : decode cX7_readWord 21 = .ok (.getfield 18, 3) := by decide +kernel
theorem dX7_readWord_24 : decode cX7_readWord 24 = .ok (.baload, 1) := by decide +kernel
theorem dX7_readWord_25 : decode cX7_readWord 25 = .ok (.bipush 97, 2) := by decide +kernel
theorem dX7_readWord_27 : decode cX7_readWord 27 = .ok (.if_icmp .lt 30, 3) := by decide +kernel
theorem dX7_readWord_30 : decode cX7_readWord 30 = .ok (.aload_n 0, 1) := by decide +kernel
theorem dX7_readWord_31 : decode cX7_readWord 31 = .ok (.getfield 36, 3) := by decide +kernel
theorem dX7_readWord_34 : decode cX7_readWord 34 = .ok (.aload_n 0, 1) := by decide +kernel
theorem dX7_readWord_35 : decode cX7_readWord 35 = .ok (.getfield 18, 3) := by decide +kernel
theorem dX7_readWord_38 : decode cX7_readWord 38 = .ok (.baload, 1) := by decide +kernel
theorem dX7_readWord_39 : decode cX7_readWord 39 = .ok (.bipush 122, 2) := by decide +kernel
theorem dX7_readWord_41 : decode cX7_readWord 41 = .ok (.if_icmp .gt 16, 3) := by decide +kernel
theorem dX7_readWord_44 : decode cX7_readWord 44 = .ok (.aload_n 0, 1) := by decide +kernel
theorem dX7_readWord_45 : decode cX7_readWord 45 = .ok (.dup, 1) := by decide +kernel
theorem dX7_readWord_46 : decode cX7_readWord 46 = .ok (.getfield 18, 3) := by decide +kernel
theorem dX7_readWord_49 : decode cX7_readWord 49 = .ok (.iconst 1, 1) := by decide +kernel
theorem dX7_readWord_50 : decode cX7_readWord 50 = .ok (.iadd, 1) := by decide +kernel
theorem dX7_readWord_51 : decode cX7_readWord 51 = .ok (.putfield 18, 3) := by decide +kernel
theorem dX7_readWord_54 : decode cX7_readWord 54 = .ok (.goto (-49), 3) := by decide +kernel
theorem dX7_readWord_57 : decode cX7_readWord 57 = .ok (.return_, 1) := by decide +kernel
theorem dX7_readNumber_0 : decode cX7_readNumber 0 = .ok (.aload_n 0, 1) := by decide +kernel
theorem dX7_readNumber_1 : decode cX7_readNumber 1 = .ok (.iconst 2, 1) := by decide +kernel
theorem dX7_readNumber_2 : decode cX7_readNumber 2 = .ok (.putfield 21, 3) := by decide +kernel
theorem dX7_readNumber_5 : decode cX7_readNumber 5 = .ok (.aload_n 0, 1) := by decide +kernel
theorem dX7_readNumber_6 : decode cX7_readNumber 6 = .ok (.iconst 0, 1) := by decide +kernel
theorem dX7_readNumber_7 : decode cX7_readNumber 7 = .ok (.putfield 24, 3) := by decide +kernel
theorem dX7_readNumber_10 : decode cX7_readNumber 10 = .ok (.aload_n 0, 1) := by decide +kernel
theorem dX7_readNumber_11 : decode cX7_readNumber 11 = .ok (.getfield 18, 3) := by decide +kernel
theorem dX7_readNumber_14 : decode cX7_readNumber 14 = .ok (.aload_n 0, 1) := by decide +kernel
theorem dX7_readNumber_15 : decode cX7_readNumber 15 = .ok (.getfield 9, 3) := by decide +kernel
theorem dX7_readNumber_18 : decode cX7_readNumber 18 = .ok (.if_icmp .ge 68, 3) := by decide +kernel
theorem dX7_readNumber_21 : decode cX7_readNumber 21 = .ok (.aload_n 0, 1) := by decide +kernel
theorem dX7_readNumber_22 : decode cX7_readNumber 22 = .ok (.getfield 36, 3) := by decide +kernel
theorem dX7_readNumber_25 : decode cX7_readNumber 25 = .ok (.aload_n 0, 1) := by decide +kernel
theorem dX7_readNumber_26 : decode cX7_readNumber 26 = .ok (.getfield 18, 3) := by decide +kernel
theorem dX7_readNumber_29 : decode cX7_readNumber 29 = .ok (.baload, 1) := by decide +kernel
theorem dX7_readNumber_30 : decode cX7_readNumber 30 = .ok (.bipush 48, 2) := by decide +kernel
theorem dX7_readNumber_32 : decode cX7_readNumber 32 = .ok (.if_icmp .lt 54, 3) := by decide +kernel
theorem dX7_readNumber_35 : decode cX7_readNumber 35 = .ok (.aload_n 0, 1) := by decide +kernel
theorem dX7_readNumber_36 : decode cX7_readNumber 36 = .ok (.getfield 36, 3) := by decide +kernel
theorem dX7_readNumber_39 : decode cX7_readNumber 39 = .ok (.aload_n 0, 1) := by decide +kernel
theorem dX7_readNumber_40 : decode cX7_readNumber 40 = .ok (.getfield 18, 3) := by decide +kernel
theorem dX7_readNumber_43 : decode cX7_readNumber 43 = .ok (.baload, 1) := by decide +kernel
theorem dX7_readNumber_44 : decode cX7_readNumber 44 = .ok (.bipush 57, 2) := by decide +kernel
theorem dX7_readNumber_46 : decode cX7_readNumber 46 = .ok (.if_icmp .gt 40, 3) := by decide +kernel
theorem dX7_readNumber_49 : decode cX7_readNumber 49 = .ok (.aload_n 0, 1) := by decide +kernel
theorem dX7_readNumber_50 : decode cX7_readNumber 50 = .ok (.aload_n 0, 1) := by decide +kernel
theorem dX7_readNumber_51 : decode cX7_readNumber 51 = .ok (.getfield 24, 3) := by decide +kernel
theorem dX7_readNumber_54 : decode cX7_readNumber 54 = .ok (.bipush 10, 2) := by decide +kernel
theorem dX7_readNumber_56 : decode cX7_readNumber 56 = .ok (.imul, 1) := by decide +kernel
theorem dX7_readNumber_57 : decode cX7_readNumber 57 = .ok (.aload_n 0, 1) := by decide +kernel
theorem dX7_readNumber_58 : decode cX7_readNumber 58 = .ok (.getfield 36, 3) := by decide +kernel
theorem dX7_readNumber_61 : decode cX7_readNumber 61 = .ok (.aload_n 0, 1) := by decide +kernel
theorem dX7_readNumber_62 : decode cX7_readNumber 62 = .ok (.getfield 18, 3) := by decide +kernel
theorem dX7_readNumber_65 : decode cX7_readNumber 65 = .ok (.baload, 1) := by decide +kernel
theorem dX7_readNumber_66 : decode cX7_readNumber 66 = .ok (.iadd, 1) := by decide +kernel
theorem dX7_readNumber_67 : decode cX7_readNumber 67 = .ok (.bipush 48, 2) := by decide +kernel
theorem dX7_readNumber_69 : decode cX7_readNumber 69 = .ok (.isub, 1) := by decide +kernel
theorem dX7_readNumber_70 : decode cX7_readNumber 70 = .ok (.putfield 24, 3) := by decide +kernel
theorem dX7_readNumber_73 : decode cX7_readNumber 73 = .ok (.aload_n 0, 1) := by decide +kernel
theorem dX7_readNumber_74 : decode cX7_readNumber 74 = .ok (.dup, 1) := by decide +kernel
theorem dX7_readNumber_75 : decode cX7_readNumber 75 = .ok (.getfield 18, 3) := by decide +kernel
theorem dX7_readNumber_78 : decode cX7_readNumber 78 = .ok (.iconst 1, 1) := by decide +kernel
theorem dX7_readNumber_79 : decode cX7_readNumber 79 = .ok (.iadd, 1) := by decide +kernel
theorem dX7_readNumber_80 : decode cX7_readNumber 80 = .ok (.putfield 18, 3) := by decide +kernel
theorem dX7_readNumber_83 : decode cX7_readNumber 83 = .ok (.goto (-73), 3) := by decide +kernel
theorem dX7_readNumber_86 : decode cX7_readNumber 86 = .ok (.aload_n 0, 1) := by decide +kernel
theorem dX7_readNumber_87 : decode cX7_readNumber 87 = .ok (.getfield 18, 3) := by decide +kernel
theorem dX7_readNumber_90 : decode cX7_readNumber 90 = .ok (.aload_n 0, 1) := by decide +kernel
theorem dX7_readNumber_91 : decode cX7_readNumber 91 = .ok (.getfield 15, 3) := by decide +kernel
theorem dX7_readNumber_94 : decode cX7_readNumber 94 = .ok (.isub, 1) := by decide +kernel
theorem dX7_readNumber_95 : decode cX7_readNumber 95 = .ok (.bipush 7, 2) := by decide +kernel
theorem dX7_readNumber_97 : decode cX7_readNumber 97 = .ok (.if_icmp .le 9, 3) := by decide +kernel
theorem dX7_readNumber_100 : decode cX7_readNumber 100 = .ok (.aload_n 0, 1) := by decide +kernel
theorem dX7_readNumber_101 : decode cX7_readNumber 101 = .ok (.ldc 87, 2) := by decide +kernel
theorem dX7_readNumber_103 : decode cX7_readNumber 103 = .ok (.putfield 24, 3) := by decide +kernel
theorem dX7_readNumber_106 : decode cX7_readNumber 106 = .ok (.return_, 1) := by decide +kernel
theorem dX8_init_0 : decode cX8_init 0 = .ok (.aload_n 0, 1) := by decide +kernel
theorem dX8_init_1 : decode cX8_init 1 = .ok (.invokespecial 1, 3) := by decide +kernel
theorem dX8_init_4 : decode cX8_init 4 = .ok (.aload_n 0, 1) := by decide +kernel
theorem dX8_init_5 : decode cX8_init 5 = .ok (.sipush 600, 3) := by decide +kernel
theorem dX8_init_8 : decode cX8_init 8 = .ok (.newarray .byte, 2) := by decide +kernel
theorem dX8_init_10 : decode cX8_init 10 = .ok (.putfield 9, 3) := by decide +kernel
theorem dX8_init_13 : decode cX8_init 13 = .ok (.aload_n 0, 1) := by decide +kernel
theorem dX8_init_14 : decode cX8_init 14 = .ok (.new 13, 3) := by decide +kernel
theorem dX8_init_17 : decode cX8_init 17 = .ok (.dup, 1) := by decide +kernel
theorem dX8_init_18 : decode cX8_init 18 = .ok (.aload_n 0, 1) := by decide +kernel
theorem dX8_init_19 : decode cX8_init 19 = .ok (.getfield 9, 3) := by decide +kernel
theorem dX8_init_22 : decode cX8_init 22 = .ok (.invokespecial 15, 3) := by decide +kernel
theorem dX8_init_25 : decode cX8_init 25 = .ok (.putfield 18, 3) := by decide +kernel
theorem dX8_init_28 : decode cX8_init 28 = .ok (.aload_n 0, 1) := by decide +kernel
theorem dX8_init_29 : decode cX8_init 29 = .ok (.new 22, 3) := by decide +kernel
theorem dX8_init_32 : decode cX8_init 32 = .ok (.dup, 1) := by decide +kernel
theorem dX8_init_33 : decode cX8_init 33 = .ok (.aload_n 0, 1) := by decide +kernel
theorem dX8_init_34 : decode cX8_init 34 = .ok (.getfield 18, 3) := by decide +kernel
theorem dX8_init_37 : decode cX8_init 37 = .ok (.invokespecial 24, 3) := by decide +kernel
theorem dX8_init_40 : decode cX8_init 40 = .ok (.putfield 27, 3) := by decide +kernel
theorem dX8_init_43 : decode cX8_init 43 = .ok (.aload_n 0, 1) := by decide +kernel
theorem dX8_init_44 : decode cX8_init 44 = .ok (.new 31, 3) := by decide +kernel
theorem dX8_init_47 : decode cX8_init 47 = .ok (.dup, 1) := by decide +kernel
theorem dX8_init_48 : decode cX8_init 48 = .ok (.aload_n 0, 1) := by decide +kernel
theorem dX8_init_49 : decode cX8_init 49 = .ok (.getfield 18, 3) := by decide +kernel
theorem dX8_init_52 : decode cX8_init 52 = .ok (.invokespecial 33, 3) := by decide +kernel
theorem dX8_init_55 : decode cX8_init 55 = .ok (.putfield 34, 3) := by decide +kernel
theorem dX8_init_58 : decode cX8_init 58 = .ok (.aload_n 0, 1) := by decide +kernel
theorem dX8_init_59 : decode cX8_init 59 = .ok (.new 38, 3) := by decide +kernel
theorem dX8_init_62 : decode cX8_init 62 = .ok (.dup, 1) := by decide +kernel
theorem dX8_init_63 : decode cX8_init 63 = .ok (.invokespecial 40, 3) := by decide +kernel
theorem dX8_init_66 : decode cX8_init 66 = .ok (.putfield 41, 3) := by decide +kernel
theorem dX8_init_69 : decode cX8_init 69 = .ok (.aload_n 0, 1) := by decide +kernel
theorem dX8_init_70 : decode cX8_init 70 = .ok (.new 38, 3) := by decide +kernel
theorem dX8_init_73 : decode cX8_init 73 = .ok (.dup, 1) := by decide +kernel
theorem dX8_init_74 : decode cX8_init 74 = .ok (.invokespecial 40, 3) := by decide +kernel
theorem dX8_init_77 : decode cX8_init 77 = .ok (.putfield 45, 3) := by decide +kernel
theorem dX8_init_80 : decode cX8_init 80 = .ok (.aload_n 0, 1) := by decide +kernel
theorem dX8_init_81 : decode cX8_init 81 = .ok (.bipush 10, 2) := by decide +kernel
theorem dX8_init_83 : decode cX8_init 83 = .ok (.anewarray 48, 3) := by decide +kernel
theorem dX8_init_86 : decode cX8_init 86 = .ok (.putfield 50, 3) := by decide +kernel
theorem dX8_init_89 : decode cX8_init 89 = .ok (.aload_n 0, 1) := by decide +kernel
theorem dX8_init_90 : decode cX8_init 90 = .ok (.new 54, 3) := by decide +kernel
theorem dX8_init_93 : decode cX8_init 93 = .ok (.dup, 1) := by decide +kernel
theorem dX8_init_94 : decode cX8_init 94 = .ok (.invokespecial 56, 3) := by decide +kernel
theorem dX8_init_97 : decode cX8_init 97 = .ok (.putfield 57, 3) := by decide +kernel
theorem dX8_init_100 : decode cX8_init 100 = .ok (.aload_n 0, 1) := by decide +kernel
theorem dX8_init_101 : decode cX8_init 101 = .ok (.new 54, 3) := by decide +kernel
theorem dX8_init_104 : decode cX8_init 104 = .ok (.dup, 1) := by decide +kernel
theorem dX8_init_105 : decode cX8_init 105 = .ok (.invokespecial 56, 3) := by decide +kernel
theorem dX8_init_108 : decode cX8_init 108 = .ok (.putfield 61, 3) := by decide +kernel
theorem dX8_init_111 : decode cX8_init 111 = .ok (.aload_n 0, 1) := by decide +kernel
theorem dX8_init_112 : decode cX8_init 112 = .ok (.iconst 4, 1) := by decide +kernel
theorem dX8_init_113 : decode cX8_init 113 = .ok (.newarray .int, 2) := by decide +kernel
theorem dX8_init_115 : decode cX8_init 115 = .ok (.putfield 64, 3) := by decide +kernel
theorem dX8_init_118 : decode cX8_init 118 = .ok (.aload_n 0, 1) := by decide +kernel
theorem dX8_init_119 : decode cX8_init 119 = .ok (.iconst 4, 1) := by decide +kernel
theorem dX8_init_120 : decode cX8_init 120 = .ok (.newarray .int, 2) := by decide +kernel
theorem dX8_init_122 : decode cX8_init 122 = .ok (.putfield 70, 3) := by decide +kernel
theorem dX8_init_125 : decode cX8_init 125 = .ok (.aload_n 0, 1) := by decide +kernel
theorem dX8_init_126 : decode cX8_init 126 = .ok (.iconst 4, 1) := by decide +kernel
theorem dX8_init_127 : decode cX8_init 127 = .ok (.newarray .int, 2) := by decide +kernel
theorem dX8_init_129 : decode cX8_init 129 = .ok (.dup, 1) := by decide +kernel
theorem dX8_init_130 : decode cX8_init 130 = .ok (.iconst 0, 1) := by decide +kernel
theorem dX8_init_131 : decode cX8_init 131 = .ok (.iconst 0, 1) := by decide +kernel
theorem dX8_init_132 : decode cX8_init 132 = .ok (.iastore, 1) := by decide +kernel
theorem dX8_init_133 : decode cX8_init 133 = .ok (.dup, 1) := by decide +kernel
theorem dX8_init_134 : decode cX8_init 134 = .ok (.iconst 1, 1) := by decide +kernel
theorem dX8_init_135 : decode cX8_init 135 = .ok (.iconst 0, 1) := by decide +kernel
theorem dX8_init_136 : decode cX8_init 136 = .ok (.iastore, 1) := by decide +kernel
theorem dX8_init_137 : decode cX8_init 137 = .ok (.dup, 1) := by decide +kernel
theorem dX8_init_138 : decode cX8_init 138 = .ok (.iconst 2, 1) := by decide +kernel
theorem dX8_init_139 : decode cX8_init 139 = .ok (.iconst (-1), 1) := by decide +kernel
theorem dX8_init_140 : decode cX8_init 140 = .ok (.iastore, 1) := by decide +kernel
theorem dX8_init_141 : decode cX8_init 141 = .ok (.dup, 1) := by decide +kernel
theorem dX8_init_142 : decode cX8_init 142 = .ok (.iconst 3, 1) := by decide +kernel
theorem dX8_init_143 : decode cX8_init 143 = .ok (.iconst (-1), 1) := by decide +kernel
theorem dX8_init_144 : decode cX8_init 144 = .ok (.iastore, 1) := by decide +kernel
theorem dX8_init_145 : decode cX8_init 145 = .ok (.putfield 73, 3) := by decide +kernel
theorem dX8_init_148 : decode cX8_init 148 = .ok (.aload_n 0, 1) := by decide +kernel
theorem dX8_init_149 : decode cX8_init 149 = .ok (.new 68, 3) := by decide +kernel
theorem dX8_init_152 : decode cX8_init 152 = .ok (.dup, 1) := by decide +kernel
theorem dX8_init_153 : decode cX8_init 153 = .ok (.invokespecial 76, 3) := by decide +kernel
theorem dX8_init_156 : decode cX8_init 156 = .ok (.putfield 77, 3) := by decide +kernel
theorem dX8_init_159 : decode cX8_init 159 = .ok (.aload_n 0, 1) := by decide +kernel
theorem dX8_init_160 : decode cX8_init 160 = .ok (.new 68, 3) := by decide +kernel
theorem dX8_init_163 : decode cX8_init 163 = .ok (.dup, 1) := by decide +kernel
theorem dX8_init_164 : decode cX8_init 164 = .ok (.invokespecial 76, 3) := by decide +kernel
theorem dX8_init_167 : decode cX8_init 167 = .ok (.putfield 81, 3) := by decide +kernel
theorem dX8_init_170 : decode cX8_init 170 = .ok (.aload_n 0, 1) := by decide +kernel
theorem dX8_init_171 : decode cX8_init 171 = .ok (.iconst 0, 1) := by decide +kernel
theorem dX8_init_172 : decode cX8_init 172 = .ok (.putfield 84, 3) := by decide +kernel
theorem dX8_init_175 : decode cX8_init 175 = .ok (.aload_n 0, 1) := by decide +kernel
theorem dX8_init_176 : decode cX8_init 176 = .ok (.iconst (-1), 1) := by decide +kernel
theorem dX8_init_177 : decode cX8_init 177 = .ok (.putfield 88, 3) := by decide +kernel
theorem dX8_init_180 : decode cX8_init 180 = .ok (.aload_n 0, 1) := by decide +kernel
theorem dX8_init_181 : decode cX8_init 181 = .ok (.iconst 0, 1) := by decide +kernel
theorem dX8_init_182 : decode cX8_init 182 = .ok (.putfield 91, 3) := by decide +kernel
theorem dX8_init_185 : decode cX8_init 185 = .ok (.aload_n 0, 1) := by decide +kernel
theorem dX8_init_186 : decode cX8_init 186 = .ok (.iconst 0, 1) := by decide +kernel
theorem dX8_init_187 : decode cX8_init 187 = .ok (.putfield 94, 3) := by decide +kernel
theorem dX8_init_190 : decode cX8_init 190 = .ok (.aload_n 0, 1) := by decide +kernel
theorem dX8_init_191 : decode cX8_init 191 = .ok (.iconst 0, 1) := by decide +kernel
theorem dX8_init_192 : decode cX8_init 192 = .ok (.putfield 97, 3) := by decide +kernel
theorem dX8_init_195 : decode cX8_init 195 = .ok (.return_, 1) := by decide +kernel
theorem dX8_feed_0 : decode cX8_feed 0 = .ok (.aload_n 0, 1) := by decide +kernel
theorem dX8_feed_1 : decode cX8_feed 1 = .ok (.getfield 84, 3) := by decide +kernel
theorem dX8_feed_4 : decode cX8_feed 4 = .ok (.sipush 580, 3) := by decide +kernel
theorem dX8_feed_7 : decode cX8_feed 7 = .ok (.if_icmp .le 5, 3) := by decide +kernel
theorem dX8_feed_10 : decode cX8_feed 10 = .ok (.iconst (-1), 1) := by decide +kernel
theorem dX8_feed_11 : decode cX8_feed 11 = .ok (.ireturn, 1) := by decide +kernel
theorem dX8_feed_12 : decode cX8_feed 12 = .ok (.aload_n 0, 1) := by decide +kernel
theorem dX8_feed_13 : decode cX8_feed 13 = .ok (.iload_n 1, 1) := by decide +kernel
theorem dX8_feed_14 : decode cX8_feed 14 = .ok (.invokevirtual 100, 3) := by decide +kernel
theorem dX8_feed_17 : decode cX8_feed 17 = .ok (.aload_n 0, 1) := by decide +kernel
theorem dX8_feed_18 : decode cX8_feed 18 = .ok (.iload_n 2, 1) := by decide +kernel
theorem dX8_feed_19 : decode cX8_feed 19 = .ok (.invokevirtual 100, 3) := by decide +kernel
theorem dX8_feed_22 : decode cX8_feed 22 = .ok (.aload_n 0, 1) := by decide +kernel
theorem dX8_feed_23 : decode cX8_feed 23 = .ok (.iload_n 3, 1) := by decide +kernel
theorem dX8_feed_24 : decode cX8_feed 24 = .ok (.invokevirtual 100, 3) := by decide +kernel
theorem dX8_feed_27 : decode cX8_feed 27 = .ok (.aload_n 0, 1) := by decide +kernel
theorem dX8_feed_28 : decode cX8_feed 28 = .ok (.iload 4, 2) := by decide +kernel
theorem dX8_feed_30 : decode cX8_feed 30 = .ok (.invokevirtual 100, 3) := by decide +kernel
theorem dX8_feed_33 : decode cX8_feed 33 = .ok (.aload_n 0, 1) := by decide +kernel
theorem dX8_feed_34 : decode cX8_feed 34 = .ok (.iload 5, 2) := by decide +kernel
theorem dX8_feed_36 : decode cX8_feed 36 = .ok (.invokevirtual 100, 3) := by decide +kernel
theorem dX8_feed_39 : decode cX8_feed 39 = .ok (.aload_n 0, 1) := by decide +kernel
theorem dX8_feed_40 : decode cX8_feed 40 = .ok (.getfield 84, 3) := by decide +kernel
theorem dX8_feed_43 : decode cX8_feed 43 = .ok (.ireturn, 1) := by decide +kernel
theorem dX8_tell_0 : decode cX8_tell 0 = .ok (.iload_n 1, 1) := by decide +kernel
theorem dX8_tell_1 : decode cX8_tell 1 = .ok (.ifCond .lt 11, 3) := by decide +kernel
theorem dX8_tell_4 : decode cX8_tell 4 = .ok (.iload_n 1, 1) := by decide +kernel
theorem dX8_tell_5 : decode cX8_tell 5 = .ok (.aload_n 0, 1) := by decide +kernel
theorem dX8_tell_6 : decode cX8_tell 6 = .ok (.getfield 84, 3) := by decide +kernel
theorem dX8_tell_9 : decode cX8_tell 9 = .ok (.if_icmp .le 13, 3) := by decide +kernel
theorem dX8_tell_12 : decode cX8_tell 12 = .ok (.new 104, 3) := by decide +kernel
theorem dX8_tell_15 : decode cX8_tell 15 = .ok (.dup, 1) := by decide +kernel
theorem dX8_tell_16 : decode cX8_tell 16 = .ok (.ldc 106, 2) := by decide +kernel
theorem dX8_tell_18 : decode cX8_tell 18 = .ok (.invokespecial 108, 3) := by decide +kernel
theorem dX8_tell_21 : decode cX8_tell 21 = .ok (.athrow, 1) := by decide +kernel
theorem dX8_tell_22 : decode cX8_tell 22 = .ok (.aload_n 0, 1) := by decide +kernel
theorem dX8_tell_23 : decode cX8_tell 23 = .ok (.iconst 0, 1) := by decide +kernel
theorem dX8_tell_24 : decode cX8_tell 24 = .ok (.putfield 84, 3) := by decide +kernel
theorem dX8_tell_27 : decode cX8_tell 27 = .ok (.aload_n 0, 1) := by decide +kernel
theorem dX8_tell_28 : decode cX8_tell 28 = .ok (.getfield 27, 3) := by decide +kernel
theorem dX8_tell_31 : decode cX8_tell 31 = .ok (.iload_n 1, 1) := by decide +kernel
theorem dX8_tell_32 : decode cX8_tell 32 = .ok (.aload_n 0, 1) := by decide +kernel
theorem dX8_tell_33 : decode cX8_tell 33 = .ok (.getfield 81, 3) := by decide +kernel
theorem dX8_tell_36 : decode cX8_tell 36 = .ok (.invokevirtual 111, 3) := by decide +kernel
theorem dX8_tell_39 : decode cX8_tell 39 = .ok (.istore_n 2, 1) := by decide +kernel
theorem dX8_tell_40 : decode cX8_tell 40 = .ok (.aload_n 0, 1) := by decide +kernel
theorem dX8_tell_41 : decode cX8_tell 41 = .ok (.aload_n 0, 1) := by decide +kernel
theorem dX8_tell_42 : decode cX8_tell 42 = .ok (.getfield 18, 3) := by decide +kernel
theorem dX8_tell_45 : decode cX8_tell 45 = .ok (.getfield 115, 3) := by decide +kernel
theorem dX8_tell_48 : decode cX8_tell 48 = .ok (.putfield 88, 3) := by decide +kernel
theorem dX8_tell_51 : decode cX8_tell 51 = .ok (.iload_n 2, 1) := by decide +kernel
theorem dX8_tell_52 : decode cX8_tell 52 = .ok (.ifCond .ne 11, 3) := by decide +kernel
theorem dX8_tell_55 : decode cX8_tell 55 = .ok (.aload_n 0, 1) := by decide +kernel
theorem dX8_tell_56 : decode cX8_tell 56 = .ok (.getfield 18, 3) := by decide +kernel
theorem dX8_tell_59 : decode cX8_tell 59 = .ok (.getfield 116, 3) := by decide +kernel
theorem dX8_tell_62 : decode cX8_tell 62 = .ok (.ireturn, 1) := by decide +kernel
theorem dX8_tell_63 : decode cX8_tell 63 = .ok (.aload_n 0, 1) := by decide +kernel
theorem dX8_tell_64 : decode cX8_tell 64 = .ok (.getfield 77, 3) := by decide +kernel
theorem dX8_tell_67 : decode cX8_tell 67 = .ok (.astore_n 3, 1) := by decide +kernel
theorem dX8_tell_68 : decode cX8_tell 68 = .ok (.aload_n 0, 1) := by decide +kernel
theorem dX8_tell_69 : decode cX8_tell 69 = .ok (.aload_n 0, 1) := by decide +kernel
theorem dX8_tell_70 : decode cX8_tell 70 = .ok (.getfield 81, 3) := by decide +kernel
theorem dX8_tell_73 : decode cX8_tell 73 = .ok (.putfield 77, 3) := by decide +kernel
theorem dX8_tell_76 : decode cX8_tell 76 = .ok (.aload_n 0, 1) := by decide +kernel
theorem dX8_tell_77 : decode cX8_tell 77 = .ok (.aload_n 3, 1) := by decide +kernel
theorem dX8_tell_78 : decode cX8_tell 78 = .ok (.putfield 81, 3) := by decide +kernel
theorem dX8_tell_81 : decode cX8_tell 81 = .ok (.aload_n 0, 1) := by decide +kernel
theorem dX8_tell_82 : decode cX8_tell 82 = .ok (.getfield 41, 3) := by decide +kernel
theorem dX8_tell_85 : decode cX8_tell 85 = .ok (.invokevirtual 119, 3) := by decide +kernel
theorem dX8_tell_88 : decode cX8_tell 88 = .ok (.iconst 0, 1) := by decide +kernel
theorem dX8_tell_89 : decode cX8_tell 89 = .ok (.ireturn, 1) := by decide +kernel
theorem dX8_batch_0 : decode cX8_batch 0 = .ok (.iload_n 1, 1) := by decide +kernel
theorem dX8_batch_1 : decode cX8_batch 1 = .ok (.ifCond .lt 11, 3) := by decide +kernel
theorem dX8_batch_4 : decode cX8_batch 4 = .ok (.iload_n 1, 1) := by decide +kernel
theorem dX8_batch_5 : decode cX8_batch 5 = .ok (.aload_n 0, 1) := by decide +kernel
theorem dX8_batch_6 : decode cX8_batch 6 = .ok (.getfield 84, 3) := by decide +kernel
theorem dX8_batch_9 : decode cX8_batch 9 = .ok (.if_icmp .le 13, 3) := by decide +kernel
theorem dX8_batch_12 : decode cX8_batch 12 = .ok (.new 104, 3) := by decide +kernel
theorem dX8_batch_15 : decode cX8_batch 15 = .ok (.dup, 1) := by decide +kernel
theorem dX8_batch_16 : decode cX8_batch 16 = .ok (.ldc 106, 2) := by decide +kernel
theorem dX8_batch_18 : decode cX8_batch 18 = .ok (.invokespecial 108, 3) := by decide +kernel
theorem dX8_batch_21 : decode cX8_batch 21 = .ok (.athrow, 1) := by decide +kernel
theorem dX8_batch_22 : decode cX8_batch 22 = .ok (.aload_n 0, 1) := by decide +kernel
theorem dX8_batch_23 : decode cX8_batch 23 = .ok (.iconst 0, 1) := by decide +kernel
theorem dX8_batch_24 : decode cX8_batch 24 = .ok (.putfield 84, 3) := by decide +kernel
theorem dX8_batch_27 : decode cX8_batch 27 = .ok (.aload_n 0, 1) := by decide +kernel
theorem dX8_batch_28 : decode cX8_batch 28 = .ok (.getfield 34, 3) := by decide +kernel
theorem dX8_batch_31 : decode cX8_batch 31 = .ok (.iload_n 1, 1) := by decide +kernel
theorem dX8_batch_32 : decode cX8_batch 32 = .ok (.invokevirtual 122, 3) := by decide +kernel
theorem dX8_batch_35 : decode cX8_batch 35 = .ok (.istore_n 2, 1) := by decide +kernel
theorem dX8_batch_36 : decode cX8_batch 36 = .ok (.aload_n 0, 1) := by decide +kernel
theorem dX8_batch_37 : decode cX8_batch 37 = .ok (.aload_n 0, 1) := by decide +kernel
theorem dX8_batch_38 : decode cX8_batch 38 = .ok (.getfield 18, 3) := by decide +kernel
theorem dX8_batch_41 : decode cX8_batch 41 = .ok (.getfield 115, 3) := by decide +kernel
theorem dX8_batch_44 : decode cX8_batch 44 = .ok (.putfield 88, 3) := by decide +kernel
theorem dX8_batch_47 : decode cX8_batch 47 = .ok (.iload_n 2, 1) := by decide +kernel
theorem dX8_batch_48 : decode cX8_batch 48 = .ok (.ifCond .ne 22, 3) := by decide +kernel
theorem dX8_batch_51 : decode cX8_batch 51 = .ok (.aload_n 0, 1) := by decide +kernel
theorem dX8_batch_52 : decode cX8_batch 52 = .ok (.iconst 1, 1) := by decide +kernel
theorem dX8_batch_53 : decode cX8_batch 53 = .ok (.iconst 0, 1) := by decide +kernel
theorem dX8_batch_54 : decode cX8_batch 54 = .ok (.iconst (-1), 1) := by decide +kernel
theorem dX8_batch_55 : decode cX8_batch 55 = .ok (.iconst (-1), 1) := by decide +kernel
theorem dX8_batch_56 : decode cX8_batch 56 = .ok (.invokevirtual 125, 3) := by decide +kernel
theorem dX8_batch_59 : decode cX8_batch 59 = .ok (.bipush (-2), 2) := by decide +kernel
theorem dX8_batch_61 : decode cX8_batch 61 = .ok (.aload_n 0, 1) := by decide +kernel
theorem dX8_batch_62 : decode cX8_batch 62 = .ok (.getfield 18, 3) := by decide +kernel
theorem dX8_batch_65 : decode cX8_batch 65 = .ok (.getfield 116, 3) := by decide +kernel
theorem dX8_batch_68 : decode cX8_batch 68 = .ok (.isub, 1) := by decide +kernel
theorem dX8_batch_69 : decode cX8_batch 69 = .ok (.ireturn, 1) := by decide +kernel
theorem dX8_batch_70 : decode cX8_batch 70 = .ok (.aload_n 0, 1) := by decide +kernel
theorem dX8_batch_71 : decode cX8_batch 71 = .ok (.invokevirtual 129, 3) := by decide +kernel
theorem dX8_batch_74 : decode cX8_batch 74 = .ok (.ifCond .ne 5, 3) := by decide +kernel
theorem dX8_batch_77 : decode cX8_batch 77 = .ok (.iconst (-1), 1) := by decide +kernel
theorem dX8_batch_78 : decode cX8_batch 78 = .ok (.ireturn, 1) := by decide +kernel
theorem dX8_batch_79 : decode cX8_batch 79 = .ok (.iconst 0, 1) := by decide +kernel
theorem dX8_batch_80 : decode cX8_batch 80 = .ok (.istore_n 3, 1) := by decide +kernel
theorem dX8_batch_81 : decode cX8_batch 81 = .ok (.iload_n 3, 1) := by decide +kernel
theorem dX8_batch_82 : decode cX8_batch 82 = .ok (.aload_n 0, 1) := by decide +kernel
theorem dX8_batch_83 : decode cX8_batch 83 = .ok (.getfield 34, 3) := by decide +kernel
theorem dX8_batch_86 : decode cX8_batch 86 = .ok (.getfield 133, 3) := by decide +kernel
theorem dX8_batch_89 : decode cX8_batch 89 = .ok (.if_icmp .ge 14, 3) := by decide +kernel
theorem dX8_batch_92 : decode cX8_batch 92 = .ok (.aload_n 0, 1) := by decide +kernel
theorem dX8_batch_93 : decode cX8_batch 93 = .ok (.iload_n 3, 1) := by decide +kernel
theorem dX8_batch_94 : decode cX8_batch 94 = .ok (.invokevirtual 136, 3) := by decide +kernel
theorem dX8_batch_97 : decode cX8_batch 97 = .ok (.iinc 3 1, 3) := by decide +kernel
theorem dX8_batch_100 : decode cX8_batch 100 = .ok (.goto (-19), 3) := by decide +kernel
theorem dX8_batch_103 : decode cX8_batch 103 = .ok (.aload_n 0, 1) := by decide +kernel
theorem dX8_batch_104 : decode cX8_batch 104 = .ok (.iconst 0, 1) := by decide +kernel
theorem dX8_batch_105 : decode cX8_batch 105 = .ok (.iconst 0, 1) := by decide +kernel
theorem dX8_batch_106 : decode cX8_batch 106 = .ok (.iconst (-1), 1) := by decide +kernel
theorem dX8_batch_107 : decode cX8_batch 107 = .ok (.iconst (-1), 1) := by decide +kernel
theorem dX8_batch_108 : decode cX8_batch 108 = .ok (.invokevirtual 125, 3) := by decide +kernel
theorem dX8_batch_111 : decode cX8_batch 111 = .ok (.aload_n 0, 1) := by decide +kernel
theorem dX8_batch_112 : decode cX8_batch 112 = .ok (.getfield 34, 3) := by decide +kernel
theorem dX8_batch_115 : decode cX8_batch 115 = .ok (.getfield 133, 3) := by decide +kernel
theorem dX8_batch_118 : decode cX8_batch 118 = .ok (.ireturn, 1) := by decide +kernel
theorem dX8_fault_0 : decode cX8_fault 0 = .ok (.aload_n 0, 1) := by decide +kernel
theorem dX8_fault_1 : decode cX8_fault 1 = .ok (.getfield 88, 3) := by decide +kernel
theorem dX8_fault_4 : decode cX8_fault 4 = .ok (.ireturn, 1) := by decide +kernel
theorem dX8_put_0 : decode cX8_put 0 = .ok (.iload_n 1, 1) := by decide +kernel
theorem dX8_put_1 : decode cX8_put 1 = .ok (.invokestatic 139, 3) := by decide +kernel
theorem dX8_put_4 : decode cX8_put 4 = .ok (.ifCond .eq 19, 3) := by decide +kernel
theorem dX8_put_7 : decode cX8_put 7 = .ok (.iload_n 2, 1) := by decide +kernel
theorem dX8_put_8 : decode cX8_put 8 = .ok (.i2l, 1) := by decide +kernel
theorem dX8_put_9 : decode cX8_put 9 = .ok (.invokestatic 142, 3) := by decide +kernel
theorem dX8_put_12 : decode cX8_put 12 = .ok (.ifCond .eq 11, 3) := by decide +kernel
theorem dX8_put_15 : decode cX8_put 15 = .ok (.iload_n 3, 1) := by decide +kernel
theorem dX8_put_16 : decode cX8_put 16 = .ok (.i2l, 1) := by decide +kernel
theorem dX8_put_17 : decode cX8_put 17 = .ok (.invokestatic 146, 3) := by decide +kernel
theorem dX8_put_20 : decode cX8_put 20 = .ok (.ifCond .ne 13, 3) := by decide +kernel
theorem dX8_put_23 : decode cX8_put 23 = .ok (.aload_n 0, 1) := by decide +kernel
theorem dX8_put_24 : decode cX8_put 24 = .ok (.iconst 1, 1) := by decide +kernel
theorem dX8_put_25 : decode cX8_put 25 = .ok (.iconst 0, 1) := by decide +kernel
theorem dX8_put_26 : decode cX8_put 26 = .ok (.iconst (-1), 1) := by decide +kernel
theorem dX8_put_27 : decode cX8_put 27 = .ok (.iconst (-1), 1) := by decide +kernel
theorem dX8_put_28 : decode cX8_put 28 = .ok (.invokevirtual 125, 3) := by decide +kernel
theorem dX8_put_31 : decode cX8_put 31 = .ok (.iconst (-1), 1) := by decide +kernel
theorem dX8_put_32 : decode cX8_put 32 = .ok (.ireturn, 1) := by decide +kernel
theorem dX8_put_33 : decode cX8_put 33 = .ok (.aload_n 0, 1) := by decide +kernel
theorem dX8_put_34 : decode cX8_put 34 = .ok (.aload_n 0, 1) := by decide +kernel
theorem dX8_put_35 : decode cX8_put 35 = .ok (.getfield 41, 3) := by decide +kernel
theorem dX8_put_38 : decode cX8_put 38 = .ok (.iload_n 1, 1) := by decide +kernel
theorem dX8_put_39 : decode cX8_put 39 = .ok (.iload_n 2, 1) := by decide +kernel
theorem dX8_put_40 : decode cX8_put 40 = .ok (.invokevirtual 149, 3) := by decide +kernel
theorem dX8_put_43 : decode cX8_put 43 = .ok (.istore 4, 2) := by decide +kernel
theorem dX8_put_45 : decode cX8_put 45 = .ok (.iload 4, 2) := by decide +kernel
theorem dX8_put_47 : decode cX8_put 47 = .ok (.ifCond .le 19, 3) := by decide +kernel
theorem dX8_put_50 : decode cX8_put 50 = .ok (.aload_n 0, 1) := by decide +kernel
theorem dX8_put_51 : decode cX8_put 51 = .ok (.iload_n 1, 1) := by decide +kernel
theorem dX8_put_52 : decode cX8_put 52 = .ok (.invokevirtual 153, 3) := by decide +kernel
theorem dX8_put_55 : decode cX8_put 55 = .ok (.aload_n 0, 1) := by decide +kernel
theorem dX8_put_56 : decode cX8_put 56 = .ok (.iconst 2, 1) := by decide +kernel
theorem dX8_put_57 : decode cX8_put 57 = .ok (.iconst 0, 1) := by decide +kernel
theorem dX8_put_58 : decode cX8_put 58 = .ok (.iload 4, 2) := by decide +kernel
theorem dX8_put_60 : decode cX8_put 60 = .ok (.iconst (-1), 1) := by decide +kernel
theorem dX8_put_61 : decode cX8_put 61 = .ok (.invokevirtual 125, 3) := by decide +kernel
theorem dX8_put_64 : decode cX8_put 64 = .ok (.iconst (-1), 1) := by decide +kernel
theorem dX8_put_65 : decode cX8_put 65 = .ok (.ireturn, 1) := by decide +kernel
theorem dX8_put_66 : decode cX8_put 66 = .ok (.aload_n 0, 1) := by decide +kernel
theorem dX8_put_67 : decode cX8_put 67 = .ok (.iconst 0, 1) := by decide +kernel
theorem dX8_put_68 : decode cX8_put 68 = .ok (.iconst 0, 1) := by decide +kernel
theorem dX8_put_69 : decode cX8_put 69 = .ok (.iconst (-1), 1) := by decide +kernel
theorem dX8_put_70 : decode cX8_put 70 = .ok (.iconst (-1), 1) := by decide +kernel
theorem dX8_put_71 : decode cX8_put 71 = .ok (.invokevirtual 125, 3) := by decide +kernel
theorem dX8_put_74 : decode cX8_put 74 = .ok (.aload_n 0, 1) := by decide +kernel
theorem dX8_put_75 : decode cX8_put 75 = .ok (.iload_n 1, 1) := by decide +kernel
theorem dX8_put_76 : decode cX8_put 76 = .ok (.iload_n 2, 1) := by decide +kernel
theorem dX8_put_77 : decode cX8_put 77 = .ok (.iload_n 3, 1) := by decide +kernel
theorem dX8_put_78 : decode cX8_put 78 = .ok (.invokevirtual 156, 3) := by decide +kernel
theorem dX8_put_81 : decode cX8_put 81 = .ok (.ireturn, 1) := by decide +kernel
theorem dX8_tick_0 : decode cX8_tick 0 = .ok (.iload_n 1, 1) := by decide +kernel
theorem dX8_tick_1 : decode cX8_tick 1 = .ok (.invokestatic 139, 3) := by decide +kernel
theorem dX8_tick_4 : decode cX8_tick 4 = .ok (.ifCond .eq 11, 3) := by decide +kernel
theorem dX8_tick_7 : decode cX8_tick 7 = .ok (.iload_n 2, 1) := by decide +kernel
theorem dX8_tick_8 : decode cX8_tick 8 = .ok (.i2l, 1) := by decide +kernel
theorem dX8_tick_9 : decode cX8_tick 9 = .ok (.invokestatic 142, 3) := by decide +kernel
theorem dX8_tick_12 : decode cX8_tick 12 = .ok (.ifCond .ne 13, 3) := by decide +kernel
theorem dX8_tick_15 : decode cX8_tick 15 = .ok (.aload_n 0, 1) := by decide +kernel
theorem dX8_tick_16 : decode cX8_tick 16 = .ok (.iconst 1, 1) := by decide +kernel
theorem dX8_tick_17 : decode cX8_tick 17 = .ok (.iconst 0, 1) := by decide +kernel
theorem dX8_tick_18 : decode cX8_tick 18 = .ok (.iconst (-1), 1) := by decide +kernel
theorem dX8_tick_19 : decode cX8_tick 19 = .ok (.iconst (-1), 1) := by decide +kernel
theorem dX8_tick_20 : decode cX8_tick 20 = .ok (.invokevirtual 125, 3) := by decide +kernel
theorem dX8_tick_23 : decode cX8_tick 23 = .ok (.iconst (-1), 1) := by decide +kernel
theorem dX8_tick_24 : decode cX8_tick 24 = .ok (.ireturn, 1) := by decide +kernel
theorem dX8_tick_25 : decode cX8_tick 25 = .ok (.aload_n 0, 1) := by decide +kernel
theorem dX8_tick_26 : decode cX8_tick 26 = .ok (.iconst 0, 1) := by decide +kernel
theorem dX8_tick_27 : decode cX8_tick 27 = .ok (.iconst 0, 1) := by decide +kernel
theorem dX8_tick_28 : decode cX8_tick 28 = .ok (.iconst (-1), 1) := by decide +kernel
theorem dX8_tick_29 : decode cX8_tick 29 = .ok (.iconst (-1), 1) := by decide +kernel
theorem dX8_tick_30 : decode cX8_tick 30 = .ok (.invokevirtual 125, 3) := by decide +kernel
theorem dX8_tick_33 : decode cX8_tick 33 = .ok (.aload_n 0, 1) := by decide +kernel
theorem dX8_tick_34 : decode cX8_tick 34 = .ok (.iload_n 1, 1) := by decide +kernel
theorem dX8_tick_35 : decode cX8_tick 35 = .ok (.iload_n 2, 1) := by decide +kernel
theorem dX8_tick_36 : decode cX8_tick 36 = .ok (.invokevirtual 160, 3) := by decide +kernel
theorem dX8_tick_39 : decode cX8_tick 39 = .ok (.getfield 164, 3) := by decide +kernel
theorem dX8_tick_42 : decode cX8_tick 42 = .ok (.ireturn, 1) := by decide +kernel
theorem dX8_drop_0 : decode cX8_drop 0 = .ok (.iload_n 1, 1) := by decide +kernel
theorem dX8_drop_1 : decode cX8_drop 1 = .ok (.invokestatic 139, 3) := by decide +kernel
theorem dX8_drop_4 : decode cX8_drop 4 = .ok (.ifCond .ne 13, 3) := by decide +kernel
theorem dX8_drop_7 : decode cX8_drop 7 = .ok (.aload_n 0, 1) := by decide +kernel
theorem dX8_drop_8 : decode cX8_drop 8 = .ok (.iconst 1, 1) := by decide +kernel
theorem dX8_drop_9 : decode cX8_drop 9 = .ok (.iconst 0, 1) := by decide +kernel
theorem dX8_drop_10 : decode cX8_drop 10 = .ok (.iconst (-1), 1) := by decide +kernel
theorem dX8_drop_11 : decode cX8_drop 11 = .ok (.iconst (-1), 1) := by decide +kernel
theorem dX8_drop_12 : decode cX8_drop 12 = .ok (.invokevirtual 125, 3) := by decide +kernel
theorem dX8_drop_15 : decode cX8_drop 15 = .ok (.iconst (-1), 1) := by decide +kernel
theorem dX8_drop_16 : decode cX8_drop 16 = .ok (.ireturn, 1) := by decide +kernel
theorem dX8_drop_17 : decode cX8_drop 17 = .ok (.aload_n 0, 1) := by decide +kernel
theorem dX8_drop_18 : decode cX8_drop 18 = .ok (.getfield 41, 3) := by decide +kernel
theorem dX8_drop_21 : decode cX8_drop 21 = .ok (.iload_n 1, 1) := by decide +kernel
theorem dX8_drop_22 : decode cX8_drop 22 = .ok (.invokevirtual 167, 3) := by decide +kernel
theorem dX8_drop_25 : decode cX8_drop 25 = .ok (.ifCond .ne 13, 3) := by decide +kernel
theorem dX8_drop_28 : decode cX8_drop 28 = .ok (.aload_n 0, 1) := by decide +kernel
theorem dX8_drop_29 : decode cX8_drop 29 = .ok (.iconst 3, 1) := by decide +kernel
theorem dX8_drop_30 : decode cX8_drop 30 = .ok (.iconst 0, 1) := by decide +kernel
theorem dX8_drop_31 : decode cX8_drop 31 = .ok (.iconst (-1), 1) := by decide +kernel
theorem dX8_drop_32 : decode cX8_drop 32 = .ok (.iconst (-1), 1) := by decide +kernel
theorem dX8_drop_33 : decode cX8_drop 33 = .ok (.invokevirtual 125, 3) := by decide +kernel
theorem dX8_drop_36 : decode cX8_drop 36 = .ok (.iconst (-1), 1) := by decide +kernel
theorem dX8_drop_37 : decode cX8_drop 37 = .ok (.ireturn, 1) := by decide +kernel
theorem dX8_drop_38 : decode cX8_drop 38 = .ok (.aload_n 0, 1) := by decide +kernel
theorem dX8_drop_39 : decode cX8_drop 39 = .ok (.aload_n 0, 1) := by decide +kernel
theorem dX8_drop_40 : decode cX8_drop 40 = .ok (.iload_n 1, 1) := by decide +kernel
theorem dX8_drop_41 : decode cX8_drop 41 = .ok (.invokevirtual 170, 3) := by decide +kernel
theorem dX8_drop_44 : decode cX8_drop 44 = .ok (.invokevirtual 174, 3) := by decide +kernel
theorem dX8_drop_47 : decode cX8_drop 47 = .ok (.aload_n 0, 1) := by decide +kernel
theorem dX8_drop_48 : decode cX8_drop 48 = .ok (.getfield 41, 3) := by decide +kernel
theorem dX8_drop_51 : decode cX8_drop 51 = .ok (.iload_n 1, 1) := by decide +kernel
theorem dX8_drop_52 : decode cX8_drop 52 = .ok (.invokevirtual 178, 3) := by decide +kernel
theorem dX8_drop_55 : decode cX8_drop 55 = .ok (.aload_n 0, 1) := by decide +kernel
theorem dX8_drop_56 : decode cX8_drop 56 = .ok (.iconst 0, 1) := by decide +kernel
theorem dX8_drop_57 : decode cX8_drop 57 = .ok (.iconst 0, 1) := by decide +kernel
theorem dX8_drop_58 : decode cX8_drop 58 = .ok (.iconst (-1), 1) := by decide +kernel
theorem dX8_drop_59 : decode cX8_drop 59 = .ok (.iconst (-1), 1) := by decide +kernel
theorem dX8_drop_60 : decode cX8_drop 60 = .ok (.invokevirtual 125, 3) := by decide +kernel
theorem dX8_drop_63 : decode cX8_drop 63 = .ok (.aload_n 0, 1) := by decide +kernel
theorem dX8_drop_64 : decode cX8_drop 64 = .ok (.getfield 57, 3) := by decide +kernel
theorem dX8_drop_67 : decode cX8_drop 67 = .ok (.getfield 181, 3) := by decide +kernel
theorem dX8_drop_70 : decode cX8_drop 70 = .ok (.ireturn, 1) := by decide +kernel
theorem dX8_sheet_0 : decode cX8_sheet 0 = .ok (.iload_n 1, 1) := by decide +kernel
theorem dX8_sheet_1 : decode cX8_sheet 1 = .ok (.invokestatic 139, 3) := by decide +kernel
theorem dX8_sheet_4 : decode cX8_sheet 4 = .ok (.ifCond .eq 13, 3) := by decide +kernel
theorem dX8_sheet_7 : decode cX8_sheet 7 = .ok (.iload_n 2, 1) := by decide +kernel
theorem dX8_sheet_8 : decode cX8_sheet 8 = .ok (.ifCond .lt 9, 3) := by decide +kernel
theorem dX8_sheet_11 : decode cX8_sheet 11 = .ok (.iload_n 2, 1) := by decide +kernel
theorem dX8_sheet_12 : decode cX8_sheet 12 = .ok (.bipush 60, 2) := by decide +kernel
theorem dX8_sheet_14 : decode cX8_sheet 14 = .ok (.if_icmp .le 13, 3) := by decide +kernel
theorem dX8_sheet_17 : decode cX8_sheet 17 = .ok (.aload_n 0, 1) := by decide +kernel
theorem dX8_sheet_18 : decode cX8_sheet 18 = .ok (.iconst 1, 1) := by decide +kernel
theorem dX8_sheet_19 : decode cX8_sheet 19 = .ok (.iconst 0, 1) := by decide +kernel
theorem dX8_sheet_20 : decode cX8_sheet 20 = .ok (.iconst (-1), 1) := by decide +kernel
theorem dX8_sheet_21 : decode cX8_sheet 21 = .ok (.iconst (-1), 1) := by decide +kernel
theorem dX8_sheet_22 : decode cX8_sheet 22 = .ok (.invokevirtual 125, 3) := by decide +kernel
theorem dX8_sheet_25 : decode cX8_sheet 25 = .ok (.iconst (-1), 1) := by decide +kernel
theorem dX8_sheet_26 : decode cX8_sheet 26 = .ok (.ireturn, 1) := by decide +kernel
theorem dX8_sheet_27 : decode cX8_sheet 27 = .ok (.iconst 0, 1) := by decide +kernel
theorem dX8_sheet_28 : decode cX8_sheet 28 = .ok (.istore 7, 2) := by decide +kernel
theorem dX8_sheet_30 : decode cX8_sheet 30 = .ok (.iconst 0, 1) := by decide +kernel
theorem dX8_sheet_31 : decode cX8_sheet 31 = .ok (.istore 8, 2) := by decide +kernel
theorem dX8_sheet_33 : decode cX8_sheet 33 = .ok (.iload 8, 2) := by decide +kernel
theorem dX8_sheet_35 : decode cX8_sheet 35 = .ok (.iload_n 2, 1) := by decide +kernel
theorem dX8_sheet_36 : decode cX8_sheet 36 = .ok (.if_icmp .ge 41, 3) := by decide +kernel
theorem dX8_sheet_39 : decode cX8_sheet 39 = .ok (.aload_n 0, 1) := by decide +kernel
theorem dX8_sheet_40 : decode cX8_sheet 40 = .ok (.iload_n 1, 1) := by decide +kernel
theorem dX8_sheet_41 : decode cX8_sheet 41 = .ok (.iload_n 3, 1) := by decide +kernel
theorem dX8_sheet_42 : decode cX8_sheet 42 = .ok (.i2l, 1) := by decide +kernel
theorem dX8_sheet_43 : decode cX8_sheet 43 = .ok (.iload 8, 2) := by decide +kernel
theorem dX8_sheet_45 : decode cX8_sheet 45 = .ok (.i2l, 1) := by decide +kernel
theorem dX8_sheet_46 : decode cX8_sheet 46 = .ok (.iload 4, 2) := by decide +kernel
theorem dX8_sheet_48 : decode cX8_sheet 48 = .ok (.i2l, 1) := by decide +kernel
theorem dX8_sheet_49 : decode cX8_sheet 49 = .ok (.lmul, 1) := by decide +kernel
theorem dX8_sheet_50 : decode cX8_sheet 50 = .ok (.ladd, 1) := by decide +kernel
theorem dX8_sheet_51 : decode cX8_sheet 51 = .ok (.iload 5, 2) := by decide +kernel
theorem dX8_sheet_53 : decode cX8_sheet 53 = .ok (.i2l, 1) := by decide +kernel
theorem dX8_sheet_54 : decode cX8_sheet 54 = .ok (.iload 8, 2) := by decide +kernel
theorem dX8_sheet_56 : decode cX8_sheet 56 = .ok (.i2l, 1) := by decide +kernel
theorem dX8_sheet_57 : decode cX8_sheet 57 = .ok (.iload 6, 2) := by decide +kernel
theorem dX8_sheet_59 : decode cX8_sheet 59 = .ok (.i2l, 1) := by decide +kernel
theorem dX8_sheet_60 : decode cX8_sheet 60 = .ok (.lmul, 1) := by decide +kernel
theorem dX8_sheet_61 : decode cX8_sheet 61 = .ok (.ladd, 1) := by decide +kernel
theorem dX8_sheet_62 : decode cX8_sheet 62 = .ok (.invokevirtual 184, 3) := by decide +kernel
theorem dX8_sheet_65 : decode cX8_sheet 65 = .ok (.ifCond .eq 6, 3) := by decide +kernel
theorem dX8_sheet_68 : decode cX8_sheet 68 = .ok (.iinc 7 1, 3) := by decide +kernel
theorem dX8_sheet_71 : decode cX8_sheet 71 = .ok (.iinc 8 1, 3) := by decide +kernel
theorem dX8_sheet_74 : decode cX8_sheet 74 = .ok (.goto (-41), 3) := by decide +kernel
theorem dX8_sheet_77 : decode cX8_sheet 77 = .ok (.aload_n 0, 1) := by decide +kernel
theorem dX8_sheet_78 : decode cX8_sheet 78 = .ok (.iconst 0, 1) := by decide +kernel
theorem dX8_sheet_79 : decode cX8_sheet 79 = .ok (.iconst 0, 1) := by decide +kernel
theorem dX8_sheet_80 : decode cX8_sheet 80 = .ok (.iconst (-1), 1) := by decide +kernel
theorem dX8_sheet_81 : decode cX8_sheet 81 = .ok (.iconst (-1), 1) := by decide +kernel
theorem dX8_sheet_82 : decode cX8_sheet 82 = .ok (.invokevirtual 125, 3) := by decide +kernel
theorem dX8_sheet_85 : decode cX8_sheet 85 = .ok (.iload 7, 2) := by decide +kernel
theorem dX8_sheet_87 : decode cX8_sheet 87 = .ok (.ireturn, 1) := by decide +kernel
theorem dX8_why_0 : decode cX8_why 0 = .ok (.iload_n 1, 1) := by decide +kernel
theorem dX8_why_1 : decode cX8_why 1 = .ok (.iconst 3, 1) := by decide +kernel
theorem dX8_why_2 : decode cX8_why 2 = .ok (.invokestatic 188, 3) := by decide +kernel
theorem dX8_why_5 : decode cX8_why 5 = .ok (.aload_n 0, 1) := by decide +kernel
theorem dX8_why_6 : decode cX8_why 6 = .ok (.getfield 73, 3) := by decide +kernel
theorem dX8_why_9 : decode cX8_why 9 = .ok (.iload_n 1, 1) := by decide +kernel
theorem dX8_why_10 : decode cX8_why 10 = .ok (.iaload, 1) := by decide +kernel
theorem dX8_why_11 : decode cX8_why 11 = .ok (.ireturn, 1) := by decide +kernel
theorem dX8_count_0 : decode cX8_count 0 = .ok (.iload_n 1, 1) := by decide +kernel
theorem dX8_count_1 : decode cX8_count 1 = .ok (.tableswitch 110 0 7 #[47, 55, 63, 82, 90, 95, 100, 105], 47) := by decide +kernel
theorem dX8_count_48 : decode cX8_count 48 = .ok (.aload_n 0, 1) := by decide +kernel
theorem dX8_count_49 : decode cX8_count 49 = .ok (.getfield 77, 3) := by decide +kernel
theorem dX8_count_52 : decode cX8_count 52 = .ok (.getfield 192, 3) := by decide +kernel
theorem dX8_count_55 : decode cX8_count 55 = .ok (.ireturn, 1) := by decide +kernel
theorem dX8_count_56 : decode cX8_count 56 = .ok (.aload_n 0, 1) := by decide +kernel
theorem dX8_count_57 : decode cX8_count 57 = .ok (.getfield 77, 3) := by decide +kernel
theorem dX8_count_60 : decode cX8_count 60 = .ok (.getfield 195, 3) := by decide +kernel
theorem dX8_count_63 : decode cX8_count 63 = .ok (.ireturn, 1) := by decide +kernel
theorem dX8_count_64 : decode cX8_count 64 = .ok (.aload_n 0, 1) := by decide +kernel
theorem dX8_count_65 : decode cX8_count 65 = .ok (.getfield 77, 3) := by decide +kernel
theorem dX8_count_68 : decode cX8_count 68 = .ok (.getfield 198, 3) := by decide +kernel
theorem dX8_count_71 : decode cX8_count 71 = .ok (.invokevirtual 202, 3) := by decide +kernel
theorem dX8_count_74 : decode cX8_count 74 = .ok (.ifCond .eq 7, 3) := by decide +kernel
theorem dX8_count_77 : decode cX8_count 77 = .ok (.iconst 1, 1) := by decide +kernel
theorem dX8_count_78 : decode cX8_count 78 = .ok (.goto 4, 3) := by decide +kernel
theorem dX8_count_81 : decode cX8_count 81 = .ok (.iconst 0, 1) := by decide +kernel
theorem dX8_count_82 : decode cX8_count 82 = .ok (.ireturn, 1) := by decide +kernel
theorem dX8_count_83 : decode cX8_count 83 = .ok (.aload_n 0, 1) := by decide +kernel
theorem dX8_count_84 : decode cX8_count 84 = .ok (.getfield 41, 3) := by decide +kernel
theorem dX8_count_87 : decode cX8_count 87 = .ok (.getfield 207, 3) := by decide +kernel
theorem dX8_count_90 : decode cX8_count 90 = .ok (.ireturn, 1) := by decide +kernel
theorem dX8_count_91 : decode cX8_count 91 = .ok (.aload_n 0, 1) := by decide +kernel
theorem dX8_count_92 : decode cX8_count 92 = .ok (.getfield 84, 3) := by decide +kernel
theorem dX8_count_95 : decode cX8_count 95 = .ok (.ireturn, 1) := by decide +kernel
theorem dX8_count_96 : decode cX8_count 96 = .ok (.aload_n 0, 1) := by decide +kernel
theorem dX8_count_97 : decode cX8_count 97 = .ok (.getfield 91, 3) := by decide +kernel
theorem dX8_count_100 : decode cX8_count 100 = .ok (.ireturn, 1) := by decide +kernel
theorem dX8_count_101 : decode cX8_count 101 = .ok (.aload_n 0, 1) := by decide +kernel
theorem dX8_count_102 : decode cX8_count 102 = .ok (.getfield 94, 3) := by decide +kernel
theorem dX8_count_105 : decode cX8_count 105 = .ok (.ireturn, 1) := by decide +kernel
theorem dX8_count_106 : decode cX8_count 106 = .ok (.aload_n 0, 1) := by decide +kernel
theorem dX8_count_107 : decode cX8_count 107 = .ok (.getfield 97, 3) := by decide +kernel
theorem dX8_count_110 : decode cX8_count 110 = .ok (.ireturn, 1) := by decide +kernel
theorem dX8_count_111 : decode cX8_count 111 = .ok (.new 208, 3) := by decide +kernel
theorem dX8_count_114 : decode cX8_count 114 = .ok (.dup, 1) := by decide +kernel
theorem dX8_count_115 : decode cX8_count 115 = .ok (.ldc 210, 2) := by decide +kernel
theorem dX8_count_117 : decode cX8_count 117 = .ok (.invokespecial 212, 3) := by decide +kernel
theorem dX8_count_120 : decode cX8_count 120 = .ok (.athrow, 1) := by decide +kernel
theorem dX8_tier_0 : decode cX8_tier 0 = .ok (.aload_n 0, 1) := by decide +kernel
theorem dX8_tier_1 : decode cX8_tier 1 = .ok (.iload_n 1, 1) := by decide +kernel
theorem dX8_tier_2 : decode cX8_tier 2 = .ok (.invokevirtual 213, 3) := by decide +kernel
theorem dX8_tier_5 : decode cX8_tier 5 = .ok (.iload_n 2, 1) := by decide +kernel
theorem dX8_tier_6 : decode cX8_tier 6 = .ok (.iconst 1, 1) := by decide +kernel
theorem dX8_tier_7 : decode cX8_tier 7 = .ok (.invokestatic 188, 3) := by decide +kernel
theorem dX8_tier_10 : decode cX8_tier 10 = .ok (.iload_n 2, 1) := by decide +kernel
theorem dX8_tier_11 : decode cX8_tier 11 = .ok (.ifCond .ne 15, 3) := by decide +kernel
theorem dX8_tier_14 : decode cX8_tier 14 = .ok (.aload_n 0, 1) := by decide +kernel
theorem dX8_tier_15 : decode cX8_tier 15 = .ok (.getfield 77, 3) := by decide +kernel
theorem dX8_tier_18 : decode cX8_tier 18 = .ok (.getfield 216, 3) := by decide +kernel
theorem dX8_tier_21 : decode cX8_tier 21 = .ok (.iload_n 1, 1) := by decide +kernel
theorem dX8_tier_22 : decode cX8_tier 22 = .ok (.iaload, 1) := by decide +kernel
theorem dX8_tier_23 : decode cX8_tier 23 = .ok (.goto 12, 3) := by decide +kernel
theorem dX8_tier_26 : decode cX8_tier 26 = .ok (.aload_n 0, 1) := by decide +kernel
theorem dX8_tier_27 : decode cX8_tier 27 = .ok (.getfield 77, 3) := by decide +kernel
theorem dX8_tier_30 : decode cX8_tier 30 = .ok (.getfield 219, 3) := by decide +kernel
theorem dX8_tier_33 : decode cX8_tier 33 = .ok (.iload_n 1, 1) := by decide +kernel
theorem dX8_tier_34 : decode cX8_tier 34 = .ok (.iaload, 1) := by decide +kernel
theorem dX8_tier_35 : decode cX8_tier 35 = .ok (.ireturn, 1) := by decide +kernel
theorem dX8_used_0 : decode cX8_used 0 = .ok (.iload_n 1, 1) := by decide +kernel
theorem dX8_used_1 : decode cX8_used 1 = .ok (.ifCond .lt 14, 3) := by decide +kernel
theorem dX8_used_4 : decode cX8_used 4 = .ok (.iload_n 1, 1) := by decide +kernel
theorem dX8_used_5 : decode cX8_used 5 = .ok (.aload_n 0, 1) := by decide +kernel
theorem dX8_used_6 : decode cX8_used 6 = .ok (.getfield 41, 3) := by decide +kernel
theorem dX8_used_9 : decode cX8_used 9 = .ok (.getfield 207, 3) := by decide +kernel
theorem dX8_used_12 : decode cX8_used 12 = .ok (.if_icmp .lt 13, 3) := by decide +kernel
theorem dX8_used_15 : decode cX8_used 15 = .ok (.new 208, 3) := by decide +kernel
theorem dX8_used_18 : decode cX8_used 18 = .ok (.dup, 1) := by decide +kernel
theorem dX8_used_19 : decode cX8_used 19 = .ok (.ldc 222, 2) := by decide +kernel
theorem dX8_used_21 : decode cX8_used 21 = .ok (.invokespecial 212, 3) := by decide +kernel
theorem dX8_used_24 : decode cX8_used 24 = .ok (.athrow, 1) := by decide +kernel
theorem dX8_used_25 : decode cX8_used 25 = .ok (.aload_n 0, 1) := by decide +kernel
theorem dX8_used_26 : decode cX8_used 26 = .ok (.getfield 41, 3) := by decide +kernel
theorem dX8_used_29 : decode cX8_used 29 = .ok (.getfield 224, 3) := by decide +kernel
theorem dX8_used_32 : decode cX8_used 32 = .ok (.iload_n 1, 1) := by decide +kernel
theorem dX8_used_33 : decode cX8_used 33 = .ok (.iaload, 1) := by decide +kernel
theorem dX8_used_34 : decode cX8_used 34 = .ok (.ireturn, 1) := by decide +kernel
theorem dX8_of_0 : decode cX8_of 0 = .ok (.aload_n 0, 1) := by decide +kernel
theorem dX8_of_1 : decode cX8_of 1 = .ok (.iload_n 1, 1) := by decide +kernel
theorem dX8_of_2 : decode cX8_of 2 = .ok (.invokevirtual 227, 3) := by decide +kernel
theorem dX8_of_5 : decode cX8_of 5 = .ok (.astore_n 3, 1) := by decide +kernel
theorem dX8_of_6 : decode cX8_of 6 = .ok (.aload_n 0, 1) := by decide +kernel
theorem dX8_of_7 : decode cX8_of 7 = .ok (.aload_n 3, 1) := by decide +kernel
theorem dX8_of_8 : decode cX8_of 8 = .ok (.invokevirtual 174, 3) := by decide +kernel
theorem dX8_of_11 : decode cX8_of 11 = .ok (.iload_n 2, 1) := by decide +kernel
theorem dX8_of_12 : decode cX8_of 12 = .ok (.tableswitch 112 0 7 #[48, 59, 65, 74, 80, 86, 95, 104], 48) := by decide +kernel
theorem dX8_of_60 : decode cX8_of 60 = .ok (.aload_n 0, 1) := by decide +kernel
theorem dX8_of_61 : decode cX8_of 61 = .ok (.getfield 41, 3) := by decide +kernel
theorem dX8_of_64 : decode cX8_of 64 = .ok (.getfield 230, 3) := by decide +kernel
theorem dX8_of_67 : decode cX8_of 67 = .ok (.iload_n 1, 1) := by decide +kernel
theorem dX8_of_68 : decode cX8_of 68 = .ok (.iaload, 1) := by decide +kernel
theorem dX8_of_69 : decode cX8_of 69 = .ok (.i2l, 1) := by decide +kernel
theorem dX8_of_70 : decode cX8_of 70 = .ok (.lreturn, 1) := by decide +kernel
theorem dX8_of_71 : decode cX8_of 71 = .ok (.aload_n 3, 1) := by decide +kernel
theorem dX8_of_72 : decode cX8_of 72 = .ok (.getfield 164, 3) := by decide +kernel
theorem dX8_of_75 : decode cX8_of 75 = .ok (.i2l, 1) := by decide +kernel
theorem dX8_of_76 : decode cX8_of 76 = .ok (.lreturn, 1) := by decide +kernel
theorem dX8_of_77 : decode cX8_of 77 = .ok (.aload_n 0, 1) := by decide +kernel
theorem dX8_of_78 : decode cX8_of 78 = .ok (.getfield 57, 3) := by decide +kernel
theorem dX8_of_81 : decode cX8_of 81 = .ok (.getfield 181, 3) := by decide +kernel
theorem dX8_of_84 : decode cX8_of 84 = .ok (.i2l, 1) := by decide +kernel
theorem dX8_of_85 : decode cX8_of 85 = .ok (.lreturn, 1) := by decide +kernel
theorem dX8_of_86 : decode cX8_of 86 = .ok (.aload_n 3, 1) := by decide +kernel
theorem dX8_of_87 : decode cX8_of 87 = .ok (.getfield 233, 3) := by decide +kernel
theorem dX8_of_90 : decode cX8_of 90 = .ok (.i2l, 1) := by decide +kernel
theorem dX8_of_91 : decode cX8_of 91 = .ok (.lreturn, 1) := by decide +kernel
theorem dX8_of_92 : decode cX8_of 92 = .ok (.aload_n 3, 1) := by decide +kernel
theorem dX8_of_93 : decode cX8_of 93 = .ok (.getfield 236, 3) := by decide +kernel
theorem dX8_of_96 : decode cX8_of 96 = .ok (.i2l, 1) := by decide +kernel
theorem dX8_of_97 : decode cX8_of 97 = .ok (.lreturn, 1) := by decide +kernel
theorem dX8_of_98 : decode cX8_of 98 = .ok (.aload_n 0, 1) := by decide +kernel
theorem dX8_of_99 : decode cX8_of 99 = .ok (.getfield 57, 3) := by decide +kernel
theorem dX8_of_102 : decode cX8_of 102 = .ok (.getfield 239, 3) := by decide +kernel
theorem dX8_of_105 : decode cX8_of 105 = .ok (.i2l, 1) := by decide +kernel
theorem dX8_of_106 : decode cX8_of 106 = .ok (.lreturn, 1) := by decide +kernel
theorem dX8_of_107 : decode cX8_of 107 = .ok (.aload_n 0, 1) := by decide +kernel
theorem dX8_of_108 : decode cX8_of 108 = .ok (.getfield 57, 3) := by decide +kernel
theorem dX8_of_111 : decode cX8_of 111 = .ok (.getfield 242, 3) := by decide +kernel
theorem dX8_of_114 : decode cX8_of 114 = .ok (.i2l, 1) := by decide +kernel
theorem dX8_of_115 : decode cX8_of 115 = .ok (.lreturn, 1) := by decide +kernel
theorem dX8_of_116 : decode cX8_of 116 = .ok (.aload_n 0, 1) := by decide +kernel
theorem dX8_of_117 : decode cX8_of 117 = .ok (.getfield 57, 3) := by decide +kernel
theorem dX8_of_120 : decode cX8_of 120 = .ok (.getfield 245, 3) := by decide +kernel
theorem dX8_of_123 : decode cX8_of 123 = .ok (.lreturn, 1) := by decide +kernel
theorem dX8_of_124 : decode cX8_of 124 = .ok (.new 208, 3) := by decide +kernel
theorem dX8_of_127 : decode cX8_of 127 = .ok (.dup, 1) := by decide +kernel
theorem dX8_of_128 : decode cX8_of 128 = .ok (.ldc 210, 2) := by decide +kernel
theorem dX8_of_130 : decode cX8_of 130 = .ok (.invokespecial 212, 3) := by decide +kernel
theorem dX8_of_133 : decode cX8_of 133 = .ok (.athrow, 1) := by decide +kernel
theorem dX8_seam_0 : decode cX8_seam 0 = .ok (.aload_n 0, 1) := by decide +kernel
theorem dX8_seam_1 : decode cX8_seam 1 = .ok (.iload_n 1, 1) := by decide +kernel
theorem dX8_seam_2 : decode cX8_seam 2 = .ok (.invokevirtual 227, 3) := by decide +kernel
theorem dX8_seam_5 : decode cX8_seam 5 = .ok (.astore_n 3, 1) := by decide +kernel
theorem dX8_seam_6 : decode cX8_seam 6 = .ok (.aload_n 0, 1) := by decide +kernel
theorem dX8_seam_7 : decode cX8_seam 7 = .ok (.iload_n 2, 1) := by decide +kernel
theorem dX8_seam_8 : decode cX8_seam 8 = .ok (.invokevirtual 213, 3) := by decide +kernel
theorem dX8_seam_11 : decode cX8_seam 11 = .ok (.aload_n 3, 1) := by decide +kernel
theorem dX8_seam_12 : decode cX8_seam 12 = .ok (.getfield 249, 3) := by decide +kernel
theorem dX8_seam_15 : decode cX8_seam 15 = .ok (.iload_n 2, 1) := by decide +kernel
theorem dX8_seam_16 : decode cX8_seam 16 = .ok (.iaload, 1) := by decide +kernel
theorem dX8_seam_17 : decode cX8_seam 17 = .ok (.ireturn, 1) := by decide +kernel
theorem dX8_buckets_0 : decode cX8_buckets 0 = .ok (.aload_n 0, 1) := by decide +kernel
theorem dX8_buckets_1 : decode cX8_buckets 1 = .ok (.iload_n 1, 1) := by decide +kernel
theorem dX8_buckets_2 : decode cX8_buckets 2 = .ok (.invokevirtual 227, 3) := by decide +kernel
theorem dX8_buckets_5 : decode cX8_buckets 5 = .ok (.astore_n 3, 1) := by decide +kernel
theorem dX8_buckets_6 : decode cX8_buckets 6 = .ok (.aload_n 0, 1) := by decide +kernel
theorem dX8_buckets_7 : decode cX8_buckets 7 = .ok (.iload_n 2, 1) := by decide +kernel
theorem dX8_buckets_8 : decode cX8_buckets 8 = .ok (.invokevirtual 213, 3) := by decide +kernel
theorem dX8_buckets_11 : decode cX8_buckets 11 = .ok (.aload_n 3, 1) := by decide +kernel
theorem dX8_buckets_12 : decode cX8_buckets 12 = .ok (.iload_n 2, 1) := by decide +kernel
theorem dX8_buckets_13 : decode cX8_buckets 13 = .ok (.invokevirtual 252, 3) := by decide +kernel
theorem dX8_buckets_16 : decode cX8_buckets 16 = .ok (.aload_n 3, 1) := by decide +kernel
theorem dX8_buckets_17 : decode cX8_buckets 17 = .ok (.iload_n 2, 1) := by decide +kernel
theorem dX8_buckets_18 : decode cX8_buckets 18 = .ok (.invokevirtual 256, 3) := by decide +kernel
theorem dX8_buckets_21 : decode cX8_buckets 21 = .ok (.isub, 1) := by decide +kernel
theorem dX8_buckets_22 : decode cX8_buckets 22 = .ok (.ireturn, 1) := by decide +kernel
theorem dX8_bucket_0 : decode cX8_bucket 0 = .ok (.aload_n 0, 1) := by decide +kernel
theorem dX8_bucket_1 : decode cX8_bucket 1 = .ok (.iload_n 1, 1) := by decide +kernel
theorem dX8_bucket_2 : decode cX8_bucket 2 = .ok (.invokevirtual 227, 3) := by decide +kernel
theorem dX8_bucket_5 : decode cX8_bucket 5 = .ok (.astore 5, 2) := by decide +kernel
theorem dX8_bucket_7 : decode cX8_bucket 7 = .ok (.aload_n 0, 1) := by decide +kernel
theorem dX8_bucket_8 : decode cX8_bucket 8 = .ok (.iload_n 2, 1) := by decide +kernel
theorem dX8_bucket_9 : decode cX8_bucket 9 = .ok (.invokevirtual 213, 3) := by decide +kernel
theorem dX8_bucket_12 : decode cX8_bucket 12 = .ok (.iload 4, 2) := by decide +kernel
theorem dX8_bucket_14 : decode cX8_bucket 14 = .ok (.iconst 5, 1) := by decide +kernel
theorem dX8_bucket_15 : decode cX8_bucket 15 = .ok (.invokestatic 188, 3) := by decide +kernel
theorem dX8_bucket_18 : decode cX8_bucket 18 = .ok (.aload 5, 2) := by decide +kernel
theorem dX8_bucket_20 : decode cX8_bucket 20 = .ok (.iload_n 2, 1) := by decide +kernel
theorem dX8_bucket_21 : decode cX8_bucket 21 = .ok (.invokevirtual 256, 3) := by decide +kernel
theorem dX8_bucket_24 : decode cX8_bucket 24 = .ok (.istore 6, 2) := by decide +kernel
theorem dX8_bucket_26 : decode cX8_bucket 26 = .ok (.iload_n 3, 1) := by decide +kernel
theorem dX8_bucket_27 : decode cX8_bucket 27 = .ok (.ifCond .lt 16, 3) := by decide +kernel
theorem dX8_bucket_30 : decode cX8_bucket 30 = .ok (.iload_n 3, 1) := by decide +kernel
theorem dX8_bucket_31 : decode cX8_bucket 31 = .ok (.aload 5, 2) := by decide +kernel
theorem dX8_bucket_33 : decode cX8_bucket 33 = .ok (.iload_n 2, 1) := by decide +kernel
theorem dX8_bucket_34 : decode cX8_bucket 34 = .ok (.invokevirtual 252, 3) := by decide +kernel
theorem dX8_bucket_37 : decode cX8_bucket 37 = .ok (.iload 6, 2) := by decide +kernel
theorem dX8_bucket_39 : decode cX8_bucket 39 = .ok (.isub, 1) := by decide +kernel
theorem dX8_bucket_40 : decode cX8_bucket 40 = .ok (.if_icmp .lt 14, 3) := by decide +kernel
theorem dX8_bucket_43 : decode cX8_bucket 43 = .ok (.new 208, 3) := by decide +kernel
theorem dX8_bucket_46 : decode cX8_bucket 46 = .ok (.dup, 1) := by decide +kernel
theorem dX8_bucket_47 : decode cX8_bucket 47 = .ok (.ldc_w 259, 3) := by decide +kernel
theorem dX8_bucket_50 : decode cX8_bucket 50 = .ok (.invokespecial 212, 3) := by decide +kernel
theorem dX8_bucket_53 : decode cX8_bucket 53 = .ok (.athrow, 1) := by decide +kernel
theorem dX8_bucket_54 : decode cX8_bucket 54 = .ok (.aload 5, 2) := by decide +kernel
theorem dX8_bucket_56 : decode cX8_bucket 56 = .ok (.iload 6, 2) := by decide +kernel
theorem dX8_bucket_58 : decode cX8_bucket 58 = .ok (.iload_n 3, 1) := by decide +kernel
theorem dX8_bucket_59 : decode cX8_bucket 59 = .ok (.iadd, 1) := by decide +kernel
theorem dX8_bucket_60 : decode cX8_bucket 60 = .ok (.iload 4, 2) := by decide +kernel
theorem dX8_bucket_62 : decode cX8_bucket 62 = .ok (.invokevirtual 261, 3) := by decide +kernel
theorem dX8_bucket_65 : decode cX8_bucket 65 = .ok (.lreturn, 1) := by decide +kernel
theorem dX8_at_0 : decode cX8_at 0 = .ok (.aload_n 0, 1) := by decide +kernel
theorem dX8_at_1 : decode cX8_at 1 = .ok (.iload_n 1, 1) := by decide +kernel
theorem dX8_at_2 : decode cX8_at 2 = .ok (.invokevirtual 227, 3) := by decide +kernel
theorem dX8_at_5 : decode cX8_at 5 = .ok (.astore 4, 2) := by decide +kernel
theorem dX8_at_7 : decode cX8_at 7 = .ok (.iload_n 3, 1) := by decide +kernel
theorem dX8_at_8 : decode cX8_at 8 = .ok (.iconst 2, 1) := by decide +kernel
theorem dX8_at_9 : decode cX8_at 9 = .ok (.invokestatic 188, 3) := by decide +kernel
theorem dX8_at_12 : decode cX8_at 12 = .ok (.iload_n 2, 1) := by decide +kernel
theorem dX8_at_13 : decode cX8_at 13 = .ok (.i2l, 1) := by decide +kernel
theorem dX8_at_14 : decode cX8_at 14 = .ok (.invokestatic 142, 3) := by decide +kernel
theorem dX8_at_17 : decode cX8_at 17 = .ok (.ifCond .ne 14, 3) := by decide +kernel
theorem dX8_at_20 : decode cX8_at 20 = .ok (.new 208, 3) := by decide +kernel
theorem dX8_at_23 : decode cX8_at 23 = .ok (.dup, 1) := by decide +kernel
theorem dX8_at_24 : decode cX8_at 24 = .ok (.ldc_w 265, 3) := by decide +kernel
theorem dX8_at_27 : decode cX8_at 27 = .ok (.invokespecial 212, 3) := by decide +kernel
theorem dX8_at_30 : decode cX8_at 30 = .ok (.athrow, 1) := by decide +kernel
theorem dX8_at_31 : decode cX8_at 31 = .ok (.aload 4, 2) := by decide +kernel
theorem dX8_at_33 : decode cX8_at 33 = .ok (.iload_n 2, 1) := by decide +kernel
theorem dX8_at_34 : decode cX8_at 34 = .ok (.invokevirtual 267, 3) := by decide +kernel
theorem dX8_at_37 : decode cX8_at 37 = .ok (.istore 5, 2) := by decide +kernel
theorem dX8_at_39 : decode cX8_at 39 = .ok (.iload_n 3, 1) := by decide +kernel
theorem dX8_at_40 : decode cX8_at 40 = .ok (.ifCond .ne 6, 3) := by decide +kernel
theorem dX8_at_43 : decode cX8_at 43 = .ok (.iload 5, 2) := by decide +kernel
theorem dX8_at_45 : decode cX8_at 45 = .ok (.ireturn, 1) := by decide +kernel
theorem dX8_at_46 : decode cX8_at 46 = .ok (.iload 5, 2) := by decide +kernel
theorem dX8_at_48 : decode cX8_at 48 = .ok (.iconst (-1), 1) := by decide +kernel
theorem dX8_at_49 : decode cX8_at 49 = .ok (.if_icmp .ne 16, 3) := by decide +kernel
theorem dX8_at_52 : decode cX8_at 52 = .ok (.iload_n 3, 1) := by decide +kernel
theorem dX8_at_53 : decode cX8_at 53 = .ok (.iconst 1, 1) := by decide +kernel
theorem dX8_at_54 : decode cX8_at 54 = .ok (.if_icmp .ne 9, 3) := by decide +kernel
theorem dX8_at_57 : decode cX8_at 57 = .ok (.sipush (-20000), 3) := by decide +kernel
theorem dX8_at_60 : decode cX8_at 60 = .ok (.goto 4, 3) := by decide +kernel
theorem dX8_at_63 : decode cX8_at 63 = .ok (.iconst 0, 1) := by decide +kernel
theorem dX8_at_64 : decode cX8_at 64 = .ok (.ireturn, 1) := by decide +kernel
theorem dX8_at_65 : decode cX8_at 65 = .ok (.iload_n 2, 1) := by decide +kernel
theorem dX8_at_66 : decode cX8_at 66 = .ok (.aload_n 0, 1) := by decide +kernel
theorem dX8_at_67 : decode cX8_at 67 = .ok (.getfield 77, 3) := by decide +kernel
theorem dX8_at_70 : decode cX8_at 70 = .ok (.getfield 216, 3) := by decide +kernel
theorem dX8_at_73 : decode cX8_at 73 = .ok (.iload 5, 2) := by decide +kernel
theorem dX8_at_75 : decode cX8_at 75 = .ok (.iaload, 1) := by decide +kernel
theorem dX8_at_76 : decode cX8_at 76 = .ok (.invokestatic 270, 3) := by decide +kernel
theorem dX8_at_79 : decode cX8_at 79 = .ok (.istore 6, 2) := by decide +kernel
theorem dX8_at_81 : decode cX8_at 81 = .ok (.iload_n 3, 1) := by decide +kernel
theorem dX8_at_82 : decode cX8_at 82 = .ok (.iconst 1, 1) := by decide +kernel
theorem dX8_at_83 : decode cX8_at 83 = .ok (.if_icmp .ne 8, 3) := by decide +kernel
theorem dX8_at_86 : decode cX8_at 86 = .ok (.iload 6, 2) := by decide +kernel
theorem dX8_at_88 : decode cX8_at 88 = .ok (.goto 10, 3) := by decide +kernel
theorem dX8_at_91 : decode cX8_at 91 = .ok (.aload 4, 2) := by decide +kernel
theorem dX8_at_93 : decode cX8_at 93 = .ok (.iload 6, 2) := by decide +kernel
theorem dX8_at_95 : decode cX8_at 95 = .ok (.invokevirtual 274, 3) := by decide +kernel
theorem dX8_at_98 : decode cX8_at 98 = .ok (.ireturn, 1) := by decide +kernel
theorem dX8_total_0 : decode cX8_total 0 = .ok (.aload_n 0, 1) := by decide +kernel
theorem dX8_total_1 : decode cX8_total 1 = .ok (.iload_n 1, 1) := by decide +kernel
theorem dX8_total_2 : decode cX8_total 2 = .ok (.invokevirtual 227, 3) := by decide +kernel
theorem dX8_total_5 : decode cX8_total 5 = .ok (.astore 5, 2) := by decide +kernel
theorem dX8_total_7 : decode cX8_total 7 = .ok (.iload 4, 2) := by decide +kernel
theorem dX8_total_9 : decode cX8_total 9 = .ok (.bipush 6, 2) := by decide +kernel
theorem dX8_total_11 : decode cX8_total 11 = .ok (.invokestatic 188, 3) := by decide +kernel
theorem dX8_total_14 : decode cX8_total 14 = .ok (.iload_n 2, 1) := by decide +kernel
theorem dX8_total_15 : decode cX8_total 15 = .ok (.i2l, 1) := by decide +kernel
theorem dX8_total_16 : decode cX8_total 16 = .ok (.invokestatic 142, 3) := by decide +kernel
theorem dX8_total_19 : decode cX8_total 19 = .ok (.ifCond .eq 16, 3) := by decide +kernel
theorem dX8_total_22 : decode cX8_total 22 = .ok (.iload_n 3, 1) := by decide +kernel
theorem dX8_total_23 : decode cX8_total 23 = .ok (.i2l, 1) := by decide +kernel
theorem dX8_total_24 : decode cX8_total 24 = .ok (.invokestatic 142, 3) := by decide +kernel
theorem dX8_total_27 : decode cX8_total 27 = .ok (.ifCond .eq 8, 3) := by decide +kernel
theorem dX8_total_30 : decode cX8_total 30 = .ok (.iload_n 3, 1) := by decide +kernel
theorem dX8_total_31 : decode cX8_total 31 = .ok (.iload_n 2, 1) := by decide +kernel
theorem dX8_total_32 : decode cX8_total 32 = .ok (.if_icmp .ge 14, 3) := by decide +kernel
theorem dX8_total_35 : decode cX8_total 35 = .ok (.new 104, 3) := by decide +kernel
theorem dX8_total_38 : decode cX8_total 38 = .ok (.dup, 1) := by decide +kernel
theorem dX8_total_39 : decode cX8_total 39 = .ok (.ldc_w 277, 3) := by decide +kernel
theorem dX8_total_42 : decode cX8_total 42 = .ok (.invokespecial 108, 3) := by decide +kernel
theorem dX8_total_45 : decode cX8_total 45 = .ok (.athrow, 1) := by decide +kernel
theorem dX8_total_46 : decode cX8_total 46 = .ok (.aload_n 0, 1) := by decide +kernel
theorem dX8_total_47 : decode cX8_total 47 = .ok (.aload 5, 2) := by decide +kernel
theorem dX8_total_49 : decode cX8_total 49 = .ok (.iload_n 2, 1) := by decide +kernel
theorem dX8_total_50 : decode cX8_total 50 = .ok (.iload_n 3, 1) := by decide +kernel
theorem dX8_total_51 : decode cX8_total 51 = .ok (.invokevirtual 279, 3) := by decide +kernel
theorem dX8_total_54 : decode cX8_total 54 = .ok (.iload 4, 2) := by decide +kernel
theorem dX8_total_56 : decode cX8_total 56 = .ok (.tableswitch 55 4 6 #[28, 37, 46], 28) := by decide +kernel
theorem dX8_total_84 : decode cX8_total 84 = .ok (.aload_n 0, 1) := by decide +kernel
theorem dX8_total_85 : decode cX8_total 85 = .ok (.getfield 61, 3) := by decide +kernel
theorem dX8_total_88 : decode cX8_total 88 = .ok (.getfield 181, 3) := by decide +kernel
theorem dX8_total_91 : decode cX8_total 91 = .ok (.i2l, 1) := by decide +kernel
theorem dX8_total_92 : decode cX8_total 92 = .ok (.lreturn, 1) := by decide +kernel
theorem dX8_total_93 : decode cX8_total 93 = .ok (.aload_n 0, 1) := by decide +kernel
theorem dX8_total_94 : decode cX8_total 94 = .ok (.getfield 57, 3) := by decide +kernel
theorem dX8_total_97 : decode cX8_total 97 = .ok (.getfield 283, 3) := by decide +kernel
theorem dX8_total_100 : decode cX8_total 100 = .ok (.i2l, 1) := by decide +kernel
theorem dX8_total_101 : decode cX8_total 101 = .ok (.lreturn, 1) := by decide +kernel
theorem dX8_total_102 : decode cX8_total 102 = .ok (.aload_n 0, 1) := by decide +kernel
theorem dX8_total_103 : decode cX8_total 103 = .ok (.getfield 61, 3) := by decide +kernel
theorem dX8_total_106 : decode cX8_total 106 = .ok (.getfield 283, 3) := by decide +kernel
theorem dX8_total_109 : decode cX8_total 109 = .ok (.i2l, 1) := by decide +kernel
theorem dX8_total_110 : decode cX8_total 110 = .ok (.lreturn, 1) := by decide +kernel
theorem dX8_total_111 : decode cX8_total 111 = .ok (.aload_n 0, 1) := by decide +kernel
theorem dX8_total_112 : decode cX8_total 112 = .ok (.getfield 57, 3) := by decide +kernel
theorem dX8_total_115 : decode cX8_total 115 = .ok (.iload 4, 2) := by decide +kernel
theorem dX8_total_117 : decode cX8_total 117 = .ok (.invokevirtual 286, 3) := by decide +kernel
theorem dX8_total_120 : decode cX8_total 120 = .ok (.lreturn, 1) := by decide +kernel
theorem dX8_gap_0 : decode cX8_gap 0 = .ok (.aload_n 0, 1) := by decide +kernel
theorem dX8_gap_1 : decode cX8_gap 1 = .ok (.iload_n 1, 1) := by decide +kernel
theorem dX8_gap_2 : decode cX8_gap 2 = .ok (.invokevirtual 227, 3) := by decide +kernel
theorem dX8_gap_5 : decode cX8_gap 5 = .ok (.astore 5, 2) := by decide +kernel
theorem dX8_gap_7 : decode cX8_gap 7 = .ok (.aload_n 0, 1) := by decide +kernel
theorem dX8_gap_8 : decode cX8_gap 8 = .ok (.iload_n 2, 1) := by decide +kernel
theorem dX8_gap_9 : decode cX8_gap 9 = .ok (.invokevirtual 213, 3) := by decide +kernel
theorem dX8_gap_12 : decode cX8_gap 12 = .ok (.aload_n 0, 1) := by decide +kernel
theorem dX8_gap_13 : decode cX8_gap 13 = .ok (.getfield 77, 3) := by decide +kernel
theorem dX8_gap_16 : decode cX8_gap 16 = .ok (.getfield 216, 3) := by decide +kernel
theorem dX8_gap_19 : decode cX8_gap 19 = .ok (.iload_n 2, 1) := by decide +kernel
theorem dX8_gap_20 : decode cX8_gap 20 = .ok (.iaload, 1) := by decide +kernel
theorem dX8_gap_21 : decode cX8_gap 21 = .ok (.istore 6, 2) := by decide +kernel
theorem dX8_gap_23 : decode cX8_gap 23 = .ok (.aload 5, 2) := by decide +kernel
theorem dX8_gap_25 : decode cX8_gap 25 = .ok (.iload_n 2, 1) := by decide +kernel
theorem dX8_gap_26 : decode cX8_gap 26 = .ok (.invokevirtual 252, 3) := by decide +kernel
theorem dX8_gap_29 : decode cX8_gap 29 = .ok (.istore 7, 2) := by decide +kernel
theorem dX8_gap_31 : decode cX8_gap 31 = .ok (.iconst 0, 1) := by decide +kernel
theorem dX8_gap_32 : decode cX8_gap 32 = .ok (.istore 8, 2) := by decide +kernel
theorem dX8_gap_34 : decode cX8_gap 34 = .ok (.aload 5, 2) := by decide +kernel
theorem dX8_gap_36 : decode cX8_gap 36 = .ok (.iload_n 2, 1) := by decide +kernel
theorem dX8_gap_37 : decode cX8_gap 37 = .ok (.invokevirtual 256, 3) := by decide +kernel
theorem dX8_gap_40 : decode cX8_gap 40 = .ok (.iconst 1, 1) := by decide +kernel
theorem dX8_gap_41 : decode cX8_gap 41 = .ok (.iadd, 1) := by decide +kernel
theorem dX8_gap_42 : decode cX8_gap 42 = .ok (.istore 9, 2) := by decide +kernel
theorem dX8_gap_44 : decode cX8_gap 44 = .ok (.iload 9, 2) := by decide +kernel
theorem dX8_gap_46 : decode cX8_gap 46 = .ok (.iload 7, 2) := by decide +kernel
theorem dX8_gap_48 : decode cX8_gap 48 = .ok (.if_icmp .ge 77, 3) := by decide +kernel
theorem dX8_gap_51 : decode cX8_gap 51 = .ok (.aload 5, 2) := by decide +kernel
theorem dX8_gap_53 : decode cX8_gap 53 = .ok (.getfield 289, 3) := by decide +kernel
theorem dX8_gap_56 : decode cX8_gap 56 = .ok (.iload 9, 2) := by decide +kernel
theorem dX8_gap_58 : decode cX8_gap 58 = .ok (.iconst 1, 1) := by decide +kernel
theorem dX8_gap_59 : decode cX8_gap 59 = .ok (.isub, 1) := by decide +kernel
theorem dX8_gap_60 : decode cX8_gap 60 = .ok (.iaload, 1) := by decide +kernel
theorem dX8_gap_61 : decode cX8_gap 61 = .ok (.iload 6, 2) := by decide +kernel
theorem dX8_gap_63 : decode cX8_gap 63 = .ok (.iadd, 1) := by decide +kernel
theorem dX8_gap_64 : decode cX8_gap 64 = .ok (.istore 10, 2) := by decide +kernel
theorem dX8_gap_66 : decode cX8_gap 66 = .ok (.aload 5, 2) := by decide +kernel
theorem dX8_gap_68 : decode cX8_gap 68 = .ok (.getfield 289, 3) := by decide +kernel
theorem dX8_gap_71 : decode cX8_gap 71 = .ok (.iload 9, 2) := by decide +kernel
theorem dX8_gap_73 : decode cX8_gap 73 = .ok (.iaload, 1) := by decide +kernel
theorem dX8_gap_74 : decode cX8_gap 74 = .ok (.iload 10, 2) := by decide +kernel
theorem dX8_gap_76 : decode cX8_gap 76 = .ok (.if_icmp .ne 6, 3) := by decide +kernel
theorem dX8_gap_79 : decode cX8_gap 79 = .ok (.goto 40, 3) := by decide +kernel
theorem dX8_gap_82 : decode cX8_gap 82 = .ok (.iload 8, 2) := by decide +kernel
theorem dX8_gap_84 : decode cX8_gap 84 = .ok (.iload_n 3, 1) := by decide +kernel
theorem dX8_gap_85 : decode cX8_gap 85 = .ok (.if_icmp .ne 31, 3) := by decide +kernel
theorem dX8_gap_88 : decode cX8_gap 88 = .ok (.iload 4, 2) := by decide +kernel
theorem dX8_gap_90 : decode cX8_gap 90 = .ok (.ifCond .eq 23, 3) := by decide +kernel
theorem dX8_gap_93 : decode cX8_gap 93 = .ok (.aload 5, 2) := by decide +kernel
theorem dX8_gap_95 : decode cX8_gap 95 = .ok (.getfield 289, 3) := by decide +kernel
theorem dX8_gap_98 : decode cX8_gap 98 = .ok (.iload 9, 2) := by decide +kernel
theorem dX8_gap_100 : decode cX8_gap 100 = .ok (.iaload, 1) := by decide +kernel
theorem dX8_gap_101 : decode cX8_gap 101 = .ok (.iload 10, 2) := by decide +kernel
theorem dX8_gap_103 : decode cX8_gap 103 = .ok (.isub, 1) := by decide +kernel
theorem dX8_gap_104 : decode cX8_gap 104 = .ok (.i2l, 1) := by decide +kernel
theorem dX8_gap_105 : decode cX8_gap 105 = .ok (.iload 6, 2) := by decide +kernel
theorem dX8_gap_107 : decode cX8_gap 107 = .ok (.invokestatic 292, 3) := by decide +kernel
theorem dX8_gap_110 : decode cX8_gap 110 = .ok (.goto 5, 3) := by decide +kernel
theorem dX8_gap_113 : decode cX8_gap 113 = .ok (.iload 10, 2) := by decide +kernel
theorem dX8_gap_115 : decode cX8_gap 115 = .ok (.ireturn, 1) := by decide +kernel
theorem dX8_gap_116 : decode cX8_gap 116 = .ok (.iinc 8 1, 3) := by decide +kernel
theorem dX8_gap_119 : decode cX8_gap 119 = .ok (.iinc 9 1, 3) := by decide +kernel
theorem dX8_gap_122 : decode cX8_gap 122 = .ok (.goto (-78), 3) := by decide +kernel
theorem dX8_gap_125 : decode cX8_gap 125 = .ok (.iload_n 3, 1) := by decide +kernel
theorem dX8_gap_126 : decode cX8_gap 126 = .ok (.iconst (-1), 1) := by decide +kernel
theorem dX8_gap_127 : decode cX8_gap 127 = .ok (.if_icmp .eq 14, 3) := by decide +kernel
theorem dX8_gap_130 : decode cX8_gap 130 = .ok (.new 208, 3) := by decide +kernel
theorem dX8_gap_133 : decode cX8_gap 133 = .ok (.dup, 1) := by decide +kernel
theorem dX8_gap_134 : decode cX8_gap 134 = .ok (.ldc_w 296, 3) := by decide +kernel
theorem dX8_gap_137 : decode cX8_gap 137 = .ok (.invokespecial 212, 3) := by decide +kernel
theorem dX8_gap_140 : decode cX8_gap 140 = .ok (.athrow, 1) := by decide +kernel
theorem dX8_gap_141 : decode cX8_gap 141 = .ok (.iload 8, 2) := by decide +kernel
theorem dX8_gap_143 : decode cX8_gap 143 = .ok (.ireturn, 1) := by decide +kernel
theorem dX8_bar_0 : decode cX8_bar 0 = .ok (.aload_n 0, 1) := by decide +kernel
theorem dX8_bar_1 : decode cX8_bar 1 = .ok (.iload_n 1, 1) := by decide +kernel
theorem dX8_bar_2 : decode cX8_bar 2 = .ok (.invokevirtual 227, 3) := by decide +kernel
theorem dX8_bar_5 : decode cX8_bar 5 = .ok (.astore 5, 2) := by decide +kernel
theorem dX8_bar_7 : decode cX8_bar 7 = .ok (.iload 4, 2) := by decide +kernel
theorem dX8_bar_9 : decode cX8_bar 9 = .ok (.iconst 3, 1) := by decide +kernel
theorem dX8_bar_10 : decode cX8_bar 10 = .ok (.invokestatic 188, 3) := by decide +kernel
theorem dX8_bar_13 : decode cX8_bar 13 = .ok (.aload_n 0, 1) := by decide +kernel
theorem dX8_bar_14 : decode cX8_bar 14 = .ok (.getfield 77, 3) := by decide +kernel
theorem dX8_bar_17 : decode cX8_bar 17 = .ok (.iload_n 2, 1) := by decide +kernel
theorem dX8_bar_18 : decode cX8_bar 18 = .ok (.invokevirtual 298, 3) := by decide +kernel
theorem dX8_bar_21 : decode cX8_bar 21 = .ok (.ifCond .eq 11, 3) := by decide +kernel
theorem dX8_bar_24 : decode cX8_bar 24 = .ok (.iload_n 3, 1) := by decide +kernel
theorem dX8_bar_25 : decode cX8_bar 25 = .ok (.i2l, 1) := by decide +kernel
theorem dX8_bar_26 : decode cX8_bar 26 = .ok (.invokestatic 142, 3) := by decide +kernel
theorem dX8_bar_29 : decode cX8_bar 29 = .ok (.ifCond .ne 14, 3) := by decide +kernel
theorem dX8_bar_32 : decode cX8_bar 32 = .ok (.new 104, 3) := by decide +kernel
theorem dX8_bar_35 : decode cX8_bar 35 = .ok (.dup, 1) := by decide +kernel
theorem dX8_bar_36 : decode cX8_bar 36 = .ok (.ldc_w 301, 3) := by decide +kernel
theorem dX8_bar_39 : decode cX8_bar 39 = .ok (.invokespecial 108, 3) := by decide +kernel
theorem dX8_bar_42 : decode cX8_bar 42 = .ok (.athrow, 1) := by decide +kernel
theorem dX8_bar_43 : decode cX8_bar 43 = .ok (.iload_n 3, 1) := by decide +kernel
theorem dX8_bar_44 : decode cX8_bar 44 = .ok (.iload_n 2, 1) := by decide +kernel
theorem dX8_bar_45 : decode cX8_bar 45 = .ok (.invokestatic 270, 3) := by decide +kernel
theorem dX8_bar_48 : decode cX8_bar 48 = .ok (.istore 6, 2) := by decide +kernel
theorem dX8_bar_50 : decode cX8_bar 50 = .ok (.aload_n 0, 1) := by decide +kernel
theorem dX8_bar_51 : decode cX8_bar 51 = .ok (.getfield 57, 3) := by decide +kernel
theorem dX8_bar_54 : decode cX8_bar 54 = .ok (.invokevirtual 303, 3) := by decide +kernel
theorem dX8_bar_57 : decode cX8_bar 57 = .ok (.aload 5, 2) := by decide +kernel
theorem dX8_bar_59 : decode cX8_bar 59 = .ok (.iload 6, 2) := by decide +kernel
theorem dX8_bar_61 : decode cX8_bar 61 = .ok (.invokevirtual 304, 3) := by decide +kernel
theorem dX8_bar_64 : decode cX8_bar 64 = .ok (.istore 7, 2) := by decide +kernel
theorem dX8_bar_66 : decode cX8_bar 66 = .ok (.iload 7, 2) := by decide +kernel
theorem dX8_bar_68 : decode cX8_bar 68 = .ok (.aload 5, 2) := by decide +kernel
theorem dX8_bar_70 : decode cX8_bar 70 = .ok (.getfield 164, 3) := by decide +kernel
theorem dX8_bar_73 : decode cX8_bar 73 = .ok (.if_icmp .ge 35, 3) := by decide +kernel
theorem dX8_bar_76 : decode cX8_bar 76 = .ok (.aload 5, 2) := by decide +kernel
theorem dX8_bar_78 : decode cX8_bar 78 = .ok (.getfield 289, 3) := by decide +kernel
theorem dX8_bar_81 : decode cX8_bar 81 = .ok (.iload 7, 2) := by decide +kernel
theorem dX8_bar_83 : decode cX8_bar 83 = .ok (.iaload, 1) := by decide +kernel
theorem dX8_bar_84 : decode cX8_bar 84 = .ok (.iload 6, 2) := by decide +kernel
theorem dX8_bar_86 : decode cX8_bar 86 = .ok (.iload_n 2, 1) := by decide +kernel
theorem dX8_bar_87 : decode cX8_bar 87 = .ok (.iadd, 1) := by decide +kernel
theorem dX8_bar_88 : decode cX8_bar 88 = .ok (.if_icmp .ge 20, 3) := by decide +kernel
theorem dX8_bar_91 : decode cX8_bar 91 = .ok (.aload_n 0, 1) := by decide +kernel
theorem dX8_bar_92 : decode cX8_bar 92 = .ok (.getfield 57, 3) := by decide +kernel
theorem dX8_bar_95 : decode cX8_bar 95 = .ok (.aload 5, 2) := by decide +kernel
theorem dX8_bar_97 : decode cX8_bar 97 = .ok (.iload 7, 2) := by decide +kernel
theorem dX8_bar_99 : decode cX8_bar 99 = .ok (.invokevirtual 307, 3) := by decide +kernel
theorem dX8_bar_102 : decode cX8_bar 102 = .ok (.iinc 7 1, 3) := by decide +kernel
theorem dX8_bar_105 : decode cX8_bar 105 = .ok (.goto (-39), 3) := by decide +kernel
theorem dX8_bar_108 : decode cX8_bar 108 = .ok (.aload_n 0, 1) := by decide +kernel
theorem dX8_bar_109 : decode cX8_bar 109 = .ok (.getfield 57, 3) := by decide +kernel
theorem dX8_bar_112 : decode cX8_bar 112 = .ok (.iload 4, 2) := by decide +kernel
theorem dX8_bar_114 : decode cX8_bar 114 = .ok (.invokevirtual 286, 3) := by decide +kernel
theorem dX8_bar_117 : decode cX8_bar 117 = .ok (.lreturn, 1) := by decide +kernel
theorem dX8_alarms_0 : decode cX8_alarms 0 = .ok (.aload_n 0, 1) := by decide +kernel
theorem dX8_alarms_1 : decode cX8_alarms 1 = .ok (.iload_n 1, 1) := by decide +kernel
theorem dX8_alarms_2 : decode cX8_alarms 2 = .ok (.invokevirtual 227, 3) := by decide +kernel
theorem dX8_alarms_5 : decode cX8_alarms 5 = .ok (.astore_n 3, 1) := by decide +kernel
theorem dX8_alarms_6 : decode cX8_alarms 6 = .ok (.iload_n 2, 1) := by decide +kernel
theorem dX8_alarms_7 : decode cX8_alarms 7 = .ok (.iconst 3, 1) := by decide +kernel
theorem dX8_alarms_8 : decode cX8_alarms 8 = .ok (.invokestatic 188, 3) := by decide +kernel
theorem dX8_alarms_11 : decode cX8_alarms 11 = .ok (.aload_n 3, 1) := by decide +kernel
theorem dX8_alarms_12 : decode cX8_alarms 12 = .ok (.aload_n 0, 1) := by decide +kernel
theorem dX8_alarms_13 : decode cX8_alarms 13 = .ok (.getfield 64, 3) := by decide +kernel
theorem dX8_alarms_16 : decode cX8_alarms 16 = .ok (.invokevirtual 311, 3) := by decide +kernel
theorem dX8_alarms_19 : decode cX8_alarms 19 = .ok (.aload_n 0, 1) := by decide +kernel
theorem dX8_alarms_20 : decode cX8_alarms 20 = .ok (.getfield 64, 3) := by decide +kernel
theorem dX8_alarms_23 : decode cX8_alarms 23 = .ok (.iload_n 2, 1) := by decide +kernel
theorem dX8_alarms_24 : decode cX8_alarms 24 = .ok (.iaload, 1) := by decide +kernel
theorem dX8_alarms_25 : decode cX8_alarms 25 = .ok (.ireturn, 1) := by decide +kernel
theorem dX8_would_0 : decode cX8_would 0 = .ok (.aload_n 0, 1) := by decide +kernel
theorem dX8_would_1 : decode cX8_would 1 = .ok (.iload_n 1, 1) := by decide +kernel
theorem dX8_would_2 : decode cX8_would 2 = .ok (.invokevirtual 227, 3) := by decide +kernel
theorem dX8_would_5 : decode cX8_would 5 = .ok (.astore 4, 2) := by decide +kernel
theorem dX8_would_7 : decode cX8_would 7 = .ok (.iload_n 3, 1) := by decide +kernel
theorem dX8_would_8 : decode cX8_would 8 = .ok (.iconst 2, 1) := by decide +kernel
theorem dX8_would_9 : decode cX8_would 9 = .ok (.invokestatic 188, 3) := by decide +kernel
theorem dX8_would_12 : decode cX8_would 12 = .ok (.iload_n 2, 1) := by decide +kernel
theorem dX8_would_13 : decode cX8_would 13 = .ok (.i2l, 1) := by decide +kernel
theorem dX8_would_14 : decode cX8_would 14 = .ok (.invokestatic 142, 3) := by decide +kernel
theorem dX8_would_17 : decode cX8_would 17 = .ok (.ifCond .ne 14, 3) := by decide +kernel
theorem dX8_would_20 : decode cX8_would 20 = .ok (.new 104, 3) := by decide +kernel
theorem dX8_would_23 : decode cX8_would 23 = .ok (.dup, 1) := by decide +kernel
theorem dX8_would_24 : decode cX8_would 24 = .ok (.ldc_w 265, 3) := by decide +kernel
theorem dX8_would_27 : decode cX8_would 27 = .ok (.invokespecial 108, 3) := by decide +kernel
theorem dX8_would_30 : decode cX8_would 30 = .ok (.athrow, 1) := by decide +kernel
theorem dX8_would_31 : decode cX8_would 31 = .ok (.aload 4, 2) := by decide +kernel
theorem dX8_would_33 : decode cX8_would 33 = .ok (.iload_n 2, 1) := by decide +kernel
theorem dX8_would_34 : decode cX8_would 34 = .ok (.aload_n 0, 1) := by decide +kernel
theorem dX8_would_35 : decode cX8_would 35 = .ok (.getfield 41, 3) := by decide +kernel
theorem dX8_would_38 : decode cX8_would 38 = .ok (.getfield 230, 3) := by decide +kernel
theorem dX8_would_41 : decode cX8_would 41 = .ok (.iload_n 1, 1) := by decide +kernel
theorem dX8_would_42 : decode cX8_would 42 = .ok (.iaload, 1) := by decide +kernel
theorem dX8_would_43 : decode cX8_would 43 = .ok (.invokestatic 315, 3) := by decide +kernel
theorem dX8_would_46 : decode cX8_would 46 = .ok (.aload_n 0, 1) := by decide +kernel
theorem dX8_would_47 : decode cX8_would 47 = .ok (.getfield 64, 3) := by decide +kernel
theorem dX8_would_50 : decode cX8_would 50 = .ok (.invokevirtual 320, 3) := by decide +kernel
theorem dX8_would_53 : decode cX8_would 53 = .ok (.aload_n 0, 1) := by decide +kernel
theorem dX8_would_54 : decode cX8_would 54 = .ok (.getfield 64, 3) := by decide +kernel
theorem dX8_would_57 : decode cX8_would 57 = .ok (.iload_n 3, 1) := by decide +kernel
theorem dX8_would_58 : decode cX8_would 58 = .ok (.iaload, 1) := by decide +kernel
theorem dX8_would_59 : decode cX8_would 59 = .ok (.ireturn, 1) := by decide +kernel
theorem dX8_until_0 : decode cX8_until 0 = .ok (.aload_n 0, 1) := by decide +kernel
theorem dX8_until_1 : decode cX8_until 1 = .ok (.iload_n 1, 1) := by decide +kernel
theorem dX8_until_2 : decode cX8_until 2 = .ok (.invokevirtual 227, 3) := by decide +kernel
theorem dX8_until_5 : decode cX8_until 5 = .ok (.pop, 1) := by decide +kernel
theorem dX8_until_6 : decode cX8_until 6 = .ok (.aload_n 0, 1) := by decide +kernel
theorem dX8_until_7 : decode cX8_until 7 = .ok (.iload_n 2, 1) := by decide +kernel
theorem dX8_until_8 : decode cX8_until 8 = .ok (.invokevirtual 213, 3) := by decide +kernel
theorem dX8_until_11 : decode cX8_until 11 = .ok (.iload_n 3, 1) := by decide +kernel
theorem dX8_until_12 : decode cX8_until 12 = .ok (.i2l, 1) := by decide +kernel
theorem dX8_until_13 : decode cX8_until 13 = .ok (.invokestatic 142, 3) := by decide +kernel
theorem dX8_until_16 : decode cX8_until 16 = .ok (.ifCond .ne 14, 3) := by decide +kernel
theorem dX8_until_19 : decode cX8_until 19 = .ok (.new 104, 3) := by decide +kernel
theorem dX8_until_22 : decode cX8_until 22 = .ok (.dup, 1) := by decide +kernel
theorem dX8_until_23 : decode cX8_until 23 = .ok (.ldc_w 265, 3) := by decide +kernel
theorem dX8_until_26 : decode cX8_until 26 = .ok (.invokespecial 108, 3) := by decide +kernel
theorem dX8_until_29 : decode cX8_until 29 = .ok (.athrow, 1) := by decide +kernel
theorem dX8_until_30 : decode cX8_until 30 = .ok (.aload_n 0, 1) := by decide +kernel
theorem dX8_until_31 : decode cX8_until 31 = .ok (.getfield 41, 3) := by decide +kernel
theorem dX8_until_34 : decode cX8_until 34 = .ok (.getfield 230, 3) := by decide +kernel
theorem dX8_until_37 : decode cX8_until 37 = .ok (.iload_n 1, 1) := by decide +kernel
theorem dX8_until_38 : decode cX8_until 38 = .ok (.iaload, 1) := by decide +kernel
theorem dX8_until_39 : decode cX8_until 39 = .ok (.aload_n 0, 1) := by decide +kernel
theorem dX8_until_40 : decode cX8_until 40 = .ok (.getfield 77, 3) := by decide +kernel
theorem dX8_until_43 : decode cX8_until 43 = .ok (.iload_n 2, 1) := by decide +kernel
theorem dX8_until_44 : decode cX8_until 44 = .ok (.iload_n 3, 1) := by decide +kernel
theorem dX8_until_45 : decode cX8_until 45 = .ok (.invokevirtual 324, 3) := by decide +kernel
theorem dX8_until_48 : decode cX8_until 48 = .ok (.invokestatic 315, 3) := by decide +kernel
theorem dX8_until_51 : decode cX8_until 51 = .ok (.istore 4, 2) := by decide +kernel
theorem dX8_until_53 : decode cX8_until 53 = .ok (.iload 4, 2) := by decide +kernel
theorem dX8_until_55 : decode cX8_until 55 = .ok (.ldc_w 327, 3) := by decide +kernel
theorem dX8_until_58 : decode cX8_until 58 = .ok (.if_icmp .le 7, 3) := by decide +kernel
theorem dX8_until_61 : decode cX8_until 61 = .ok (.iconst (-1), 1) := by decide +kernel
theorem dX8_until_62 : decode cX8_until 62 = .ok (.goto 5, 3) := by decide +kernel
theorem dX8_until_65 : decode cX8_until 65 = .ok (.iload 4, 2) := by decide +kernel
theorem dX8_until_67 : decode cX8_until 67 = .ok (.ireturn, 1) := by decide +kernel
theorem dX8_trend_0 : decode cX8_trend 0 = .ok (.aload_n 0, 1) := by decide +kernel
theorem dX8_trend_1 : decode cX8_trend 1 = .ok (.iload_n 1, 1) := by decide +kernel
theorem dX8_trend_2 : decode cX8_trend 2 = .ok (.invokevirtual 227, 3) := by decide +kernel
theorem dX8_trend_5 : decode cX8_trend 5 = .ok (.astore 4, 2) := by decide +kernel
theorem dX8_trend_7 : decode cX8_trend 7 = .ok (.aload_n 0, 1) := by decide +kernel
theorem dX8_trend_8 : decode cX8_trend 8 = .ok (.iload_n 2, 1) := by decide +kernel
theorem dX8_trend_9 : decode cX8_trend 9 = .ok (.invokevirtual 213, 3) := by decide +kernel
theorem dX8_trend_12 : decode cX8_trend 12 = .ok (.iload_n 3, 1) := by decide +kernel
theorem dX8_trend_13 : decode cX8_trend 13 = .ok (.iconst 3, 1) := by decide +kernel
theorem dX8_trend_14 : decode cX8_trend 14 = .ok (.invokestatic 188, 3) := by decide +kernel
theorem dX8_trend_17 : decode cX8_trend 17 = .ok (.aload 4, 2) := by decide +kernel
theorem dX8_trend_19 : decode cX8_trend 19 = .ok (.iload_n 2, 1) := by decide +kernel
theorem dX8_trend_20 : decode cX8_trend 20 = .ok (.aload_n 0, 1) := by decide +kernel
theorem dX8_trend_21 : decode cX8_trend 21 = .ok (.getfield 64, 3) := by decide +kernel
theorem dX8_trend_24 : decode cX8_trend 24 = .ok (.invokevirtual 328, 3) := by decide +kernel
theorem dX8_trend_27 : decode cX8_trend 27 = .ok (.aload_n 0, 1) := by decide +kernel
theorem dX8_trend_28 : decode cX8_trend 28 = .ok (.getfield 64, 3) := by decide +kernel
theorem dX8_trend_31 : decode cX8_trend 31 = .ok (.iload_n 3, 1) := by decide +kernel
theorem dX8_trend_32 : decode cX8_trend 32 = .ok (.iaload, 1) := by decide +kernel
theorem dX8_trend_33 : decode cX8_trend 33 = .ok (.i2l, 1) := by decide +kernel
theorem dX8_trend_34 : decode cX8_trend 34 = .ok (.lreturn, 1) := by decide +kernel
theorem dX8_both_0 : decode cX8_both 0 = .ok (.aload_n 0, 1) := by decide +kernel
theorem dX8_both_1 : decode cX8_both 1 = .ok (.iload_n 1, 1) := by decide +kernel
theorem dX8_both_2 : decode cX8_both 2 = .ok (.invokevirtual 227, 3) := by decide +kernel
theorem dX8_both_5 : decode cX8_both 5 = .ok (.astore 4, 2) := by decide +kernel
theorem dX8_both_7 : decode cX8_both 7 = .ok (.aload_n 0, 1) := by decide +kernel
theorem dX8_both_8 : decode cX8_both 8 = .ok (.iload_n 2, 1) := by decide +kernel
theorem dX8_both_9 : decode cX8_both 9 = .ok (.invokevirtual 227, 3) := by decide +kernel
theorem dX8_both_12 : decode cX8_both 12 = .ok (.astore 5, 2) := by decide +kernel
theorem dX8_both_14 : decode cX8_both 14 = .ok (.iload_n 3, 1) := by decide +kernel
theorem dX8_both_15 : decode cX8_both 15 = .ok (.iconst 2, 1) := by decide +kernel
theorem dX8_both_16 : decode cX8_both 16 = .ok (.invokestatic 188, 3) := by decide +kernel
theorem dX8_both_19 : decode cX8_both 19 = .ok (.aload_n 0, 1) := by decide +kernel
theorem dX8_both_20 : decode cX8_both 20 = .ok (.aload 4, 2) := by decide +kernel
theorem dX8_both_22 : decode cX8_both 22 = .ok (.aload 5, 2) := by decide +kernel
theorem dX8_both_24 : decode cX8_both 24 = .ok (.invokevirtual 331, 3) := by decide +kernel
theorem dX8_both_27 : decode cX8_both 27 = .ok (.aload_n 0, 1) := by decide +kernel
theorem dX8_both_28 : decode cX8_both 28 = .ok (.getfield 64, 3) := by decide +kernel
theorem dX8_both_31 : decode cX8_both 31 = .ok (.iload_n 3, 1) := by decide +kernel
theorem dX8_both_32 : decode cX8_both 32 = .ok (.iaload, 1) := by decide +kernel
theorem dX8_both_33 : decode cX8_both 33 = .ok (.ireturn, 1) := by decide +kernel
theorem dX8_appendToTape_0 : decode cX8_appendToTape 0 = .ok (.bipush 24, 2) := by decide +kernel
theorem dX8_appendToTape_2 : decode cX8_appendToTape 2 = .ok (.istore_n 2, 1) := by decide +kernel
theorem dX8_appendToTape_3 : decode cX8_appendToTape 3 = .ok (.iload_n 2, 1) := by decide +kernel
theorem dX8_appendToTape_4 : decode cX8_appendToTape 4 = .ok (.ifCond .lt 42, 3) := by decide +kernel
theorem dX8_appendToTape_7 : decode cX8_appendToTape 7 = .ok (.aload_n 0, 1) := by decide +kernel
theorem dX8_appendToTape_8 : decode cX8_appendToTape 8 = .ok (.getfield 84, 3) := by decide +kernel
theorem dX8_appendToTape_11 : decode cX8_appendToTape 11 = .ok (.sipush 600, 3) := by decide +kernel
theorem dX8_appendToTape_14 : decode cX8_appendToTape 14 = .ok (.if_icmp .ge 32, 3) := by decide +kernel
theorem dX8_appendToTape_17 : decode cX8_appendToTape 17 = .ok (.aload_n 0, 1) := by decide +kernel
theorem dX8_appendToTape_18 : decode cX8_appendToTape 18 = .ok (.getfield 9, 3) := by decide +kernel
theorem dX8_appendToTape_21 : decode cX8_appendToTape 21 = .ok (.aload_n 0, 1) := by decide +kernel
theorem dX8_appendToTape_22 : decode cX8_appendToTape 22 = .ok (.getfield 84, 3) := by decide +kernel
theorem dX8_appendToTape_25 : decode cX8_appendToTape 25 = .ok (.iload_n 1, 1) := by decide +kernel
theorem dX8_appendToTape_26 : decode cX8_appendToTape 26 = .ok (.iload_n 2, 1) := by decide +kernel
theorem dX8_appendToTape_27 : decode cX8_appendToTape 27 = .ok (.iushr, 1) := by decide +kernel
theorem dX8_appendToTape_28 : decode cX8_appendToTape 28 = .ok (.i2b, 1) := by decide +kernel
theorem dX8_appendToTape_29 : decode cX8_appendToTape 29 = .ok (.bastore, 1) := by decide +kernel
theorem dX8_appendToTape_30 : decode cX8_appendToTape 30 = .ok (.aload_n 0, 1) := by decide +kernel
theorem dX8_appendToTape_31 : decode cX8_appendToTape 31 = .ok (.dup, 1) := by decide +kernel
theorem dX8_appendToTape_32 : decode cX8_appendToTape 32 = .ok (.getfield 84, 3) := by decide +kernel
theorem dX8_appendToTape_35 : decode cX8_appendToTape 35 = .ok (.iconst 1, 1) := by decide +kernel
theorem dX8_appendToTape_36 : decode cX8_appendToTape 36 = .ok (.iadd, 1) := by decide +kernel
theorem dX8_appendToTape_37 : decode cX8_appendToTape 37 = .ok (.putfield 84, 3) := by decide +kernel
theorem dX8_appendToTape_40 : decode cX8_appendToTape 40 = .ok (.iinc 2 (-8), 3) := by decide +kernel
theorem dX8_appendToTape_43 : decode cX8_appendToTape 43 = .ok (.goto (-40), 3) := by decide +kernel
theorem dX8_appendToTape_46 : decode cX8_appendToTape 46 = .ok (.return_, 1) := by decide +kernel
theorem dX8_isId_0 : decode cX8_isId 0 = .ok (.iload_n 0, 1) := by decide +kernel
theorem dX8_isId_1 : decode cX8_isId 1 = .ok (.ifCond .lt 13, 3) := by decide +kernel
theorem dX8_isId_4 : decode cX8_isId 4 = .ok (.iload_n 0, 1) := by decide +kernel
theorem dX8_isId_5 : decode cX8_isId 5 = .ok (.bipush 10, 2) := by decide +kernel
theorem dX8_isId_7 : decode cX8_isId 7 = .ok (.if_icmp .ge 7, 3) := by decide +kernel
theorem dX8_isId_10 : decode cX8_isId 10 = .ok (.iconst 1, 1) := by decide +kernel
theorem dX8_isId_11 : decode cX8_isId 11 = .ok (.goto 4, 3) := by decide +kernel
theorem dX8_isId_14 : decode cX8_isId 14 = .ok (.iconst 0, 1) := by decide +kernel
theorem dX8_isId_15 : decode cX8_isId 15 = .ok (.ireturn, 1) := by decide +kernel
theorem dX8_isTime_0 : decode cX8_isTime 0 = .ok (.lload_n 0, 1) := by decide +kernel
theorem dX8_isTime_1 : decode cX8_isTime 1 = .ok (.ldc2_w 335, 3) := by decide +kernel
theorem dX8_isTime_4 : decode cX8_isTime 4 = .ok (.lcmp, 1) := by decide +kernel
theorem dX8_isTime_5 : decode cX8_isTime 5 = .ok (.ifCond .lt 15, 3) := by decide +kernel
theorem dX8_isTime_8 : decode cX8_isTime 8 = .ok (.lload_n 0, 1) := by decide +kernel
theorem dX8_isTime_9 : decode cX8_isTime 9 = .ok (.ldc2_w 337, 3) := by decide +kernel
theorem dX8_isTime_12 : decode cX8_isTime 12 = .ok (.lcmp, 1) := by decide +kernel
theorem dX8_isTime_13 : decode cX8_isTime 13 = .ok (.ifCond .gt 7, 3) := by decide +kernel
theorem dX8_isTime_16 : decode cX8_isTime 16 = .ok (.iconst 1, 1) := by decide +kernel
theorem dX8_isTime_17 : decode cX8_isTime 17 = .ok (.goto 4, 3) := by decide +kernel
theorem dX8_isTime_20 : decode cX8_isTime 20 = .ok (.iconst 0, 1) := by decide +kernel
theorem dX8_isTime_21 : decode cX8_isTime 21 = .ok (.ireturn, 1) := by decide +kernel
theorem dX8_isValue_0 : decode cX8_isValue 0 = .ok (.lload_n 0, 1) := by decide +kernel
theorem dX8_isValue_1 : decode cX8_isValue 1 = .ok (.ldc2_w 339, 3) := by decide +kernel
theorem dX8_isValue_4 : decode cX8_isValue 4 = .ok (.lcmp, 1) := by decide +kernel
theorem dX8_isValue_5 : decode cX8_isValue 5 = .ok (.ifCond .lt 15, 3) := by decide +kernel
theorem dX8_isValue_8 : decode cX8_isValue 8 = .ok (.lload_n 0, 1) := by decide +kernel
theorem dX8_isValue_9 : decode cX8_isValue 9 = .ok (.ldc2_w 341, 3) := by decide +kernel
theorem dX8_isValue_12 : decode cX8_isValue 12 = .ok (.lcmp, 1) := by decide +kernel
theorem dX8_isValue_13 : decode cX8_isValue 13 = .ok (.ifCond .gt 7, 3) := by decide +kernel
theorem dX8_isValue_16 : decode cX8_isValue 16 = .ok (.iconst 1, 1) := by decide +kernel
theorem dX8_isValue_17 : decode cX8_isValue 17 = .ok (.goto 4, 3) := by decide +kernel
theorem dX8_isValue_20 : decode cX8_isValue 20 = .ok (.iconst 0, 1) := by decide +kernel
theorem dX8_isValue_21 : decode cX8_isValue 21 = .ok (.ireturn, 1) := by decide +kernel
theorem dX8_needWhat_0 : decode cX8_needWhat 0 = .ok (.iload_n 0, 1) := by decide +kernel
theorem dX8_needWhat_1 : decode cX8_needWhat 1 = .ok (.ifCond .lt 8, 3) := by decide +kernel
theorem dX8_needWhat_4 : decode cX8_needWhat 4 = .ok (.iload_n 0, 1) := by decide +kernel
theorem dX8_needWhat_5 : decode cX8_needWhat 5 = .ok (.iload_n 1, 1) := by decide +kernel
theorem dX8_needWhat_6 : decode cX8_needWhat 6 = .ok (.if_icmp .le 13, 3) := by decide +kernel
theorem dX8_needWhat_9 : decode cX8_needWhat 9 = .ok (.new 208, 3) := by decide +kernel
theorem dX8_needWhat_12 : decode cX8_needWhat 12 = .ok (.dup, 1) := by decide +kernel
theorem dX8_needWhat_13 : decode cX8_needWhat 13 = .ok (.ldc 210, 2) := by decide +kernel
theorem dX8_needWhat_15 : decode cX8_needWhat 15 = .ok (.invokespecial 212, 3) := by decide +kernel
theorem dX8_needWhat_18 : decode cX8_needWhat 18 = .ok (.athrow, 1) := by decide +kernel
theorem dX8_needWhat_19 : decode cX8_needWhat 19 = .ok (.return_, 1) := by decide +kernel
theorem dX8_needTier_0 : decode cX8_needTier 0 = .ok (.iload_n 1, 1) := by decide +kernel
theorem dX8_needTier_1 : decode cX8_needTier 1 = .ok (.ifCond .lt 14, 3) := by decide +kernel
theorem dX8_needTier_4 : decode cX8_needTier 4 = .ok (.iload_n 1, 1) := by decide +kernel
theorem dX8_needTier_5 : decode cX8_needTier 5 = .ok (.aload_n 0, 1) := by decide +kernel
theorem dX8_needTier_6 : decode cX8_needTier 6 = .ok (.getfield 77, 3) := by decide +kernel
theorem dX8_needTier_9 : decode cX8_needTier 9 = .ok (.getfield 192, 3) := by decide +kernel
theorem dX8_needTier_12 : decode cX8_needTier 12 = .ok (.if_icmp .lt 14, 3) := by decide +kernel
theorem dX8_needTier_15 : decode cX8_needTier 15 = .ok (.new 208, 3) := by decide +kernel
theorem dX8_needTier_18 : decode cX8_needTier 18 = .ok (.dup, 1) := by decide +kernel
theorem dX8_needTier_19 : decode cX8_needTier 19 = .ok (.ldc_w 343, 3) := by decide +kernel
theorem dX8_needTier_22 : decode cX8_needTier 22 = .ok (.invokespecial 212, 3) := by decide +kernel
theorem dX8_needTier_25 : decode cX8_needTier 25 = .ok (.athrow, 1) := by decide +kernel
theorem dX8_needTier_26 : decode cX8_needTier 26 = .ok (.return_, 1) := by decide +kernel
theorem dX8_known_0 : decode cX8_known 0 = .ok (.aload_n 0, 1) := by decide +kernel
theorem dX8_known_1 : decode cX8_known 1 = .ok (.getfield 41, 3) := by decide +kernel
theorem dX8_known_4 : decode cX8_known 4 = .ok (.iload_n 1, 1) := by decide +kernel
theorem dX8_known_5 : decode cX8_known 5 = .ok (.invokevirtual 167, 3) := by decide +kernel
theorem dX8_known_8 : decode cX8_known 8 = .ok (.ifCond .ne 13, 3) := by decide +kernel
theorem dX8_known_11 : decode cX8_known 11 = .ok (.new 208, 3) := by decide +kernel
theorem dX8_known_14 : decode cX8_known 14 = .ok (.dup, 1) := by decide +kernel
theorem dX8_known_15 : decode cX8_known 15 = .ok (.ldc 222, 2) := by decide +kernel
theorem dX8_known_17 : decode cX8_known 17 = .ok (.invokespecial 212, 3) := by decide +kernel
theorem dX8_known_20 : decode cX8_known 20 = .ok (.athrow, 1) := by decide +kernel
theorem dX8_known_21 : decode cX8_known 21 = .ok (.aload_n 0, 1) := by decide +kernel
theorem dX8_known_22 : decode cX8_known 22 = .ok (.iload_n 1, 1) := by decide +kernel
theorem dX8_known_23 : decode cX8_known 23 = .ok (.invokevirtual 170, 3) := by decide +kernel
theorem dX8_known_26 : decode cX8_known 26 = .ok (.areturn, 1) := by decide +kernel
theorem dX8_rowsOf_0 : decode cX8_rowsOf 0 = .ok (.aload_n 0, 1) := by decide +kernel
theorem dX8_rowsOf_1 : decode cX8_rowsOf 1 = .ok (.getfield 50, 3) := by decide +kernel
theorem dX8_rowsOf_4 : decode cX8_rowsOf 4 = .ok (.iload_n 1, 1) := by decide +kernel
theorem dX8_rowsOf_5 : decode cX8_rowsOf 5 = .ok (.aaload, 1) := by decide +kernel
theorem dX8_rowsOf_6 : decode cX8_rowsOf 6 = .ok (.ifnonnull 20, 3) := by decide +kernel
theorem dX8_rowsOf_9 : decode cX8_rowsOf 9 = .ok (.aload_n 0, 1) := by decide +kernel
theorem dX8_rowsOf_10 : decode cX8_rowsOf 10 = .ok (.getfield 50, 3) := by decide +kernel
theorem dX8_rowsOf_13 : decode cX8_rowsOf 13 = .ok (.iload_n 1, 1) := by decide +kernel
theorem dX8_rowsOf_14 : decode cX8_rowsOf 14 = .ok (.new 48, 3) := by decide +kernel
theorem dX8_rowsOf_17 : decode cX8_rowsOf 17 = .ok (.dup, 1) := by decide +kernel
theorem dX8_rowsOf_18 : decode cX8_rowsOf 18 = .ok (.aload_n 0, 1) := by decide +kernel
theorem dX8_rowsOf_19 : decode cX8_rowsOf 19 = .ok (.getfield 77, 3) := by decide +kernel
theorem dX8_rowsOf_22 : decode cX8_rowsOf 22 = .ok (.invokespecial 345, 3) := by decide +kernel
theorem dX8_rowsOf_25 : decode cX8_rowsOf 25 = .ok (.aastore, 1) := by decide +kernel
theorem dX8_rowsOf_26 : decode cX8_rowsOf 26 = .ok (.aload_n 0, 1) := by decide +kernel
theorem dX8_rowsOf_27 : decode cX8_rowsOf 27 = .ok (.getfield 50, 3) := by decide +kernel
theorem dX8_rowsOf_30 : decode cX8_rowsOf 30 = .ok (.iload_n 1, 1) := by decide +kernel
theorem dX8_rowsOf_31 : decode cX8_rowsOf 31 = .ok (.aaload, 1) := by decide +kernel
theorem dX8_rowsOf_32 : decode cX8_rowsOf 32 = .ok (.areturn, 1) := by decide +kernel
theorem dX8_explain_0 : decode cX8_explain 0 = .ok (.aload_n 0, 1) := by decide +kernel
theorem dX8_explain_1 : decode cX8_explain 1 = .ok (.getfield 73, 3) := by decide +kernel
theorem dX8_explain_4 : decode cX8_explain 4 = .ok (.iconst 0, 1) := by decide +kernel
theorem dX8_explain_5 : decode cX8_explain 5 = .ok (.iload_n 1, 1) := by decide +kernel
theorem dX8_explain_6 : decode cX8_explain 6 = .ok (.iastore, 1) := by decide +kernel
theorem dX8_explain_7 : decode cX8_explain 7 = .ok (.aload_n 0, 1) := by decide +kernel
theorem dX8_explain_8 : decode cX8_explain 8 = .ok (.getfield 73, 3) := by decide +kernel
theorem dX8_explain_11 : decode cX8_explain 11 = .ok (.iconst 1, 1) := by decide +kernel
theorem dX8_explain_12 : decode cX8_explain 12 = .ok (.iload_n 2, 1) := by decide +kernel
theorem dX8_explain_13 : decode cX8_explain 13 = .ok (.iastore, 1) := by decide +kernel
theorem dX8_explain_14 : decode cX8_explain 14 = .ok (.aload_n 0, 1) := by decide +kernel
theorem dX8_explain_15 : decode cX8_explain 15 = .ok (.getfield 73, 3) := by decide +kernel
theorem dX8_explain_18 : decode cX8_explain 18 = .ok (.iconst 2, 1) := by decide +kernel
theorem dX8_explain_19 : decode cX8_explain 19 = .ok (.iload_n 3, 1) := by decide +kernel
theorem dX8_explain_20 : decode cX8_explain 20 = .ok (.iastore, 1) := by decide +kernel
theorem dX8_explain_21 : decode cX8_explain 21 = .ok (.aload_n 0, 1) := by decide +kernel
theorem dX8_explain_22 : decode cX8_explain 22 = .ok (.getfield 73, 3) := by decide +kernel
theorem dX8_explain_25 : decode cX8_explain 25 = .ok (.iconst 3, 1) := by decide +kernel
theorem dX8_explain_26 : decode cX8_explain 26 = .ok (.iload 4, 2) := by decide +kernel
theorem dX8_explain_28 : decode cX8_explain 28 = .ok (.iastore, 1) := by decide +kernel
theorem dX8_explain_29 : decode cX8_explain 29 = .ok (.return_, 1) := by decide +kernel
theorem dX8_latenessIn_0 : decode cX8_latenessIn 0 = .ok (.aload_n 1, 1) := by decide +kernel
theorem dX8_latenessIn_1 : decode cX8_latenessIn 1 = .ok (.iload_n 2, 1) := by decide +kernel
theorem dX8_latenessIn_2 : decode cX8_latenessIn 2 = .ok (.invokevirtual 167, 3) := by decide +kernel
theorem dX8_latenessIn_5 : decode cX8_latenessIn 5 = .ok (.ifCond .ne 5, 3) := by decide +kernel
theorem dX8_latenessIn_8 : decode cX8_latenessIn 8 = .ok (.iconst 0, 1) := by decide +kernel
theorem dX8_latenessIn_9 : decode cX8_latenessIn 9 = .ok (.ireturn, 1) := by decide +kernel
theorem dX8_latenessIn_10 : decode cX8_latenessIn 10 = .ok (.aload_n 0, 1) := by decide +kernel
theorem dX8_latenessIn_11 : decode cX8_latenessIn 11 = .ok (.getfield 77, 3) := by decide +kernel
theorem dX8_latenessIn_14 : decode cX8_latenessIn 14 = .ok (.aload_n 1, 1) := by decide +kernel
theorem dX8_latenessIn_15 : decode cX8_latenessIn 15 = .ok (.getfield 230, 3) := by decide +kernel
theorem dX8_latenessIn_18 : decode cX8_latenessIn 18 = .ok (.iload_n 2, 1) := by decide +kernel
theorem dX8_latenessIn_19 : decode cX8_latenessIn 19 = .ok (.iaload, 1) := by decide +kernel
theorem dX8_latenessIn_20 : decode cX8_latenessIn 20 = .ok (.aload_n 0, 1) := by decide +kernel
theorem dX8_latenessIn_21 : decode cX8_latenessIn 21 = .ok (.getfield 70, 3) := by decide +kernel
theorem dX8_latenessIn_24 : decode cX8_latenessIn 24 = .ok (.invokevirtual 348, 3) := by decide +kernel
theorem dX8_latenessIn_27 : decode cX8_latenessIn 27 = .ok (.iconst 0, 1) := by decide +kernel
theorem dX8_latenessIn_28 : decode cX8_latenessIn 28 = .ok (.aload_n 0, 1) := by decide +kernel
theorem dX8_latenessIn_29 : decode cX8_latenessIn 29 = .ok (.getfield 70, 3) := by decide +kernel
theorem dX8_latenessIn_32 : decode cX8_latenessIn 32 = .ok (.aload_n 0, 1) := by decide +kernel
theorem dX8_latenessIn_33 : decode cX8_latenessIn 33 = .ok (.getfield 77, 3) := by decide +kernel
theorem dX8_latenessIn_36 : decode cX8_latenessIn 36 = .ok (.getfield 192, 3) := by decide +kernel
theorem dX8_latenessIn_39 : decode cX8_latenessIn 39 = .ok (.iconst 1, 1) := by decide +kernel
theorem dX8_latenessIn_40 : decode cX8_latenessIn 40 = .ok (.isub, 1) := by decide +kernel
theorem dX8_latenessIn_41 : decode cX8_latenessIn 41 = .ok (.iaload, 1) := by decide +kernel
theorem dX8_latenessIn_42 : decode cX8_latenessIn 42 = .ok (.iload_n 3, 1) := by decide +kernel
theorem dX8_latenessIn_43 : decode cX8_latenessIn 43 = .ok (.isub, 1) := by decide +kernel
theorem dX8_latenessIn_44 : decode cX8_latenessIn 44 = .ok (.invokestatic 315, 3) := by decide +kernel
theorem dX8_latenessIn_47 : decode cX8_latenessIn 47 = .ok (.ireturn, 1) := by decide +kernel
theorem dX8_noteLate_0 : decode cX8_noteLate 0 = .ok (.aload_n 0, 1) := by decide +kernel
theorem dX8_noteLate_1 : decode cX8_noteLate 1 = .ok (.dup, 1) := by decide +kernel
theorem dX8_noteLate_2 : decode cX8_noteLate 2 = .ok (.getfield 94, 3) := by decide +kernel
theorem dX8_noteLate_5 : decode cX8_noteLate 5 = .ok (.iconst 1, 1) := by decide +kernel
theorem dX8_noteLate_6 : decode cX8_noteLate 6 = .ok (.iadd, 1) := by decide +kernel
theorem dX8_noteLate_7 : decode cX8_noteLate 7 = .ok (.putfield 94, 3) := by decide +kernel
theorem dX8_noteLate_10 : decode cX8_noteLate 10 = .ok (.aload_n 0, 1) := by decide +kernel
theorem dX8_noteLate_11 : decode cX8_noteLate 11 = .ok (.iload_n 1, 1) := by decide +kernel
theorem dX8_noteLate_12 : decode cX8_noteLate 12 = .ok (.invokevirtual 170, 3) := by decide +kernel
theorem dX8_noteLate_15 : decode cX8_noteLate 15 = .ok (.dup, 1) := by decide +kernel
theorem dX8_noteLate_16 : decode cX8_noteLate 16 = .ok (.getfield 233, 3) := by decide +kernel
theorem dX8_noteLate_19 : decode cX8_noteLate 19 = .ok (.iconst 1, 1) := by decide +kernel
theorem dX8_noteLate_20 : decode cX8_noteLate 20 = .ok (.iadd, 1) := by decide +kernel
theorem dX8_noteLate_21 : decode cX8_noteLate 21 = .ok (.putfield 233, 3) := by decide +kernel
theorem dX8_noteLate_24 : decode cX8_noteLate 24 = .ok (.return_, 1) := by decide +kernel
theorem dX8_bring_0 : decode cX8_bring 0 = .ok (.aload_n 0, 1) := by decide +kernel
theorem dX8_bring_1 : decode cX8_bring 1 = .ok (.getfield 41, 3) := by decide +kernel
theorem dX8_bring_4 : decode cX8_bring 4 = .ok (.iload_n 1, 1) := by decide +kernel
theorem dX8_bring_5 : decode cX8_bring 5 = .ok (.invokevirtual 167, 3) := by decide +kernel
theorem dX8_bring_8 : decode cX8_bring 8 = .ok (.ifCond .ne 7, 3) := by decide +kernel
theorem dX8_bring_11 : decode cX8_bring 11 = .ok (.iconst 1, 1) := by decide +kernel
theorem dX8_bring_12 : decode cX8_bring 12 = .ok (.goto 4, 3) := by decide +kernel
theorem dX8_bring_15 : decode cX8_bring 15 = .ok (.iconst 0, 1) := by decide +kernel
theorem dX8_bring_16 : decode cX8_bring 16 = .ok (.istore_n 3, 1) := by decide +kernel
theorem dX8_bring_17 : decode cX8_bring 17 = .ok (.aload_n 0, 1) := by decide +kernel
theorem dX8_bring_18 : decode cX8_bring 18 = .ok (.getfield 41, 3) := by decide +kernel
theorem dX8_bring_21 : decode cX8_bring 21 = .ok (.iload_n 1, 1) := by decide +kernel
theorem dX8_bring_22 : decode cX8_bring 22 = .ok (.iload_n 2, 1) := by decide +kernel
theorem dX8_bring_23 : decode cX8_bring 23 = .ok (.aload_n 0, 1) := by decide +kernel
theorem dX8_bring_24 : decode cX8_bring 24 = .ok (.getfield 77, 3) := by decide +kernel
theorem dX8_bring_27 : decode cX8_bring 27 = .ok (.getfield 195, 3) := by decide +kernel
theorem dX8_bring_30 : decode cX8_bring 30 = .ok (.invokevirtual 351, 3) := by decide +kernel
theorem dX8_bring_33 : decode cX8_bring 33 = .ok (.iconst (-1), 1) := by decide +kernel
theorem dX8_bring_34 : decode cX8_bring 34 = .ok (.if_icmp .eq 13, 3) := by decide +kernel
theorem dX8_bring_37 : decode cX8_bring 37 = .ok (.aload_n 0, 1) := by decide +kernel
theorem dX8_bring_38 : decode cX8_bring 38 = .ok (.dup, 1) := by decide +kernel
theorem dX8_bring_39 : decode cX8_bring 39 = .ok (.getfield 91, 3) := by decide +kernel
theorem dX8_bring_42 : decode cX8_bring 42 = .ok (.iconst 1, 1) := by decide +kernel
theorem dX8_bring_43 : decode cX8_bring 43 = .ok (.iadd, 1) := by decide +kernel
theorem dX8_bring_44 : decode cX8_bring 44 = .ok (.putfield 91, 3) := by decide +kernel
theorem dX8_bring_47 : decode cX8_bring 47 = .ok (.aload_n 0, 1) := by decide +kernel
theorem dX8_bring_48 : decode cX8_bring 48 = .ok (.iload_n 1, 1) := by decide +kernel
theorem dX8_bring_49 : decode cX8_bring 49 = .ok (.invokevirtual 170, 3) := by decide +kernel
theorem dX8_bring_52 : decode cX8_bring 52 = .ok (.astore 4, 2) := by decide +kernel
theorem dX8_bring_54 : decode cX8_bring 54 = .ok (.iload_n 3, 1) := by decide +kernel
theorem dX8_bring_55 : decode cX8_bring 55 = .ok (.ifCond .eq 16, 3) := by decide +kernel
theorem dX8_bring_58 : decode cX8_bring 58 = .ok (.aload 4, 2) := by decide +kernel
theorem dX8_bring_60 : decode cX8_bring 60 = .ok (.aload_n 0, 1) := by decide +kernel
theorem dX8_bring_61 : decode cX8_bring 61 = .ok (.getfield 77, 3) := by decide +kernel
theorem dX8_bring_64 : decode cX8_bring 64 = .ok (.iload_n 2, 1) := by decide +kernel
theorem dX8_bring_65 : decode cX8_bring 65 = .ok (.invokevirtual 354, 3) := by decide +kernel
theorem dX8_bring_68 : decode cX8_bring 68 = .ok (.goto 26, 3) := by decide +kernel
theorem dX8_bring_71 : decode cX8_bring 71 = .ok (.aload_n 0, 1) := by decide +kernel
theorem dX8_bring_72 : decode cX8_bring 72 = .ok (.dup, 1) := by decide +kernel
theorem dX8_bring_73 : decode cX8_bring 73 = .ok (.getfield 97, 3) := by decide +kernel
theorem dX8_bring_76 : decode cX8_bring 76 = .ok (.aload 4, 2) := by decide +kernel
theorem dX8_bring_78 : decode cX8_bring 78 = .ok (.aload_n 0, 1) := by decide +kernel
theorem dX8_bring_79 : decode cX8_bring 79 = .ok (.getfield 41, 3) := by decide +kernel
theorem dX8_bring_82 : decode cX8_bring 82 = .ok (.getfield 230, 3) := by decide +kernel
theorem dX8_bring_85 : decode cX8_bring 85 = .ok (.iload_n 1, 1) := by decide +kernel
theorem dX8_bring_86 : decode cX8_bring 86 = .ok (.iaload, 1) := by decide +kernel
theorem dX8_bring_87 : decode cX8_bring 87 = .ok (.invokevirtual 358, 3) := by decide +kernel
theorem dX8_bring_90 : decode cX8_bring 90 = .ok (.iadd, 1) := by decide +kernel
theorem dX8_bring_91 : decode cX8_bring 91 = .ok (.putfield 97, 3) := by decide +kernel
theorem dX8_bring_94 : decode cX8_bring 94 = .ok (.aload 4, 2) := by decide +kernel
theorem dX8_bring_96 : decode cX8_bring 96 = .ok (.areturn, 1) := by decide +kernel
theorem dX8_place_0 : decode cX8_place 0 = .ok (.aload_n 0, 1) := by decide +kernel
theorem dX8_place_1 : decode cX8_place 1 = .ok (.iload_n 1, 1) := by decide +kernel
theorem dX8_place_2 : decode cX8_place 2 = .ok (.iload_n 2, 1) := by decide +kernel
theorem dX8_place_3 : decode cX8_place 3 = .ok (.invokevirtual 160, 3) := by decide +kernel
theorem dX8_place_6 : decode cX8_place 6 = .ok (.astore 4, 2) := by decide +kernel
theorem dX8_place_8 : decode cX8_place 8 = .ok (.aload 4, 2) := by decide +kernel
theorem dX8_place_10 : decode cX8_place 10 = .ok (.iload_n 2, 1) := by decide +kernel
theorem dX8_place_11 : decode cX8_place 11 = .ok (.iload_n 3, 1) := by decide +kernel
theorem dX8_place_12 : decode cX8_place 12 = .ok (.invokevirtual 361, 3) := by decide +kernel
theorem dX8_place_15 : decode cX8_place 15 = .ok (.aload 4, 2) := by decide +kernel
theorem dX8_place_17 : decode cX8_place 17 = .ok (.iload_n 2, 1) := by decide +kernel
theorem dX8_place_18 : decode cX8_place 18 = .ok (.invokevirtual 267, 3) := by decide +kernel
theorem dX8_place_21 : decode cX8_place 21 = .ok (.ireturn, 1) := by decide +kernel
theorem dX8_placeIfItCanBe_0 : decode cX8_placeIfItCanBe 0 = .ok (.lload_n 2, 1) := by decide +kernel
theorem dX8_placeIfItCanBe_1 : decode cX8_placeIfItCanBe 1 = .ok (.invokestatic 142, 3) := by decide +kernel
theorem dX8_placeIfItCanBe_4 : decode cX8_placeIfItCanBe 4 = .ok (.ifCond .eq 11, 3) := by decide +kernel
theorem dX8_placeIfItCanBe_7 : decode cX8_placeIfItCanBe 7 = .ok (.lload 4, 2) := by decide +kernel
theorem dX8_placeIfItCanBe_9 : decode cX8_placeIfItCanBe 9 = .ok (.invokestatic 146, 3) := by decide +kernel
theorem dX8_placeIfItCanBe_12 : decode cX8_placeIfItCanBe 12 = .ok (.ifCond .ne 5, 3) := by decide +kernel
theorem dX8_placeIfItCanBe_15 : decode cX8_placeIfItCanBe 15 = .ok (.iconst 0, 1) := by decide +kernel
theorem dX8_placeIfItCanBe_16 : decode cX8_placeIfItCanBe 16 = .ok (.ireturn, 1) := by decide +kernel
theorem dX8_placeIfItCanBe_17 : decode cX8_placeIfItCanBe 17 = .ok (.aload_n 0, 1) := by decide +kernel
theorem dX8_placeIfItCanBe_18 : decode cX8_placeIfItCanBe 18 = .ok (.aload_n 0, 1) := by decide +kernel
theorem dX8_placeIfItCanBe_19 : decode cX8_placeIfItCanBe 19 = .ok (.getfield 41, 3) := by decide +kernel
theorem dX8_placeIfItCanBe_22 : decode cX8_placeIfItCanBe 22 = .ok (.iload_n 1, 1) := by decide +kernel
theorem dX8_placeIfItCanBe_23 : decode cX8_placeIfItCanBe 23 = .ok (.lload_n 2, 1) := by decide +kernel
theorem dX8_placeIfItCanBe_24 : decode cX8_placeIfItCanBe 24 = .ok (.l2i, 1) := by decide +kernel
theorem dX8_placeIfItCanBe_25 : decode cX8_placeIfItCanBe 25 = .ok (.invokevirtual 149, 3) := by decide +kernel
theorem dX8_placeIfItCanBe_28 : decode cX8_placeIfItCanBe 28 = .ok (.ifCond .le 10, 3) := by decide +kernel
theorem dX8_placeIfItCanBe_31 : decode cX8_placeIfItCanBe 31 = .ok (.aload_n 0, 1) := by decide +kernel
theorem dX8_placeIfItCanBe_32 : decode cX8_placeIfItCanBe 32 = .ok (.iload_n 1, 1) := by decide +kernel
theorem dX8_placeIfItCanBe_33 : decode cX8_placeIfItCanBe 33 = .ok (.invokevirtual 153, 3) := by decide +kernel
theorem dX8_placeIfItCanBe_36 : decode cX8_placeIfItCanBe 36 = .ok (.iconst 0, 1) := by decide +kernel
theorem dX8_placeIfItCanBe_37 : decode cX8_placeIfItCanBe 37 = .ok (.ireturn, 1) := by decide +kernel
theorem dX8_placeIfItCanBe_38 : decode cX8_placeIfItCanBe 38 = .ok (.aload_n 0, 1) := by decide +kernel
theorem dX8_placeIfItCanBe_39 : decode cX8_placeIfItCanBe 39 = .ok (.iload_n 1, 1) := by decide +kernel
theorem dX8_placeIfItCanBe_40 : decode cX8_placeIfItCanBe 40 = .ok (.lload_n 2, 1) := by decide +kernel
theorem dX8_placeIfItCanBe_41 : decode cX8_placeIfItCanBe 41 = .ok (.l2i, 1) := by decide +kernel
theorem dX8_placeIfItCanBe_42 : decode cX8_placeIfItCanBe 42 = .ok (.lload 4, 2) := by decide +kernel
theorem dX8_placeIfItCanBe_44 : decode cX8_placeIfItCanBe 44 = .ok (.l2i, 1) := by decide +kernel
theorem dX8_placeIfItCanBe_45 : decode cX8_placeIfItCanBe 45 = .ok (.invokevirtual 156, 3) := by decide +kernel
theorem dX8_placeIfItCanBe_48 : decode cX8_placeIfItCanBe 48 = .ok (.pop, 1) := by decide +kernel
theorem dX8_placeIfItCanBe_49 : decode cX8_placeIfItCanBe 49 = .ok (.iconst 1, 1) := by decide +kernel
theorem dX8_placeIfItCanBe_50 : decode cX8_placeIfItCanBe 50 = .ok (.ireturn, 1) := by decide +kernel
theorem dX8_allLinesWouldGo_0 : decode cX8_allLinesWouldGo 0 = .ok (.aload_n 0, 1) := by decide +kernel
theorem dX8_allLinesWouldGo_1 : decode cX8_allLinesWouldGo 1 = .ok (.getfield 45, 3) := by decide +kernel
theorem dX8_allLinesWouldGo_4 : decode cX8_allLinesWouldGo 4 = .ok (.aload_n 0, 1) := by decide +kernel
theorem dX8_allLinesWouldGo_5 : decode cX8_allLinesWouldGo 5 = .ok (.getfield 41, 3) := by decide +kernel
theorem dX8_allLinesWouldGo_8 : decode cX8_allLinesWouldGo 8 = .ok (.invokevirtual 363, 3) := by decide +kernel
theorem dX8_allLinesWouldGo_11 : decode cX8_allLinesWouldGo 11 = .ok (.iconst 0, 1) := by decide +kernel
theorem dX8_allLinesWouldGo_12 : decode cX8_allLinesWouldGo 12 = .ok (.istore_n 1, 1) := by decide +kernel
theorem dX8_allLinesWouldGo_13 : decode cX8_allLinesWouldGo 13 = .ok (.iload_n 1, 1) := by decide +kernel
theorem dX8_allLinesWouldGo_14 : decode cX8_allLinesWouldGo 14 = .ok (.aload_n 0, 1) := by decide +kernel
theorem dX8_allLinesWouldGo_15 : decode cX8_allLinesWouldGo 15 = .ok (.getfield 34, 3) := by decide +kernel
theorem dX8_allLinesWouldGo_18 : decode cX8_allLinesWouldGo 18 = .ok (.getfield 133, 3) := by decide +kernel
theorem dX8_allLinesWouldGo_21 : decode cX8_allLinesWouldGo 21 = .ok (.if_icmp .ge 131, 3) := by decide +kernel
theorem dX8_allLinesWouldGo_24 : decode cX8_allLinesWouldGo 24 = .ok (.aload_n 0, 1) := by decide +kernel
theorem dX8_allLinesWouldGo_25 : decode cX8_allLinesWouldGo 25 = .ok (.getfield 34, 3) := by decide +kernel
theorem dX8_allLinesWouldGo_28 : decode cX8_allLinesWouldGo 28 = .ok (.getfield 367, 3) := by decide +kernel
theorem dX8_allLinesWouldGo_31 : decode cX8_allLinesWouldGo 31 = .ok (.iload_n 1, 1) := by decide +kernel
theorem dX8_allLinesWouldGo_32 : decode cX8_allLinesWouldGo 32 = .ok (.iaload, 1) := by decide +kernel
theorem dX8_allLinesWouldGo_33 : decode cX8_allLinesWouldGo 33 = .ok (.istore_n 2, 1) := by decide +kernel
theorem dX8_allLinesWouldGo_34 : decode cX8_allLinesWouldGo 34 = .ok (.aload_n 0, 1) := by decide +kernel
theorem dX8_allLinesWouldGo_35 : decode cX8_allLinesWouldGo 35 = .ok (.getfield 34, 3) := by decide +kernel
theorem dX8_allLinesWouldGo_38 : decode cX8_allLinesWouldGo 38 = .ok (.getfield 370, 3) := by decide +kernel
theorem dX8_allLinesWouldGo_41 : decode cX8_allLinesWouldGo 41 = .ok (.iload_n 1, 1) := by decide +kernel
theorem dX8_allLinesWouldGo_42 : decode cX8_allLinesWouldGo 42 = .ok (.iaload, 1) := by decide +kernel
theorem dX8_allLinesWouldGo_43 : decode cX8_allLinesWouldGo 43 = .ok (.istore_n 3, 1) := by decide +kernel
theorem dX8_allLinesWouldGo_44 : decode cX8_allLinesWouldGo 44 = .ok (.aload_n 0, 1) := by decide +kernel
theorem dX8_allLinesWouldGo_45 : decode cX8_allLinesWouldGo 45 = .ok (.getfield 34, 3) := by decide +kernel
theorem dX8_allLinesWouldGo_48 : decode cX8_allLinesWouldGo 48 = .ok (.getfield 373, 3) := by decide +kernel
theorem dX8_allLinesWouldGo_51 : decode cX8_allLinesWouldGo 51 = .ok (.iload_n 1, 1) := by decide +kernel
theorem dX8_allLinesWouldGo_52 : decode cX8_allLinesWouldGo 52 = .ok (.iaload, 1) := by decide +kernel
theorem dX8_allLinesWouldGo_53 : decode cX8_allLinesWouldGo 53 = .ok (.iconst 2, 1) := by decide +kernel
theorem dX8_allLinesWouldGo_54 : decode cX8_allLinesWouldGo 54 = .ok (.if_icmp .ne 35, 3) := by decide +kernel
theorem dX8_allLinesWouldGo_57 : decode cX8_allLinesWouldGo 57 = .ok (.aload_n 0, 1) := by decide +kernel
theorem dX8_allLinesWouldGo_58 : decode cX8_allLinesWouldGo 58 = .ok (.getfield 45, 3) := by decide +kernel
theorem dX8_allLinesWouldGo_61 : decode cX8_allLinesWouldGo 61 = .ok (.iload_n 2, 1) := by decide +kernel
theorem dX8_allLinesWouldGo_62 : decode cX8_allLinesWouldGo 62 = .ok (.invokevirtual 167, 3) := by decide +kernel
theorem dX8_allLinesWouldGo_65 : decode cX8_allLinesWouldGo 65 = .ok (.ifCond .ne 13, 3) := by decide +kernel
theorem dX8_allLinesWouldGo_68 : decode cX8_allLinesWouldGo 68 = .ok (.aload_n 0, 1) := by decide +kernel
theorem dX8_allLinesWouldGo_69 : decode cX8_allLinesWouldGo 69 = .ok (.iconst 4, 1) := by decide +kernel
theorem dX8_allLinesWouldGo_70 : decode cX8_allLinesWouldGo 70 = .ok (.iconst 3, 1) := by decide +kernel
theorem dX8_allLinesWouldGo_71 : decode cX8_allLinesWouldGo 71 = .ok (.iconst (-1), 1) := by decide +kernel
theorem dX8_allLinesWouldGo_72 : decode cX8_allLinesWouldGo 72 = .ok (.iload_n 1, 1) := by decide +kernel
theorem dX8_allLinesWouldGo_73 : decode cX8_allLinesWouldGo 73 = .ok (.invokevirtual 125, 3) := by decide +kernel
theorem dX8_allLinesWouldGo_76 : decode cX8_allLinesWouldGo 76 = .ok (.iconst 0, 1) := by decide +kernel
theorem dX8_allLinesWouldGo_77 : decode cX8_allLinesWouldGo 77 = .ok (.ireturn, 1) := by decide +kernel
theorem dX8_allLinesWouldGo_78 : decode cX8_allLinesWouldGo 78 = .ok (.aload_n 0, 1) := by decide +kernel
theorem dX8_allLinesWouldGo_79 : decode cX8_allLinesWouldGo 79 = .ok (.getfield 45, 3) := by decide +kernel
theorem dX8_allLinesWouldGo_82 : decode cX8_allLinesWouldGo 82 = .ok (.iload_n 2, 1) := by decide +kernel
theorem dX8_allLinesWouldGo_83 : decode cX8_allLinesWouldGo 83 = .ok (.invokevirtual 178, 3) := by decide +kernel
theorem dX8_allLinesWouldGo_86 : decode cX8_allLinesWouldGo 86 = .ok (.goto 60, 3) := by decide +kernel
theorem dX8_allLinesWouldGo_89 : decode cX8_allLinesWouldGo 89 = .ok (.aload_n 0, 1) := by decide +kernel
theorem dX8_allLinesWouldGo_90 : decode cX8_allLinesWouldGo 90 = .ok (.aload_n 0, 1) := by decide +kernel
theorem dX8_allLinesWouldGo_91 : decode cX8_allLinesWouldGo 91 = .ok (.getfield 45, 3) := by decide +kernel
theorem dX8_allLinesWouldGo_94 : decode cX8_allLinesWouldGo 94 = .ok (.iload_n 2, 1) := by decide +kernel
theorem dX8_allLinesWouldGo_95 : decode cX8_allLinesWouldGo 95 = .ok (.iload_n 3, 1) := by decide +kernel
theorem dX8_allLinesWouldGo_96 : decode cX8_allLinesWouldGo 96 = .ok (.invokevirtual 149, 3) := by decide +kernel
theorem dX8_allLinesWouldGo_99 : decode cX8_allLinesWouldGo 99 = .ok (.istore 4, 2) := by decide +kernel
theorem dX8_allLinesWouldGo_101 : decode cX8_allLinesWouldGo 101 = .ok (.aload_n 0, 1) := by decide +kernel
theorem dX8_allLinesWouldGo_102 : decode cX8_allLinesWouldGo 102 = .ok (.getfield 34, 3) := by decide +kernel
theorem dX8_allLinesWouldGo_105 : decode cX8_allLinesWouldGo 105 = .ok (.getfield 373, 3) := by decide +kernel
theorem dX8_allLinesWouldGo_108 : decode cX8_allLinesWouldGo 108 = .ok (.iload_n 1, 1) := by decide +kernel
theorem dX8_allLinesWouldGo_109 : decode cX8_allLinesWouldGo 109 = .ok (.iaload, 1) := by decide +kernel
theorem dX8_allLinesWouldGo_110 : decode cX8_allLinesWouldGo 110 = .ok (.ifCond .ne 19, 3) := by decide +kernel
theorem dX8_allLinesWouldGo_113 : decode cX8_allLinesWouldGo 113 = .ok (.iload 4, 2) := by decide +kernel
theorem dX8_allLinesWouldGo_115 : decode cX8_allLinesWouldGo 115 = .ok (.ifCond .le 14, 3) := by decide +kernel
theorem dX8_allLinesWouldGo_118 : decode cX8_allLinesWouldGo 118 = .ok (.aload_n 0, 1) := by decide +kernel
theorem dX8_allLinesWouldGo_119 : decode cX8_allLinesWouldGo 119 = .ok (.iconst 4, 1) := by decide +kernel
theorem dX8_allLinesWouldGo_120 : decode cX8_allLinesWouldGo 120 = .ok (.iconst 2, 1) := by decide +kernel
theorem dX8_allLinesWouldGo_121 : decode cX8_allLinesWouldGo 121 = .ok (.iload 4, 2) := by decide +kernel
theorem dX8_allLinesWouldGo_123 : decode cX8_allLinesWouldGo 123 = .ok (.iload_n 1, 1) := by decide +kernel
theorem dX8_allLinesWouldGo_124 : decode cX8_allLinesWouldGo 124 = .ok (.invokevirtual 125, 3) := by decide +kernel
theorem dX8_allLinesWouldGo_127 : decode cX8_allLinesWouldGo 127 = .ok (.iconst 0, 1) := by decide +kernel
theorem dX8_allLinesWouldGo_128 : decode cX8_allLinesWouldGo 128 = .ok (.ireturn, 1) := by decide +kernel
theorem dX8_allLinesWouldGo_129 : decode cX8_allLinesWouldGo 129 = .ok (.aload_n 0, 1) := by decide +kernel
theorem dX8_allLinesWouldGo_130 : decode cX8_allLinesWouldGo 130 = .ok (.getfield 45, 3) := by decide +kernel
theorem dX8_allLinesWouldGo_133 : decode cX8_allLinesWouldGo 133 = .ok (.iload_n 2, 1) := by decide +kernel
theorem dX8_allLinesWouldGo_134 : decode cX8_allLinesWouldGo 134 = .ok (.iload_n 3, 1) := by decide +kernel
theorem dX8_allLinesWouldGo_135 : decode cX8_allLinesWouldGo 135 = .ok (.aload_n 0, 1) := by decide +kernel
theorem dX8_allLinesWouldGo_136 : decode cX8_allLinesWouldGo 136 = .ok (.getfield 77, 3) := by decide +kernel
theorem dX8_allLinesWouldGo_139 : decode cX8_allLinesWouldGo 139 = .ok (.getfield 195, 3) := by decide +kernel
theorem dX8_allLinesWouldGo_142 : decode cX8_allLinesWouldGo 142 = .ok (.invokevirtual 351, 3) := by decide +kernel
theorem dX8_allLinesWouldGo_145 : decode cX8_allLinesWouldGo 145 = .ok (.pop, 1) := by decide +kernel
theorem dX8_allLinesWouldGo_146 : decode cX8_allLinesWouldGo 146 = .ok (.iinc 1 1, 3) := by decide +kernel
theorem dX8_allLinesWouldGo_149 : decode cX8_allLinesWouldGo 149 = .ok (.goto (-136), 3) := by decide +kernel
theorem dX8_allLinesWouldGo_152 : decode cX8_allLinesWouldGo 152 = .ok (.iconst 1, 1) := by decide +kernel
theorem dX8_allLinesWouldGo_153 : decode cX8_allLinesWouldGo 153 = .ok (.ireturn, 1) := by decide +kernel
theorem dX8_carryOut_0 : decode cX8_carryOut 0 = .ok (.aload_n 0, 1) := by decide +kernel
theorem dX8_carryOut_1 : decode cX8_carryOut 1 = .ok (.getfield 34, 3) := by decide +kernel
theorem dX8_carryOut_4 : decode cX8_carryOut 4 = .ok (.getfield 367, 3) := by decide +kernel
theorem dX8_carryOut_7 : decode cX8_carryOut 7 = .ok (.iload_n 1, 1) := by decide +kernel
theorem dX8_carryOut_8 : decode cX8_carryOut 8 = .ok (.iaload, 1) := by decide +kernel
theorem dX8_carryOut_9 : decode cX8_carryOut 9 = .ok (.istore_n 2, 1) := by decide +kernel
theorem dX8_carryOut_10 : decode cX8_carryOut 10 = .ok (.aload_n 0, 1) := by decide +kernel
theorem dX8_carryOut_11 : decode cX8_carryOut 11 = .ok (.getfield 34, 3) := by decide +kernel
theorem dX8_carryOut_14 : decode cX8_carryOut 14 = .ok (.getfield 370, 3) := by decide +kernel
theorem dX8_carryOut_17 : decode cX8_carryOut 17 = .ok (.iload_n 1, 1) := by decide +kernel
theorem dX8_carryOut_18 : decode cX8_carryOut 18 = .ok (.iaload, 1) := by decide +kernel
theorem dX8_carryOut_19 : decode cX8_carryOut 19 = .ok (.istore_n 3, 1) := by decide +kernel
theorem dX8_carryOut_20 : decode cX8_carryOut 20 = .ok (.aload_n 0, 1) := by decide +kernel
theorem dX8_carryOut_21 : decode cX8_carryOut 21 = .ok (.getfield 34, 3) := by decide +kernel
theorem dX8_carryOut_24 : decode cX8_carryOut 24 = .ok (.getfield 373, 3) := by decide +kernel
theorem dX8_carryOut_27 : decode cX8_carryOut 27 = .ok (.iload_n 1, 1) := by decide +kernel
theorem dX8_carryOut_28 : decode cX8_carryOut 28 = .ok (.iaload, 1) := by decide +kernel
theorem dX8_carryOut_29 : decode cX8_carryOut 29 = .ok (.lookupswitch 56 #[(0, 27), (1, 46)], 27) := by decide +kernel
theorem dX8_carryOut_56 : decode cX8_carryOut 56 = .ok (.aload_n 0, 1) := by decide +kernel
theorem dX8_carryOut_57 : decode cX8_carryOut 57 = .ok (.iload_n 2, 1) := by decide +kernel
theorem dX8_carryOut_58 : decode cX8_carryOut 58 = .ok (.iload_n 3, 1) := by decide +kernel
theorem dX8_carryOut_59 : decode cX8_carryOut 59 = .ok (.aload_n 0, 1) := by decide +kernel
theorem dX8_carryOut_60 : decode cX8_carryOut 60 = .ok (.getfield 34, 3) := by decide +kernel
theorem dX8_carryOut_63 : decode cX8_carryOut 63 = .ok (.getfield 376, 3) := by decide +kernel
theorem dX8_carryOut_66 : decode cX8_carryOut 66 = .ok (.iload_n 1, 1) := by decide +kernel
theorem dX8_carryOut_67 : decode cX8_carryOut 67 = .ok (.iaload, 1) := by decide +kernel
theorem dX8_carryOut_68 : decode cX8_carryOut 68 = .ok (.invokevirtual 156, 3) := by decide +kernel
theorem dX8_carryOut_71 : decode cX8_carryOut 71 = .ok (.pop, 1) := by decide +kernel
theorem dX8_carryOut_72 : decode cX8_carryOut 72 = .ok (.goto 21, 3) := by decide +kernel
theorem dX8_carryOut_75 : decode cX8_carryOut 75 = .ok (.aload_n 0, 1) := by decide +kernel
theorem dX8_carryOut_76 : decode cX8_carryOut 76 = .ok (.iload_n 2, 1) := by decide +kernel
theorem dX8_carryOut_77 : decode cX8_carryOut 77 = .ok (.iload_n 3, 1) := by decide +kernel
theorem dX8_carryOut_78 : decode cX8_carryOut 78 = .ok (.invokevirtual 160, 3) := by decide +kernel
theorem dX8_carryOut_81 : decode cX8_carryOut 81 = .ok (.pop, 1) := by decide +kernel
theorem dX8_carryOut_82 : decode cX8_carryOut 82 = .ok (.goto 11, 3) := by decide +kernel
theorem dX8_carryOut_85 : decode cX8_carryOut 85 = .ok (.aload_n 0, 1) := by decide +kernel
theorem dX8_carryOut_86 : decode cX8_carryOut 86 = .ok (.getfield 41, 3) := by decide +kernel
theorem dX8_carryOut_89 : decode cX8_carryOut 89 = .ok (.iload_n 2, 1) := by decide +kernel
theorem dX8_carryOut_90 : decode cX8_carryOut 90 = .ok (.invokevirtual 178, 3) := by decide +kernel
theorem dX8_carryOut_93 : decode cX8_carryOut 93 = .ok (.return_, 1) := by decide +kernel
theorem dX8_tallyAll_0 : decode cX8_tallyAll 0 = .ok (.aload_n 0, 1) := by decide +kernel
theorem dX8_tallyAll_1 : decode cX8_tallyAll 1 = .ok (.getfield 57, 3) := by decide +kernel
theorem dX8_tallyAll_4 : decode cX8_tallyAll 4 = .ok (.invokevirtual 303, 3) := by decide +kernel
theorem dX8_tallyAll_7 : decode cX8_tallyAll 7 = .ok (.iconst 0, 1) := by decide +kernel
theorem dX8_tallyAll_8 : decode cX8_tallyAll 8 = .ok (.istore_n 2, 1) := by decide +kernel
theorem dX8_tallyAll_9 : decode cX8_tallyAll 9 = .ok (.iload_n 2, 1) := by decide +kernel
theorem dX8_tallyAll_10 : decode cX8_tallyAll 10 = .ok (.aload_n 1, 1) := by decide +kernel
theorem dX8_tallyAll_11 : decode cX8_tallyAll 11 = .ok (.getfield 164, 3) := by decide +kernel
theorem dX8_tallyAll_14 : decode cX8_tallyAll 14 = .ok (.if_icmp .ge 18, 3) := by decide +kernel
theorem dX8_tallyAll_17 : decode cX8_tallyAll 17 = .ok (.aload_n 0, 1) := by decide +kernel
theorem dX8_tallyAll_18 : decode cX8_tallyAll 18 = .ok (.getfield 57, 3) := by decide +kernel
theorem dX8_tallyAll_21 : decode cX8_tallyAll 21 = .ok (.aload_n 1, 1) := by decide +kernel
theorem dX8_tallyAll_22 : decode cX8_tallyAll 22 = .ok (.iload_n 2, 1) := by decide +kernel
theorem dX8_tallyAll_23 : decode cX8_tallyAll 23 = .ok (.invokevirtual 307, 3) := by decide +kernel
theorem dX8_tallyAll_26 : decode cX8_tallyAll 26 = .ok (.iinc 2 1, 3) := by decide +kernel
theorem dX8_tallyAll_29 : decode cX8_tallyAll 29 = .ok (.goto (-20), 3) := by decide +kernel
theorem dX8_tallyAll_32 : decode cX8_tallyAll 32 = .ok (.return_, 1) := by decide +kernel
theorem dX8_tallyStretch_0 : decode cX8_tallyStretch 0 = .ok (.aload_n 0, 1) := by decide +kernel
theorem dX8_tallyStretch_1 : decode cX8_tallyStretch 1 = .ok (.getfield 57, 3) := by decide +kernel
theorem dX8_tallyStretch_4 : decode cX8_tallyStretch 4 = .ok (.invokevirtual 303, 3) := by decide +kernel
theorem dX8_tallyStretch_7 : decode cX8_tallyStretch 7 = .ok (.aload_n 0, 1) := by decide +kernel
theorem dX8_tallyStretch_8 : decode cX8_tallyStretch 8 = .ok (.getfield 61, 3) := by decide +kernel
theorem dX8_tallyStretch_11 : decode cX8_tallyStretch 11 = .ok (.invokevirtual 303, 3) := by decide +kernel
theorem dX8_tallyStretch_14 : decode cX8_tallyStretch 14 = .ok (.iconst 0, 1) := by decide +kernel
theorem dX8_tallyStretch_15 : decode cX8_tallyStretch 15 = .ok (.istore 4, 2) := by decide +kernel
theorem dX8_tallyStretch_17 : decode cX8_tallyStretch 17 = .ok (.iload 4, 2) := by decide +kernel
theorem dX8_tallyStretch_19 : decode cX8_tallyStretch 19 = .ok (.aload_n 1, 1) := by decide +kernel
theorem dX8_tallyStretch_20 : decode cX8_tallyStretch 20 = .ok (.getfield 164, 3) := by decide +kernel
theorem dX8_tallyStretch_23 : decode cX8_tallyStretch 23 = .ok (.if_icmp .ge 79, 3) := by decide +kernel
theorem dX8_tallyStretch_26 : decode cX8_tallyStretch 26 = .ok (.aload_n 1, 1) := by decide +kernel
theorem dX8_tallyStretch_27 : decode cX8_tallyStretch 27 = .ok (.getfield 289, 3) := by decide +kernel
theorem dX8_tallyStretch_30 : decode cX8_tallyStretch 30 = .ok (.iload 4, 2) := by decide +kernel
theorem dX8_tallyStretch_32 : decode cX8_tallyStretch 32 = .ok (.iaload, 1) := by decide +kernel
theorem dX8_tallyStretch_33 : decode cX8_tallyStretch 33 = .ok (.istore 5, 2) := by decide +kernel
theorem dX8_tallyStretch_35 : decode cX8_tallyStretch 35 = .ok (.iload 5, 2) := by decide +kernel
theorem dX8_tallyStretch_37 : decode cX8_tallyStretch 37 = .ok (.aload_n 1, 1) := by decide +kernel
theorem dX8_tallyStretch_38 : decode cX8_tallyStretch 38 = .ok (.iload 4, 2) := by decide +kernel
theorem dX8_tallyStretch_40 : decode cX8_tallyStretch 40 = .ok (.invokevirtual 379, 3) := by decide +kernel
theorem dX8_tallyStretch_43 : decode cX8_tallyStretch 43 = .ok (.iadd, 1) := by decide +kernel
theorem dX8_tallyStretch_44 : decode cX8_tallyStretch 44 = .ok (.istore 6, 2) := by decide +kernel
theorem dX8_tallyStretch_46 : decode cX8_tallyStretch 46 = .ok (.iload 5, 2) := by decide +kernel
theorem dX8_tallyStretch_48 : decode cX8_tallyStretch 48 = .ok (.iload_n 2, 1) := by decide +kernel
theorem dX8_tallyStretch_49 : decode cX8_tallyStretch 49 = .ok (.if_icmp .lt 22, 3) := by decide +kernel
theorem dX8_tallyStretch_52 : decode cX8_tallyStretch 52 = .ok (.iload 6, 2) := by decide +kernel
theorem dX8_tallyStretch_54 : decode cX8_tallyStretch 54 = .ok (.iload_n 3, 1) := by decide +kernel
theorem dX8_tallyStretch_55 : decode cX8_tallyStretch 55 = .ok (.if_icmp .gt 16, 3) := by decide +kernel
theorem dX8_tallyStretch_58 : decode cX8_tallyStretch 58 = .ok (.aload_n 0, 1) := by decide +kernel
theorem dX8_tallyStretch_59 : decode cX8_tallyStretch 59 = .ok (.getfield 57, 3) := by decide +kernel
theorem dX8_tallyStretch_62 : decode cX8_tallyStretch 62 = .ok (.aload_n 1, 1) := by decide +kernel
theorem dX8_tallyStretch_63 : decode cX8_tallyStretch 63 = .ok (.iload 4, 2) := by decide +kernel
theorem dX8_tallyStretch_65 : decode cX8_tallyStretch 65 = .ok (.invokevirtual 307, 3) := by decide +kernel
theorem dX8_tallyStretch_68 : decode cX8_tallyStretch 68 = .ok (.goto 28, 3) := by decide +kernel
theorem dX8_tallyStretch_71 : decode cX8_tallyStretch 71 = .ok (.iload 5, 2) := by decide +kernel
theorem dX8_tallyStretch_73 : decode cX8_tallyStretch 73 = .ok (.iload_n 2, 1) := by decide +kernel
theorem dX8_tallyStretch_74 : decode cX8_tallyStretch 74 = .ok (.invokestatic 315, 3) := by decide +kernel
theorem dX8_tallyStretch_77 : decode cX8_tallyStretch 77 = .ok (.iload 6, 2) := by decide +kernel
theorem dX8_tallyStretch_79 : decode cX8_tallyStretch 79 = .ok (.iload_n 3, 1) := by decide +kernel
theorem dX8_tallyStretch_80 : decode cX8_tallyStretch 80 = .ok (.invokestatic 382, 3) := by decide +kernel
theorem dX8_tallyStretch_83 : decode cX8_tallyStretch 83 = .ok (.if_icmp .ge 13, 3) := by decide +kernel
theorem dX8_tallyStretch_86 : decode cX8_tallyStretch 86 = .ok (.aload_n 0, 1) := by decide +kernel
theorem dX8_tallyStretch_87 : decode cX8_tallyStretch 87 = .ok (.getfield 61, 3) := by decide +kernel
theorem dX8_tallyStretch_90 : decode cX8_tallyStretch 90 = .ok (.aload_n 1, 1) := by decide +kernel
theorem dX8_tallyStretch_91 : decode cX8_tallyStretch 91 = .ok (.iload 4, 2) := by decide +kernel
theorem dX8_tallyStretch_93 : decode cX8_tallyStretch 93 = .ok (.invokevirtual 307, 3) := by decide +kernel
theorem dX8_tallyStretch_96 : decode cX8_tallyStretch 96 = .ok (.iinc 4 1, 3) := by decide +kernel
theorem dX8_tallyStretch_99 : decode cX8_tallyStretch 99 = .ok (.goto (-82), 3) := by decide +kernel
theorem dX8_tallyStretch_102 : decode cX8_tallyStretch 102 = .ok (.return_, 1) := by decide +kernel
theorem dX8_surveyBoth_0 : decode cX8_surveyBoth 0 = .ok (.aload_n 0, 1) := by decide +kernel
theorem dX8_surveyBoth_1 : decode cX8_surveyBoth 1 = .ok (.getfield 64, 3) := by decide +kernel
theorem dX8_surveyBoth_4 : decode cX8_surveyBoth 4 = .ok (.iconst 0, 1) := by decide +kernel
theorem dX8_surveyBoth_5 : decode cX8_surveyBoth 5 = .ok (.iconst 0, 1) := by decide +kernel
theorem dX8_surveyBoth_6 : decode cX8_surveyBoth 6 = .ok (.iastore, 1) := by decide +kernel
theorem dX8_surveyBoth_7 : decode cX8_surveyBoth 7 = .ok (.aload_n 0, 1) := by decide +kernel
theorem dX8_surveyBoth_8 : decode cX8_surveyBoth 8 = .ok (.getfield 64, 3) := by decide +kernel
theorem dX8_surveyBoth_11 : decode cX8_surveyBoth 11 = .ok (.iconst 1, 1) := by decide +kernel
theorem dX8_surveyBoth_12 : decode cX8_surveyBoth 12 = .ok (.iconst 0, 1) := by decide +kernel
theorem dX8_surveyBoth_13 : decode cX8_surveyBoth 13 = .ok (.iastore, 1) := by decide +kernel
theorem dX8_surveyBoth_14 : decode cX8_surveyBoth 14 = .ok (.aload_n 0, 1) := by decide +kernel
theorem dX8_surveyBoth_15 : decode cX8_surveyBoth 15 = .ok (.getfield 64, 3) := by decide +kernel
theorem dX8_surveyBoth_18 : decode cX8_surveyBoth 18 = .ok (.iconst 2, 1) := by decide +kernel
theorem dX8_surveyBoth_19 : decode cX8_surveyBoth 19 = .ok (.sipush (-20000), 3) := by decide +kernel
theorem dX8_surveyBoth_22 : decode cX8_surveyBoth 22 = .ok (.iastore, 1) := by decide +kernel
theorem dX8_surveyBoth_23 : decode cX8_surveyBoth 23 = .ok (.iconst 0, 1) := by decide +kernel
theorem dX8_surveyBoth_24 : decode cX8_surveyBoth 24 = .ok (.istore_n 3, 1) := by decide +kernel
theorem dX8_surveyBoth_25 : decode cX8_surveyBoth 25 = .ok (.iload_n 3, 1) := by decide +kernel
theorem dX8_surveyBoth_26 : decode cX8_surveyBoth 26 = .ok (.aload_n 1, 1) := by decide +kernel
theorem dX8_surveyBoth_27 : decode cX8_surveyBoth 27 = .ok (.getfield 164, 3) := by decide +kernel
theorem dX8_surveyBoth_30 : decode cX8_surveyBoth 30 = .ok (.if_icmp .ge 117, 3) := by decide +kernel
theorem dX8_surveyBoth_33 : decode cX8_surveyBoth 33 = .ok (.aload_n 1, 1) := by decide +kernel
theorem dX8_surveyBoth_34 : decode cX8_surveyBoth 34 = .ok (.getfield 289, 3) := by decide +kernel
theorem dX8_surveyBoth_37 : decode cX8_surveyBoth 37 = .ok (.iload_n 3, 1) := by decide +kernel
theorem dX8_surveyBoth_38 : decode cX8_surveyBoth 38 = .ok (.iaload, 1) := by decide +kernel
theorem dX8_surveyBoth_39 : decode cX8_surveyBoth 39 = .ok (.istore 4, 2) := by decide +kernel
theorem dX8_surveyBoth_41 : decode cX8_surveyBoth 41 = .ok (.aload_n 2, 1) := by decide +kernel
theorem dX8_surveyBoth_42 : decode cX8_surveyBoth 42 = .ok (.iload 4, 2) := by decide +kernel
theorem dX8_surveyBoth_44 : decode cX8_surveyBoth 44 = .ok (.invokevirtual 304, 3) := by decide +kernel
theorem dX8_surveyBoth_47 : decode cX8_surveyBoth 47 = .ok (.istore 5, 2) := by decide +kernel
theorem dX8_surveyBoth_49 : decode cX8_surveyBoth 49 = .ok (.aload_n 2, 1) := by decide +kernel
theorem dX8_surveyBoth_50 : decode cX8_surveyBoth 50 = .ok (.iload 5, 2) := by decide +kernel
theorem dX8_surveyBoth_52 : decode cX8_surveyBoth 52 = .ok (.iload 4, 2) := by decide +kernel
theorem dX8_surveyBoth_54 : decode cX8_surveyBoth 54 = .ok (.invokevirtual 385, 3) := by decide +kernel
theorem dX8_surveyBoth_57 : decode cX8_surveyBoth 57 = .ok (.ifCond .eq 84, 3) := by decide +kernel
theorem dX8_surveyBoth_60 : decode cX8_surveyBoth 60 = .ok (.aload_n 1, 1) := by decide +kernel
theorem dX8_surveyBoth_61 : decode cX8_surveyBoth 61 = .ok (.iload 4, 2) := by decide +kernel
theorem dX8_surveyBoth_63 : decode cX8_surveyBoth 63 = .ok (.invokevirtual 267, 3) := by decide +kernel
theorem dX8_surveyBoth_66 : decode cX8_surveyBoth 66 = .ok (.aload_n 2, 1) := by decide +kernel
theorem dX8_surveyBoth_67 : decode cX8_surveyBoth 67 = .ok (.iload 4, 2) := by decide +kernel
theorem dX8_surveyBoth_69 : decode cX8_surveyBoth 69 = .ok (.invokevirtual 267, 3) := by decide +kernel
theorem dX8_surveyBoth_72 : decode cX8_surveyBoth 72 = .ok (.if_icmp .eq 6, 3) := by decide +kernel
theorem dX8_surveyBoth_75 : decode cX8_surveyBoth 75 = .ok (.goto 66, 3) := by decide +kernel
theorem dX8_surveyBoth_78 : decode cX8_surveyBoth 78 = .ok (.aload_n 1, 1) := by decide +kernel
theorem dX8_surveyBoth_79 : decode cX8_surveyBoth 79 = .ok (.iload_n 3, 1) := by decide +kernel
theorem dX8_surveyBoth_80 : decode cX8_surveyBoth 80 = .ok (.invokevirtual 389, 3) := by decide +kernel
theorem dX8_surveyBoth_83 : decode cX8_surveyBoth 83 = .ok (.aload_n 2, 1) := by decide +kernel
theorem dX8_surveyBoth_84 : decode cX8_surveyBoth 84 = .ok (.iload 5, 2) := by decide +kernel
theorem dX8_surveyBoth_86 : decode cX8_surveyBoth 86 = .ok (.invokevirtual 389, 3) := by decide +kernel
theorem dX8_surveyBoth_89 : decode cX8_surveyBoth 89 = .ok (.isub, 1) := by decide +kernel
theorem dX8_surveyBoth_90 : decode cX8_surveyBoth 90 = .ok (.istore 6, 2) := by decide +kernel
theorem dX8_surveyBoth_92 : decode cX8_surveyBoth 92 = .ok (.aload_n 0, 1) := by decide +kernel
theorem dX8_surveyBoth_93 : decode cX8_surveyBoth 93 = .ok (.getfield 64, 3) := by decide +kernel
theorem dX8_surveyBoth_96 : decode cX8_surveyBoth 96 = .ok (.iconst 0, 1) := by decide +kernel
theorem dX8_surveyBoth_97 : decode cX8_surveyBoth 97 = .ok (.dup2, 1) := by decide +kernel
theorem dX8_surveyBoth_98 : decode cX8_surveyBoth 98 = .ok (.iaload, 1) := by decide +kernel
theorem dX8_surveyBoth_99 : decode cX8_surveyBoth 99 = .ok (.iconst 1, 1) := by decide +kernel
theorem dX8_surveyBoth_100 : decode cX8_surveyBoth 100 = .ok (.iadd, 1) := by decide +kernel
theorem dX8_surveyBoth_101 : decode cX8_surveyBoth 101 = .ok (.iastore, 1) := by decide +kernel
theorem dX8_surveyBoth_102 : decode cX8_surveyBoth 102 = .ok (.aload_n 0, 1) := by decide +kernel
theorem dX8_surveyBoth_103 : decode cX8_surveyBoth 103 = .ok (.getfield 64, 3) := by decide +kernel
theorem dX8_surveyBoth_106 : decode cX8_surveyBoth 106 = .ok (.iconst 1, 1) := by decide +kernel
theorem dX8_surveyBoth_107 : decode cX8_surveyBoth 107 = .ok (.dup2, 1) := by decide +kernel
theorem dX8_surveyBoth_108 : decode cX8_surveyBoth 108 = .ok (.iaload, 1) := by decide +kernel
theorem dX8_surveyBoth_109 : decode cX8_surveyBoth 109 = .ok (.iload 6, 2) := by decide +kernel
theorem dX8_surveyBoth_111 : decode cX8_surveyBoth 111 = .ok (.ifCond .le 7, 3) := by decide +kernel
theorem dX8_surveyBoth_114 : decode cX8_surveyBoth 114 = .ok (.iconst 1, 1) := by decide +kernel
theorem dX8_surveyBoth_115 : decode cX8_surveyBoth 115 = .ok (.goto 4, 3) := by decide +kernel
theorem dX8_surveyBoth_118 : decode cX8_surveyBoth 118 = .ok (.iconst 0, 1) := by decide +kernel
theorem dX8_surveyBoth_119 : decode cX8_surveyBoth 119 = .ok (.iadd, 1) := by decide +kernel
theorem dX8_surveyBoth_120 : decode cX8_surveyBoth 120 = .ok (.iastore, 1) := by decide +kernel
theorem dX8_surveyBoth_121 : decode cX8_surveyBoth 121 = .ok (.aload_n 0, 1) := by decide +kernel
theorem dX8_surveyBoth_122 : decode cX8_surveyBoth 122 = .ok (.getfield 64, 3) := by decide +kernel
theorem dX8_surveyBoth_125 : decode cX8_surveyBoth 125 = .ok (.iconst 2, 1) := by decide +kernel
theorem dX8_surveyBoth_126 : decode cX8_surveyBoth 126 = .ok (.aload_n 0, 1) := by decide +kernel
theorem dX8_surveyBoth_127 : decode cX8_surveyBoth 127 = .ok (.getfield 64, 3) := by decide +kernel
theorem dX8_surveyBoth_130 : decode cX8_surveyBoth 130 = .ok (.iconst 2, 1) := by decide +kernel
theorem dX8_surveyBoth_131 : decode cX8_surveyBoth 131 = .ok (.iaload, 1) := by decide +kernel
theorem dX8_surveyBoth_132 : decode cX8_surveyBoth 132 = .ok (.iload 6, 2) := by decide +kernel
theorem dX8_surveyBoth_134 : decode cX8_surveyBoth 134 = .ok (.invokestatic 392, 3) := by decide +kernel
theorem dX8_surveyBoth_137 : decode cX8_surveyBoth 137 = .ok (.invokestatic 315, 3) := by decide +kernel
theorem dX8_surveyBoth_140 : decode cX8_surveyBoth 140 = .ok (.iastore, 1) := by decide +kernel
theorem dX8_surveyBoth_141 : decode cX8_surveyBoth 141 = .ok (.iinc 3 1, 3) := by decide +kernel
theorem dX8_surveyBoth_144 : decode cX8_surveyBoth 144 = .ok (.goto (-119), 3) := by decide +kernel
theorem dX8_surveyBoth_147 : decode cX8_surveyBoth 147 = .ok (.return_, 1) := by decide +kernel
theorem dX8_quotient_0 : decode cX8_quotient 0 = .ok (.iload_n 2, 1) := by decide +kernel
theorem dX8_quotient_1 : decode cX8_quotient 1 = .ok (.iconst 1, 1) := by decide +kernel
theorem dX8_quotient_2 : decode cX8_quotient 2 = .ok (.if_icmp .ge 7, 3) := by decide +kernel
theorem dX8_quotient_5 : decode cX8_quotient 5 = .ok (.iconst 0, 1) := by decide +kernel
theorem dX8_quotient_6 : decode cX8_quotient 6 = .ok (.goto 10, 3) := by decide +kernel
theorem dX8_quotient_9 : decode cX8_quotient 9 = .ok (.lload_n 0, 1) := by decide +kernel
theorem dX8_quotient_10 : decode cX8_quotient 10 = .ok (.iload_n 2, 1) := by decide +kernel
theorem dX8_quotient_11 : decode cX8_quotient 11 = .ok (.i2l, 1) := by decide +kernel
theorem dX8_quotient_12 : decode cX8_quotient 12 = .ok (.invokestatic 395, 3) := by decide +kernel
theorem dX8_quotient_15 : decode cX8_quotient 15 = .ok (.l2i, 1) := by decide +kernel
theorem dX8_quotient_16 : decode cX8_quotient 16 = .ok (.ireturn, 1) := by decide +kernel
theorem dX8_multipleUpTo_0 : decode cX8_multipleUpTo 0 = .ok (.iload_n 1, 1) := by decide +kernel
theorem dX8_multipleUpTo_1 : decode cX8_multipleUpTo 1 = .ok (.iconst 1, 1) := by decide +kernel
theorem dX8_multipleUpTo_2 : decode cX8_multipleUpTo 2 = .ok (.if_icmp .ge 7, 3) := by decide +kernel
theorem dX8_multipleUpTo_5 : decode cX8_multipleUpTo 5 = .ok (.iload_n 0, 1) := by decide +kernel
theorem dX8_multipleUpTo_6 : decode cX8_multipleUpTo 6 = .ok (.goto 10, 3) := by decide +kernel
theorem dX8_multipleUpTo_9 : decode cX8_multipleUpTo 9 = .ok (.iload_n 0, 1) := by decide +kernel
theorem dX8_multipleUpTo_10 : decode cX8_multipleUpTo 10 = .ok (.iload_n 0, 1) := by decide +kernel
theorem dX8_multipleUpTo_11 : decode cX8_multipleUpTo 11 = .ok (.iload_n 1, 1) := by decide +kernel
theorem dX8_multipleUpTo_12 : decode cX8_multipleUpTo 12 = .ok (.invokestatic 399, 3) := by decide +kernel
theorem dX8_multipleUpTo_15 : decode cX8_multipleUpTo 15 = .ok (.isub, 1) := by decide +kernel
theorem dX8_multipleUpTo_16 : decode cX8_multipleUpTo 16 = .ok (.ireturn, 1) := by decide +kernel
theorem dX8_multipleFrom_0 : decode cX8_multipleFrom 0 = .ok (.iload_n 0, 1) := by decide +kernel
theorem dX8_multipleFrom_1 : decode cX8_multipleFrom 1 = .ok (.ineg, 1) := by decide +kernel
theorem dX8_multipleFrom_2 : decode cX8_multipleFrom 2 = .ok (.iload_n 1, 1) := by decide +kernel
theorem dX8_multipleFrom_3 : decode cX8_multipleFrom 3 = .ok (.invokestatic 270, 3) := by decide +kernel
theorem dX8_multipleFrom_6 : decode cX8_multipleFrom 6 = .ok (.ineg, 1) := by decide +kernel
theorem dX8_multipleFrom_7 : decode cX8_multipleFrom 7 = .ok (.ireturn, 1) := by decide +kernel
theorem dJ11_isValidCodePoint_9a6ad_0 : decode cJ11_isValidCodePoint_9a6ad 0 = .ok (.iload_n 0, 1) := by decide +kernel
theorem dJ11_isValidCodePoint_9a6ad_1 : decode cJ11_isValidCodePoint_9a6ad 1 = .ok (.bipush 16, 2) := by decide +kernel
theorem dJ11_isValidCodePoint_9a6ad_3 : decode cJ11_isValidCodePoint_9a6ad 3 = .ok (.iushr, 1) := by decide +kernel
theorem dJ11_isValidCodePoint_9a6ad_4 : decode cJ11_isValidCodePoint_9a6ad 4 = .ok (.istore_n 1, 1) := by decide +kernel
theorem dJ11_isValidCodePoint_9a6ad_5 : decode cJ11_isValidCodePoint_9a6ad 5 = .ok (.iload_n 1, 1) := by decide +kernel
theorem dJ11_isValidCodePoint_9a6ad_6 : decode cJ11_isValidCodePoint_9a6ad 6 = .ok (.bipush 17, 2) := by decide +kernel
theorem dJ11_isValidCodePoint_9a6ad_8 : decode cJ11_isValidCodePoint_9a6ad 8 = .ok (.if_icmp .ge 7, 3) := by decide +kernel
theorem dJ11_isValidCodePoint_9a6ad_11 : decode cJ11_isValidCodePoint_9a6ad 11 = .ok (.iconst 1, 1) := by decide +kernel
theorem dJ11_isValidCodePoint_9a6ad_12 : decode cJ11_isValidCodePoint_9a6ad 12 = .ok (.goto 4, 3) := by decide +kernel
theorem dJ11_isValidCodePoint_9a6ad_15 : decode cJ11_isValidCodePoint_9a6ad 15 = .ok (.iconst 0, 1) := by decide +kernel
theorem dJ11_isValidCodePoint_9a6ad_16 : decode cJ11_isValidCodePoint_9a6ad 16 = .ok (.ireturn, 1) := by decide +kernel
theorem dJ11_highSurrogate_5068e_0 : decode cJ11_highSurrogate_5068e 0 = .ok (.iload_n 0, 1) := by decide +kernel
theorem dJ11_highSurrogate_5068e_1 : decode cJ11_highSurrogate_5068e 1 = .ok (.bipush 10, 2) := by decide +kernel
theorem dJ11_highSurrogate_5068e_3 : decode cJ11_highSurrogate_5068e 3 = .ok (.iushr, 1) := by decide +kernel
theorem dJ11_highSurrogate_5068e_4 : decode cJ11_highSurrogate_5068e 4 = .ok (.ldc 110, 2) := by decide +kernel
theorem dJ11_highSurrogate_5068e_6 : decode cJ11_highSurrogate_5068e 6 = .ok (.iadd, 1) := by decide +kernel
theorem dJ11_highSurrogate_5068e_7 : decode cJ11_highSurrogate_5068e 7 = .ok (.i2c, 1) := by decide +kernel
theorem dJ11_highSurrogate_5068e_8 : decode cJ11_highSurrogate_5068e 8 = .ok (.ireturn, 1) := by decide +kernel
theorem dJ11_lowSurrogate_5068e_0 : decode cJ11_lowSurrogate_5068e 0 = .ok (.iload_n 0, 1) := by decide +kernel
theorem dJ11_lowSurrogate_5068e_1 : decode cJ11_lowSurrogate_5068e 1 = .ok (.sipush 1023, 3) := by decide +kernel
theorem dJ11_lowSurrogate_5068e_4 : decode cJ11_lowSurrogate_5068e 4 = .ok (.iand, 1) := by decide +kernel
theorem dJ11_lowSurrogate_5068e_5 : decode cJ11_lowSurrogate_5068e 5 = .ok (.ldc 76, 2) := by decide +kernel
theorem dJ11_lowSurrogate_5068e_7 : decode cJ11_lowSurrogate_5068e 7 = .ok (.iadd, 1) := by decide +kernel
theorem dJ11_lowSurrogate_5068e_8 : decode cJ11_lowSurrogate_5068e 8 = .ok (.i2c, 1) := by decide +kernel
theorem dJ11_lowSurrogate_5068e_9 : decode cJ11_lowSurrogate_5068e 9 = .ok (.ireturn, 1) := by decide +kernel
theorem dJ9_floorDiv_f86c9_0 : decode cJ9_floorDiv_f86c9 0 = .ok (.lload_n 0, 1) := by decide +kernel
theorem dJ9_floorDiv_f86c9_1 : decode cJ9_floorDiv_f86c9 1 = .ok (.lload_n 2, 1) := by decide +kernel
theorem dJ9_floorDiv_f86c9_2 : decode cJ9_floorDiv_f86c9 2 = .ok (.ldiv, 1) := by decide +kernel
theorem dJ9_floorDiv_f86c9_3 : decode cJ9_floorDiv_f86c9 3 = .ok (.lstore 4, 2) := by decide +kernel
theorem dJ9_floorDiv_f86c9_5 : decode cJ9_floorDiv_f86c9 5 = .ok (.lload_n 0, 1) := by decide +kernel
theorem dJ9_floorDiv_f86c9_6 : decode cJ9_floorDiv_f86c9 6 = .ok (.lload_n 2, 1) := by decide +kernel
theorem dJ9_floorDiv_f86c9_7 : decode cJ9_floorDiv_f86c9 7 = .ok (.lxor, 1) := by decide +kernel
theorem dJ9_floorDiv_f86c9_8 : decode cJ9_floorDiv_f86c9 8 = .ok (.lconst 0, 1) := by decide +kernel
theorem dJ9_floorDiv_f86c9_9 : decode cJ9_floorDiv_f86c9 9 = .ok (.lcmp, 1) := by decide +kernel
theorem dJ9_floorDiv_f86c9_10 : decode cJ9_floorDiv_f86c9 10 = .ok (.ifCond .ge 17, 3) := by decide +kernel
theorem dJ9_floorDiv_f86c9_13 : decode cJ9_floorDiv_f86c9 13 = .ok (.lload 4, 2) := by decide +kernel
theorem dJ9_floorDiv_f86c9_15 : decode cJ9_floorDiv_f86c9 15 = .ok (.lload_n 2, 1) := by decide +kernel
theorem dJ9_floorDiv_f86c9_16 : decode cJ9_floorDiv_f86c9 16 = .ok (.lmul, 1) := by decide +kernel
theorem dJ9_floorDiv_f86c9_17 : decode cJ9_floorDiv_f86c9 17 = .ok (.lload_n 0, 1) := by decide +kernel
theorem dJ9_floorDiv_f86c9_18 : decode cJ9_floorDiv_f86c9 18 = .ok (.lcmp, 1) := by decide +kernel
theorem dJ9_floorDiv_f86c9_19 : decode cJ9_floorDiv_f86c9 19 = .ok (.ifCond .eq 8, 3) := by decide +kernel
theorem dJ9_floorDiv_f86c9_22 : decode cJ9_floorDiv_f86c9 22 = .ok (.lload 4, 2) := by decide +kernel
theorem dJ9_floorDiv_f86c9_24 : decode cJ9_floorDiv_f86c9 24 = .ok (.lconst 1, 1) := by decide +kernel
theorem dJ9_floorDiv_f86c9_25 : decode cJ9_floorDiv_f86c9 25 = .ok (.lsub, 1) := by decide +kernel
theorem dJ9_floorDiv_f86c9_26 : decode cJ9_floorDiv_f86c9 26 = .ok (.lreturn, 1) := by decide +kernel
theorem dJ9_floorDiv_f86c9_27 : decode cJ9_floorDiv_f86c9 27 = .ok (.lload 4, 2) := by decide +kernel
theorem dJ9_floorDiv_f86c9_29 : decode cJ9_floorDiv_f86c9 29 = .ok (.lreturn, 1) := by decide +kernel
theorem dJ9_floorMod_7cf53_0 : decode cJ9_floorMod_7cf53 0 = .ok (.iload_n 0, 1) := by decide +kernel
theorem dJ9_floorMod_7cf53_1 : decode cJ9_floorMod_7cf53 1 = .ok (.iload_n 1, 1) := by decide +kernel
theorem dJ9_floorMod_7cf53_2 : decode cJ9_floorMod_7cf53 2 = .ok (.irem, 1) := by decide +kernel
theorem dJ9_floorMod_7cf53_3 : decode cJ9_floorMod_7cf53 3 = .ok (.istore_n 2, 1) := by decide +kernel
theorem dJ9_floorMod_7cf53_4 : decode cJ9_floorMod_7cf53 4 = .ok (.iload_n 0, 1) := by decide +kernel
theorem dJ9_floorMod_7cf53_5 : decode cJ9_floorMod_7cf53 5 = .ok (.iload_n 1, 1) := by decide +kernel
theorem dJ9_floorMod_7cf53_6 : decode cJ9_floorMod_7cf53 6 = .ok (.ixor, 1) := by decide +kernel
theorem dJ9_floorMod_7cf53_7 : decode cJ9_floorMod_7cf53 7 = .ok (.ifCond .ge 11, 3) := by decide +kernel
theorem dJ9_floorMod_7cf53_10 : decode cJ9_floorMod_7cf53 10 = .ok (.iload_n 2, 1) := by decide +kernel
theorem dJ9_floorMod_7cf53_11 : decode cJ9_floorMod_7cf53 11 = .ok (.ifCond .eq 7, 3) := by decide +kernel
theorem dJ9_floorMod_7cf53_14 : decode cJ9_floorMod_7cf53 14 = .ok (.iload_n 2, 1) := by decide +kernel
theorem dJ9_floorMod_7cf53_15 : decode cJ9_floorMod_7cf53 15 = .ok (.iload_n 1, 1) := by decide +kernel
theorem dJ9_floorMod_7cf53_16 : decode cJ9_floorMod_7cf53 16 = .ok (.iadd, 1) := by decide +kernel
theorem dJ9_floorMod_7cf53_17 : decode cJ9_floorMod_7cf53 17 = .ok (.ireturn, 1) := by decide +kernel
theorem dJ9_floorMod_7cf53_18 : decode cJ9_floorMod_7cf53 18 = .ok (.iload_n 2, 1) := by decide +kernel
theorem dJ9_floorMod_7cf53_19 : decode cJ9_floorMod_7cf53 19 = .ok (.ireturn, 1) := by decide +kernel
theorem dJ9_abs_0f7a4_0 : decode cJ9_abs_0f7a4 0 = .ok (.iload_n 0, 1) := by decide +kernel
theorem dJ9_abs_0f7a4_1 : decode cJ9_abs_0f7a4 1 = .ok (.ifCond .ge 8, 3) := by decide +kernel
theorem dJ9_abs_0f7a4_4 : decode cJ9_abs_0f7a4 4 = .ok (.iload_n 0, 1) := by decide +kernel
theorem dJ9_abs_0f7a4_5 : decode cJ9_abs_0f7a4 5 = .ok (.ineg, 1) := by decide +kernel
theorem dJ9_abs_0f7a4_6 : decode cJ9_abs_0f7a4 6 = .ok (.goto 4, 3) := by decide +kernel
theorem dJ9_abs_0f7a4_9 : decode cJ9_abs_0f7a4 9 = .ok (.iload_n 0, 1) := by decide +kernel
theorem dJ9_abs_0f7a4_10 : decode cJ9_abs_0f7a4 10 = .ok (.ireturn, 1) := by decide +kernel
theorem dJ9_max_7cf53_0 : decode cJ9_max_7cf53 0 = .ok (.iload_n 0, 1) := by decide +kernel
theorem dJ9_max_7cf53_1 : decode cJ9_max_7cf53 1 = .ok (.iload_n 1, 1) := by decide +kernel
theorem dJ9_max_7cf53_2 : decode cJ9_max_7cf53 2 = .ok (.if_icmp .lt 7, 3) := by decide +kernel
theorem dJ9_max_7cf53_5 : decode cJ9_max_7cf53 5 = .ok (.iload_n 0, 1) := by decide +kernel
theorem dJ9_max_7cf53_6 : decode cJ9_max_7cf53 6 = .ok (.goto 4, 3) := by decide +kernel
theorem dJ9_max_7cf53_9 : decode cJ9_max_7cf53 9 = .ok (.iload_n 1, 1) := by decide +kernel
theorem dJ9_max_7cf53_10 : decode cJ9_max_7cf53 10 = .ok (.ireturn, 1) := by decide +kernel
theorem dJ9_max_f86c9_0 : decode cJ9_max_f86c9 0 = .ok (.lload_n 0, 1) := by decide +kernel
theorem dJ9_max_f86c9_1 : decode cJ9_max_f86c9 1 = .ok (.lload_n 2, 1) := by decide +kernel
theorem dJ9_max_f86c9_2 : decode cJ9_max_f86c9 2 = .ok (.lcmp, 1) := by decide +kernel
theorem dJ9_max_f86c9_3 : decode cJ9_max_f86c9 3 = .ok (.ifCond .lt 7, 3) := by decide +kernel
theorem dJ9_max_f86c9_6 : decode cJ9_max_f86c9 6 = .ok (.lload_n 0, 1) := by decide +kernel
theorem dJ9_max_f86c9_7 : decode cJ9_max_f86c9 7 = .ok (.goto 4, 3) := by decide +kernel
theorem dJ9_max_f86c9_10 : decode cJ9_max_f86c9 10 = .ok (.lload_n 2, 1) := by decide +kernel
theorem dJ9_max_f86c9_11 : decode cJ9_max_f86c9 11 = .ok (.lreturn, 1) := by decide +kernel
theorem dJ9_min_7cf53_0 : decode cJ9_min_7cf53 0 = .ok (.iload_n 0, 1) := by decide +kernel
theorem dJ9_min_7cf53_1 : decode cJ9_min_7cf53 1 = .ok (.iload_n 1, 1) := by decide +kernel
theorem dJ9_min_7cf53_2 : decode cJ9_min_7cf53 2 = .ok (.if_icmp .gt 7, 3) := by decide +kernel
theorem dJ9_min_7cf53_5 : decode cJ9_min_7cf53 5 = .ok (.iload_n 0, 1) := by decide +kernel
theorem dJ9_min_7cf53_6 : decode cJ9_min_7cf53 6 = .ok (.goto 4, 3) := by decide +kernel
theorem dJ9_min_7cf53_9 : decode cJ9_min_7cf53 9 = .ok (.iload_n 1, 1) := by decide +kernel
theorem dJ9_min_7cf53_10 : decode cJ9_min_7cf53 10 = .ok (.ireturn, 1) := by decide +kernel
theorem dJ9_min_f86c9_0 : decode cJ9_min_f86c9 0 = .ok (.lload_n 0, 1) := by decide +kernel
theorem dJ9_min_f86c9_1 : decode cJ9_min_f86c9 1 = .ok (.lload_n 2, 1) := by decide +kernel
theorem dJ9_min_f86c9_2 : decode cJ9_min_f86c9 2 = .ok (.lcmp, 1) := by decide +kernel
theorem dJ9_min_f86c9_3 : decode cJ9_min_f86c9 3 = .ok (.ifCond .gt 7, 3) := by decide +kernel
theorem dJ9_min_f86c9_6 : decode cJ9_min_f86c9 6 = .ok (.lload_n 0, 1) := by decide +kernel
theorem dJ9_min_f86c9_7 : decode cJ9_min_f86c9 7 = .ok (.goto 4, 3) := by decide +kernel
theorem dJ9_min_f86c9_10 : decode cJ9_min_f86c9 10 = .ok (.lload_n 2, 1) := by decide +kernel
theorem dJ9_min_f86c9_11 : decode cJ9_min_f86c9 11 = .ok (.lreturn, 1) := by decide +kernel
theorem dJ0_length_8abf5_0 : decode cJ0_length_8abf5 0 = .ok (.aload_n 0, 1) := by decide +kernel
theorem dJ0_length_8abf5_1 : decode cJ0_length_8abf5 1 = .ok (.getfield 9, 3) := by decide +kernel
theorem dJ0_length_8abf5_4 : decode cJ0_length_8abf5 4 = .ok (.arraylength, 1) := by decide +kernel
theorem dJ0_length_8abf5_5 : decode cJ0_length_8abf5 5 = .ok (.aload_n 0, 1) := by decide +kernel
theorem dJ0_length_8abf5_6 : decode cJ0_length_8abf5 6 = .ok (.invokevirtual 335, 3) := by decide +kernel
theorem dJ0_length_8abf5_9 : decode cJ0_length_8abf5 9 = .ok (.ishr, 1) := by decide +kernel
theorem dJ0_length_8abf5_10 : decode cJ0_length_8abf5 10 = .ok (.ireturn, 1) := by decide +kernel
theorem dJ0_charAt_5068e_0 : decode cJ0_charAt_5068e 0 = .ok (.aload_n 0, 1) := by decide +kernel
theorem dJ0_charAt_5068e_1 : decode cJ0_charAt_5068e 1 = .ok (.invokevirtual 492, 3) := by decide +kernel
theorem dJ0_charAt_5068e_4 : decode cJ0_charAt_5068e 4 = .ok (.ifCond .eq 12, 3) := by decide +kernel
theorem dJ0_charAt_5068e_7 : decode cJ0_charAt_5068e 7 = .ok (.aload_n 0, 1) := by decide +kernel
theorem dJ0_charAt_5068e_8 : decode cJ0_charAt_5068e 8 = .ok (.getfield 9, 3) := by decide +kernel
theorem dJ0_charAt_5068e_11 : decode cJ0_charAt_5068e 11 = .ok (.iload_n 1, 1) := by decide +kernel
theorem dJ0_charAt_5068e_12 : decode cJ0_charAt_5068e 12 = .ok (.invokestatic 495, 3) := by decide +kernel
theorem dJ0_charAt_5068e_15 : decode cJ0_charAt_5068e 15 = .ok (.ireturn, 1) := by decide +kernel
theorem dJ0_charAt_5068e_16 : decode cJ0_charAt_5068e 16 = .ok (.aload_n 0, 1) := by decide +kernel
theorem dJ0_charAt_5068e_17 : decode cJ0_charAt_5068e 17 = .ok (.getfield 9, 3) := by decide +kernel
theorem dJ0_charAt_5068e_20 : decode cJ0_charAt_5068e 20 = .ok (.iload_n 1, 1) := by decide +kernel
theorem dJ0_charAt_5068e_21 : decode cJ0_charAt_5068e 21 = .ok (.invokestatic 498, 3) := by decide +kernel
theorem dJ0_charAt_5068e_24 : decode cJ0_charAt_5068e 24 = .ok (.ireturn, 1) := by decide +kernel
theorem dJ0_indexOf_0f7a4_0 : decode cJ0_indexOf_0f7a4 0 = .ok (.aload_n 0, 1) := by decide +kernel
theorem dJ0_indexOf_0f7a4_1 : decode cJ0_indexOf_0f7a4 1 = .ok (.iload_n 1, 1) := by decide +kernel
theorem dJ0_indexOf_0f7a4_2 : decode cJ0_indexOf_0f7a4 2 = .ok (.iconst 0, 1) := by decide +kernel
theorem dJ0_indexOf_0f7a4_3 : decode cJ0_indexOf_0f7a4 3 = .ok (.invokevirtual 633, 3) := by decide +kernel
theorem dJ0_indexOf_0f7a4_6 : decode cJ0_indexOf_0f7a4 6 = .ok (.ireturn, 1) := by decide +kernel
theorem dJ0_indexOf_7cf53_0 : decode cJ0_indexOf_7cf53 0 = .ok (.aload_n 0, 1) := by decide +kernel
theorem dJ0_indexOf_7cf53_1 : decode cJ0_indexOf_7cf53 1 = .ok (.invokevirtual 492, 3) := by decide +kernel
theorem dJ0_indexOf_7cf53_4 : decode cJ0_indexOf_7cf53 4 = .ok (.ifCond .eq 19, 3) := by decide +kernel
theorem dJ0_indexOf_7cf53_7 : decode cJ0_indexOf_7cf53 7 = .ok (.aload_n 0, 1) := by decide +kernel
theorem dJ0_indexOf_7cf53_8 : decode cJ0_indexOf_7cf53 8 = .ok (.getfield 9, 3) := by decide +kernel
theorem dJ0_indexOf_7cf53_11 : decode cJ0_indexOf_7cf53 11 = .ok (.iload_n 1, 1) := by decide +kernel
theorem dJ0_indexOf_7cf53_12 : decode cJ0_indexOf_7cf53 12 = .ok (.iload_n 2, 1) := by decide +kernel
theorem dJ0_indexOf_7cf53_13 : decode cJ0_indexOf_7cf53 13 = .ok (.aload_n 0, 1) := by decide +kernel
theorem dJ0_indexOf_7cf53_14 : decode cJ0_indexOf_7cf53 14 = .ok (.invokevirtual 505, 3) := by decide +kernel
theorem dJ0_indexOf_7cf53_17 : decode cJ0_indexOf_7cf53 17 = .ok (.invokestatic 637, 3) := by decide +kernel
theorem dJ0_indexOf_7cf53_20 : decode cJ0_indexOf_7cf53 20 = .ok (.goto 16, 3) := by decide +kernel
theorem dJ0_indexOf_7cf53_23 : decode cJ0_indexOf_7cf53 23 = .ok (.aload_n 0, 1) := by decide +kernel
theorem dJ0_indexOf_7cf53_24 : decode cJ0_indexOf_7cf53 24 = .ok (.getfield 9, 3) := by decide +kernel
theorem dJ0_indexOf_7cf53_27 : decode cJ0_indexOf_7cf53 27 = .ok (.iload_n 1, 1) := by decide +kernel
theorem dJ0_indexOf_7cf53_28 : decode cJ0_indexOf_7cf53 28 = .ok (.iload_n 2, 1) := by decide +kernel
theorem dJ0_indexOf_7cf53_29 : decode cJ0_indexOf_7cf53 29 = .ok (.aload_n 0, 1) := by decide +kernel
theorem dJ0_indexOf_7cf53_30 : decode cJ0_indexOf_7cf53 30 = .ok (.invokevirtual 505, 3) := by decide +kernel
theorem dJ0_indexOf_7cf53_33 : decode cJ0_indexOf_7cf53 33 = .ok (.invokestatic 640, 3) := by decide +kernel
theorem dJ0_indexOf_7cf53_36 : decode cJ0_indexOf_7cf53 36 = .ok (.ireturn, 1) := by decide +kernel
theorem dJ0_coder_7d493_0 : decode cJ0_coder_7d493 0 = .ok (.getstatic 38, 3) := by decide +kernel
theorem dJ0_coder_7d493_3 : decode cJ0_coder_7d493 3 = .ok (.ifCond .eq 10, 3) := by decide +kernel
theorem dJ0_coder_7d493_6 : decode cJ0_coder_7d493 6 = .ok (.aload_n 0, 1) := by decide +kernel
theorem dJ0_coder_7d493_7 : decode cJ0_coder_7d493 7 = .ok (.getfield 15, 3) := by decide +kernel
theorem dJ0_coder_7d493_10 : decode cJ0_coder_7d493 10 = .ok (.goto 4, 3) := by decide +kernel
theorem dJ0_coder_7d493_13 : decode cJ0_coder_7d493 13 = .ok (.iconst 1, 1) := by decide +kernel
theorem dJ0_coder_7d493_14 : decode cJ0_coder_7d493 14 = .ok (.ireturn, 1) := by decide +kernel
theorem dJ0_isLatin1_aae02_0 : decode cJ0_isLatin1_aae02 0 = .ok (.getstatic 38, 3) := by decide +kernel
theorem dJ0_isLatin1_aae02_3 : decode cJ0_isLatin1_aae02 3 = .ok (.ifCond .eq 14, 3) := by decide +kernel
theorem dJ0_isLatin1_aae02_6 : decode cJ0_isLatin1_aae02 6 = .ok (.aload_n 0, 1) := by decide +kernel
theorem dJ0_isLatin1_aae02_7 : decode cJ0_isLatin1_aae02 7 = .ok (.getfield 15, 3) := by decide +kernel
theorem dJ0_isLatin1_aae02_10 : decode cJ0_isLatin1_aae02 10 = .ok (.ifCond .ne 7, 3) := by decide +kernel
theorem dJ0_isLatin1_aae02_13 : decode cJ0_isLatin1_aae02 13 = .ok (.iconst 1, 1) := by decide +kernel
theorem dJ0_isLatin1_aae02_14 : decode cJ0_isLatin1_aae02 14 = .ok (.goto 4, 3) := by decide +kernel
theorem dJ0_isLatin1_aae02_17 : decode cJ0_isLatin1_aae02 17 = .ok (.iconst 0, 1) := by decide +kernel
theorem dJ0_isLatin1_aae02_18 : decode cJ0_isLatin1_aae02 18 = .ok (.ireturn, 1) := by decide +kernel
theorem dJ0_checkIndex_df160_0 : decode cJ0_checkIndex_df160 0 = .ok (.iload_n 0, 1) := by decide +kernel
theorem dJ0_checkIndex_df160_1 : decode cJ0_checkIndex_df160 1 = .ok (.iload_n 1, 1) := by decide +kernel
theorem dJ0_checkIndex_df160_2 : decode cJ0_checkIndex_df160 2 = .ok (.getstatic 1053, 3) := by decide +kernel
theorem dJ0_checkIndex_df160_5 : decode cJ0_checkIndex_df160 5 = .ok (.invokestatic 1059, 3) := by decide +kernel
theorem dJ0_checkIndex_df160_8 : decode cJ0_checkIndex_df160 8 = .ok (.pop, 1) := by decide +kernel
theorem dJ0_checkIndex_df160_9 : decode cJ0_checkIndex_df160 9 = .ok (.return_, 1) := by decide +kernel
theorem dJ0_checkBoundsBeginEnd_23922_0 : decode cJ0_checkBoundsBeginEnd_23922 0 = .ok (.iload_n 0, 1) := by decide +kernel
theorem dJ0_checkBoundsBeginEnd_23922_1 : decode cJ0_checkBoundsBeginEnd_23922 1 = .ok (.iload_n 1, 1) := by decide +kernel
theorem dJ0_checkBoundsBeginEnd_23922_2 : decode cJ0_checkBoundsBeginEnd_23922 2 = .ok (.iload_n 2, 1) := by decide +kernel
theorem dJ0_checkBoundsBeginEnd_23922_3 : decode cJ0_checkBoundsBeginEnd_23922 3 = .ok (.getstatic 1053, 3) := by decide +kernel
theorem dJ0_checkBoundsBeginEnd_23922_6 : decode cJ0_checkBoundsBeginEnd_23922 6 = .ok (.invokestatic 1062, 3) := by decide +kernel
theorem dJ0_checkBoundsBeginEnd_23922_9 : decode cJ0_checkBoundsBeginEnd_23922 9 = .ok (.pop, 1) := by decide +kernel
theorem dJ0_checkBoundsBeginEnd_23922_10 : decode cJ0_checkBoundsBeginEnd_23922 10 = .ok (.return_, 1) := by decide +kernel
theorem dJ1_charAt_3b067_0 : decode cJ1_charAt_3b067 0 = .ok (.iload_n 1, 1) := by decide +kernel
theorem dJ1_charAt_3b067_1 : decode cJ1_charAt_3b067 1 = .ok (.aload_n 0, 1) := by decide +kernel
theorem dJ1_charAt_3b067_2 : decode cJ1_charAt_3b067 2 = .ok (.arraylength, 1) := by decide +kernel
theorem dJ1_charAt_3b067_3 : decode cJ1_charAt_3b067 3 = .ok (.invokestatic 9, 3) := by decide +kernel
theorem dJ1_charAt_3b067_6 : decode cJ1_charAt_3b067 6 = .ok (.aload_n 0, 1) := by decide +kernel
theorem dJ1_charAt_3b067_7 : decode cJ1_charAt_3b067 7 = .ok (.iload_n 1, 1) := by decide +kernel
theorem dJ1_charAt_3b067_8 : decode cJ1_charAt_3b067 8 = .ok (.baload, 1) := by decide +kernel
theorem dJ1_charAt_3b067_9 : decode cJ1_charAt_3b067 9 = .ok (.sipush 255, 3) := by decide +kernel
theorem dJ1_charAt_3b067_12 : decode cJ1_charAt_3b067 12 = .ok (.iand, 1) := by decide +kernel
theorem dJ1_charAt_3b067_13 : decode cJ1_charAt_3b067 13 = .ok (.i2c, 1) := by decide +kernel
theorem dJ1_charAt_3b067_14 : decode cJ1_charAt_3b067 14 = .ok (.ireturn, 1) := by decide +kernel
theorem dJ1_canEncode_9a6ad_0 : decode cJ1_canEncode_9a6ad 0 = .ok (.iload_n 0, 1) := by decide +kernel
theorem dJ1_canEncode_9a6ad_1 : decode cJ1_canEncode_9a6ad 1 = .ok (.ifCond .lt 14, 3) := by decide +kernel
theorem dJ1_canEncode_9a6ad_4 : decode cJ1_canEncode_9a6ad 4 = .ok (.iload_n 0, 1) := by decide +kernel
theorem dJ1_canEncode_9a6ad_5 : decode cJ1_canEncode_9a6ad 5 = .ok (.sipush 255, 3) := by decide +kernel
theorem dJ1_canEncode_9a6ad_8 : decode cJ1_canEncode_9a6ad 8 = .ok (.if_icmp .gt 7, 3) := by decide +kernel
theorem dJ1_canEncode_9a6ad_11 : decode cJ1_canEncode_9a6ad 11 = .ok (.iconst 1, 1) := by decide +kernel
theorem dJ1_canEncode_9a6ad_12 : decode cJ1_canEncode_9a6ad 12 = .ok (.goto 4, 3) := by decide +kernel
theorem dJ1_canEncode_9a6ad_15 : decode cJ1_canEncode_9a6ad 15 = .ok (.iconst 0, 1) := by decide +kernel
theorem dJ1_canEncode_9a6ad_16 : decode cJ1_canEncode_9a6ad 16 = .ok (.ireturn, 1) := by decide +kernel
theorem dJ1_indexOf_4cfef_0 : decode cJ1_indexOf_4cfef 0 = .ok (.iload_n 1, 1) := by decide +kernel
theorem dJ1_indexOf_4cfef_1 : decode cJ1_indexOf_4cfef 1 = .ok (.invokestatic 88, 3) := by decide +kernel
theorem dJ1_indexOf_4cfef_4 : decode cJ1_indexOf_4cfef 4 = .ok (.ifCond .ne 5, 3) := by decide +kernel
theorem dJ1_indexOf_4cfef_7 : decode cJ1_indexOf_4cfef 7 = .ok (.iconst (-1), 1) := by decide +kernel
theorem dJ1_indexOf_4cfef_8 : decode cJ1_indexOf_4cfef 8 = .ok (.ireturn, 1) := by decide +kernel
theorem dJ1_indexOf_4cfef_9 : decode cJ1_indexOf_4cfef 9 = .ok (.iload_n 2, 1) := by decide +kernel
theorem dJ1_indexOf_4cfef_10 : decode cJ1_indexOf_4cfef 10 = .ok (.iconst 0, 1) := by decide +kernel
theorem dJ1_indexOf_4cfef_11 : decode cJ1_indexOf_4cfef 11 = .ok (.invokestatic 92, 3) := by decide +kernel
theorem dJ1_indexOf_4cfef_14 : decode cJ1_indexOf_4cfef 14 = .ok (.istore_n 2, 1) := by decide +kernel
theorem dJ1_indexOf_4cfef_15 : decode cJ1_indexOf_4cfef 15 = .ok (.iload_n 3, 1) := by decide +kernel
theorem dJ1_indexOf_4cfef_16 : decode cJ1_indexOf_4cfef 16 = .ok (.aload_n 0, 1) := by decide +kernel
theorem dJ1_indexOf_4cfef_17 : decode cJ1_indexOf_4cfef 17 = .ok (.arraylength, 1) := by decide +kernel
theorem dJ1_indexOf_4cfef_18 : decode cJ1_indexOf_4cfef 18 = .ok (.invokestatic 38, 3) := by decide +kernel
theorem dJ1_indexOf_4cfef_21 : decode cJ1_indexOf_4cfef 21 = .ok (.istore_n 3, 1) := by decide +kernel
theorem dJ1_indexOf_4cfef_22 : decode cJ1_indexOf_4cfef 22 = .ok (.iload_n 2, 1) := by decide +kernel
theorem dJ1_indexOf_4cfef_23 : decode cJ1_indexOf_4cfef 23 = .ok (.iload_n 3, 1) := by decide +kernel
theorem dJ1_indexOf_4cfef_24 : decode cJ1_indexOf_4cfef 24 = .ok (.if_icmp .lt 5, 3) := by decide +kernel
theorem dJ1_indexOf_4cfef_27 : decode cJ1_indexOf_4cfef 27 = .ok (.iconst (-1), 1) := by decide +kernel
theorem dJ1_indexOf_4cfef_28 : decode cJ1_indexOf_4cfef 28 = .ok (.ireturn, 1) := by decide +kernel
theorem dJ1_indexOf_4cfef_29 : decode cJ1_indexOf_4cfef 29 = .ok (.aload_n 0, 1) := by decide +kernel
theorem dJ1_indexOf_4cfef_30 : decode cJ1_indexOf_4cfef 30 = .ok (.iload_n 1, 1) := by decide +kernel
theorem dJ1_indexOf_4cfef_31 : decode cJ1_indexOf_4cfef 31 = .ok (.iload_n 2, 1) := by decide +kernel
theorem dJ1_indexOf_4cfef_32 : decode cJ1_indexOf_4cfef 32 = .ok (.iload_n 3, 1) := by decide +kernel
theorem dJ1_indexOf_4cfef_33 : decode cJ1_indexOf_4cfef 33 = .ok (.invokestatic 95, 3) := by decide +kernel
theorem dJ1_indexOf_4cfef_36 : decode cJ1_indexOf_4cfef 36 = .ok (.ireturn, 1) := by decide +kernel
theorem dJ1_indexOfChar_4cfef_0 : decode cJ1_indexOfChar_4cfef 0 = .ok (.iload_n 1, 1) := by decide +kernel
theorem dJ1_indexOfChar_4cfef_1 : decode cJ1_indexOfChar_4cfef 1 = .ok (.i2b, 1) := by decide +kernel
theorem dJ1_indexOfChar_4cfef_2 : decode cJ1_indexOfChar_4cfef 2 = .ok (.istore 4, 2) := by decide +kernel
theorem dJ1_indexOfChar_4cfef_4 : decode cJ1_indexOfChar_4cfef 4 = .ok (.iload_n 2, 1) := by decide +kernel
theorem dJ1_indexOfChar_4cfef_5 : decode cJ1_indexOfChar_4cfef 5 = .ok (.istore 5, 2) := by decide +kernel
theorem dJ1_indexOfChar_4cfef_7 : decode cJ1_indexOfChar_4cfef 7 = .ok (.iload 5, 2) := by decide +kernel
theorem dJ1_indexOfChar_4cfef_9 : decode cJ1_indexOfChar_4cfef 9 = .ok (.iload_n 3, 1) := by decide +kernel
theorem dJ1_indexOfChar_4cfef_10 : decode cJ1_indexOfChar_4cfef 10 = .ok (.if_icmp .ge 21, 3) := by decide +kernel
theorem dJ1_indexOfChar_4cfef_13 : decode cJ1_indexOfChar_4cfef 13 = .ok (.aload_n 0, 1) := by decide +kernel
theorem dJ1_indexOfChar_4cfef_14 : decode cJ1_indexOfChar_4cfef 14 = .ok (.iload 5, 2) := by decide +kernel
theorem dJ1_indexOfChar_4cfef_16 : decode cJ1_indexOfChar_4cfef 16 = .ok (.baload, 1) := by decide +kernel
theorem dJ1_indexOfChar_4cfef_17 : decode cJ1_indexOfChar_4cfef 17 = .ok (.iload 4, 2) := by decide +kernel
theorem dJ1_indexOfChar_4cfef_19 : decode cJ1_indexOfChar_4cfef 19 = .ok (.if_icmp .ne 6, 3) := by decide +kernel
theorem dJ1_indexOfChar_4cfef_22 : decode cJ1_indexOfChar_4cfef 22 = .ok (.iload 5, 2) := by decide +kernel
theorem dJ1_indexOfChar_4cfef_24 : decode cJ1_indexOfChar_4cfef 24 = .ok (.ireturn, 1) := by decide +kernel
theorem dJ1_indexOfChar_4cfef_25 : decode cJ1_indexOfChar_4cfef 25 = .ok (.iinc 5 1, 3) := by decide +kernel
theorem dJ1_indexOfChar_4cfef_28 : decode cJ1_indexOfChar_4cfef 28 = .ok (.goto (-21), 3) := by decide +kernel
theorem dJ1_indexOfChar_4cfef_31 : decode cJ1_indexOfChar_4cfef 31 = .ok (.iconst (-1), 1) := by decide +kernel
theorem dJ1_indexOfChar_4cfef_32 : decode cJ1_indexOfChar_4cfef 32 = .ok (.ireturn, 1) := by decide +kernel
theorem dJ2_getChar_3b067_0 : decode cJ2_getChar_3b067 0 = .ok (.getstatic 44, 3) := by decide +kernel
theorem dJ2_getChar_3b067_3 : decode cJ2_getChar_3b067 3 = .ok (.ifCond .ne 25, 3) := by decide +kernel
theorem dJ2_getChar_3b067_6 : decode cJ2_getChar_3b067 6 = .ok (.iload_n 1, 1) := by decide +kernel
theorem dJ2_getChar_3b067_7 : decode cJ2_getChar_3b067 7 = .ok (.ifCond .lt 11, 3) := by decide +kernel
theorem dJ2_getChar_3b067_10 : decode cJ2_getChar_3b067 10 = .ok (.iload_n 1, 1) := by decide +kernel
theorem dJ2_getChar_3b067_11 : decode cJ2_getChar_3b067 11 = .ok (.aload_n 0, 1) := by decide +kernel
theorem dJ2_getChar_3b067_12 : decode cJ2_getChar_3b067 12 = .ok (.invokestatic 48, 3) := by decide +kernel
theorem dJ2_getChar_3b067_15 : decode cJ2_getChar_3b067 15 = .ok (.if_icmp .lt 13, 3) := by decide +kernel
theorem dJ2_getChar_3b067_18 : decode cJ2_getChar_3b067 18 = .ok (.new 52, 3) := by decide +kernel
theorem dJ2_getChar_3b067_21 : decode cJ2_getChar_3b067 21 = .ok (.dup, 1) := by decide +kernel
theorem dJ2_getChar_3b067_22 : decode cJ2_getChar_3b067 22 = .ok (.ldc 54, 2) := by decide +kernel
theorem dJ2_getChar_3b067_24 : decode cJ2_getChar_3b067 24 = .ok (.invokespecial 56, 3) := by decide +kernel
theorem dJ2_getChar_3b067_27 : decode cJ2_getChar_3b067 27 = .ok (.athrow, 1) := by decide +kernel
theorem dJ2_getChar_3b067_28 : decode cJ2_getChar_3b067 28 = .ok (.iload_n 1, 1) := by decide +kernel
theorem dJ2_getChar_3b067_29 : decode cJ2_getChar_3b067 29 = .ok (.iconst 1, 1) := by decide +kernel
theorem dJ2_getChar_3b067_30 : decode cJ2_getChar_3b067 30 = .ok (.ishl, 1) := by decide +kernel
theorem dJ2_getChar_3b067_31 : decode cJ2_getChar_3b067 31 = .ok (.istore_n 1, 1) := by decide +kernel
theorem dJ2_getChar_3b067_32 : decode cJ2_getChar_3b067 32 = .ok (.aload_n 0, 1) := by decide +kernel
theorem dJ2_getChar_3b067_33 : decode cJ2_getChar_3b067 33 = .ok (.iload_n 1, 1) := by decide +kernel
theorem dJ2_getChar_3b067_34 : decode cJ2_getChar_3b067 34 = .ok (.iinc 1 1, 3) := by decide +kernel
theorem dJ2_getChar_3b067_37 : decode cJ2_getChar_3b067 37 = .ok (.baload, 1) := by decide +kernel
theorem dJ2_getChar_3b067_38 : decode cJ2_getChar_3b067 38 = .ok (.sipush 255, 3) := by decide +kernel
theorem dJ2_getChar_3b067_41 : decode cJ2_getChar_3b067 41 = .ok (.iand, 1) := by decide +kernel
theorem dJ2_getChar_3b067_42 : decode cJ2_getChar_3b067 42 = .ok (.getstatic 59, 3) := by decide +kernel
theorem dJ2_getChar_3b067_45 : decode cJ2_getChar_3b067 45 = .ok (.ishl, 1) := by decide +kernel
theorem dJ2_getChar_3b067_46 : decode cJ2_getChar_3b067 46 = .ok (.aload_n 0, 1) := by decide +kernel
theorem dJ2_getChar_3b067_47 : decode cJ2_getChar_3b067 47 = .ok (.iload_n 1, 1) := by decide +kernel
theorem dJ2_getChar_3b067_48 : decode cJ2_getChar_3b067 48 = .ok (.baload, 1) := by decide +kernel
theorem dJ2_getChar_3b067_49 : decode cJ2_getChar_3b067 49 = .ok (.sipush 255, 3) := by decide +kernel
theorem dJ2_getChar_3b067_52 : decode cJ2_getChar_3b067 52 = .ok (.iand, 1) := by decide +kernel
theorem dJ2_getChar_3b067_53 : decode cJ2_getChar_3b067 53 = .ok (.getstatic 63, 3) := by decide +kernel
theorem dJ2_getChar_3b067_56 : decode cJ2_getChar_3b067 56 = .ok (.ishl, 1) := by decide +kernel
theorem dJ2_getChar_3b067_57 : decode cJ2_getChar_3b067 57 = .ok (.ior, 1) := by decide +kernel
theorem dJ2_getChar_3b067_58 : decode cJ2_getChar_3b067 58 = .ok (.i2c, 1) := by decide +kernel
theorem dJ2_getChar_3b067_59 : decode cJ2_getChar_3b067 59 = .ok (.ireturn, 1) := by decide +kernel
theorem dJ2_length_9d52b_0 : decode cJ2_length_9d52b 0 = .ok (.aload_n 0, 1) := by decide +kernel
theorem dJ2_length_9d52b_1 : decode cJ2_length_9d52b 1 = .ok (.arraylength, 1) := by decide +kernel
theorem dJ2_length_9d52b_2 : decode cJ2_length_9d52b 2 = .ok (.iconst 1, 1) := by decide +kernel
theorem dJ2_length_9d52b_3 : decode cJ2_length_9d52b 3 = .ok (.ishr, 1) := by decide +kernel
theorem dJ2_length_9d52b_4 : decode cJ2_length_9d52b 4 = .ok (.ireturn, 1) := by decide +kernel
theorem dJ2_indexOf_4cfef_0 : decode cJ2_indexOf_4cfef 0 = .ok (.iload_n 2, 1) := by decide +kernel
theorem dJ2_indexOf_4cfef_1 : decode cJ2_indexOf_4cfef 1 = .ok (.iconst 0, 1) := by decide +kernel
theorem dJ2_indexOf_4cfef_2 : decode cJ2_indexOf_4cfef 2 = .ok (.invokestatic 224, 3) := by decide +kernel
theorem dJ2_indexOf_4cfef_5 : decode cJ2_indexOf_4cfef 5 = .ok (.istore_n 2, 1) := by decide +kernel
theorem dJ2_indexOf_4cfef_6 : decode cJ2_indexOf_4cfef 6 = .ok (.iload_n 3, 1) := by decide +kernel
theorem dJ2_indexOf_4cfef_7 : decode cJ2_indexOf_4cfef 7 = .ok (.aload_n 0, 1) := by decide +kernel
theorem dJ2_indexOf_4cfef_8 : decode cJ2_indexOf_4cfef 8 = .ok (.arraylength, 1) := by decide +kernel
theorem dJ2_indexOf_4cfef_9 : decode cJ2_indexOf_4cfef 9 = .ok (.iconst 1, 1) := by decide +kernel
theorem dJ2_indexOf_4cfef_10 : decode cJ2_indexOf_4cfef 10 = .ok (.ishr, 1) := by decide +kernel
theorem dJ2_indexOf_4cfef_11 : decode cJ2_indexOf_4cfef 11 = .ok (.invokestatic 183, 3) := by decide +kernel
theorem dJ2_indexOf_4cfef_14 : decode cJ2_indexOf_4cfef 14 = .ok (.istore_n 3, 1) := by decide +kernel
theorem dJ2_indexOf_4cfef_15 : decode cJ2_indexOf_4cfef 15 = .ok (.iload_n 2, 1) := by decide +kernel
theorem dJ2_indexOf_4cfef_16 : decode cJ2_indexOf_4cfef 16 = .ok (.iload_n 3, 1) := by decide +kernel
theorem dJ2_indexOf_4cfef_17 : decode cJ2_indexOf_4cfef 17 = .ok (.if_icmp .lt 5, 3) := by decide +kernel
theorem dJ2_indexOf_4cfef_20 : decode cJ2_indexOf_4cfef 20 = .ok (.iconst (-1), 1) := by decide +kernel
theorem dJ2_indexOf_4cfef_21 : decode cJ2_indexOf_4cfef 21 = .ok (.ireturn, 1) := by decide +kernel
theorem dJ2_indexOf_4cfef_22 : decode cJ2_indexOf_4cfef 22 = .ok (.iload_n 1, 1) := by decide +kernel
theorem dJ2_indexOf_4cfef_23 : decode cJ2_indexOf_4cfef 23 = .ok (.ldc 227, 2) := by decide +kernel
theorem dJ2_indexOf_4cfef_25 : decode cJ2_indexOf_4cfef 25 = .ok (.if_icmp .ge 11, 3) := by decide +kernel
theorem dJ2_indexOf_4cfef_28 : decode cJ2_indexOf_4cfef 28 = .ok (.aload_n 0, 1) := by decide +kernel
theorem dJ2_indexOf_4cfef_29 : decode cJ2_indexOf_4cfef 29 = .ok (.iload_n 1, 1) := by decide +kernel
theorem dJ2_indexOf_4cfef_30 : decode cJ2_indexOf_4cfef 30 = .ok (.iload_n 2, 1) := by decide +kernel
theorem dJ2_indexOf_4cfef_31 : decode cJ2_indexOf_4cfef 31 = .ok (.iload_n 3, 1) := by decide +kernel
theorem dJ2_indexOf_4cfef_32 : decode cJ2_indexOf_4cfef 32 = .ok (.invokestatic 228, 3) := by decide +kernel
theorem dJ2_indexOf_4cfef_35 : decode cJ2_indexOf_4cfef 35 = .ok (.ireturn, 1) := by decide +kernel
theorem dJ2_indexOf_4cfef_36 : decode cJ2_indexOf_4cfef 36 = .ok (.aload_n 0, 1) := by decide +kernel
theorem dJ2_indexOf_4cfef_37 : decode cJ2_indexOf_4cfef 37 = .ok (.iload_n 1, 1) := by decide +kernel
theorem dJ2_indexOf_4cfef_38 : decode cJ2_indexOf_4cfef 38 = .ok (.iload_n 2, 1) := by decide +kernel
theorem dJ2_indexOf_4cfef_39 : decode cJ2_indexOf_4cfef 39 = .ok (.iload_n 3, 1) := by decide +kernel
theorem dJ2_indexOf_4cfef_40 : decode cJ2_indexOf_4cfef 40 = .ok (.invokestatic 232, 3) := by decide +kernel
theorem dJ2_indexOf_4cfef_43 : decode cJ2_indexOf_4cfef 43 = .ok (.ireturn, 1) := by decide +kernel
theorem dJ2_indexOfChar_4cfef_0 : decode cJ2_indexOfChar_4cfef 0 = .ok (.iload_n 2, 1) := by decide +kernel
theorem dJ2_indexOfChar_4cfef_1 : decode cJ2_indexOfChar_4cfef 1 = .ok (.iload_n 3, 1) := by decide +kernel
theorem dJ2_indexOfChar_4cfef_2 : decode cJ2_indexOfChar_4cfef 2 = .ok (.aload_n 0, 1) := by decide +kernel
theorem dJ2_indexOfChar_4cfef_3 : decode cJ2_indexOfChar_4cfef 3 = .ok (.invokestatic 96, 3) := by decide +kernel
theorem dJ2_indexOfChar_4cfef_6 : decode cJ2_indexOfChar_4cfef 6 = .ok (.aload_n 0, 1) := by decide +kernel
theorem dJ2_indexOfChar_4cfef_7 : decode cJ2_indexOfChar_4cfef 7 = .ok (.iload_n 1, 1) := by decide +kernel
theorem dJ2_indexOfChar_4cfef_8 : decode cJ2_indexOfChar_4cfef 8 = .ok (.iload_n 2, 1) := by decide +kernel
theorem dJ2_indexOfChar_4cfef_9 : decode cJ2_indexOfChar_4cfef 9 = .ok (.iload_n 3, 1) := by decide +kernel
theorem dJ2_indexOfChar_4cfef_10 : decode cJ2_indexOfChar_4cfef 10 = .ok (.invokestatic 244, 3) := by decide +kernel
theorem dJ2_indexOfChar_4cfef_13 : decode cJ2_indexOfChar_4cfef 13 = .ok (.ireturn, 1) := by decide +kernel
theorem dJ2_indexOfCharUnsafe_4cfef_0 : decode cJ2_indexOfCharUnsafe_4cfef 0 = .ok (.iload_n 2, 1) := by decide +kernel
theorem dJ2_indexOfCharUnsafe_4cfef_1 : decode cJ2_indexOfCharUnsafe_4cfef 1 = .ok (.istore 4, 2) := by decide +kernel
theorem dJ2_indexOfCharUnsafe_4cfef_3 : decode cJ2_indexOfCharUnsafe_4cfef 3 = .ok (.iload 4, 2) := by decide +kernel
theorem dJ2_indexOfCharUnsafe_4cfef_5 : decode cJ2_indexOfCharUnsafe_4cfef 5 = .ok (.iload_n 3, 1) := by decide +kernel
theorem dJ2_indexOfCharUnsafe_4cfef_6 : decode cJ2_indexOfCharUnsafe_4cfef 6 = .ok (.if_icmp .ge 22, 3) := by decide +kernel
theorem dJ2_indexOfCharUnsafe_4cfef_9 : decode cJ2_indexOfCharUnsafe_4cfef 9 = .ok (.aload_n 0, 1) := by decide +kernel
theorem dJ2_indexOfCharUnsafe_4cfef_10 : decode cJ2_indexOfCharUnsafe_4cfef 10 = .ok (.iload 4, 2) := by decide +kernel
theorem dJ2_indexOfCharUnsafe_4cfef_12 : decode cJ2_indexOfCharUnsafe_4cfef 12 = .ok (.invokestatic 71, 3) := by decide +kernel
theorem dJ2_indexOfCharUnsafe_4cfef_15 : decode cJ2_indexOfCharUnsafe_4cfef 15 = .ok (.iload_n 1, 1) := by decide +kernel
theorem dJ2_indexOfCharUnsafe_4cfef_16 : decode cJ2_indexOfCharUnsafe_4cfef 16 = .ok (.if_icmp .ne 6, 3) := by decide +kernel
theorem dJ2_indexOfCharUnsafe_4cfef_19 : decode cJ2_indexOfCharUnsafe_4cfef 19 = .ok (.iload 4, 2) := by decide +kernel
theorem dJ2_indexOfCharUnsafe_4cfef_21 : decode cJ2_indexOfCharUnsafe_4cfef 21 = .ok (.ireturn, 1) := by decide +kernel
theorem dJ2_indexOfCharUnsafe_4cfef_22 : decode cJ2_indexOfCharUnsafe_4cfef 22 = .ok (.iinc 4 1, 3) := by decide +kernel
theorem dJ2_indexOfCharUnsafe_4cfef_25 : decode cJ2_indexOfCharUnsafe_4cfef 25 = .ok (.goto (-22), 3) := by decide +kernel
theorem dJ2_indexOfCharUnsafe_4cfef_28 : decode cJ2_indexOfCharUnsafe_4cfef 28 = .ok (.iconst (-1), 1) := by decide +kernel
theorem dJ2_indexOfCharUnsafe_4cfef_29 : decode cJ2_indexOfCharUnsafe_4cfef 29 = .ok (.ireturn, 1) := by decide +kernel
theorem dJ2_indexOfSupplementary_4cfef_0 : decode cJ2_indexOfSupplementary_4cfef 0 = .ok (.iload_n 1, 1) := by decide +kernel
theorem dJ2_indexOfSupplementary_4cfef_1 : decode cJ2_indexOfSupplementary_4cfef 1 = .ok (.invokestatic 164, 3) := by decide +kernel
theorem dJ2_indexOfSupplementary_4cfef_4 : decode cJ2_indexOfSupplementary_4cfef 4 = .ok (.ifCond .eq 65, 3) := by decide +kernel
theorem dJ2_indexOfSupplementary_4cfef_7 : decode cJ2_indexOfSupplementary_4cfef 7 = .ok (.iload_n 1, 1) := by decide +kernel
theorem dJ2_indexOfSupplementary_4cfef_8 : decode cJ2_indexOfSupplementary_4cfef 8 = .ok (.invokestatic 157, 3) := by decide +kernel
theorem dJ2_indexOfSupplementary_4cfef_11 : decode cJ2_indexOfSupplementary_4cfef 11 = .ok (.istore 4, 2) := by decide +kernel
theorem dJ2_indexOfSupplementary_4cfef_13 : decode cJ2_indexOfSupplementary_4cfef 13 = .ok (.iload_n 1, 1) := by decide +kernel
theorem dJ2_indexOfSupplementary_4cfef_14 : decode cJ2_indexOfSupplementary_4cfef 14 = .ok (.invokestatic 161, 3) := by decide +kernel
theorem dJ2_indexOfSupplementary_4cfef_17 : decode cJ2_indexOfSupplementary_4cfef 17 = .ok (.istore 5, 2) := by decide +kernel
theorem dJ2_indexOfSupplementary_4cfef_19 : decode cJ2_indexOfSupplementary_4cfef 19 = .ok (.iload_n 2, 1) := by decide +kernel
theorem dJ2_indexOfSupplementary_4cfef_20 : decode cJ2_indexOfSupplementary_4cfef 20 = .ok (.iload_n 3, 1) := by decide +kernel
theorem dJ2_indexOfSupplementary_4cfef_21 : decode cJ2_indexOfSupplementary_4cfef 21 = .ok (.aload_n 0, 1) := by decide +kernel
theorem dJ2_indexOfSupplementary_4cfef_22 : decode cJ2_indexOfSupplementary_4cfef 22 = .ok (.invokestatic 96, 3) := by decide +kernel
theorem dJ2_indexOfSupplementary_4cfef_25 : decode cJ2_indexOfSupplementary_4cfef 25 = .ok (.iload_n 2, 1) := by decide +kernel
theorem dJ2_indexOfSupplementary_4cfef_26 : decode cJ2_indexOfSupplementary_4cfef 26 = .ok (.istore 6, 2) := by decide +kernel
theorem dJ2_indexOfSupplementary_4cfef_28 : decode cJ2_indexOfSupplementary_4cfef 28 = .ok (.iload 6, 2) := by decide +kernel
theorem dJ2_indexOfSupplementary_4cfef_30 : decode cJ2_indexOfSupplementary_4cfef 30 = .ok (.iload_n 3, 1) := by decide +kernel
theorem dJ2_indexOfSupplementary_4cfef_31 : decode cJ2_indexOfSupplementary_4cfef 31 = .ok (.iconst 1, 1) := by decide +kernel
theorem dJ2_indexOfSupplementary_4cfef_32 : decode cJ2_indexOfSupplementary_4cfef 32 = .ok (.isub, 1) := by decide +kernel
theorem dJ2_indexOfSupplementary_4cfef_33 : decode cJ2_indexOfSupplementary_4cfef 33 = .ok (.if_icmp .ge 36, 3) := by decide +kernel
theorem dJ2_indexOfSupplementary_4cfef_36 : decode cJ2_indexOfSupplementary_4cfef 36 = .ok (.aload_n 0, 1) := by decide +kernel
theorem dJ2_indexOfSupplementary_4cfef_37 : decode cJ2_indexOfSupplementary_4cfef 37 = .ok (.iload 6, 2) := by decide +kernel
theorem dJ2_indexOfSupplementary_4cfef_39 : decode cJ2_indexOfSupplementary_4cfef 39 = .ok (.invokestatic 71, 3) := by decide +kernel
theorem dJ2_indexOfSupplementary_4cfef_42 : decode cJ2_indexOfSupplementary_4cfef 42 = .ok (.iload 4, 2) := by decide +kernel
theorem dJ2_indexOfSupplementary_4cfef_44 : decode cJ2_indexOfSupplementary_4cfef 44 = .ok (.if_icmp .ne 19, 3) := by decide +kernel
theorem dJ2_indexOfSupplementary_4cfef_47 : decode cJ2_indexOfSupplementary_4cfef 47 = .ok (.aload_n 0, 1) := by decide +kernel
theorem dJ2_indexOfSupplementary_4cfef_48 : decode cJ2_indexOfSupplementary_4cfef 48 = .ok (.iload 6, 2) := by decide +kernel
theorem dJ2_indexOfSupplementary_4cfef_50 : decode cJ2_indexOfSupplementary_4cfef 50 = .ok (.iconst 1, 1) := by decide +kernel
theorem dJ2_indexOfSupplementary_4cfef_51 : decode cJ2_indexOfSupplementary_4cfef 51 = .ok (.iadd, 1) := by decide +kernel
theorem dJ2_indexOfSupplementary_4cfef_52 : decode cJ2_indexOfSupplementary_4cfef 52 = .ok (.invokestatic 71, 3) := by decide +kernel
theorem dJ2_indexOfSupplementary_4cfef_55 : decode cJ2_indexOfSupplementary_4cfef 55 = .ok (.iload 5, 2) := by decide +kernel
theorem dJ2_indexOfSupplementary_4cfef_57 : decode cJ2_indexOfSupplementary_4cfef 57 = .ok (.if_icmp .ne 6, 3) := by decide +kernel
theorem dJ2_indexOfSupplementary_4cfef_60 : decode cJ2_indexOfSupplementary_4cfef 60 = .ok (.iload 6, 2) := by decide +kernel
theorem dJ2_indexOfSupplementary_4cfef_62 : decode cJ2_indexOfSupplementary_4cfef 62 = .ok (.ireturn, 1) := by decide +kernel
theorem dJ2_indexOfSupplementary_4cfef_63 : decode cJ2_indexOfSupplementary_4cfef 63 = .ok (.iinc 6 1, 3) := by decide +kernel
theorem dJ2_indexOfSupplementary_4cfef_66 : decode cJ2_indexOfSupplementary_4cfef 66 = .ok (.goto (-38), 3) := by decide +kernel
theorem dJ2_indexOfSupplementary_4cfef_69 : decode cJ2_indexOfSupplementary_4cfef 69 = .ok (.iconst (-1), 1) := by decide +kernel
theorem dJ2_indexOfSupplementary_4cfef_70 : decode cJ2_indexOfSupplementary_4cfef 70 = .ok (.ireturn, 1) := by decide +kernel
theorem dJ2_charAt_3b067_0 : decode cJ2_charAt_3b067 0 = .ok (.iload_n 1, 1) := by decide +kernel
theorem dJ2_charAt_3b067_1 : decode cJ2_charAt_3b067 1 = .ok (.aload_n 0, 1) := by decide +kernel
theorem dJ2_charAt_3b067_2 : decode cJ2_charAt_3b067 2 = .ok (.invokestatic 67, 3) := by decide +kernel
theorem dJ2_charAt_3b067_5 : decode cJ2_charAt_3b067 5 = .ok (.aload_n 0, 1) := by decide +kernel
theorem dJ2_charAt_3b067_6 : decode cJ2_charAt_3b067 6 = .ok (.iload_n 1, 1) := by decide +kernel
theorem dJ2_charAt_3b067_7 : decode cJ2_charAt_3b067 7 = .ok (.invokestatic 71, 3) := by decide +kernel
theorem dJ2_charAt_3b067_10 : decode cJ2_charAt_3b067 10 = .ok (.ireturn, 1) := by decide +kernel
theorem dJ2_checkIndex_2214a_0 : decode cJ2_checkIndex_2214a 0 = .ok (.iload_n 0, 1) := by decide +kernel
theorem dJ2_checkIndex_2214a_1 : decode cJ2_checkIndex_2214a 1 = .ok (.aload_n 1, 1) := by decide +kernel
theorem dJ2_checkIndex_2214a_2 : decode cJ2_checkIndex_2214a 2 = .ok (.invokestatic 48, 3) := by decide +kernel
theorem dJ2_checkIndex_2214a_5 : decode cJ2_checkIndex_2214a 5 = .ok (.invokestatic 414, 3) := by decide +kernel
theorem dJ2_checkIndex_2214a_8 : decode cJ2_checkIndex_2214a 8 = .ok (.return_, 1) := by decide +kernel
theorem dJ2_checkBoundsBeginEnd_d044e_0 : decode cJ2_checkBoundsBeginEnd_d044e 0 = .ok (.iload_n 0, 1) := by decide +kernel
theorem dJ2_checkBoundsBeginEnd_d044e_1 : decode cJ2_checkBoundsBeginEnd_d044e 1 = .ok (.iload_n 1, 1) := by decide +kernel
theorem dJ2_checkBoundsBeginEnd_d044e_2 : decode cJ2_checkBoundsBeginEnd_d044e 2 = .ok (.aload_n 2, 1) := by decide +kernel
theorem dJ2_checkBoundsBeginEnd_d044e_3 : decode cJ2_checkBoundsBeginEnd_d044e 3 = .ok (.invokestatic 48, 3) := by decide +kernel
theorem dJ2_checkBoundsBeginEnd_d044e_6 : decode cJ2_checkBoundsBeginEnd_d044e 6 = .ok (.invokestatic 241, 3) := by decide +kernel
theorem dJ2_checkBoundsBeginEnd_d044e_9 : decode cJ2_checkBoundsBeginEnd_d044e 9 = .ok (.return_, 1) := by decide +kernel
theorem dJ7_copyOf_59c91_0 : decode cJ7_copyOf_59c91 0 = .ok (.iload_n 1, 1) := by decide +kernel
theorem dJ7_copyOf_59c91_1 : decode cJ7_copyOf_59c91 1 = .ok (.aload_n 0, 1) := by decide +kernel
theorem dJ7_copyOf_59c91_2 : decode cJ7_copyOf_59c91 2 = .ok (.arraylength, 1) := by decide +kernel
theorem dJ7_copyOf_59c91_3 : decode cJ7_copyOf_59c91 3 = .ok (.if_icmp .ne 11, 3) := by decide +kernel
theorem dJ7_copyOf_59c91_6 : decode cJ7_copyOf_59c91 6 = .ok (.aload_n 0, 1) := by decide +kernel
theorem dJ7_copyOf_59c91_7 : decode cJ7_copyOf_59c91 7 = .ok (.invokevirtual 316, 3) := by decide +kernel
theorem dJ7_copyOf_59c91_10 : decode cJ7_copyOf_59c91 10 = .ok (.checkcast 317, 3) := by decide +kernel
theorem dJ7_copyOf_59c91_13 : decode cJ7_copyOf_59c91 13 = .ok (.areturn, 1) := by decide +kernel
theorem dJ7_copyOf_59c91_14 : decode cJ7_copyOf_59c91 14 = .ok (.iload_n 1, 1) := by decide +kernel
theorem dJ7_copyOf_59c91_15 : decode cJ7_copyOf_59c91 15 = .ok (.newarray .int, 2) := by decide +kernel
theorem dJ7_copyOf_59c91_17 : decode cJ7_copyOf_59c91 17 = .ok (.astore_n 2, 1) := by decide +kernel
theorem dJ7_copyOf_59c91_18 : decode cJ7_copyOf_59c91 18 = .ok (.aload_n 0, 1) := by decide +kernel
theorem dJ7_copyOf_59c91_19 : decode cJ7_copyOf_59c91 19 = .ok (.iconst 0, 1) := by decide +kernel
theorem dJ7_copyOf_59c91_20 : decode cJ7_copyOf_59c91 20 = .ok (.aload_n 2, 1) := by decide +kernel
theorem dJ7_copyOf_59c91_21 : decode cJ7_copyOf_59c91 21 = .ok (.iconst 0, 1) := by decide +kernel
theorem dJ7_copyOf_59c91_22 : decode cJ7_copyOf_59c91 22 = .ok (.aload_n 0, 1) := by decide +kernel
theorem dJ7_copyOf_59c91_23 : decode cJ7_copyOf_59c91 23 = .ok (.arraylength, 1) := by decide +kernel
theorem dJ7_copyOf_59c91_24 : decode cJ7_copyOf_59c91 24 = .ok (.iload_n 1, 1) := by decide +kernel
theorem dJ7_copyOf_59c91_25 : decode cJ7_copyOf_59c91 25 = .ok (.invokestatic 304, 3) := by decide +kernel
theorem dJ7_copyOf_59c91_28 : decode cJ7_copyOf_59c91 28 = .ok (.invokestatic 150, 3) := by decide +kernel
theorem dJ7_copyOf_59c91_31 : decode cJ7_copyOf_59c91 31 = .ok (.aload_n 2, 1) := by decide +kernel
theorem dJ7_copyOf_59c91_32 : decode cJ7_copyOf_59c91 32 = .ok (.areturn, 1) := by decide +kernel
theorem dJ7_copyOf_c38d5_0 : decode cJ7_copyOf_c38d5 0 = .ok (.iload_n 1, 1) := by decide +kernel
theorem dJ7_copyOf_c38d5_1 : decode cJ7_copyOf_c38d5 1 = .ok (.aload_n 0, 1) := by decide +kernel
theorem dJ7_copyOf_c38d5_2 : decode cJ7_copyOf_c38d5 2 = .ok (.arraylength, 1) := by decide +kernel
theorem dJ7_copyOf_c38d5_3 : decode cJ7_copyOf_c38d5 3 = .ok (.if_icmp .ne 11, 3) := by decide +kernel
theorem dJ7_copyOf_c38d5_6 : decode cJ7_copyOf_c38d5 6 = .ok (.aload_n 0, 1) := by decide +kernel
theorem dJ7_copyOf_c38d5_7 : decode cJ7_copyOf_c38d5 7 = .ok (.invokevirtual 319, 3) := by decide +kernel
theorem dJ7_copyOf_c38d5_10 : decode cJ7_copyOf_c38d5 10 = .ok (.checkcast 320, 3) := by decide +kernel
theorem dJ7_copyOf_c38d5_13 : decode cJ7_copyOf_c38d5 13 = .ok (.areturn, 1) := by decide +kernel
theorem dJ7_copyOf_c38d5_14 : decode cJ7_copyOf_c38d5 14 = .ok (.iload_n 1, 1) := by decide +kernel
theorem dJ7_copyOf_c38d5_15 : decode cJ7_copyOf_c38d5 15 = .ok (.newarray .long, 2) := by decide +kernel
theorem dJ7_copyOf_c38d5_17 : decode cJ7_copyOf_c38d5 17 = .ok (.astore_n 2, 1) := by decide +kernel
theorem dJ7_copyOf_c38d5_18 : decode cJ7_copyOf_c38d5 18 = .ok (.aload_n 0, 1) := by decide +kernel
theorem dJ7_copyOf_c38d5_19 : decode cJ7_copyOf_c38d5 19 = .ok (.iconst 0, 1) := by decide +kernel
theorem dJ7_copyOf_c38d5_20 : decode cJ7_copyOf_c38d5 20 = .ok (.aload_n 2, 1) := by decide +kernel
theorem dJ7_copyOf_c38d5_21 : decode cJ7_copyOf_c38d5 21 = .ok (.iconst 0, 1) := by decide +kernel
theorem dJ7_copyOf_c38d5_22 : decode cJ7_copyOf_c38d5 22 = .ok (.aload_n 0, 1) := by decide +kernel
theorem dJ7_copyOf_c38d5_23 : decode cJ7_copyOf_c38d5 23 = .ok (.arraylength, 1) := by decide +kernel
theorem dJ7_copyOf_c38d5_24 : decode cJ7_copyOf_c38d5 24 = .ok (.iload_n 1, 1) := by decide +kernel
theorem dJ7_copyOf_c38d5_25 : decode cJ7_copyOf_c38d5 25 = .ok (.invokestatic 304, 3) := by decide +kernel
theorem dJ7_copyOf_c38d5_28 : decode cJ7_copyOf_c38d5 28 = .ok (.invokestatic 150, 3) := by decide +kernel
theorem dJ7_copyOf_c38d5_31 : decode cJ7_copyOf_c38d5 31 = .ok (.aload_n 2, 1) := by decide +kernel
theorem dJ7_copyOf_c38d5_32 : decode cJ7_copyOf_c38d5 32 = .ok (.areturn, 1) := by decide +kernel
theorem dJ3_checkIndex_8e157_0 : decode cJ3_checkIndex_8e157 0 = .ok (.iload_n 0, 1) := by decide +kernel
theorem dJ3_checkIndex_8e157_1 : decode cJ3_checkIndex_8e157 1 = .ok (.ifCond .lt 8, 3) := by decide +kernel
theorem dJ3_checkIndex_8e157_4 : decode cJ3_checkIndex_8e157 4 = .ok (.iload_n 0, 1) := by decide +kernel
theorem dJ3_checkIndex_8e157_5 : decode cJ3_checkIndex_8e157 5 = .ok (.iload_n 1, 1) := by decide +kernel
theorem dJ3_checkIndex_8e157_6 : decode cJ3_checkIndex_8e157 6 = .ok (.if_icmp .lt 10, 3) := by decide +kernel
theorem dJ3_checkIndex_8e157_9 : decode cJ3_checkIndex_8e157 9 = .ok (.aload_n 2, 1) := by decide +kernel
theorem dJ3_checkIndex_8e157_10 : decode cJ3_checkIndex_8e157 10 = .ok (.iload_n 0, 1) := by decide +kernel
theorem dJ3_checkIndex_8e157_11 : decode cJ3_checkIndex_8e157 11 = .ok (.iload_n 1, 1) := by decide +kernel
theorem dJ3_checkIndex_8e157_12 : decode cJ3_checkIndex_8e157 12 = .ok (.invokestatic 95, 3) := by decide +kernel
theorem dJ3_checkIndex_8e157_15 : decode cJ3_checkIndex_8e157 15 = .ok (.athrow, 1) := by decide +kernel
theorem dJ3_checkIndex_8e157_16 : decode cJ3_checkIndex_8e157 16 = .ok (.iload_n 0, 1) := by decide +kernel
theorem dJ3_checkIndex_8e157_17 : decode cJ3_checkIndex_8e157 17 = .ok (.ireturn, 1) := by decide +kernel
theorem dJ3_checkFromToIndex_8c36e_0 : decode cJ3_checkFromToIndex_8c36e 0 = .ok (.iload_n 0, 1) := by decide +kernel
theorem dJ3_checkFromToIndex_8c36e_1 : decode cJ3_checkFromToIndex_8c36e 1 = .ok (.ifCond .lt 13, 3) := by decide +kernel
theorem dJ3_checkFromToIndex_8c36e_4 : decode cJ3_checkFromToIndex_8c36e 4 = .ok (.iload_n 0, 1) := by decide +kernel
theorem dJ3_checkFromToIndex_8c36e_5 : decode cJ3_checkFromToIndex_8c36e 5 = .ok (.iload_n 1, 1) := by decide +kernel
theorem dJ3_checkFromToIndex_8c36e_6 : decode cJ3_checkFromToIndex_8c36e 6 = .ok (.if_icmp .gt 8, 3) := by decide +kernel
theorem dJ3_checkFromToIndex_8c36e_9 : decode cJ3_checkFromToIndex_8c36e 9 = .ok (.iload_n 1, 1) := by decide +kernel
theorem dJ3_checkFromToIndex_8c36e_10 : decode cJ3_checkFromToIndex_8c36e 10 = .ok (.iload_n 2, 1) := by decide +kernel
theorem dJ3_checkFromToIndex_8c36e_11 : decode cJ3_checkFromToIndex_8c36e 11 = .ok (.if_icmp .le 11, 3) := by decide +kernel
theorem dJ3_checkFromToIndex_8c36e_14 : decode cJ3_checkFromToIndex_8c36e 14 = .ok (.aload_n 3, 1) := by decide +kernel
theorem dJ3_checkFromToIndex_8c36e_15 : decode cJ3_checkFromToIndex_8c36e 15 = .ok (.iload_n 0, 1) := by decide +kernel
theorem dJ3_checkFromToIndex_8c36e_16 : decode cJ3_checkFromToIndex_8c36e 16 = .ok (.iload_n 1, 1) := by decide +kernel
theorem dJ3_checkFromToIndex_8c36e_17 : decode cJ3_checkFromToIndex_8c36e 17 = .ok (.iload_n 2, 1) := by decide +kernel
theorem dJ3_checkFromToIndex_8c36e_18 : decode cJ3_checkFromToIndex_8c36e 18 = .ok (.invokestatic 99, 3) := by decide +kernel
theorem dJ3_checkFromToIndex_8c36e_21 : decode cJ3_checkFromToIndex_8c36e 21 = .ok (.athrow, 1) := by decide +kernel
theorem dJ3_checkFromToIndex_8c36e_22 : decode cJ3_checkFromToIndex_8c36e 22 = .ok (.iload_n 0, 1) := by decide +kernel
theorem dJ3_checkFromToIndex_8c36e_23 : decode cJ3_checkFromToIndex_8c36e 23 = .ok (.ireturn, 1) := by decide +kernel
theorem dL_tell_0 : decode cL_tell 0 = .ok (.aload_n 2, 1) := by decide +kernel
theorem dL_tell_1 : decode cL_tell 1 = .ok (.iconst 0, 1) := by decide +kernel
theorem dL_tell_2 : decode cL_tell 2 = .ok (.aload_n 0, 1) := by decide +kernel
theorem dL_tell_3 : decode cL_tell 3 = .ok (.iload_n 1, 1) := by decide +kernel
theorem dL_tell_4 : decode cL_tell 4 = .ok (.invokevirtual 7, 3) := by decide +kernel
theorem dL_tell_7 : decode cL_tell 7 = .ok (.i2l, 1) := by decide +kernel
theorem dL_tell_8 : decode cL_tell 8 = .ok (.lastore, 1) := by decide +kernel
theorem dL_tell_9 : decode cL_tell 9 = .ok (.goto 6, 3) := by decide +kernel
theorem dL_tell_12 : decode cL_tell 12 = .ok (.astore_n 3, 1) := by decide +kernel
theorem dL_tell_13 : decode cL_tell 13 = .ok (.iconst 1, 1) := by decide +kernel
theorem dL_tell_14 : decode cL_tell 14 = .ok (.ireturn, 1) := by decide +kernel
theorem dL_tell_15 : decode cL_tell 15 = .ok (.iconst 0, 1) := by decide +kernel
theorem dL_tell_16 : decode cL_tell 16 = .ok (.ireturn, 1) := by decide +kernel
theorem dL_batch_0 : decode cL_batch 0 = .ok (.aload_n 2, 1) := by decide +kernel
theorem dL_batch_1 : decode cL_batch 1 = .ok (.iconst 0, 1) := by decide +kernel
theorem dL_batch_2 : decode cL_batch 2 = .ok (.aload_n 0, 1) := by decide +kernel
theorem dL_batch_3 : decode cL_batch 3 = .ok (.iload_n 1, 1) := by decide +kernel
theorem dL_batch_4 : decode cL_batch 4 = .ok (.invokevirtual 15, 3) := by decide +kernel
theorem dL_batch_7 : decode cL_batch 7 = .ok (.i2l, 1) := by decide +kernel
theorem dL_batch_8 : decode cL_batch 8 = .ok (.lastore, 1) := by decide +kernel
theorem dL_batch_9 : decode cL_batch 9 = .ok (.goto 6, 3) := by decide +kernel
theorem dL_batch_12 : decode cL_batch 12 = .ok (.astore_n 3, 1) := by decide +kernel
theorem dL_batch_13 : decode cL_batch 13 = .ok (.iconst 1, 1) := by decide +kernel
theorem dL_batch_14 : decode cL_batch 14 = .ok (.ireturn, 1) := by decide +kernel
theorem dL_batch_15 : decode cL_batch 15 = .ok (.iconst 0, 1) := by decide +kernel
theorem dL_batch_16 : decode cL_batch 16 = .ok (.ireturn, 1) := by decide +kernel
theorem dL_why_0 : decode cL_why 0 = .ok (.aload_n 2, 1) := by decide +kernel
theorem dL_why_1 : decode cL_why 1 = .ok (.iconst 0, 1) := by decide +kernel
theorem dL_why_2 : decode cL_why 2 = .ok (.aload_n 0, 1) := by decide +kernel
theorem dL_why_3 : decode cL_why 3 = .ok (.iload_n 1, 1) := by decide +kernel
theorem dL_why_4 : decode cL_why 4 = .ok (.invokevirtual 18, 3) := by decide +kernel
theorem dL_why_7 : decode cL_why 7 = .ok (.i2l, 1) := by decide +kernel
theorem dL_why_8 : decode cL_why 8 = .ok (.lastore, 1) := by decide +kernel
theorem dL_why_9 : decode cL_why 9 = .ok (.goto 6, 3) := by decide +kernel
theorem dL_why_12 : decode cL_why 12 = .ok (.astore_n 3, 1) := by decide +kernel
theorem dL_why_13 : decode cL_why 13 = .ok (.iconst 1, 1) := by decide +kernel
theorem dL_why_14 : decode cL_why 14 = .ok (.ireturn, 1) := by decide +kernel
theorem dL_why_15 : decode cL_why 15 = .ok (.iconst 0, 1) := by decide +kernel
theorem dL_why_16 : decode cL_why 16 = .ok (.ireturn, 1) := by decide +kernel
theorem dL_count_0 : decode cL_count 0 = .ok (.aload_n 2, 1) := by decide +kernel
theorem dL_count_1 : decode cL_count 1 = .ok (.iconst 0, 1) := by decide +kernel
theorem dL_count_2 : decode cL_count 2 = .ok (.aload_n 0, 1) := by decide +kernel
theorem dL_count_3 : decode cL_count 3 = .ok (.iload_n 1, 1) := by decide +kernel
theorem dL_count_4 : decode cL_count 4 = .ok (.invokevirtual 23, 3) := by decide +kernel
theorem dL_count_7 : decode cL_count 7 = .ok (.i2l, 1) := by decide +kernel
theorem dL_count_8 : decode cL_count 8 = .ok (.lastore, 1) := by decide +kernel
theorem dL_count_9 : decode cL_count 9 = .ok (.goto 6, 3) := by decide +kernel
theorem dL_count_12 : decode cL_count 12 = .ok (.astore_n 3, 1) := by decide +kernel
theorem dL_count_13 : decode cL_count 13 = .ok (.iconst 1, 1) := by decide +kernel
theorem dL_count_14 : decode cL_count 14 = .ok (.ireturn, 1) := by decide +kernel
theorem dL_count_15 : decode cL_count 15 = .ok (.iconst 0, 1) := by decide +kernel
theorem dL_count_16 : decode cL_count 16 = .ok (.ireturn, 1) := by decide +kernel
theorem dL_tier_0 : decode cL_tier 0 = .ok (.aload_n 3, 1) := by decide +kernel
theorem dL_tier_1 : decode cL_tier 1 = .ok (.iconst 0, 1) := by decide +kernel
theorem dL_tier_2 : decode cL_tier 2 = .ok (.aload_n 0, 1) := by decide +kernel
theorem dL_tier_3 : decode cL_tier 3 = .ok (.iload_n 1, 1) := by decide +kernel
theorem dL_tier_4 : decode cL_tier 4 = .ok (.iload_n 2, 1) := by decide +kernel
theorem dL_tier_5 : decode cL_tier 5 = .ok (.invokevirtual 26, 3) := by decide +kernel
theorem dL_tier_8 : decode cL_tier 8 = .ok (.i2l, 1) := by decide +kernel
theorem dL_tier_9 : decode cL_tier 9 = .ok (.lastore, 1) := by decide +kernel
theorem dL_tier_10 : decode cL_tier 10 = .ok (.goto 7, 3) := by decide +kernel
theorem dL_tier_13 : decode cL_tier 13 = .ok (.astore 4, 2) := by decide +kernel
theorem dL_tier_15 : decode cL_tier 15 = .ok (.iconst 1, 1) := by decide +kernel
theorem dL_tier_16 : decode cL_tier 16 = .ok (.ireturn, 1) := by decide +kernel
theorem dL_tier_17 : decode cL_tier 17 = .ok (.iconst 0, 1) := by decide +kernel
theorem dL_tier_18 : decode cL_tier 18 = .ok (.ireturn, 1) := by decide +kernel
theorem dL_used_0 : decode cL_used 0 = .ok (.aload_n 2, 1) := by decide +kernel
theorem dL_used_1 : decode cL_used 1 = .ok (.iconst 0, 1) := by decide +kernel
theorem dL_used_2 : decode cL_used 2 = .ok (.aload_n 0, 1) := by decide +kernel
theorem dL_used_3 : decode cL_used 3 = .ok (.iload_n 1, 1) := by decide +kernel
theorem dL_used_4 : decode cL_used 4 = .ok (.invokevirtual 30, 3) := by decide +kernel
theorem dL_used_7 : decode cL_used 7 = .ok (.i2l, 1) := by decide +kernel
theorem dL_used_8 : decode cL_used 8 = .ok (.lastore, 1) := by decide +kernel
theorem dL_used_9 : decode cL_used 9 = .ok (.goto 6, 3) := by decide +kernel
theorem dL_used_12 : decode cL_used 12 = .ok (.astore_n 3, 1) := by decide +kernel
theorem dL_used_13 : decode cL_used 13 = .ok (.iconst 1, 1) := by decide +kernel
theorem dL_used_14 : decode cL_used 14 = .ok (.ireturn, 1) := by decide +kernel
theorem dL_used_15 : decode cL_used 15 = .ok (.iconst 0, 1) := by decide +kernel
theorem dL_used_16 : decode cL_used 16 = .ok (.ireturn, 1) := by decide +kernel
theorem dL_of_0 : decode cL_of 0 = .ok (.aload_n 3, 1) := by decide +kernel
theorem dL_of_1 : decode cL_of 1 = .ok (.iconst 0, 1) := by decide +kernel
theorem dL_of_2 : decode cL_of 2 = .ok (.aload_n 0, 1) := by decide +kernel
theorem dL_of_3 : decode cL_of 3 = .ok (.iload_n 1, 1) := by decide +kernel
theorem dL_of_4 : decode cL_of 4 = .ok (.iload_n 2, 1) := by decide +kernel
theorem dL_of_5 : decode cL_of 5 = .ok (.invokevirtual 33, 3) := by decide +kernel
theorem dL_of_8 : decode cL_of 8 = .ok (.lastore, 1) := by decide +kernel
theorem dL_of_9 : decode cL_of 9 = .ok (.goto 7, 3) := by decide +kernel
theorem dL_of_12 : decode cL_of 12 = .ok (.astore 4, 2) := by decide +kernel
theorem dL_of_14 : decode cL_of 14 = .ok (.iconst 1, 1) := by decide +kernel
theorem dL_of_15 : decode cL_of 15 = .ok (.ireturn, 1) := by decide +kernel
theorem dL_of_16 : decode cL_of 16 = .ok (.iconst 0, 1) := by decide +kernel
theorem dL_of_17 : decode cL_of 17 = .ok (.ireturn, 1) := by decide +kernel
theorem dL_seam_0 : decode cL_seam 0 = .ok (.aload_n 3, 1) := by decide +kernel
theorem dL_seam_1 : decode cL_seam 1 = .ok (.iconst 0, 1) := by decide +kernel
theorem dL_seam_2 : decode cL_seam 2 = .ok (.aload_n 0, 1) := by decide +kernel
theorem dL_seam_3 : decode cL_seam 3 = .ok (.iload_n 1, 1) := by decide +kernel
theorem dL_seam_4 : decode cL_seam 4 = .ok (.iload_n 2, 1) := by decide +kernel
theorem dL_seam_5 : decode cL_seam 5 = .ok (.invokevirtual 37, 3) := by decide +kernel
theorem dL_seam_8 : decode cL_seam 8 = .ok (.i2l, 1) := by decide +kernel
theorem dL_seam_9 : decode cL_seam 9 = .ok (.lastore, 1) := by decide +kernel
theorem dL_seam_10 : decode cL_seam 10 = .ok (.goto 7, 3) := by decide +kernel
theorem dL_seam_13 : decode cL_seam 13 = .ok (.astore 4, 2) := by decide +kernel
theorem dL_seam_15 : decode cL_seam 15 = .ok (.iconst 1, 1) := by decide +kernel
theorem dL_seam_16 : decode cL_seam 16 = .ok (.ireturn, 1) := by decide +kernel
theorem dL_seam_17 : decode cL_seam 17 = .ok (.iconst 0, 1) := by decide +kernel
theorem dL_seam_18 : decode cL_seam 18 = .ok (.ireturn, 1) := by decide +kernel
theorem dL_buckets_0 : decode cL_buckets 0 = .ok (.aload_n 3, 1) := by decide +kernel
theorem dL_buckets_1 : decode cL_buckets 1 = .ok (.iconst 0, 1) := by decide +kernel
theorem dL_buckets_2 : decode cL_buckets 2 = .ok (.aload_n 0, 1) := by decide +kernel
theorem dL_buckets_3 : decode cL_buckets 3 = .ok (.iload_n 1, 1) := by decide +kernel
theorem dL_buckets_4 : decode cL_buckets 4 = .ok (.iload_n 2, 1) := by decide +kernel
theorem dL_buckets_5 : decode cL_buckets 5 = .ok (.invokevirtual 40, 3) := by decide +kernel
theorem dL_buckets_8 : decode cL_buckets 8 = .ok (.i2l, 1) := by decide +kernel
theorem dL_buckets_9 : decode cL_buckets 9 = .ok (.lastore, 1) := by decide +kernel
theorem dL_buckets_10 : decode cL_buckets 10 = .ok (.goto 7, 3) := by decide +kernel
theorem dL_buckets_13 : decode cL_buckets 13 = .ok (.astore 4, 2) := by decide +kernel
theorem dL_buckets_15 : decode cL_buckets 15 = .ok (.iconst 1, 1) := by decide +kernel
theorem dL_buckets_16 : decode cL_buckets 16 = .ok (.ireturn, 1) := by decide +kernel
theorem dL_buckets_17 : decode cL_buckets 17 = .ok (.iconst 0, 1) := by decide +kernel
theorem dL_buckets_18 : decode cL_buckets 18 = .ok (.ireturn, 1) := by decide +kernel
theorem dL_bucket_0 : decode cL_bucket 0 = .ok (.aload 5, 2) := by decide +kernel
theorem dL_bucket_2 : decode cL_bucket 2 = .ok (.iconst 0, 1) := by decide +kernel
theorem dL_bucket_3 : decode cL_bucket 3 = .ok (.aload_n 0, 1) := by decide +kernel
theorem dL_bucket_4 : decode cL_bucket 4 = .ok (.iload_n 1, 1) := by decide +kernel
theorem dL_bucket_5 : decode cL_bucket 5 = .ok (.iload_n 2, 1) := by decide +kernel
theorem dL_bucket_6 : decode cL_bucket 6 = .ok (.iload_n 3, 1) := by decide +kernel
theorem dL_bucket_7 : decode cL_bucket 7 = .ok (.iload 4, 2) := by decide +kernel
theorem dL_bucket_9 : decode cL_bucket 9 = .ok (.invokevirtual 43, 3) := by decide +kernel
theorem dL_bucket_12 : decode cL_bucket 12 = .ok (.lastore, 1) := by decide +kernel
theorem dL_bucket_13 : decode cL_bucket 13 = .ok (.goto 7, 3) := by decide +kernel
theorem dL_bucket_16 : decode cL_bucket 16 = .ok (.astore 6, 2) := by decide +kernel
theorem dL_bucket_18 : decode cL_bucket 18 = .ok (.iconst 1, 1) := by decide +kernel
theorem dL_bucket_19 : decode cL_bucket 19 = .ok (.ireturn, 1) := by decide +kernel
theorem dL_bucket_20 : decode cL_bucket 20 = .ok (.iconst 0, 1) := by decide +kernel
theorem dL_bucket_21 : decode cL_bucket 21 = .ok (.ireturn, 1) := by decide +kernel
theorem dL_at_0 : decode cL_at 0 = .ok (.aload 4, 2) := by decide +kernel
theorem dL_at_2 : decode cL_at 2 = .ok (.iconst 0, 1) := by decide +kernel
theorem dL_at_3 : decode cL_at 3 = .ok (.aload_n 0, 1) := by decide +kernel
theorem dL_at_4 : decode cL_at 4 = .ok (.iload_n 1, 1) := by decide +kernel
theorem dL_at_5 : decode cL_at 5 = .ok (.iload_n 2, 1) := by decide +kernel
theorem dL_at_6 : decode cL_at 6 = .ok (.iload_n 3, 1) := by decide +kernel
theorem dL_at_7 : decode cL_at 7 = .ok (.invokevirtual 47, 3) := by decide +kernel
theorem dL_at_10 : decode cL_at 10 = .ok (.i2l, 1) := by decide +kernel
theorem dL_at_11 : decode cL_at 11 = .ok (.lastore, 1) := by decide +kernel
theorem dL_at_12 : decode cL_at 12 = .ok (.goto 7, 3) := by decide +kernel
theorem dL_at_15 : decode cL_at 15 = .ok (.astore 5, 2) := by decide +kernel
theorem dL_at_17 : decode cL_at 17 = .ok (.iconst 1, 1) := by decide +kernel
theorem dL_at_18 : decode cL_at 18 = .ok (.ireturn, 1) := by decide +kernel
theorem dL_at_19 : decode cL_at 19 = .ok (.iconst 0, 1) := by decide +kernel
theorem dL_at_20 : decode cL_at 20 = .ok (.ireturn, 1) := by decide +kernel
theorem dL_total_0 : decode cL_total 0 = .ok (.aload 5, 2) := by decide +kernel
theorem dL_total_2 : decode cL_total 2 = .ok (.iconst 0, 1) := by decide +kernel
theorem dL_total_3 : decode cL_total 3 = .ok (.aload_n 0, 1) := by decide +kernel
theorem dL_total_4 : decode cL_total 4 = .ok (.iload_n 1, 1) := by decide +kernel
theorem dL_total_5 : decode cL_total 5 = .ok (.iload_n 2, 1) := by decide +kernel
theorem dL_total_6 : decode cL_total 6 = .ok (.iload_n 3, 1) := by decide +kernel
theorem dL_total_7 : decode cL_total 7 = .ok (.iload 4, 2) := by decide +kernel
theorem dL_total_9 : decode cL_total 9 = .ok (.invokevirtual 51, 3) := by decide +kernel
theorem dL_total_12 : decode cL_total 12 = .ok (.lastore, 1) := by decide +kernel
theorem dL_total_13 : decode cL_total 13 = .ok (.goto 11, 3) := by decide +kernel
theorem dL_total_16 : decode cL_total 16 = .ok (.astore 6, 2) := by decide +kernel
theorem dL_total_18 : decode cL_total 18 = .ok (.iconst 1, 1) := by decide +kernel
theorem dL_total_19 : decode cL_total 19 = .ok (.ireturn, 1) := by decide +kernel
theorem dL_total_20 : decode cL_total 20 = .ok (.astore 6, 2) := by decide +kernel
theorem dL_total_22 : decode cL_total 22 = .ok (.iconst 2, 1) := by decide +kernel
theorem dL_total_23 : decode cL_total 23 = .ok (.ireturn, 1) := by decide +kernel
theorem dL_total_24 : decode cL_total 24 = .ok (.iconst 0, 1) := by decide +kernel
theorem dL_total_25 : decode cL_total 25 = .ok (.ireturn, 1) := by decide +kernel
theorem dL_gap_0 : decode cL_gap 0 = .ok (.aload 5, 2) := by decide +kernel
theorem dL_gap_2 : decode cL_gap 2 = .ok (.iconst 0, 1) := by decide +kernel
theorem dL_gap_3 : decode cL_gap 3 = .ok (.aload_n 0, 1) := by decide +kernel
theorem dL_gap_4 : decode cL_gap 4 = .ok (.iload_n 1, 1) := by decide +kernel
theorem dL_gap_5 : decode cL_gap 5 = .ok (.iload_n 2, 1) := by decide +kernel
theorem dL_gap_6 : decode cL_gap 6 = .ok (.iload_n 3, 1) := by decide +kernel
theorem dL_gap_7 : decode cL_gap 7 = .ok (.iload 4, 2) := by decide +kernel
theorem dL_gap_9 : decode cL_gap 9 = .ok (.invokevirtual 54, 3) := by decide +kernel
theorem dL_gap_12 : decode cL_gap 12 = .ok (.i2l, 1) := by decide +kernel
theorem dL_gap_13 : decode cL_gap 13 = .ok (.lastore, 1) := by decide +kernel
theorem dL_gap_14 : decode cL_gap 14 = .ok (.goto 7, 3) := by decide +kernel
theorem dL_gap_17 : decode cL_gap 17 = .ok (.astore 6, 2) := by decide +kernel
theorem dL_gap_19 : decode cL_gap 19 = .ok (.iconst 1, 1) := by decide +kernel
theorem dL_gap_20 : decode cL_gap 20 = .ok (.ireturn, 1) := by decide +kernel
theorem dL_gap_21 : decode cL_gap 21 = .ok (.iconst 0, 1) := by decide +kernel
theorem dL_gap_22 : decode cL_gap 22 = .ok (.ireturn, 1) := by decide +kernel
theorem dL_bar_0 : decode cL_bar 0 = .ok (.aload 5, 2) := by decide +kernel
theorem dL_bar_2 : decode cL_bar 2 = .ok (.iconst 0, 1) := by decide +kernel
theorem dL_bar_3 : decode cL_bar 3 = .ok (.aload_n 0, 1) := by decide +kernel
theorem dL_bar_4 : decode cL_bar 4 = .ok (.iload_n 1, 1) := by decide +kernel
theorem dL_bar_5 : decode cL_bar 5 = .ok (.iload_n 2, 1) := by decide +kernel
theorem dL_bar_6 : decode cL_bar 6 = .ok (.iload_n 3, 1) := by decide +kernel
theorem dL_bar_7 : decode cL_bar 7 = .ok (.iload 4, 2) := by decide +kernel
theorem dL_bar_9 : decode cL_bar 9 = .ok (.invokevirtual 58, 3) := by decide +kernel
theorem dL_bar_12 : decode cL_bar 12 = .ok (.lastore, 1) := by decide +kernel
theorem dL_bar_13 : decode cL_bar 13 = .ok (.goto 11, 3) := by decide +kernel
theorem dL_bar_16 : decode cL_bar 16 = .ok (.astore 6, 2) := by decide +kernel
theorem dL_bar_18 : decode cL_bar 18 = .ok (.iconst 1, 1) := by decide +kernel
theorem dL_bar_19 : decode cL_bar 19 = .ok (.ireturn, 1) := by decide +kernel
theorem dL_bar_20 : decode cL_bar 20 = .ok (.astore 6, 2) := by decide +kernel
theorem dL_bar_22 : decode cL_bar 22 = .ok (.iconst 2, 1) := by decide +kernel
theorem dL_bar_23 : decode cL_bar 23 = .ok (.ireturn, 1) := by decide +kernel
theorem dL_bar_24 : decode cL_bar 24 = .ok (.iconst 0, 1) := by decide +kernel
theorem dL_bar_25 : decode cL_bar 25 = .ok (.ireturn, 1) := by decide +kernel
theorem dL_alarms_0 : decode cL_alarms 0 = .ok (.aload_n 3, 1) := by decide +kernel
theorem dL_alarms_1 : decode cL_alarms 1 = .ok (.iconst 0, 1) := by decide +kernel
theorem dL_alarms_2 : decode cL_alarms 2 = .ok (.aload_n 0, 1) := by decide +kernel
theorem dL_alarms_3 : decode cL_alarms 3 = .ok (.iload_n 1, 1) := by decide +kernel
theorem dL_alarms_4 : decode cL_alarms 4 = .ok (.iload_n 2, 1) := by decide +kernel
theorem dL_alarms_5 : decode cL_alarms 5 = .ok (.invokevirtual 61, 3) := by decide +kernel
theorem dL_alarms_8 : decode cL_alarms 8 = .ok (.i2l, 1) := by decide +kernel
theorem dL_alarms_9 : decode cL_alarms 9 = .ok (.lastore, 1) := by decide +kernel
theorem dL_alarms_10 : decode cL_alarms 10 = .ok (.goto 7, 3) := by decide +kernel
theorem dL_alarms_13 : decode cL_alarms 13 = .ok (.astore 4, 2) := by decide +kernel
theorem dL_alarms_15 : decode cL_alarms 15 = .ok (.iconst 1, 1) := by decide +kernel
theorem dL_alarms_16 : decode cL_alarms 16 = .ok (.ireturn, 1) := by decide +kernel
theorem dL_alarms_17 : decode cL_alarms 17 = .ok (.iconst 0, 1) := by decide +kernel
theorem dL_alarms_18 : decode cL_alarms 18 = .ok (.ireturn, 1) := by decide +kernel
theorem dL_would_0 : decode cL_would 0 = .ok (.aload 4, 2) := by decide +kernel
theorem dL_would_2 : decode cL_would 2 = .ok (.iconst 0, 1) := by decide +kernel
theorem dL_would_3 : decode cL_would 3 = .ok (.aload_n 0, 1) := by decide +kernel
theorem dL_would_4 : decode cL_would 4 = .ok (.iload_n 1, 1) := by decide +kernel
theorem dL_would_5 : decode cL_would 5 = .ok (.iload_n 2, 1) := by decide +kernel
theorem dL_would_6 : decode cL_would 6 = .ok (.iload_n 3, 1) := by decide +kernel
theorem dL_would_7 : decode cL_would 7 = .ok (.invokevirtual 64, 3) := by decide +kernel
theorem dL_would_10 : decode cL_would 10 = .ok (.i2l, 1) := by decide +kernel
theorem dL_would_11 : decode cL_would 11 = .ok (.lastore, 1) := by decide +kernel
theorem dL_would_12 : decode cL_would 12 = .ok (.goto 11, 3) := by decide +kernel
theorem dL_would_15 : decode cL_would 15 = .ok (.astore 5, 2) := by decide +kernel
theorem dL_would_17 : decode cL_would 17 = .ok (.iconst 1, 1) := by decide +kernel
theorem dL_would_18 : decode cL_would 18 = .ok (.ireturn, 1) := by decide +kernel
theorem dL_would_19 : decode cL_would 19 = .ok (.astore 5, 2) := by decide +kernel
theorem dL_would_21 : decode cL_would 21 = .ok (.iconst 2, 1) := by decide +kernel
theorem dL_would_22 : decode cL_would 22 = .ok (.ireturn, 1) := by decide +kernel
theorem dL_would_23 : decode cL_would 23 = .ok (.iconst 0, 1) := by decide +kernel
theorem dL_would_24 : decode cL_would 24 = .ok (.ireturn, 1) := by decide +kernel
theorem dL_until_0 : decode cL_until 0 = .ok (.aload 4, 2) := by decide +kernel
theorem dL_until_2 : decode cL_until 2 = .ok (.iconst 0, 1) := by decide +kernel
theorem dL_until_3 : decode cL_until 3 = .ok (.aload_n 0, 1) := by decide +kernel
theorem dL_until_4 : decode cL_until 4 = .ok (.iload_n 1, 1) := by decide +kernel
theorem dL_until_5 : decode cL_until 5 = .ok (.iload_n 2, 1) := by decide +kernel
theorem dL_until_6 : decode cL_until 6 = .ok (.iload_n 3, 1) := by decide +kernel
theorem dL_until_7 : decode cL_until 7 = .ok (.invokevirtual 67, 3) := by decide +kernel
theorem dL_until_10 : decode cL_until 10 = .ok (.i2l, 1) := by decide +kernel
theorem dL_until_11 : decode cL_until 11 = .ok (.lastore, 1) := by decide +kernel
theorem dL_until_12 : decode cL_until 12 = .ok (.goto 11, 3) := by decide +kernel
theorem dL_until_15 : decode cL_until 15 = .ok (.astore 5, 2) := by decide +kernel
theorem dL_until_17 : decode cL_until 17 = .ok (.iconst 1, 1) := by decide +kernel
theorem dL_until_18 : decode cL_until 18 = .ok (.ireturn, 1) := by decide +kernel
theorem dL_until_19 : decode cL_until 19 = .ok (.astore 5, 2) := by decide +kernel
theorem dL_until_21 : decode cL_until 21 = .ok (.iconst 2, 1) := by decide +kernel
theorem dL_until_22 : decode cL_until 22 = .ok (.ireturn, 1) := by decide +kernel
theorem dL_until_23 : decode cL_until 23 = .ok (.iconst 0, 1) := by decide +kernel
theorem dL_until_24 : decode cL_until 24 = .ok (.ireturn, 1) := by decide +kernel
theorem dL_trend_0 : decode cL_trend 0 = .ok (.aload 4, 2) := by decide +kernel
theorem dL_trend_2 : decode cL_trend 2 = .ok (.iconst 0, 1) := by decide +kernel
theorem dL_trend_3 : decode cL_trend 3 = .ok (.aload_n 0, 1) := by decide +kernel
theorem dL_trend_4 : decode cL_trend 4 = .ok (.iload_n 1, 1) := by decide +kernel
theorem dL_trend_5 : decode cL_trend 5 = .ok (.iload_n 2, 1) := by decide +kernel
theorem dL_trend_6 : decode cL_trend 6 = .ok (.iload_n 3, 1) := by decide +kernel
theorem dL_trend_7 : decode cL_trend 7 = .ok (.invokevirtual 70, 3) := by decide +kernel
theorem dL_trend_10 : decode cL_trend 10 = .ok (.lastore, 1) := by decide +kernel
theorem dL_trend_11 : decode cL_trend 11 = .ok (.goto 7, 3) := by decide +kernel
theorem dL_trend_14 : decode cL_trend 14 = .ok (.astore 5, 2) := by decide +kernel
theorem dL_trend_16 : decode cL_trend 16 = .ok (.iconst 1, 1) := by decide +kernel
theorem dL_trend_17 : decode cL_trend 17 = .ok (.ireturn, 1) := by decide +kernel
theorem dL_trend_18 : decode cL_trend 18 = .ok (.iconst 0, 1) := by decide +kernel
theorem dL_trend_19 : decode cL_trend 19 = .ok (.ireturn, 1) := by decide +kernel
theorem dL_both_0 : decode cL_both 0 = .ok (.aload 4, 2) := by decide +kernel
theorem dL_both_2 : decode cL_both 2 = .ok (.iconst 0, 1) := by decide +kernel
theorem dL_both_3 : decode cL_both 3 = .ok (.aload_n 0, 1) := by decide +kernel
theorem dL_both_4 : decode cL_both 4 = .ok (.iload_n 1, 1) := by decide +kernel
theorem dL_both_5 : decode cL_both 5 = .ok (.iload_n 2, 1) := by decide +kernel
theorem dL_both_6 : decode cL_both 6 = .ok (.iload_n 3, 1) := by decide +kernel
theorem dL_both_7 : decode cL_both 7 = .ok (.invokevirtual 74, 3) := by decide +kernel
theorem dL_both_10 : decode cL_both 10 = .ok (.i2l, 1) := by decide +kernel
theorem dL_both_11 : decode cL_both 11 = .ok (.lastore, 1) := by decide +kernel
theorem dL_both_12 : decode cL_both 12 = .ok (.goto 7, 3) := by decide +kernel
theorem dL_both_15 : decode cL_both 15 = .ok (.astore 5, 2) := by decide +kernel
theorem dL_both_17 : decode cL_both 17 = .ok (.iconst 1, 1) := by decide +kernel
theorem dL_both_18 : decode cL_both 18 = .ok (.ireturn, 1) := by decide +kernel
theorem dL_both_19 : decode cL_both 19 = .ok (.iconst 0, 1) := by decide +kernel
theorem dL_both_20 : decode cL_both 20 = .ok (.ireturn, 1) := by decide +kernel
theorem dL_law_0 : decode cL_law 0 = .ok (.new 8, 3) := by decide +kernel
theorem dL_law_3 : decode cL_law 3 = .ok (.dup, 1) := by decide +kernel
theorem dL_law_4 : decode cL_law 4 = .ok (.invokespecial 77, 3) := by decide +kernel
theorem dL_law_7 : decode cL_law 7 = .ok (.astore_n 1, 1) := by decide +kernel
theorem dL_law_8 : decode cL_law 8 = .ok (.new 78, 3) := by decide +kernel
theorem dL_law_11 : decode cL_law 11 = .ok (.dup, 1) := by decide +kernel
theorem dL_law_12 : decode cL_law 12 = .ok (.invokespecial 80, 3) := by decide +kernel
theorem dL_law_15 : decode cL_law 15 = .ok (.astore_n 2, 1) := by decide +kernel
theorem dL_law_16 : decode cL_law 16 = .ok (.iconst 1, 1) := by decide +kernel
theorem dL_law_17 : decode cL_law 17 = .ok (.newarray .long, 2) := by decide +kernel
theorem dL_law_19 : decode cL_law 19 = .ok (.astore_n 3, 1) := by decide +kernel
theorem dL_law_20 : decode cL_law 20 = .ok (.iconst 0, 1) := by decide +kernel
theorem dL_law_21 : decode cL_law 21 = .ok (.istore 4, 2) := by decide +kernel
theorem dL_law_23 : decode cL_law 23 = .ok (.iload 4, 2) := by decide +kernel
theorem dL_law_25 : decode cL_law 25 = .ok (.aload_n 0, 1) := by decide +kernel
theorem dL_law_26 : decode cL_law 26 = .ok (.arraylength, 1) := by decide +kernel
theorem dL_law_27 : decode cL_law 27 = .ok (.bipush 7, 2) := by decide +kernel
theorem dL_law_29 : decode cL_law 29 = .ok (.isub, 1) := by decide +kernel
theorem dL_law_30 : decode cL_law 30 = .ok (.if_icmp .gt 1815, 3) := by decide +kernel
theorem dL_law_33 : decode cL_law 33 = .ok (.aload_n 0, 1) := by decide +kernel
theorem dL_law_34 : decode cL_law 34 = .ok (.iload 4, 2) := by decide +kernel
theorem dL_law_36 : decode cL_law 36 = .ok (.iaload, 1) := by decide +kernel
theorem dL_law_37 : decode cL_law 37 = .ok (.bipush 31, 2) := by decide +kernel
theorem dL_law_39 : decode cL_law 39 = .ok (.iand, 1) := by decide +kernel
theorem dL_law_40 : decode cL_law 40 = .ok (.tableswitch 1799 0 24 #[116, 189, 245, 301, 314, 363, 400, 425, 512, 568, 624, 692, 748, 815, 883, 951, 1042, 1122, 1213, 1321, 1412, 1480, 1560, 1640, 1719], 116) := by decide +kernel
theorem dL_law_156 : decode cL_law 156 = .ok (.aload_n 1, 1) := by decide +kernel
theorem dL_law_157 : decode cL_law 157 = .ok (.aload_n 0, 1) := by decide +kernel
theorem dL_law_158 : decode cL_law 158 = .ok (.iload 4, 2) := by decide +kernel
theorem dL_law_160 : decode cL_law 160 = .ok (.iconst 1, 1) := by decide +kernel
theorem dL_law_161 : decode cL_law 161 = .ok (.iadd, 1) := by decide +kernel
theorem dL_law_162 : decode cL_law 162 = .ok (.iaload, 1) := by decide +kernel
theorem dL_law_163 : decode cL_law 163 = .ok (.aload_n 0, 1) := by decide +kernel
theorem dL_law_164 : decode cL_law 164 = .ok (.iload 4, 2) := by decide +kernel
theorem dL_law_166 : decode cL_law 166 = .ok (.iconst 2, 1) := by decide +kernel
theorem dL_law_167 : decode cL_law 167 = .ok (.iadd, 1) := by decide +kernel
theorem dL_law_168 : decode cL_law 168 = .ok (.iaload, 1) := by decide +kernel
theorem dL_law_169 : decode cL_law 169 = .ok (.aload_n 0, 1) := by decide +kernel
theorem dL_law_170 : decode cL_law 170 = .ok (.iload 4, 2) := by decide +kernel
theorem dL_law_172 : decode cL_law 172 = .ok (.iconst 3, 1) := by decide +kernel
theorem dL_law_173 : decode cL_law 173 = .ok (.iadd, 1) := by decide +kernel
theorem dL_law_174 : decode cL_law 174 = .ok (.iaload, 1) := by decide +kernel
theorem dL_law_175 : decode cL_law 175 = .ok (.aload_n 0, 1) := by decide +kernel
theorem dL_law_176 : decode cL_law 176 = .ok (.iload 4, 2) := by decide +kernel
theorem dL_law_178 : decode cL_law 178 = .ok (.iconst 4, 1) := by decide +kernel
theorem dL_law_179 : decode cL_law 179 = .ok (.iadd, 1) := by decide +kernel
theorem dL_law_180 : decode cL_law 180 = .ok (.iaload, 1) := by decide +kernel
theorem dL_law_181 : decode cL_law 181 = .ok (.aload_n 0, 1) := by decide +kernel
theorem dL_law_182 : decode cL_law 182 = .ok (.iload 4, 2) := by decide +kernel
theorem dL_law_184 : decode cL_law 184 = .ok (.iconst 5, 1) := by decide +kernel
theorem dL_law_185 : decode cL_law 185 = .ok (.iadd, 1) := by decide +kernel
theorem dL_law_186 : decode cL_law 186 = .ok (.iaload, 1) := by decide +kernel
theorem dL_law_187 : decode cL_law 187 = .ok (.invokevirtual 81, 3) := by decide +kernel
theorem dL_law_190 : decode cL_law 190 = .ok (.aload_n 2, 1) := by decide +kernel
theorem dL_law_191 : decode cL_law 191 = .ok (.aload_n 0, 1) := by decide +kernel
theorem dL_law_192 : decode cL_law 192 = .ok (.iload 4, 2) := by decide +kernel
theorem dL_law_194 : decode cL_law 194 = .ok (.iconst 1, 1) := by decide +kernel
theorem dL_law_195 : decode cL_law 195 = .ok (.iadd, 1) := by decide +kernel
theorem dL_law_196 : decode cL_law 196 = .ok (.iaload, 1) := by decide +kernel
theorem dL_law_197 : decode cL_law 197 = .ok (.aload_n 0, 1) := by decide +kernel
theorem dL_law_198 : decode cL_law 198 = .ok (.iload 4, 2) := by decide +kernel
theorem dL_law_200 : decode cL_law 200 = .ok (.iconst 2, 1) := by decide +kernel
theorem dL_law_201 : decode cL_law 201 = .ok (.iadd, 1) := by decide +kernel
theorem dL_law_202 : decode cL_law 202 = .ok (.iaload, 1) := by decide +kernel
theorem dL_law_203 : decode cL_law 203 = .ok (.aload_n 0, 1) := by decide +kernel
theorem dL_law_204 : decode cL_law 204 = .ok (.iload 4, 2) := by decide +kernel
theorem dL_law_206 : decode cL_law 206 = .ok (.iconst 3, 1) := by decide +kernel
theorem dL_law_207 : decode cL_law 207 = .ok (.iadd, 1) := by decide +kernel
theorem dL_law_208 : decode cL_law 208 = .ok (.iaload, 1) := by decide +kernel
theorem dL_law_209 : decode cL_law 209 = .ok (.aload_n 0, 1) := by decide +kernel
theorem dL_law_210 : decode cL_law 210 = .ok (.iload 4, 2) := by decide +kernel
theorem dL_law_212 : decode cL_law 212 = .ok (.iconst 4, 1) := by decide +kernel
theorem dL_law_213 : decode cL_law 213 = .ok (.iadd, 1) := by decide +kernel
theorem dL_law_214 : decode cL_law 214 = .ok (.iaload, 1) := by decide +kernel
theorem dL_law_215 : decode cL_law 215 = .ok (.aload_n 0, 1) := by decide +kernel
theorem dL_law_216 : decode cL_law 216 = .ok (.iload 4, 2) := by decide +kernel
theorem dL_law_218 : decode cL_law 218 = .ok (.iconst 5, 1) := by decide +kernel
theorem dL_law_219 : decode cL_law 219 = .ok (.iadd, 1) := by decide +kernel
theorem dL_law_220 : decode cL_law 220 = .ok (.iaload, 1) := by decide +kernel
theorem dL_law_221 : decode cL_law 221 = .ok (.invokevirtual 85, 3) := by decide +kernel
theorem dL_law_224 : decode cL_law 224 = .ok (.if_icmp .eq 1615, 3) := by decide +kernel
theorem dL_law_227 : decode cL_law 227 = .ok (.iconst 0, 1) := by decide +kernel
theorem dL_law_228 : decode cL_law 228 = .ok (.ireturn, 1) := by decide +kernel
theorem dL_law_229 : decode cL_law 229 = .ok (.aload_n 1, 1) := by decide +kernel
theorem dL_law_230 : decode cL_law 230 = .ok (.aload_n 0, 1) := by decide +kernel
theorem dL_law_231 : decode cL_law 231 = .ok (.iload 4, 2) := by decide +kernel
theorem dL_law_233 : decode cL_law 233 = .ok (.iconst 1, 1) := by decide +kernel
theorem dL_law_234 : decode cL_law 234 = .ok (.iadd, 1) := by decide +kernel
theorem dL_law_235 : decode cL_law 235 = .ok (.iaload, 1) := by decide +kernel
theorem dL_law_236 : decode cL_law 236 = .ok (.aload_n 3, 1) := by decide +kernel
theorem dL_law_237 : decode cL_law 237 = .ok (.invokestatic 86, 3) := by decide +kernel
theorem dL_law_240 : decode cL_law 240 = .ok (.istore 5, 2) := by decide +kernel
theorem dL_law_242 : decode cL_law 242 = .ok (.aload_n 2, 1) := by decide +kernel
theorem dL_law_243 : decode cL_law 243 = .ok (.aload_n 0, 1) := by decide +kernel
theorem dL_law_244 : decode cL_law 244 = .ok (.iload 4, 2) := by decide +kernel
theorem dL_law_246 : decode cL_law 246 = .ok (.iconst 1, 1) := by decide +kernel
theorem dL_law_247 : decode cL_law 247 = .ok (.iadd, 1) := by decide +kernel
theorem dL_law_248 : decode cL_law 248 = .ok (.iaload, 1) := by decide +kernel
theorem dL_law_249 : decode cL_law 249 = .ok (.invokevirtual 91, 3) := by decide +kernel
theorem dL_law_252 : decode cL_law 252 = .ok (.istore 6, 2) := by decide +kernel
theorem dL_law_254 : decode cL_law 254 = .ok (.aload_n 2, 1) := by decide +kernel
theorem dL_law_255 : decode cL_law 255 = .ok (.invokevirtual 92, 3) := by decide +kernel
theorem dL_law_258 : decode cL_law 258 = .ok (.iload 5, 2) := by decide +kernel
theorem dL_law_260 : decode cL_law 260 = .ok (.if_icmp .eq 5, 3) := by decide +kernel
theorem dL_law_263 : decode cL_law 263 = .ok (.iconst 0, 1) := by decide +kernel
theorem dL_law_264 : decode cL_law 264 = .ok (.ireturn, 1) := by decide +kernel
theorem dL_law_265 : decode cL_law 265 = .ok (.iload 5, 2) := by decide +kernel
theorem dL_law_267 : decode cL_law 267 = .ok (.ifCond .ne 15, 3) := by decide +kernel
theorem dL_law_270 : decode cL_law 270 = .ok (.aload_n 3, 1) := by decide +kernel
theorem dL_law_271 : decode cL_law 271 = .ok (.iconst 0, 1) := by decide +kernel
theorem dL_law_272 : decode cL_law 272 = .ok (.laload, 1) := by decide +kernel
theorem dL_law_273 : decode cL_law 273 = .ok (.iload 6, 2) := by decide +kernel
theorem dL_law_275 : decode cL_law 275 = .ok (.i2l, 1) := by decide +kernel
theorem dL_law_276 : decode cL_law 276 = .ok (.lcmp, 1) := by decide +kernel
theorem dL_law_277 : decode cL_law 277 = .ok (.ifCond .eq 5, 3) := by decide +kernel
theorem dL_law_280 : decode cL_law 280 = .ok (.iconst 0, 1) := by decide +kernel
theorem dL_law_281 : decode cL_law 281 = .ok (.ireturn, 1) := by decide +kernel
theorem dL_law_282 : decode cL_law 282 = .ok (.goto 1557, 3) := by decide +kernel
theorem dL_law_285 : decode cL_law 285 = .ok (.aload_n 1, 1) := by decide +kernel
theorem dL_law_286 : decode cL_law 286 = .ok (.aload_n 0, 1) := by decide +kernel
theorem dL_law_287 : decode cL_law 287 = .ok (.iload 4, 2) := by decide +kernel
theorem dL_law_289 : decode cL_law 289 = .ok (.iconst 1, 1) := by decide +kernel
theorem dL_law_290 : decode cL_law 290 = .ok (.iadd, 1) := by decide +kernel
theorem dL_law_291 : decode cL_law 291 = .ok (.iaload, 1) := by decide +kernel
theorem dL_law_292 : decode cL_law 292 = .ok (.aload_n 3, 1) := by decide +kernel
theorem dL_law_293 : decode cL_law 293 = .ok (.invokestatic 96, 3) := by decide +kernel
theorem dL_law_296 : decode cL_law 296 = .ok (.istore 5, 2) := by decide +kernel
theorem dL_law_298 : decode cL_law 298 = .ok (.aload_n 2, 1) := by decide +kernel
theorem dL_law_299 : decode cL_law 299 = .ok (.aload_n 0, 1) := by decide +kernel
theorem dL_law_300 : decode cL_law 300 = .ok (.iload 4, 2) := by decide +kernel
theorem dL_law_302 : decode cL_law 302 = .ok (.iconst 1, 1) := by decide +kernel
theorem dL_law_303 : decode cL_law 303 = .ok (.iadd, 1) := by decide +kernel
theorem dL_law_304 : decode cL_law 304 = .ok (.iaload, 1) := by decide +kernel
theorem dL_law_305 : decode cL_law 305 = .ok (.invokevirtual 98, 3) := by decide +kernel
theorem dL_law_308 : decode cL_law 308 = .ok (.istore 6, 2) := by decide +kernel
theorem dL_law_310 : decode cL_law 310 = .ok (.aload_n 2, 1) := by decide +kernel
theorem dL_law_311 : decode cL_law 311 = .ok (.invokevirtual 92, 3) := by decide +kernel
theorem dL_law_314 : decode cL_law 314 = .ok (.iload 5, 2) := by decide +kernel
theorem dL_law_316 : decode cL_law 316 = .ok (.if_icmp .eq 5, 3) := by decide +kernel
theorem dL_law_319 : decode cL_law 319 = .ok (.iconst 0, 1) := by decide +kernel
theorem dL_law_320 : decode cL_law 320 = .ok (.ireturn, 1) := by decide +kernel
theorem dL_law_321 : decode cL_law 321 = .ok (.iload 5, 2) := by decide +kernel
theorem dL_law_323 : decode cL_law 323 = .ok (.ifCond .ne 15, 3) := by decide +kernel
theorem dL_law_326 : decode cL_law 326 = .ok (.aload_n 3, 1) := by decide +kernel
theorem dL_law_327 : decode cL_law 327 = .ok (.iconst 0, 1) := by decide +kernel
theorem dL_law_328 : decode cL_law 328 = .ok (.laload, 1) := by decide +kernel
theorem dL_law_329 : decode cL_law 329 = .ok (.iload 6, 2) := by decide +kernel
theorem dL_law_331 : decode cL_law 331 = .ok (.i2l, 1) := by decide +kernel
theorem dL_law_332 : decode cL_law 332 = .ok (.lcmp, 1) := by decide +kernel
theorem dL_law_333 : decode cL_law 333 = .ok (.ifCond .eq 5, 3) := by decide +kernel
theorem dL_law_336 : decode cL_law 336 = .ok (.iconst 0, 1) := by decide +kernel
theorem dL_law_337 : decode cL_law 337 = .ok (.ireturn, 1) := by decide +kernel
theorem dL_law_338 : decode cL_law 338 = .ok (.goto 1501, 3) := by decide +kernel
theorem dL_law_341 : decode cL_law 341 = .ok (.aload_n 1, 1) := by decide +kernel
theorem dL_law_342 : decode cL_law 342 = .ok (.invokevirtual 99, 3) := by decide +kernel
theorem dL_law_345 : decode cL_law 345 = .ok (.aload_n 2, 1) := by decide +kernel
theorem dL_law_346 : decode cL_law 346 = .ok (.invokevirtual 102, 3) := by decide +kernel
theorem dL_law_349 : decode cL_law 349 = .ok (.if_icmp .eq 1490, 3) := by decide +kernel
theorem dL_law_352 : decode cL_law 352 = .ok (.iconst 0, 1) := by decide +kernel
theorem dL_law_353 : decode cL_law 353 = .ok (.ireturn, 1) := by decide +kernel
theorem dL_law_354 : decode cL_law 354 = .ok (.aload_n 1, 1) := by decide +kernel
theorem dL_law_355 : decode cL_law 355 = .ok (.aload_n 0, 1) := by decide +kernel
theorem dL_law_356 : decode cL_law 356 = .ok (.iload 4, 2) := by decide +kernel
theorem dL_law_358 : decode cL_law 358 = .ok (.iconst 1, 1) := by decide +kernel
theorem dL_law_359 : decode cL_law 359 = .ok (.iadd, 1) := by decide +kernel
theorem dL_law_360 : decode cL_law 360 = .ok (.iaload, 1) := by decide +kernel
theorem dL_law_361 : decode cL_law 361 = .ok (.aload_n 0, 1) := by decide +kernel
theorem dL_law_362 : decode cL_law 362 = .ok (.iload 4, 2) := by decide +kernel
theorem dL_law_364 : decode cL_law 364 = .ok (.iconst 2, 1) := by decide +kernel
theorem dL_law_365 : decode cL_law 365 = .ok (.iadd, 1) := by decide +kernel
theorem dL_law_366 : decode cL_law 366 = .ok (.iaload, 1) := by decide +kernel
theorem dL_law_367 : decode cL_law 367 = .ok (.aload_n 0, 1) := by decide +kernel
theorem dL_law_368 : decode cL_law 368 = .ok (.iload 4, 2) := by decide +kernel
theorem dL_law_370 : decode cL_law 370 = .ok (.iconst 3, 1) := by decide +kernel
theorem dL_law_371 : decode cL_law 371 = .ok (.iadd, 1) := by decide +kernel
theorem dL_law_372 : decode cL_law 372 = .ok (.iaload, 1) := by decide +kernel
theorem dL_law_373 : decode cL_law 373 = .ok (.invokevirtual 103, 3) := by decide +kernel
theorem dL_law_376 : decode cL_law 376 = .ok (.aload_n 2, 1) := by decide +kernel
theorem dL_law_377 : decode cL_law 377 = .ok (.aload_n 0, 1) := by decide +kernel
theorem dL_law_378 : decode cL_law 378 = .ok (.iload 4, 2) := by decide +kernel
theorem dL_law_380 : decode cL_law 380 = .ok (.iconst 1, 1) := by decide +kernel
theorem dL_law_381 : decode cL_law 381 = .ok (.iadd, 1) := by decide +kernel
theorem dL_law_382 : decode cL_law 382 = .ok (.iaload, 1) := by decide +kernel
theorem dL_law_383 : decode cL_law 383 = .ok (.aload_n 0, 1) := by decide +kernel
theorem dL_law_384 : decode cL_law 384 = .ok (.iload 4, 2) := by decide +kernel
theorem dL_law_386 : decode cL_law 386 = .ok (.iconst 2, 1) := by decide +kernel
theorem dL_law_387 : decode cL_law 387 = .ok (.iadd, 1) := by decide +kernel
theorem dL_law_388 : decode cL_law 388 = .ok (.iaload, 1) := by decide +kernel
theorem dL_law_389 : decode cL_law 389 = .ok (.aload_n 0, 1) := by decide +kernel
theorem dL_law_390 : decode cL_law 390 = .ok (.iload 4, 2) := by decide +kernel
theorem dL_law_392 : decode cL_law 392 = .ok (.iconst 3, 1) := by decide +kernel
theorem dL_law_393 : decode cL_law 393 = .ok (.iadd, 1) := by decide +kernel
theorem dL_law_394 : decode cL_law 394 = .ok (.iaload, 1) := by decide +kernel
theorem dL_law_395 : decode cL_law 395 = .ok (.invokevirtual 106, 3) := by decide +kernel
theorem dL_law_398 : decode cL_law 398 = .ok (.if_icmp .eq 1441, 3) := by decide +kernel
theorem dL_law_401 : decode cL_law 401 = .ok (.iconst 0, 1) := by decide +kernel
theorem dL_law_402 : decode cL_law 402 = .ok (.ireturn, 1) := by decide +kernel
theorem dL_law_403 : decode cL_law 403 = .ok (.aload_n 1, 1) := by decide +kernel
theorem dL_law_404 : decode cL_law 404 = .ok (.aload_n 0, 1) := by decide +kernel
theorem dL_law_405 : decode cL_law 405 = .ok (.iload 4, 2) := by decide +kernel
theorem dL_law_407 : decode cL_law 407 = .ok (.iconst 1, 1) := by decide +kernel
theorem dL_law_408 : decode cL_law 408 = .ok (.iadd, 1) := by decide +kernel
theorem dL_law_409 : decode cL_law 409 = .ok (.iaload, 1) := by decide +kernel
theorem dL_law_410 : decode cL_law 410 = .ok (.aload_n 0, 1) := by decide +kernel
theorem dL_law_411 : decode cL_law 411 = .ok (.iload 4, 2) := by decide +kernel
theorem dL_law_413 : decode cL_law 413 = .ok (.iconst 2, 1) := by decide +kernel
theorem dL_law_414 : decode cL_law 414 = .ok (.iadd, 1) := by decide +kernel
theorem dL_law_415 : decode cL_law 415 = .ok (.iaload, 1) := by decide +kernel
theorem dL_law_416 : decode cL_law 416 = .ok (.invokevirtual 107, 3) := by decide +kernel
theorem dL_law_419 : decode cL_law 419 = .ok (.aload_n 2, 1) := by decide +kernel
theorem dL_law_420 : decode cL_law 420 = .ok (.aload_n 0, 1) := by decide +kernel
theorem dL_law_421 : decode cL_law 421 = .ok (.iload 4, 2) := by decide +kernel
theorem dL_law_423 : decode cL_law 423 = .ok (.iconst 1, 1) := by decide +kernel
theorem dL_law_424 : decode cL_law 424 = .ok (.iadd, 1) := by decide +kernel
theorem dL_law_425 : decode cL_law 425 = .ok (.iaload, 1) := by decide +kernel
theorem dL_law_426 : decode cL_law 426 = .ok (.aload_n 0, 1) := by decide +kernel
theorem dL_law_427 : decode cL_law 427 = .ok (.iload 4, 2) := by decide +kernel
theorem dL_law_429 : decode cL_law 429 = .ok (.iconst 2, 1) := by decide +kernel
theorem dL_law_430 : decode cL_law 430 = .ok (.iadd, 1) := by decide +kernel
theorem dL_law_431 : decode cL_law 431 = .ok (.iaload, 1) := by decide +kernel
theorem dL_law_432 : decode cL_law 432 = .ok (.invokevirtual 110, 3) := by decide +kernel
theorem dL_law_435 : decode cL_law 435 = .ok (.if_icmp .eq 1404, 3) := by decide +kernel
theorem dL_law_438 : decode cL_law 438 = .ok (.iconst 0, 1) := by decide +kernel
theorem dL_law_439 : decode cL_law 439 = .ok (.ireturn, 1) := by decide +kernel
theorem dL_law_440 : decode cL_law 440 = .ok (.aload_n 1, 1) := by decide +kernel
theorem dL_law_441 : decode cL_law 441 = .ok (.aload_n 0, 1) := by decide +kernel
theorem dL_law_442 : decode cL_law 442 = .ok (.iload 4, 2) := by decide +kernel
theorem dL_law_444 : decode cL_law 444 = .ok (.iconst 1, 1) := by decide +kernel
theorem dL_law_445 : decode cL_law 445 = .ok (.iadd, 1) := by decide +kernel
theorem dL_law_446 : decode cL_law 446 = .ok (.iaload, 1) := by decide +kernel
theorem dL_law_447 : decode cL_law 447 = .ok (.invokevirtual 111, 3) := by decide +kernel
theorem dL_law_450 : decode cL_law 450 = .ok (.aload_n 2, 1) := by decide +kernel
theorem dL_law_451 : decode cL_law 451 = .ok (.aload_n 0, 1) := by decide +kernel
theorem dL_law_452 : decode cL_law 452 = .ok (.iload 4, 2) := by decide +kernel
theorem dL_law_454 : decode cL_law 454 = .ok (.iconst 1, 1) := by decide +kernel
theorem dL_law_455 : decode cL_law 455 = .ok (.iadd, 1) := by decide +kernel
theorem dL_law_456 : decode cL_law 456 = .ok (.iaload, 1) := by decide +kernel
theorem dL_law_457 : decode cL_law 457 = .ok (.invokevirtual 114, 3) := by decide +kernel
theorem dL_law_460 : decode cL_law 460 = .ok (.if_icmp .eq 1379, 3) := by decide +kernel
theorem dL_law_463 : decode cL_law 463 = .ok (.iconst 0, 1) := by decide +kernel
theorem dL_law_464 : decode cL_law 464 = .ok (.ireturn, 1) := by decide +kernel
theorem dL_law_465 : decode cL_law 465 = .ok (.aload_n 1, 1) := by decide +kernel
theorem dL_law_466 : decode cL_law 466 = .ok (.aload_n 0, 1) := by decide +kernel
theorem dL_law_467 : decode cL_law 467 = .ok (.iload 4, 2) := by decide +kernel
theorem dL_law_469 : decode cL_law 469 = .ok (.iconst 1, 1) := by decide +kernel
theorem dL_law_470 : decode cL_law 470 = .ok (.iadd, 1) := by decide +kernel
theorem dL_law_471 : decode cL_law 471 = .ok (.iaload, 1) := by decide +kernel
theorem dL_law_472 : decode cL_law 472 = .ok (.aload_n 0, 1) := by decide +kernel
theorem dL_law_473 : decode cL_law 473 = .ok (.iload 4, 2) := by decide +kernel
theorem dL_law_475 : decode cL_law 475 = .ok (.iconst 2, 1) := by decide +kernel
theorem dL_law_476 : decode cL_law 476 = .ok (.iadd, 1) := by decide +kernel
theorem dL_law_477 : decode cL_law 477 = .ok (.iaload, 1) := by decide +kernel
theorem dL_law_478 : decode cL_law 478 = .ok (.aload_n 0, 1) := by decide +kernel
theorem dL_law_479 : decode cL_law 479 = .ok (.iload 4, 2) := by decide +kernel
theorem dL_law_481 : decode cL_law 481 = .ok (.iconst 3, 1) := by decide +kernel
theorem dL_law_482 : decode cL_law 482 = .ok (.iadd, 1) := by decide +kernel
theorem dL_law_483 : decode cL_law 483 = .ok (.iaload, 1) := by decide +kernel
theorem dL_law_484 : decode cL_law 484 = .ok (.aload_n 0, 1) := by decide +kernel
theorem dL_law_485 : decode cL_law 485 = .ok (.iload 4, 2) := by decide +kernel
theorem dL_law_487 : decode cL_law 487 = .ok (.iconst 4, 1) := by decide +kernel
theorem dL_law_488 : decode cL_law 488 = .ok (.iadd, 1) := by decide +kernel
theorem dL_law_489 : decode cL_law 489 = .ok (.iaload, 1) := by decide +kernel
theorem dL_law_490 : decode cL_law 490 = .ok (.aload_n 0, 1) := by decide +kernel
theorem dL_law_491 : decode cL_law 491 = .ok (.iload 4, 2) := by decide +kernel
theorem dL_law_493 : decode cL_law 493 = .ok (.iconst 5, 1) := by decide +kernel
theorem dL_law_494 : decode cL_law 494 = .ok (.iadd, 1) := by decide +kernel
theorem dL_law_495 : decode cL_law 495 = .ok (.iaload, 1) := by decide +kernel
theorem dL_law_496 : decode cL_law 496 = .ok (.aload_n 0, 1) := by decide +kernel
theorem dL_law_497 : decode cL_law 497 = .ok (.iload 4, 2) := by decide +kernel
theorem dL_law_499 : decode cL_law 499 = .ok (.bipush 6, 2) := by decide +kernel
theorem dL_law_501 : decode cL_law 501 = .ok (.iadd, 1) := by decide +kernel
theorem dL_law_502 : decode cL_law 502 = .ok (.iaload, 1) := by decide +kernel
theorem dL_law_503 : decode cL_law 503 = .ok (.invokevirtual 115, 3) := by decide +kernel
theorem dL_law_506 : decode cL_law 506 = .ok (.aload_n 2, 1) := by decide +kernel
theorem dL_law_507 : decode cL_law 507 = .ok (.aload_n 0, 1) := by decide +kernel
theorem dL_law_508 : decode cL_law 508 = .ok (.iload 4, 2) := by decide +kernel
theorem dL_law_510 : decode cL_law 510 = .ok (.iconst 1, 1) := by decide +kernel
theorem dL_law_511 : decode cL_law 511 = .ok (.iadd, 1) := by decide +kernel
theorem dL_law_512 : decode cL_law 512 = .ok (.iaload, 1) := by decide +kernel
theorem dL_law_513 : decode cL_law 513 = .ok (.aload_n 0, 1) := by decide +kernel
theorem dL_law_514 : decode cL_law 514 = .ok (.iload 4, 2) := by decide +kernel
theorem dL_law_516 : decode cL_law 516 = .ok (.iconst 2, 1) := by decide +kernel
theorem dL_law_517 : decode cL_law 517 = .ok (.iadd, 1) := by decide +kernel
theorem dL_law_518 : decode cL_law 518 = .ok (.iaload, 1) := by decide +kernel
theorem dL_law_519 : decode cL_law 519 = .ok (.aload_n 0, 1) := by decide +kernel
theorem dL_law_520 : decode cL_law 520 = .ok (.iload 4, 2) := by decide +kernel
theorem dL_law_522 : decode cL_law 522 = .ok (.iconst 3, 1) := by decide +kernel
theorem dL_law_523 : decode cL_law 523 = .ok (.iadd, 1) := by decide +kernel
theorem dL_law_524 : decode cL_law 524 = .ok (.iaload, 1) := by decide +kernel
theorem dL_law_525 : decode cL_law 525 = .ok (.aload_n 0, 1) := by decide +kernel
theorem dL_law_526 : decode cL_law 526 = .ok (.iload 4, 2) := by decide +kernel
theorem dL_law_528 : decode cL_law 528 = .ok (.iconst 4, 1) := by decide +kernel
theorem dL_law_529 : decode cL_law 529 = .ok (.iadd, 1) := by decide +kernel
theorem dL_law_530 : decode cL_law 530 = .ok (.iaload, 1) := by decide +kernel
theorem dL_law_531 : decode cL_law 531 = .ok (.aload_n 0, 1) := by decide +kernel
theorem dL_law_532 : decode cL_law 532 = .ok (.iload 4, 2) := by decide +kernel
theorem dL_law_534 : decode cL_law 534 = .ok (.iconst 5, 1) := by decide +kernel
theorem dL_law_535 : decode cL_law 535 = .ok (.iadd, 1) := by decide +kernel
theorem dL_law_536 : decode cL_law 536 = .ok (.iaload, 1) := by decide +kernel
theorem dL_law_537 : decode cL_law 537 = .ok (.aload_n 0, 1) := by decide +kernel
theorem dL_law_538 : decode cL_law 538 = .ok (.iload 4, 2) := by decide +kernel
theorem dL_law_540 : decode cL_law 540 = .ok (.bipush 6, 2) := by decide +kernel
theorem dL_law_542 : decode cL_law 542 = .ok (.iadd, 1) := by decide +kernel
theorem dL_law_543 : decode cL_law 543 = .ok (.iaload, 1) := by decide +kernel
theorem dL_law_544 : decode cL_law 544 = .ok (.invokevirtual 119, 3) := by decide +kernel
theorem dL_law_547 : decode cL_law 547 = .ok (.if_icmp .eq 1292, 3) := by decide +kernel
theorem dL_law_550 : decode cL_law 550 = .ok (.iconst 0, 1) := by decide +kernel
theorem dL_law_551 : decode cL_law 551 = .ok (.ireturn, 1) := by decide +kernel
theorem dL_law_552 : decode cL_law 552 = .ok (.aload_n 1, 1) := by decide +kernel
theorem dL_law_553 : decode cL_law 553 = .ok (.aload_n 0, 1) := by decide +kernel
theorem dL_law_554 : decode cL_law 554 = .ok (.iload 4, 2) := by decide +kernel
theorem dL_law_556 : decode cL_law 556 = .ok (.iconst 1, 1) := by decide +kernel
theorem dL_law_557 : decode cL_law 557 = .ok (.iadd, 1) := by decide +kernel
theorem dL_law_558 : decode cL_law 558 = .ok (.iaload, 1) := by decide +kernel
theorem dL_law_559 : decode cL_law 559 = .ok (.aload_n 3, 1) := by decide +kernel
theorem dL_law_560 : decode cL_law 560 = .ok (.invokestatic 120, 3) := by decide +kernel
theorem dL_law_563 : decode cL_law 563 = .ok (.istore 5, 2) := by decide +kernel
theorem dL_law_565 : decode cL_law 565 = .ok (.aload_n 2, 1) := by decide +kernel
theorem dL_law_566 : decode cL_law 566 = .ok (.aload_n 0, 1) := by decide +kernel
theorem dL_law_567 : decode cL_law 567 = .ok (.iload 4, 2) := by decide +kernel
theorem dL_law_569 : decode cL_law 569 = .ok (.iconst 1, 1) := by decide +kernel
theorem dL_law_570 : decode cL_law 570 = .ok (.iadd, 1) := by decide +kernel
theorem dL_law_571 : decode cL_law 571 = .ok (.iaload, 1) := by decide +kernel
theorem dL_law_572 : decode cL_law 572 = .ok (.invokevirtual 122, 3) := by decide +kernel
theorem dL_law_575 : decode cL_law 575 = .ok (.istore 6, 2) := by decide +kernel
theorem dL_law_577 : decode cL_law 577 = .ok (.aload_n 2, 1) := by decide +kernel
theorem dL_law_578 : decode cL_law 578 = .ok (.invokevirtual 92, 3) := by decide +kernel
theorem dL_law_581 : decode cL_law 581 = .ok (.iload 5, 2) := by decide +kernel
theorem dL_law_583 : decode cL_law 583 = .ok (.if_icmp .eq 5, 3) := by decide +kernel
theorem dL_law_586 : decode cL_law 586 = .ok (.iconst 0, 1) := by decide +kernel
theorem dL_law_587 : decode cL_law 587 = .ok (.ireturn, 1) := by decide +kernel
theorem dL_law_588 : decode cL_law 588 = .ok (.iload 5, 2) := by decide +kernel
theorem dL_law_590 : decode cL_law 590 = .ok (.ifCond .ne 15, 3) := by decide +kernel
theorem dL_law_593 : decode cL_law 593 = .ok (.aload_n 3, 1) := by decide +kernel
theorem dL_law_594 : decode cL_law 594 = .ok (.iconst 0, 1) := by decide +kernel
theorem dL_law_595 : decode cL_law 595 = .ok (.laload, 1) := by decide +kernel
theorem dL_law_596 : decode cL_law 596 = .ok (.iload 6, 2) := by decide +kernel
theorem dL_law_598 : decode cL_law 598 = .ok (.i2l, 1) := by decide +kernel
theorem dL_law_599 : decode cL_law 599 = .ok (.lcmp, 1) := by decide +kernel
theorem dL_law_600 : decode cL_law 600 = .ok (.ifCond .eq 5, 3) := by decide +kernel
theorem dL_law_603 : decode cL_law 603 = .ok (.iconst 0, 1) := by decide +kernel
theorem dL_law_604 : decode cL_law 604 = .ok (.ireturn, 1) := by decide +kernel
theorem dL_law_605 : decode cL_law 605 = .ok (.goto 1234, 3) := by decide +kernel
theorem dL_law_608 : decode cL_law 608 = .ok (.aload_n 1, 1) := by decide +kernel
theorem dL_law_609 : decode cL_law 609 = .ok (.aload_n 0, 1) := by decide +kernel
theorem dL_law_610 : decode cL_law 610 = .ok (.iload 4, 2) := by decide +kernel
theorem dL_law_612 : decode cL_law 612 = .ok (.iconst 1, 1) := by decide +kernel
theorem dL_law_613 : decode cL_law 613 = .ok (.iadd, 1) := by decide +kernel
theorem dL_law_614 : decode cL_law 614 = .ok (.iaload, 1) := by decide +kernel
theorem dL_law_615 : decode cL_law 615 = .ok (.aload_n 3, 1) := by decide +kernel
theorem dL_law_616 : decode cL_law 616 = .ok (.invokestatic 123, 3) := by decide +kernel
theorem dL_law_619 : decode cL_law 619 = .ok (.istore 5, 2) := by decide +kernel
theorem dL_law_621 : decode cL_law 621 = .ok (.aload_n 2, 1) := by decide +kernel
theorem dL_law_622 : decode cL_law 622 = .ok (.aload_n 0, 1) := by decide +kernel
theorem dL_law_623 : decode cL_law 623 = .ok (.iload 4, 2) := by decide +kernel
theorem dL_law_625 : decode cL_law 625 = .ok (.iconst 1, 1) := by decide +kernel
theorem dL_law_626 : decode cL_law 626 = .ok (.iadd, 1) := by decide +kernel
theorem dL_law_627 : decode cL_law 627 = .ok (.iaload, 1) := by decide +kernel
theorem dL_law_628 : decode cL_law 628 = .ok (.invokevirtual 125, 3) := by decide +kernel
theorem dL_law_631 : decode cL_law 631 = .ok (.istore 6, 2) := by decide +kernel
theorem dL_law_633 : decode cL_law 633 = .ok (.aload_n 2, 1) := by decide +kernel
theorem dL_law_634 : decode cL_law 634 = .ok (.invokevirtual 92, 3) := by decide +kernel
theorem dL_law_637 : decode cL_law 637 = .ok (.iload 5, 2) := by decide +kernel
theorem dL_law_639 : decode cL_law 639 = .ok (.if_icmp .eq 5, 3) := by decide +kernel
theorem dL_law_642 : decode cL_law 642 = .ok (.iconst 0, 1) := by decide +kernel
theorem dL_law_643 : decode cL_law 643 = .ok (.ireturn, 1) := by decide +kernel
theorem dL_law_644 : decode cL_law 644 = .ok (.iload 5, 2) := by decide +kernel
theorem dL_law_646 : decode cL_law 646 = .ok (.ifCond .ne 15, 3) := by decide +kernel
theorem dL_law_649 : decode cL_law 649 = .ok (.aload_n 3, 1) := by decide +kernel
theorem dL_law_650 : decode cL_law 650 = .ok (.iconst 0, 1) := by decide +kernel
theorem dL_law_651 : decode cL_law 651 = .ok (.laload, 1) := by decide +kernel
theorem dL_law_652 : decode cL_law 652 = .ok (.iload 6, 2) := by decide +kernel
theorem dL_law_654 : decode cL_law 654 = .ok (.i2l, 1) := by decide +kernel
theorem dL_law_655 : decode cL_law 655 = .ok (.lcmp, 1) := by decide +kernel
theorem dL_law_656 : decode cL_law 656 = .ok (.ifCond .eq 5, 3) := by decide +kernel
theorem dL_law_659 : decode cL_law 659 = .ok (.iconst 0, 1) := by decide +kernel
theorem dL_law_660 : decode cL_law 660 = .ok (.ireturn, 1) := by decide +kernel
theorem dL_law_661 : decode cL_law 661 = .ok (.goto 1178, 3) := by decide +kernel
theorem dL_law_664 : decode cL_law 664 = .ok (.aload_n 1, 1) := by decide +kernel
theorem dL_law_665 : decode cL_law 665 = .ok (.aload_n 0, 1) := by decide +kernel
theorem dL_law_666 : decode cL_law 666 = .ok (.iload 4, 2) := by decide +kernel
theorem dL_law_668 : decode cL_law 668 = .ok (.iconst 1, 1) := by decide +kernel
theorem dL_law_669 : decode cL_law 669 = .ok (.iadd, 1) := by decide +kernel
theorem dL_law_670 : decode cL_law 670 = .ok (.iaload, 1) := by decide +kernel
theorem dL_law_671 : decode cL_law 671 = .ok (.aload_n 0, 1) := by decide +kernel
theorem dL_law_672 : decode cL_law 672 = .ok (.iload 4, 2) := by decide +kernel
theorem dL_law_674 : decode cL_law 674 = .ok (.iconst 2, 1) := by decide +kernel
theorem dL_law_675 : decode cL_law 675 = .ok (.iadd, 1) := by decide +kernel
theorem dL_law_676 : decode cL_law 676 = .ok (.iaload, 1) := by decide +kernel
theorem dL_law_677 : decode cL_law 677 = .ok (.aload_n 3, 1) := by decide +kernel
theorem dL_law_678 : decode cL_law 678 = .ok (.invokestatic 126, 3) := by decide +kernel
theorem dL_law_681 : decode cL_law 681 = .ok (.istore 5, 2) := by decide +kernel
theorem dL_law_683 : decode cL_law 683 = .ok (.aload_n 2, 1) := by decide +kernel
theorem dL_law_684 : decode cL_law 684 = .ok (.aload_n 0, 1) := by decide +kernel
theorem dL_law_685 : decode cL_law 685 = .ok (.iload 4, 2) := by decide +kernel
theorem dL_law_687 : decode cL_law 687 = .ok (.iconst 1, 1) := by decide +kernel
theorem dL_law_688 : decode cL_law 688 = .ok (.iadd, 1) := by decide +kernel
theorem dL_law_689 : decode cL_law 689 = .ok (.iaload, 1) := by decide +kernel
theorem dL_law_690 : decode cL_law 690 = .ok (.aload_n 0, 1) := by decide +kernel
theorem dL_law_691 : decode cL_law 691 = .ok (.iload 4, 2) := by decide +kernel
theorem dL_law_693 : decode cL_law 693 = .ok (.iconst 2, 1) := by decide +kernel
theorem dL_law_694 : decode cL_law 694 = .ok (.iadd, 1) := by decide +kernel
theorem dL_law_695 : decode cL_law 695 = .ok (.iaload, 1) := by decide +kernel
theorem dL_law_696 : decode cL_law 696 = .ok (.invokevirtual 129, 3) := by decide +kernel
theorem dL_law_699 : decode cL_law 699 = .ok (.istore 6, 2) := by decide +kernel
theorem dL_law_701 : decode cL_law 701 = .ok (.aload_n 2, 1) := by decide +kernel
theorem dL_law_702 : decode cL_law 702 = .ok (.invokevirtual 92, 3) := by decide +kernel
theorem dL_law_705 : decode cL_law 705 = .ok (.iload 5, 2) := by decide +kernel
theorem dL_law_707 : decode cL_law 707 = .ok (.if_icmp .eq 5, 3) := by decide +kernel
theorem dL_law_710 : decode cL_law 710 = .ok (.iconst 0, 1) := by decide +kernel
theorem dL_law_711 : decode cL_law 711 = .ok (.ireturn, 1) := by decide +kernel
theorem dL_law_712 : decode cL_law 712 = .ok (.iload 5, 2) := by decide +kernel
theorem dL_law_714 : decode cL_law 714 = .ok (.ifCond .ne 15, 3) := by decide +kernel
theorem dL_law_717 : decode cL_law 717 = .ok (.aload_n 3, 1) := by decide +kernel
theorem dL_law_718 : decode cL_law 718 = .ok (.iconst 0, 1) := by decide +kernel
theorem dL_law_719 : decode cL_law 719 = .ok (.laload, 1) := by decide +kernel
theorem dL_law_720 : decode cL_law 720 = .ok (.iload 6, 2) := by decide +kernel
theorem dL_law_722 : decode cL_law 722 = .ok (.i2l, 1) := by decide +kernel
theorem dL_law_723 : decode cL_law 723 = .ok (.lcmp, 1) := by decide +kernel
theorem dL_law_724 : decode cL_law 724 = .ok (.ifCond .eq 5, 3) := by decide +kernel
theorem dL_law_727 : decode cL_law 727 = .ok (.iconst 0, 1) := by decide +kernel
theorem dL_law_728 : decode cL_law 728 = .ok (.ireturn, 1) := by decide +kernel
theorem dL_law_729 : decode cL_law 729 = .ok (.goto 1110, 3) := by decide +kernel
theorem dL_law_732 : decode cL_law 732 = .ok (.aload_n 1, 1) := by decide +kernel
theorem dL_law_733 : decode cL_law 733 = .ok (.aload_n 0, 1) := by decide +kernel
theorem dL_law_734 : decode cL_law 734 = .ok (.iload 4, 2) := by decide +kernel
theorem dL_law_736 : decode cL_law 736 = .ok (.iconst 1, 1) := by decide +kernel
theorem dL_law_737 : decode cL_law 737 = .ok (.iadd, 1) := by decide +kernel
theorem dL_law_738 : decode cL_law 738 = .ok (.iaload, 1) := by decide +kernel
theorem dL_law_739 : decode cL_law 739 = .ok (.aload_n 3, 1) := by decide +kernel
theorem dL_law_740 : decode cL_law 740 = .ok (.invokestatic 130, 3) := by decide +kernel
theorem dL_law_743 : decode cL_law 743 = .ok (.istore 5, 2) := by decide +kernel
theorem dL_law_745 : decode cL_law 745 = .ok (.aload_n 2, 1) := by decide +kernel
theorem dL_law_746 : decode cL_law 746 = .ok (.aload_n 0, 1) := by decide +kernel
theorem dL_law_747 : decode cL_law 747 = .ok (.iload 4, 2) := by decide +kernel
theorem dL_law_749 : decode cL_law 749 = .ok (.iconst 1, 1) := by decide +kernel
theorem dL_law_750 : decode cL_law 750 = .ok (.iadd, 1) := by decide +kernel
theorem dL_law_751 : decode cL_law 751 = .ok (.iaload, 1) := by decide +kernel
theorem dL_law_752 : decode cL_law 752 = .ok (.invokevirtual 132, 3) := by decide +kernel
theorem dL_law_755 : decode cL_law 755 = .ok (.istore 6, 2) := by decide +kernel
theorem dL_law_757 : decode cL_law 757 = .ok (.aload_n 2, 1) := by decide +kernel
theorem dL_law_758 : decode cL_law 758 = .ok (.invokevirtual 92, 3) := by decide +kernel
theorem dL_law_761 : decode cL_law 761 = .ok (.iload 5, 2) := by decide +kernel
theorem dL_law_763 : decode cL_law 763 = .ok (.if_icmp .eq 5, 3) := by decide +kernel
theorem dL_law_766 : decode cL_law 766 = .ok (.iconst 0, 1) := by decide +kernel
theorem dL_law_767 : decode cL_law 767 = .ok (.ireturn, 1) := by decide +kernel
theorem dL_law_768 : decode cL_law 768 = .ok (.iload 5, 2) := by decide +kernel
theorem dL_law_770 : decode cL_law 770 = .ok (.ifCond .ne 15, 3) := by decide +kernel
theorem dL_law_773 : decode cL_law 773 = .ok (.aload_n 3, 1) := by decide +kernel
theorem dL_law_774 : decode cL_law 774 = .ok (.iconst 0, 1) := by decide +kernel
theorem dL_law_775 : decode cL_law 775 = .ok (.laload, 1) := by decide +kernel
theorem dL_law_776 : decode cL_law 776 = .ok (.iload 6, 2) := by decide +kernel
theorem dL_law_778 : decode cL_law 778 = .ok (.i2l, 1) := by decide +kernel
theorem dL_law_779 : decode cL_law 779 = .ok (.lcmp, 1) := by decide +kernel
theorem dL_law_780 : decode cL_law 780 = .ok (.ifCond .eq 5, 3) := by decide +kernel
theorem dL_law_783 : decode cL_law 783 = .ok (.iconst 0, 1) := by decide +kernel
theorem dL_law_784 : decode cL_law 784 = .ok (.ireturn, 1) := by decide +kernel
theorem dL_law_785 : decode cL_law 785 = .ok (.goto 1054, 3) := by decide +kernel
theorem dL_law_788 : decode cL_law 788 = .ok (.aload_n 1, 1) := by decide +kernel
theorem dL_law_789 : decode cL_law 789 = .ok (.aload_n 0, 1) := by decide +kernel
theorem dL_law_790 : decode cL_law 790 = .ok (.iload 4, 2) := by decide +kernel
theorem dL_law_792 : decode cL_law 792 = .ok (.iconst 1, 1) := by decide +kernel
theorem dL_law_793 : decode cL_law 793 = .ok (.iadd, 1) := by decide +kernel
theorem dL_law_794 : decode cL_law 794 = .ok (.iaload, 1) := by decide +kernel
theorem dL_law_795 : decode cL_law 795 = .ok (.aload_n 0, 1) := by decide +kernel
theorem dL_law_796 : decode cL_law 796 = .ok (.iload 4, 2) := by decide +kernel
theorem dL_law_798 : decode cL_law 798 = .ok (.iconst 2, 1) := by decide +kernel
theorem dL_law_799 : decode cL_law 799 = .ok (.iadd, 1) := by decide +kernel
theorem dL_law_800 : decode cL_law 800 = .ok (.iaload, 1) := by decide +kernel
theorem dL_law_801 : decode cL_law 801 = .ok (.aload_n 3, 1) := by decide +kernel
theorem dL_law_802 : decode cL_law 802 = .ok (.invokestatic 133, 3) := by decide +kernel
theorem dL_law_805 : decode cL_law 805 = .ok (.istore 5, 2) := by decide +kernel
theorem dL_law_807 : decode cL_law 807 = .ok (.aload_n 2, 1) := by decide +kernel
theorem dL_law_808 : decode cL_law 808 = .ok (.aload_n 0, 1) := by decide +kernel
theorem dL_law_809 : decode cL_law 809 = .ok (.iload 4, 2) := by decide +kernel
theorem dL_law_811 : decode cL_law 811 = .ok (.iconst 1, 1) := by decide +kernel
theorem dL_law_812 : decode cL_law 812 = .ok (.iadd, 1) := by decide +kernel
theorem dL_law_813 : decode cL_law 813 = .ok (.iaload, 1) := by decide +kernel
theorem dL_law_814 : decode cL_law 814 = .ok (.aload_n 0, 1) := by decide +kernel
theorem dL_law_815 : decode cL_law 815 = .ok (.iload 4, 2) := by decide +kernel
theorem dL_law_817 : decode cL_law 817 = .ok (.iconst 2, 1) := by decide +kernel
theorem dL_law_818 : decode cL_law 818 = .ok (.iadd, 1) := by decide +kernel
theorem dL_law_819 : decode cL_law 819 = .ok (.iaload, 1) := by decide +kernel
theorem dL_law_820 : decode cL_law 820 = .ok (.invokevirtual 135, 3) := by decide +kernel
theorem dL_law_823 : decode cL_law 823 = .ok (.lstore 6, 2) := by decide +kernel
theorem dL_law_825 : decode cL_law 825 = .ok (.aload_n 2, 1) := by decide +kernel
theorem dL_law_826 : decode cL_law 826 = .ok (.invokevirtual 92, 3) := by decide +kernel
theorem dL_law_829 : decode cL_law 829 = .ok (.iload 5, 2) := by decide +kernel
theorem dL_law_831 : decode cL_law 831 = .ok (.if_icmp .eq 5, 3) := by decide +kernel
theorem dL_law_834 : decode cL_law 834 = .ok (.iconst 0, 1) := by decide +kernel
theorem dL_law_835 : decode cL_law 835 = .ok (.ireturn, 1) := by decide +kernel
theorem dL_law_836 : decode cL_law 836 = .ok (.iload 5, 2) := by decide +kernel
theorem dL_law_838 : decode cL_law 838 = .ok (.ifCond .ne 14, 3) := by decide +kernel
theorem dL_law_841 : decode cL_law 841 = .ok (.aload_n 3, 1) := by decide +kernel
theorem dL_law_842 : decode cL_law 842 = .ok (.iconst 0, 1) := by decide +kernel
theorem dL_law_843 : decode cL_law 843 = .ok (.laload, 1) := by decide +kernel
theorem dL_law_844 : decode cL_law 844 = .ok (.lload 6, 2) := by decide +kernel
theorem dL_law_846 : decode cL_law 846 = .ok (.lcmp, 1) := by decide +kernel
theorem dL_law_847 : decode cL_law 847 = .ok (.ifCond .eq 5, 3) := by decide +kernel
theorem dL_law_850 : decode cL_law 850 = .ok (.iconst 0, 1) := by decide +kernel
theorem dL_law_851 : decode cL_law 851 = .ok (.ireturn, 1) := by decide +kernel
theorem dL_law_852 : decode cL_law 852 = .ok (.goto 987, 3) := by decide +kernel
theorem dL_law_855 : decode cL_law 855 = .ok (.aload_n 1, 1) := by decide +kernel
theorem dL_law_856 : decode cL_law 856 = .ok (.aload_n 0, 1) := by decide +kernel
theorem dL_law_857 : decode cL_law 857 = .ok (.iload 4, 2) := by decide +kernel
theorem dL_law_859 : decode cL_law 859 = .ok (.iconst 1, 1) := by decide +kernel
theorem dL_law_860 : decode cL_law 860 = .ok (.iadd, 1) := by decide +kernel
theorem dL_law_861 : decode cL_law 861 = .ok (.iaload, 1) := by decide +kernel
theorem dL_law_862 : decode cL_law 862 = .ok (.aload_n 0, 1) := by decide +kernel
theorem dL_law_863 : decode cL_law 863 = .ok (.iload 4, 2) := by decide +kernel
theorem dL_law_865 : decode cL_law 865 = .ok (.iconst 2, 1) := by decide +kernel
theorem dL_law_866 : decode cL_law 866 = .ok (.iadd, 1) := by decide +kernel
theorem dL_law_867 : decode cL_law 867 = .ok (.iaload, 1) := by decide +kernel
theorem dL_law_868 : decode cL_law 868 = .ok (.aload_n 3, 1) := by decide +kernel
theorem dL_law_869 : decode cL_law 869 = .ok (.invokestatic 136, 3) := by decide +kernel
theorem dL_law_872 : decode cL_law 872 = .ok (.istore 5, 2) := by decide +kernel
theorem dL_law_874 : decode cL_law 874 = .ok (.aload_n 2, 1) := by decide +kernel
theorem dL_law_875 : decode cL_law 875 = .ok (.aload_n 0, 1) := by decide +kernel
theorem dL_law_876 : decode cL_law 876 = .ok (.iload 4, 2) := by decide +kernel
theorem dL_law_878 : decode cL_law 878 = .ok (.iconst 1, 1) := by decide +kernel
theorem dL_law_879 : decode cL_law 879 = .ok (.iadd, 1) := by decide +kernel
theorem dL_law_880 : decode cL_law 880 = .ok (.iaload, 1) := by decide +kernel
theorem dL_law_881 : decode cL_law 881 = .ok (.aload_n 0, 1) := by decide +kernel
theorem dL_law_882 : decode cL_law 882 = .ok (.iload 4, 2) := by decide +kernel
theorem dL_law_884 : decode cL_law 884 = .ok (.iconst 2, 1) := by decide +kernel
theorem dL_law_885 : decode cL_law 885 = .ok (.iadd, 1) := by decide +kernel
theorem dL_law_886 : decode cL_law 886 = .ok (.iaload, 1) := by decide +kernel
theorem dL_law_887 : decode cL_law 887 = .ok (.invokevirtual 138, 3) := by decide +kernel
theorem dL_law_890 : decode cL_law 890 = .ok (.istore 6, 2) := by decide +kernel
theorem dL_law_892 : decode cL_law 892 = .ok (.aload_n 2, 1) := by decide +kernel
theorem dL_law_893 : decode cL_law 893 = .ok (.invokevirtual 92, 3) := by decide +kernel
theorem dL_law_896 : decode cL_law 896 = .ok (.iload 5, 2) := by decide +kernel
theorem dL_law_898 : decode cL_law 898 = .ok (.if_icmp .eq 5, 3) := by decide +kernel
theorem dL_law_901 : decode cL_law 901 = .ok (.iconst 0, 1) := by decide +kernel
theorem dL_law_902 : decode cL_law 902 = .ok (.ireturn, 1) := by decide +kernel
theorem dL_law_903 : decode cL_law 903 = .ok (.iload 5, 2) := by decide +kernel
theorem dL_law_905 : decode cL_law 905 = .ok (.ifCond .ne 15, 3) := by decide +kernel
theorem dL_law_908 : decode cL_law 908 = .ok (.aload_n 3, 1) := by decide +kernel
theorem dL_law_909 : decode cL_law 909 = .ok (.iconst 0, 1) := by decide +kernel
theorem dL_law_910 : decode cL_law 910 = .ok (.laload, 1) := by decide +kernel
theorem dL_law_911 : decode cL_law 911 = .ok (.iload 6, 2) := by decide +kernel
theorem dL_law_913 : decode cL_law 913 = .ok (.i2l, 1) := by decide +kernel
theorem dL_law_914 : decode cL_law 914 = .ok (.lcmp, 1) := by decide +kernel
theorem dL_law_915 : decode cL_law 915 = .ok (.ifCond .eq 5, 3) := by decide +kernel
theorem dL_law_918 : decode cL_law 918 = .ok (.iconst 0, 1) := by decide +kernel
theorem dL_law_919 : decode cL_law 919 = .ok (.ireturn, 1) := by decide +kernel
theorem dL_law_920 : decode cL_law 920 = .ok (.goto 919, 3) := by decide +kernel
theorem dL_law_923 : decode cL_law 923 = .ok (.aload_n 1, 1) := by decide +kernel
theorem dL_law_924 : decode cL_law 924 = .ok (.aload_n 0, 1) := by decide +kernel
theorem dL_law_925 : decode cL_law 925 = .ok (.iload 4, 2) := by decide +kernel
theorem dL_law_927 : decode cL_law 927 = .ok (.iconst 1, 1) := by decide +kernel
theorem dL_law_928 : decode cL_law 928 = .ok (.iadd, 1) := by decide +kernel
theorem dL_law_929 : decode cL_law 929 = .ok (.iaload, 1) := by decide +kernel
theorem dL_law_930 : decode cL_law 930 = .ok (.aload_n 0, 1) := by decide +kernel
theorem dL_law_931 : decode cL_law 931 = .ok (.iload 4, 2) := by decide +kernel
theorem dL_law_933 : decode cL_law 933 = .ok (.iconst 2, 1) := by decide +kernel
theorem dL_law_934 : decode cL_law 934 = .ok (.iadd, 1) := by decide +kernel
theorem dL_law_935 : decode cL_law 935 = .ok (.iaload, 1) := by decide +kernel
theorem dL_law_936 : decode cL_law 936 = .ok (.aload_n 3, 1) := by decide +kernel
theorem dL_law_937 : decode cL_law 937 = .ok (.invokestatic 139, 3) := by decide +kernel
theorem dL_law_940 : decode cL_law 940 = .ok (.istore 5, 2) := by decide +kernel
theorem dL_law_942 : decode cL_law 942 = .ok (.aload_n 2, 1) := by decide +kernel
theorem dL_law_943 : decode cL_law 943 = .ok (.aload_n 0, 1) := by decide +kernel
theorem dL_law_944 : decode cL_law 944 = .ok (.iload 4, 2) := by decide +kernel
theorem dL_law_946 : decode cL_law 946 = .ok (.iconst 1, 1) := by decide +kernel
theorem dL_law_947 : decode cL_law 947 = .ok (.iadd, 1) := by decide +kernel
theorem dL_law_948 : decode cL_law 948 = .ok (.iaload, 1) := by decide +kernel
theorem dL_law_949 : decode cL_law 949 = .ok (.aload_n 0, 1) := by decide +kernel
theorem dL_law_950 : decode cL_law 950 = .ok (.iload 4, 2) := by decide +kernel
theorem dL_law_952 : decode cL_law 952 = .ok (.iconst 2, 1) := by decide +kernel
theorem dL_law_953 : decode cL_law 953 = .ok (.iadd, 1) := by decide +kernel
theorem dL_law_954 : decode cL_law 954 = .ok (.iaload, 1) := by decide +kernel
theorem dL_law_955 : decode cL_law 955 = .ok (.invokevirtual 141, 3) := by decide +kernel
theorem dL_law_958 : decode cL_law 958 = .ok (.istore 6, 2) := by decide +kernel
theorem dL_law_960 : decode cL_law 960 = .ok (.aload_n 2, 1) := by decide +kernel
theorem dL_law_961 : decode cL_law 961 = .ok (.invokevirtual 92, 3) := by decide +kernel
theorem dL_law_964 : decode cL_law 964 = .ok (.iload 5, 2) := by decide +kernel
theorem dL_law_966 : decode cL_law 966 = .ok (.if_icmp .eq 5, 3) := by decide +kernel
theorem dL_law_969 : decode cL_law 969 = .ok (.iconst 0, 1) := by decide +kernel
theorem dL_law_970 : decode cL_law 970 = .ok (.ireturn, 1) := by decide +kernel
theorem dL_law_971 : decode cL_law 971 = .ok (.iload 5, 2) := by decide +kernel
theorem dL_law_973 : decode cL_law 973 = .ok (.ifCond .ne 15, 3) := by decide +kernel
theorem dL_law_976 : decode cL_law 976 = .ok (.aload_n 3, 1) := by decide +kernel
theorem dL_law_977 : decode cL_law 977 = .ok (.iconst 0, 1) := by decide +kernel
theorem dL_law_978 : decode cL_law 978 = .ok (.laload, 1) := by decide +kernel
theorem dL_law_979 : decode cL_law 979 = .ok (.iload 6, 2) := by decide +kernel
theorem dL_law_981 : decode cL_law 981 = .ok (.i2l, 1) := by decide +kernel
theorem dL_law_982 : decode cL_law 982 = .ok (.lcmp, 1) := by decide +kernel
theorem dL_law_983 : decode cL_law 983 = .ok (.ifCond .eq 5, 3) := by decide +kernel
theorem dL_law_986 : decode cL_law 986 = .ok (.iconst 0, 1) := by decide +kernel
theorem dL_law_987 : decode cL_law 987 = .ok (.ireturn, 1) := by decide +kernel
theorem dL_law_988 : decode cL_law 988 = .ok (.goto 851, 3) := by decide +kernel
theorem dL_law_991 : decode cL_law 991 = .ok (.aload_n 1, 1) := by decide +kernel
theorem dL_law_992 : decode cL_law 992 = .ok (.aload_n 0, 1) := by decide +kernel
theorem dL_law_993 : decode cL_law 993 = .ok (.iload 4, 2) := by decide +kernel
theorem dL_law_995 : decode cL_law 995 = .ok (.iconst 1, 1) := by decide +kernel
theorem dL_law_996 : decode cL_law 996 = .ok (.iadd, 1) := by decide +kernel
theorem dL_law_997 : decode cL_law 997 = .ok (.iaload, 1) := by decide +kernel
theorem dL_law_998 : decode cL_law 998 = .ok (.aload_n 0, 1) := by decide +kernel
theorem dL_law_999 : decode cL_law 999 = .ok (.iload 4, 2) := by decide +kernel
theorem dL_law_1001 : decode cL_law 1001 = .ok (.iconst 2, 1) := by decide +kernel
theorem dL_law_1002 : decode cL_law 1002 = .ok (.iadd, 1) := by decide +kernel
theorem dL_law_1003 : decode cL_law 1003 = .ok (.iaload, 1) := by decide +kernel
theorem dL_law_1004 : decode cL_law 1004 = .ok (.aload_n 0, 1) := by decide +kernel
theorem dL_law_1005 : decode cL_law 1005 = .ok (.iload 4, 2) := by decide +kernel
theorem dL_law_1007 : decode cL_law 1007 = .ok (.iconst 3, 1) := by decide +kernel
theorem dL_law_1008 : decode cL_law 1008 = .ok (.iadd, 1) := by decide +kernel
theorem dL_law_1009 : decode cL_law 1009 = .ok (.iaload, 1) := by decide +kernel
theorem dL_law_1010 : decode cL_law 1010 = .ok (.aload_n 0, 1) := by decide +kernel
theorem dL_law_1011 : decode cL_law 1011 = .ok (.iload 4, 2) := by decide +kernel
theorem dL_law_1013 : decode cL_law 1013 = .ok (.iconst 4, 1) := by decide +kernel
theorem dL_law_1014 : decode cL_law 1014 = .ok (.iadd, 1) := by decide +kernel
theorem dL_law_1015 : decode cL_law 1015 = .ok (.iaload, 1) := by decide +kernel
theorem dL_law_1016 : decode cL_law 1016 = .ok (.aload_n 3, 1) := by decide +kernel
theorem dL_law_1017 : decode cL_law 1017 = .ok (.invokestatic 142, 3) := by decide +kernel
theorem dL_law_1020 : decode cL_law 1020 = .ok (.istore 5, 2) := by decide +kernel
theorem dL_law_1022 : decode cL_law 1022 = .ok (.aload_n 2, 1) := by decide +kernel
theorem dL_law_1023 : decode cL_law 1023 = .ok (.aload_n 0, 1) := by decide +kernel
theorem dL_law_1024 : decode cL_law 1024 = .ok (.iload 4, 2) := by decide +kernel
theorem dL_law_1026 : decode cL_law 1026 = .ok (.iconst 1, 1) := by decide +kernel
theorem dL_law_1027 : decode cL_law 1027 = .ok (.iadd, 1) := by decide +kernel
theorem dL_law_1028 : decode cL_law 1028 = .ok (.iaload, 1) := by decide +kernel
theorem dL_law_1029 : decode cL_law 1029 = .ok (.aload_n 0, 1) := by decide +kernel
theorem dL_law_1030 : decode cL_law 1030 = .ok (.iload 4, 2) := by decide +kernel
theorem dL_law_1032 : decode cL_law 1032 = .ok (.iconst 2, 1) := by decide +kernel
theorem dL_law_1033 : decode cL_law 1033 = .ok (.iadd, 1) := by decide +kernel
theorem dL_law_1034 : decode cL_law 1034 = .ok (.iaload, 1) := by decide +kernel
theorem dL_law_1035 : decode cL_law 1035 = .ok (.aload_n 0, 1) := by decide +kernel
theorem dL_law_1036 : decode cL_law 1036 = .ok (.iload 4, 2) := by decide +kernel
theorem dL_law_1038 : decode cL_law 1038 = .ok (.iconst 3, 1) := by decide +kernel
theorem dL_law_1039 : decode cL_law 1039 = .ok (.iadd, 1) := by decide +kernel
theorem dL_law_1040 : decode cL_law 1040 = .ok (.iaload, 1) := by decide +kernel
theorem dL_law_1041 : decode cL_law 1041 = .ok (.aload_n 0, 1) := by decide +kernel
theorem dL_law_1042 : decode cL_law 1042 = .ok (.iload 4, 2) := by decide +kernel
theorem dL_law_1044 : decode cL_law 1044 = .ok (.iconst 4, 1) := by decide +kernel
theorem dL_law_1045 : decode cL_law 1045 = .ok (.iadd, 1) := by decide +kernel
theorem dL_law_1046 : decode cL_law 1046 = .ok (.iaload, 1) := by decide +kernel
theorem dL_law_1047 : decode cL_law 1047 = .ok (.invokevirtual 145, 3) := by decide +kernel
theorem dL_law_1050 : decode cL_law 1050 = .ok (.lstore 6, 2) := by decide +kernel
theorem dL_law_1052 : decode cL_law 1052 = .ok (.aload_n 2, 1) := by decide +kernel
theorem dL_law_1053 : decode cL_law 1053 = .ok (.invokevirtual 92, 3) := by decide +kernel
theorem dL_law_1056 : decode cL_law 1056 = .ok (.iload 5, 2) := by decide +kernel
theorem dL_law_1058 : decode cL_law 1058 = .ok (.if_icmp .eq 5, 3) := by decide +kernel
theorem dL_law_1061 : decode cL_law 1061 = .ok (.iconst 0, 1) := by decide +kernel
theorem dL_law_1062 : decode cL_law 1062 = .ok (.ireturn, 1) := by decide +kernel
theorem dL_law_1063 : decode cL_law 1063 = .ok (.iload 5, 2) := by decide +kernel
theorem dL_law_1065 : decode cL_law 1065 = .ok (.ifCond .ne 14, 3) := by decide +kernel
theorem dL_law_1068 : decode cL_law 1068 = .ok (.aload_n 3, 1) := by decide +kernel
theorem dL_law_1069 : decode cL_law 1069 = .ok (.iconst 0, 1) := by decide +kernel
theorem dL_law_1070 : decode cL_law 1070 = .ok (.laload, 1) := by decide +kernel
theorem dL_law_1071 : decode cL_law 1071 = .ok (.lload 6, 2) := by decide +kernel
theorem dL_law_1073 : decode cL_law 1073 = .ok (.lcmp, 1) := by decide +kernel
theorem dL_law_1074 : decode cL_law 1074 = .ok (.ifCond .eq 5, 3) := by decide +kernel
theorem dL_law_1077 : decode cL_law 1077 = .ok (.iconst 0, 1) := by decide +kernel
theorem dL_law_1078 : decode cL_law 1078 = .ok (.ireturn, 1) := by decide +kernel
theorem dL_law_1079 : decode cL_law 1079 = .ok (.goto 760, 3) := by decide +kernel
theorem dL_law_1082 : decode cL_law 1082 = .ok (.aload_n 1, 1) := by decide +kernel
theorem dL_law_1083 : decode cL_law 1083 = .ok (.aload_n 0, 1) := by decide +kernel
theorem dL_law_1084 : decode cL_law 1084 = .ok (.iload 4, 2) := by decide +kernel
theorem dL_law_1086 : decode cL_law 1086 = .ok (.iconst 1, 1) := by decide +kernel
theorem dL_law_1087 : decode cL_law 1087 = .ok (.iadd, 1) := by decide +kernel
theorem dL_law_1088 : decode cL_law 1088 = .ok (.iaload, 1) := by decide +kernel
theorem dL_law_1089 : decode cL_law 1089 = .ok (.aload_n 0, 1) := by decide +kernel
theorem dL_law_1090 : decode cL_law 1090 = .ok (.iload 4, 2) := by decide +kernel
theorem dL_law_1092 : decode cL_law 1092 = .ok (.iconst 2, 1) := by decide +kernel
theorem dL_law_1093 : decode cL_law 1093 = .ok (.iadd, 1) := by decide +kernel
theorem dL_law_1094 : decode cL_law 1094 = .ok (.iaload, 1) := by decide +kernel
theorem dL_law_1095 : decode cL_law 1095 = .ok (.aload_n 0, 1) := by decide +kernel
theorem dL_law_1096 : decode cL_law 1096 = .ok (.iload 4, 2) := by decide +kernel
theorem dL_law_1098 : decode cL_law 1098 = .ok (.iconst 3, 1) := by decide +kernel
theorem dL_law_1099 : decode cL_law 1099 = .ok (.iadd, 1) := by decide +kernel
theorem dL_law_1100 : decode cL_law 1100 = .ok (.iaload, 1) := by decide +kernel
theorem dL_law_1101 : decode cL_law 1101 = .ok (.aload_n 3, 1) := by decide +kernel
theorem dL_law_1102 : decode cL_law 1102 = .ok (.invokestatic 146, 3) := by decide +kernel
theorem dL_law_1105 : decode cL_law 1105 = .ok (.istore 5, 2) := by decide +kernel
theorem dL_law_1107 : decode cL_law 1107 = .ok (.aload_n 2, 1) := by decide +kernel
theorem dL_law_1108 : decode cL_law 1108 = .ok (.aload_n 0, 1) := by decide +kernel
theorem dL_law_1109 : decode cL_law 1109 = .ok (.iload 4, 2) := by decide +kernel
theorem dL_law_1111 : decode cL_law 1111 = .ok (.iconst 1, 1) := by decide +kernel
theorem dL_law_1112 : decode cL_law 1112 = .ok (.iadd, 1) := by decide +kernel
theorem dL_law_1113 : decode cL_law 1113 = .ok (.iaload, 1) := by decide +kernel
theorem dL_law_1114 : decode cL_law 1114 = .ok (.aload_n 0, 1) := by decide +kernel
theorem dL_law_1115 : decode cL_law 1115 = .ok (.iload 4, 2) := by decide +kernel
theorem dL_law_1117 : decode cL_law 1117 = .ok (.iconst 2, 1) := by decide +kernel
theorem dL_law_1118 : decode cL_law 1118 = .ok (.iadd, 1) := by decide +kernel
theorem dL_law_1119 : decode cL_law 1119 = .ok (.iaload, 1) := by decide +kernel
theorem dL_law_1120 : decode cL_law 1120 = .ok (.aload_n 0, 1) := by decide +kernel
theorem dL_law_1121 : decode cL_law 1121 = .ok (.iload 4, 2) := by decide +kernel
theorem dL_law_1123 : decode cL_law 1123 = .ok (.iconst 3, 1) := by decide +kernel
theorem dL_law_1124 : decode cL_law 1124 = .ok (.iadd, 1) := by decide +kernel
theorem dL_law_1125 : decode cL_law 1125 = .ok (.iaload, 1) := by decide +kernel
theorem dL_law_1126 : decode cL_law 1126 = .ok (.invokevirtual 149, 3) := by decide +kernel
theorem dL_law_1129 : decode cL_law 1129 = .ok (.istore 6, 2) := by decide +kernel
theorem dL_law_1131 : decode cL_law 1131 = .ok (.aload_n 2, 1) := by decide +kernel
theorem dL_law_1132 : decode cL_law 1132 = .ok (.invokevirtual 92, 3) := by decide +kernel
theorem dL_law_1135 : decode cL_law 1135 = .ok (.iload 5, 2) := by decide +kernel
theorem dL_law_1137 : decode cL_law 1137 = .ok (.if_icmp .eq 5, 3) := by decide +kernel
theorem dL_law_1140 : decode cL_law 1140 = .ok (.iconst 0, 1) := by decide +kernel
theorem dL_law_1141 : decode cL_law 1141 = .ok (.ireturn, 1) := by decide +kernel
theorem dL_law_1142 : decode cL_law 1142 = .ok (.iload 5, 2) := by decide +kernel
theorem dL_law_1144 : decode cL_law 1144 = .ok (.ifCond .ne 15, 3) := by decide +kernel
theorem dL_law_1147 : decode cL_law 1147 = .ok (.aload_n 3, 1) := by decide +kernel
theorem dL_law_1148 : decode cL_law 1148 = .ok (.iconst 0, 1) := by decide +kernel
theorem dL_law_1149 : decode cL_law 1149 = .ok (.laload, 1) := by decide +kernel
theorem dL_law_1150 : decode cL_law 1150 = .ok (.iload 6, 2) := by decide +kernel
theorem dL_law_1152 : decode cL_law 1152 = .ok (.i2l, 1) := by decide +kernel
theorem dL_law_1153 : decode cL_law 1153 = .ok (.lcmp, 1) := by decide +kernel
theorem dL_law_1154 : decode cL_law 1154 = .ok (.ifCond .eq 5, 3) := by decide +kernel
theorem dL_law_1157 : decode cL_law 1157 = .ok (.iconst 0, 1) := by decide +kernel
theorem dL_law_1158 : decode cL_law 1158 = .ok (.ireturn, 1) := by decide +kernel
theorem dL_law_1159 : decode cL_law 1159 = .ok (.goto 680, 3) := by decide +kernel
theorem dL_law_1162 : decode cL_law 1162 = .ok (.aload_n 1, 1) := by decide +kernel
theorem dL_law_1163 : decode cL_law 1163 = .ok (.aload_n 0, 1) := by decide +kernel
theorem dL_law_1164 : decode cL_law 1164 = .ok (.iload 4, 2) := by decide +kernel
theorem dL_law_1166 : decode cL_law 1166 = .ok (.iconst 1, 1) := by decide +kernel
theorem dL_law_1167 : decode cL_law 1167 = .ok (.iadd, 1) := by decide +kernel
theorem dL_law_1168 : decode cL_law 1168 = .ok (.iaload, 1) := by decide +kernel
theorem dL_law_1169 : decode cL_law 1169 = .ok (.aload_n 0, 1) := by decide +kernel
theorem dL_law_1170 : decode cL_law 1170 = .ok (.iload 4, 2) := by decide +kernel
theorem dL_law_1172 : decode cL_law 1172 = .ok (.iconst 2, 1) := by decide +kernel
theorem dL_law_1173 : decode cL_law 1173 = .ok (.iadd, 1) := by decide +kernel
theorem dL_law_1174 : decode cL_law 1174 = .ok (.iaload, 1) := by decide +kernel
theorem dL_law_1175 : decode cL_law 1175 = .ok (.aload_n 0, 1) := by decide +kernel
theorem dL_law_1176 : decode cL_law 1176 = .ok (.iload 4, 2) := by decide +kernel
theorem dL_law_1178 : decode cL_law 1178 = .ok (.iconst 3, 1) := by decide +kernel
theorem dL_law_1179 : decode cL_law 1179 = .ok (.iadd, 1) := by decide +kernel
theorem dL_law_1180 : decode cL_law 1180 = .ok (.iaload, 1) := by decide +kernel
theorem dL_law_1181 : decode cL_law 1181 = .ok (.aload_n 0, 1) := by decide +kernel
theorem dL_law_1182 : decode cL_law 1182 = .ok (.iload 4, 2) := by decide +kernel
theorem dL_law_1184 : decode cL_law 1184 = .ok (.iconst 4, 1) := by decide +kernel
theorem dL_law_1185 : decode cL_law 1185 = .ok (.iadd, 1) := by decide +kernel
theorem dL_law_1186 : decode cL_law 1186 = .ok (.iaload, 1) := by decide +kernel
theorem dL_law_1187 : decode cL_law 1187 = .ok (.aload_n 3, 1) := by decide +kernel
theorem dL_law_1188 : decode cL_law 1188 = .ok (.invokestatic 150, 3) := by decide +kernel
theorem dL_law_1191 : decode cL_law 1191 = .ok (.istore 5, 2) := by decide +kernel
theorem dL_law_1193 : decode cL_law 1193 = .ok (.aload_n 2, 1) := by decide +kernel
theorem dL_law_1194 : decode cL_law 1194 = .ok (.aload_n 0, 1) := by decide +kernel
theorem dL_law_1195 : decode cL_law 1195 = .ok (.iload 4, 2) := by decide +kernel
theorem dL_law_1197 : decode cL_law 1197 = .ok (.iconst 1, 1) := by decide +kernel
theorem dL_law_1198 : decode cL_law 1198 = .ok (.iadd, 1) := by decide +kernel
theorem dL_law_1199 : decode cL_law 1199 = .ok (.iaload, 1) := by decide +kernel
theorem dL_law_1200 : decode cL_law 1200 = .ok (.aload_n 0, 1) := by decide +kernel
theorem dL_law_1201 : decode cL_law 1201 = .ok (.iload 4, 2) := by decide +kernel
theorem dL_law_1203 : decode cL_law 1203 = .ok (.iconst 2, 1) := by decide +kernel
theorem dL_law_1204 : decode cL_law 1204 = .ok (.iadd, 1) := by decide +kernel
theorem dL_law_1205 : decode cL_law 1205 = .ok (.iaload, 1) := by decide +kernel
theorem dL_law_1206 : decode cL_law 1206 = .ok (.aload_n 0, 1) := by decide +kernel
theorem dL_law_1207 : decode cL_law 1207 = .ok (.iload 4, 2) := by decide +kernel
theorem dL_law_1209 : decode cL_law 1209 = .ok (.iconst 3, 1) := by decide +kernel
theorem dL_law_1210 : decode cL_law 1210 = .ok (.iadd, 1) := by decide +kernel
theorem dL_law_1211 : decode cL_law 1211 = .ok (.iaload, 1) := by decide +kernel
theorem dL_law_1212 : decode cL_law 1212 = .ok (.aload_n 0, 1) := by decide +kernel
theorem dL_law_1213 : decode cL_law 1213 = .ok (.iload 4, 2) := by decide +kernel
theorem dL_law_1215 : decode cL_law 1215 = .ok (.iconst 4, 1) := by decide +kernel
theorem dL_law_1216 : decode cL_law 1216 = .ok (.iadd, 1) := by decide +kernel
theorem dL_law_1217 : decode cL_law 1217 = .ok (.iaload, 1) := by decide +kernel
theorem dL_law_1218 : decode cL_law 1218 = .ok (.invokevirtual 152, 3) := by decide +kernel
theorem dL_law_1221 : decode cL_law 1221 = .ok (.lstore 6, 2) := by decide +kernel
theorem dL_law_1223 : decode cL_law 1223 = .ok (.aload_n 2, 1) := by decide +kernel
theorem dL_law_1224 : decode cL_law 1224 = .ok (.invokevirtual 92, 3) := by decide +kernel
theorem dL_law_1227 : decode cL_law 1227 = .ok (.iload 5, 2) := by decide +kernel
theorem dL_law_1229 : decode cL_law 1229 = .ok (.if_icmp .eq 5, 3) := by decide +kernel
theorem dL_law_1232 : decode cL_law 1232 = .ok (.iconst 0, 1) := by decide +kernel
theorem dL_law_1233 : decode cL_law 1233 = .ok (.ireturn, 1) := by decide +kernel
theorem dL_law_1234 : decode cL_law 1234 = .ok (.iload 5, 2) := by decide +kernel
theorem dL_law_1236 : decode cL_law 1236 = .ok (.ifCond .ne 14, 3) := by decide +kernel
theorem dL_law_1239 : decode cL_law 1239 = .ok (.aload_n 3, 1) := by decide +kernel
theorem dL_law_1240 : decode cL_law 1240 = .ok (.iconst 0, 1) := by decide +kernel
theorem dL_law_1241 : decode cL_law 1241 = .ok (.laload, 1) := by decide +kernel
theorem dL_law_1242 : decode cL_law 1242 = .ok (.lload 6, 2) := by decide +kernel
theorem dL_law_1244 : decode cL_law 1244 = .ok (.lcmp, 1) := by decide +kernel
theorem dL_law_1245 : decode cL_law 1245 = .ok (.ifCond .eq 5, 3) := by decide +kernel
theorem dL_law_1248 : decode cL_law 1248 = .ok (.iconst 0, 1) := by decide +kernel
theorem dL_law_1249 : decode cL_law 1249 = .ok (.ireturn, 1) := by decide +kernel
theorem dL_law_1250 : decode cL_law 1250 = .ok (.goto 589, 3) := by decide +kernel
theorem dL_law_1253 : decode cL_law 1253 = .ok (.aload_n 1, 1) := by decide +kernel
theorem dL_law_1254 : decode cL_law 1254 = .ok (.aload_n 0, 1) := by decide +kernel
theorem dL_law_1255 : decode cL_law 1255 = .ok (.iload 4, 2) := by decide +kernel
theorem dL_law_1257 : decode cL_law 1257 = .ok (.iconst 1, 1) := by decide +kernel
theorem dL_law_1258 : decode cL_law 1258 = .ok (.iadd, 1) := by decide +kernel
theorem dL_law_1259 : decode cL_law 1259 = .ok (.iaload, 1) := by decide +kernel
theorem dL_law_1260 : decode cL_law 1260 = .ok (.aload_n 0, 1) := by decide +kernel
theorem dL_law_1261 : decode cL_law 1261 = .ok (.iload 4, 2) := by decide +kernel
theorem dL_law_1263 : decode cL_law 1263 = .ok (.iconst 2, 1) := by decide +kernel
theorem dL_law_1264 : decode cL_law 1264 = .ok (.iadd, 1) := by decide +kernel
theorem dL_law_1265 : decode cL_law 1265 = .ok (.iaload, 1) := by decide +kernel
theorem dL_law_1266 : decode cL_law 1266 = .ok (.aload_n 0, 1) := by decide +kernel
theorem dL_law_1267 : decode cL_law 1267 = .ok (.iload 4, 2) := by decide +kernel
theorem dL_law_1269 : decode cL_law 1269 = .ok (.iconst 3, 1) := by decide +kernel
theorem dL_law_1270 : decode cL_law 1270 = .ok (.iadd, 1) := by decide +kernel
theorem dL_law_1271 : decode cL_law 1271 = .ok (.iaload, 1) := by decide +kernel
theorem dL_law_1272 : decode cL_law 1272 = .ok (.aload_n 0, 1) := by decide +kernel
theorem dL_law_1273 : decode cL_law 1273 = .ok (.iload 4, 2) := by decide +kernel
theorem dL_law_1275 : decode cL_law 1275 = .ok (.iconst 4, 1) := by decide +kernel
theorem dL_law_1276 : decode cL_law 1276 = .ok (.iadd, 1) := by decide +kernel
theorem dL_law_1277 : decode cL_law 1277 = .ok (.iaload, 1) := by decide +kernel
theorem dL_law_1278 : decode cL_law 1278 = .ok (.ifCond .eq 7, 3) := by decide +kernel
theorem dL_law_1281 : decode cL_law 1281 = .ok (.iconst 1, 1) := by decide +kernel
theorem dL_law_1282 : decode cL_law 1282 = .ok (.goto 4, 3) := by decide +kernel
theorem dL_law_1285 : decode cL_law 1285 = .ok (.iconst 0, 1) := by decide +kernel
theorem dL_law_1286 : decode cL_law 1286 = .ok (.aload_n 3, 1) := by decide +kernel
theorem dL_law_1287 : decode cL_law 1287 = .ok (.invokestatic 153, 3) := by decide +kernel
theorem dL_law_1290 : decode cL_law 1290 = .ok (.istore 5, 2) := by decide +kernel
theorem dL_law_1292 : decode cL_law 1292 = .ok (.aload_n 2, 1) := by decide +kernel
theorem dL_law_1293 : decode cL_law 1293 = .ok (.aload_n 0, 1) := by decide +kernel
theorem dL_law_1294 : decode cL_law 1294 = .ok (.iload 4, 2) := by decide +kernel
theorem dL_law_1296 : decode cL_law 1296 = .ok (.iconst 1, 1) := by decide +kernel
theorem dL_law_1297 : decode cL_law 1297 = .ok (.iadd, 1) := by decide +kernel
theorem dL_law_1298 : decode cL_law 1298 = .ok (.iaload, 1) := by decide +kernel
theorem dL_law_1299 : decode cL_law 1299 = .ok (.aload_n 0, 1) := by decide +kernel
theorem dL_law_1300 : decode cL_law 1300 = .ok (.iload 4, 2) := by decide +kernel
theorem dL_law_1302 : decode cL_law 1302 = .ok (.iconst 2, 1) := by decide +kernel
theorem dL_law_1303 : decode cL_law 1303 = .ok (.iadd, 1) := by decide +kernel
theorem dL_law_1304 : decode cL_law 1304 = .ok (.iaload, 1) := by decide +kernel
theorem dL_law_1305 : decode cL_law 1305 = .ok (.aload_n 0, 1) := by decide +kernel
theorem dL_law_1306 : decode cL_law 1306 = .ok (.iload 4, 2) := by decide +kernel
theorem dL_law_1308 : decode cL_law 1308 = .ok (.iconst 3, 1) := by decide +kernel
theorem dL_law_1309 : decode cL_law 1309 = .ok (.iadd, 1) := by decide +kernel
theorem dL_law_1310 : decode cL_law 1310 = .ok (.iaload, 1) := by decide +kernel
theorem dL_law_1311 : decode cL_law 1311 = .ok (.aload_n 0, 1) := by decide +kernel
theorem dL_law_1312 : decode cL_law 1312 = .ok (.iload 4, 2) := by decide +kernel
theorem dL_law_1314 : decode cL_law 1314 = .ok (.iconst 4, 1) := by decide +kernel
theorem dL_law_1315 : decode cL_law 1315 = .ok (.iadd, 1) := by decide +kernel
theorem dL_law_1316 : decode cL_law 1316 = .ok (.iaload, 1) := by decide +kernel
theorem dL_law_1317 : decode cL_law 1317 = .ok (.ifCond .eq 7, 3) := by decide +kernel
theorem dL_law_1320 : decode cL_law 1320 = .ok (.iconst 1, 1) := by decide +kernel
theorem dL_law_1321 : decode cL_law 1321 = .ok (.goto 4, 3) := by decide +kernel
theorem dL_law_1324 : decode cL_law 1324 = .ok (.iconst 0, 1) := by decide +kernel
theorem dL_law_1325 : decode cL_law 1325 = .ok (.invokevirtual 156, 3) := by decide +kernel
theorem dL_law_1328 : decode cL_law 1328 = .ok (.istore 6, 2) := by decide +kernel
theorem dL_law_1330 : decode cL_law 1330 = .ok (.aload_n 2, 1) := by decide +kernel
theorem dL_law_1331 : decode cL_law 1331 = .ok (.invokevirtual 92, 3) := by decide +kernel
theorem dL_law_1334 : decode cL_law 1334 = .ok (.iload 5, 2) := by decide +kernel
theorem dL_law_1336 : decode cL_law 1336 = .ok (.if_icmp .eq 5, 3) := by decide +kernel
theorem dL_law_1339 : decode cL_law 1339 = .ok (.iconst 0, 1) := by decide +kernel
theorem dL_law_1340 : decode cL_law 1340 = .ok (.ireturn, 1) := by decide +kernel
theorem dL_law_1341 : decode cL_law 1341 = .ok (.iload 5, 2) := by decide +kernel
theorem dL_law_1343 : decode cL_law 1343 = .ok (.ifCond .ne 15, 3) := by decide +kernel
theorem dL_law_1346 : decode cL_law 1346 = .ok (.aload_n 3, 1) := by decide +kernel
theorem dL_law_1347 : decode cL_law 1347 = .ok (.iconst 0, 1) := by decide +kernel
theorem dL_law_1348 : decode cL_law 1348 = .ok (.laload, 1) := by decide +kernel
theorem dL_law_1349 : decode cL_law 1349 = .ok (.iload 6, 2) := by decide +kernel
theorem dL_law_1351 : decode cL_law 1351 = .ok (.i2l, 1) := by decide +kernel
theorem dL_law_1352 : decode cL_law 1352 = .ok (.lcmp, 1) := by decide +kernel
theorem dL_law_1353 : decode cL_law 1353 = .ok (.ifCond .eq 5, 3) := by decide +kernel
theorem dL_law_1356 : decode cL_law 1356 = .ok (.iconst 0, 1) := by decide +kernel
theorem dL_law_1357 : decode cL_law 1357 = .ok (.ireturn, 1) := by decide +kernel
theorem dL_law_1358 : decode cL_law 1358 = .ok (.goto 481, 3) := by decide +kernel
theorem dL_law_1361 : decode cL_law 1361 = .ok (.aload_n 1, 1) := by decide +kernel
theorem dL_law_1362 : decode cL_law 1362 = .ok (.aload_n 0, 1) := by decide +kernel
theorem dL_law_1363 : decode cL_law 1363 = .ok (.iload 4, 2) := by decide +kernel
theorem dL_law_1365 : decode cL_law 1365 = .ok (.iconst 1, 1) := by decide +kernel
theorem dL_law_1366 : decode cL_law 1366 = .ok (.iadd, 1) := by decide +kernel
theorem dL_law_1367 : decode cL_law 1367 = .ok (.iaload, 1) := by decide +kernel
theorem dL_law_1368 : decode cL_law 1368 = .ok (.aload_n 0, 1) := by decide +kernel
theorem dL_law_1369 : decode cL_law 1369 = .ok (.iload 4, 2) := by decide +kernel
theorem dL_law_1371 : decode cL_law 1371 = .ok (.iconst 2, 1) := by decide +kernel
theorem dL_law_1372 : decode cL_law 1372 = .ok (.iadd, 1) := by decide +kernel
theorem dL_law_1373 : decode cL_law 1373 = .ok (.iaload, 1) := by decide +kernel
theorem dL_law_1374 : decode cL_law 1374 = .ok (.aload_n 0, 1) := by decide +kernel
theorem dL_law_1375 : decode cL_law 1375 = .ok (.iload 4, 2) := by decide +kernel
theorem dL_law_1377 : decode cL_law 1377 = .ok (.iconst 3, 1) := by decide +kernel
theorem dL_law_1378 : decode cL_law 1378 = .ok (.iadd, 1) := by decide +kernel
theorem dL_law_1379 : decode cL_law 1379 = .ok (.iaload, 1) := by decide +kernel
theorem dL_law_1380 : decode cL_law 1380 = .ok (.aload_n 0, 1) := by decide +kernel
theorem dL_law_1381 : decode cL_law 1381 = .ok (.iload 4, 2) := by decide +kernel
theorem dL_law_1383 : decode cL_law 1383 = .ok (.iconst 4, 1) := by decide +kernel
theorem dL_law_1384 : decode cL_law 1384 = .ok (.iadd, 1) := by decide +kernel
theorem dL_law_1385 : decode cL_law 1385 = .ok (.iaload, 1) := by decide +kernel
theorem dL_law_1386 : decode cL_law 1386 = .ok (.aload_n 3, 1) := by decide +kernel
theorem dL_law_1387 : decode cL_law 1387 = .ok (.invokestatic 157, 3) := by decide +kernel
theorem dL_law_1390 : decode cL_law 1390 = .ok (.istore 5, 2) := by decide +kernel
theorem dL_law_1392 : decode cL_law 1392 = .ok (.aload_n 2, 1) := by decide +kernel
theorem dL_law_1393 : decode cL_law 1393 = .ok (.aload_n 0, 1) := by decide +kernel
theorem dL_law_1394 : decode cL_law 1394 = .ok (.iload 4, 2) := by decide +kernel
theorem dL_law_1396 : decode cL_law 1396 = .ok (.iconst 1, 1) := by decide +kernel
theorem dL_law_1397 : decode cL_law 1397 = .ok (.iadd, 1) := by decide +kernel
theorem dL_law_1398 : decode cL_law 1398 = .ok (.iaload, 1) := by decide +kernel
theorem dL_law_1399 : decode cL_law 1399 = .ok (.aload_n 0, 1) := by decide +kernel
theorem dL_law_1400 : decode cL_law 1400 = .ok (.iload 4, 2) := by decide +kernel
theorem dL_law_1402 : decode cL_law 1402 = .ok (.iconst 2, 1) := by decide +kernel
theorem dL_law_1403 : decode cL_law 1403 = .ok (.iadd, 1) := by decide +kernel
theorem dL_law_1404 : decode cL_law 1404 = .ok (.iaload, 1) := by decide +kernel
theorem dL_law_1405 : decode cL_law 1405 = .ok (.aload_n 0, 1) := by decide +kernel
theorem dL_law_1406 : decode cL_law 1406 = .ok (.iload 4, 2) := by decide +kernel
theorem dL_law_1408 : decode cL_law 1408 = .ok (.iconst 3, 1) := by decide +kernel
theorem dL_law_1409 : decode cL_law 1409 = .ok (.iadd, 1) := by decide +kernel
theorem dL_law_1410 : decode cL_law 1410 = .ok (.iaload, 1) := by decide +kernel
theorem dL_law_1411 : decode cL_law 1411 = .ok (.aload_n 0, 1) := by decide +kernel
theorem dL_law_1412 : decode cL_law 1412 = .ok (.iload 4, 2) := by decide +kernel
theorem dL_law_1414 : decode cL_law 1414 = .ok (.iconst 4, 1) := by decide +kernel
theorem dL_law_1415 : decode cL_law 1415 = .ok (.iadd, 1) := by decide +kernel
theorem dL_law_1416 : decode cL_law 1416 = .ok (.iaload, 1) := by decide +kernel
theorem dL_law_1417 : decode cL_law 1417 = .ok (.invokevirtual 159, 3) := by decide +kernel
theorem dL_law_1420 : decode cL_law 1420 = .ok (.lstore 6, 2) := by decide +kernel
theorem dL_law_1422 : decode cL_law 1422 = .ok (.aload_n 2, 1) := by decide +kernel
theorem dL_law_1423 : decode cL_law 1423 = .ok (.invokevirtual 92, 3) := by decide +kernel
theorem dL_law_1426 : decode cL_law 1426 = .ok (.iload 5, 2) := by decide +kernel
theorem dL_law_1428 : decode cL_law 1428 = .ok (.if_icmp .eq 5, 3) := by decide +kernel
theorem dL_law_1431 : decode cL_law 1431 = .ok (.iconst 0, 1) := by decide +kernel
theorem dL_law_1432 : decode cL_law 1432 = .ok (.ireturn, 1) := by decide +kernel
theorem dL_law_1433 : decode cL_law 1433 = .ok (.iload 5, 2) := by decide +kernel
theorem dL_law_1435 : decode cL_law 1435 = .ok (.ifCond .ne 14, 3) := by decide +kernel
theorem dL_law_1438 : decode cL_law 1438 = .ok (.aload_n 3, 1) := by decide +kernel
theorem dL_law_1439 : decode cL_law 1439 = .ok (.iconst 0, 1) := by decide +kernel
theorem dL_law_1440 : decode cL_law 1440 = .ok (.laload, 1) := by decide +kernel
theorem dL_law_1441 : decode cL_law 1441 = .ok (.lload 6, 2) := by decide +kernel
theorem dL_law_1443 : decode cL_law 1443 = .ok (.lcmp, 1) := by decide +kernel
theorem dL_law_1444 : decode cL_law 1444 = .ok (.ifCond .eq 5, 3) := by decide +kernel
theorem dL_law_1447 : decode cL_law 1447 = .ok (.iconst 0, 1) := by decide +kernel
theorem dL_law_1448 : decode cL_law 1448 = .ok (.ireturn, 1) := by decide +kernel
theorem dL_law_1449 : decode cL_law 1449 = .ok (.goto 390, 3) := by decide +kernel
theorem dL_law_1452 : decode cL_law 1452 = .ok (.aload_n 1, 1) := by decide +kernel
theorem dL_law_1453 : decode cL_law 1453 = .ok (.aload_n 0, 1) := by decide +kernel
theorem dL_law_1454 : decode cL_law 1454 = .ok (.iload 4, 2) := by decide +kernel
theorem dL_law_1456 : decode cL_law 1456 = .ok (.iconst 1, 1) := by decide +kernel
theorem dL_law_1457 : decode cL_law 1457 = .ok (.iadd, 1) := by decide +kernel
theorem dL_law_1458 : decode cL_law 1458 = .ok (.iaload, 1) := by decide +kernel
theorem dL_law_1459 : decode cL_law 1459 = .ok (.aload_n 0, 1) := by decide +kernel
theorem dL_law_1460 : decode cL_law 1460 = .ok (.iload 4, 2) := by decide +kernel
theorem dL_law_1462 : decode cL_law 1462 = .ok (.iconst 2, 1) := by decide +kernel
theorem dL_law_1463 : decode cL_law 1463 = .ok (.iadd, 1) := by decide +kernel
theorem dL_law_1464 : decode cL_law 1464 = .ok (.iaload, 1) := by decide +kernel
theorem dL_law_1465 : decode cL_law 1465 = .ok (.aload_n 3, 1) := by decide +kernel
theorem dL_law_1466 : decode cL_law 1466 = .ok (.invokestatic 160, 3) := by decide +kernel
theorem dL_law_1469 : decode cL_law 1469 = .ok (.istore 5, 2) := by decide +kernel
theorem dL_law_1471 : decode cL_law 1471 = .ok (.aload_n 2, 1) := by decide +kernel
theorem dL_law_1472 : decode cL_law 1472 = .ok (.aload_n 0, 1) := by decide +kernel
theorem dL_law_1473 : decode cL_law 1473 = .ok (.iload 4, 2) := by decide +kernel
theorem dL_law_1475 : decode cL_law 1475 = .ok (.iconst 1, 1) := by decide +kernel
theorem dL_law_1476 : decode cL_law 1476 = .ok (.iadd, 1) := by decide +kernel
theorem dL_law_1477 : decode cL_law 1477 = .ok (.iaload, 1) := by decide +kernel
theorem dL_law_1478 : decode cL_law 1478 = .ok (.aload_n 0, 1) := by decide +kernel
theorem dL_law_1479 : decode cL_law 1479 = .ok (.iload 4, 2) := by decide +kernel
theorem dL_law_1481 : decode cL_law 1481 = .ok (.iconst 2, 1) := by decide +kernel
theorem dL_law_1482 : decode cL_law 1482 = .ok (.iadd, 1) := by decide +kernel
theorem dL_law_1483 : decode cL_law 1483 = .ok (.iaload, 1) := by decide +kernel
theorem dL_law_1484 : decode cL_law 1484 = .ok (.invokevirtual 162, 3) := by decide +kernel
theorem dL_law_1487 : decode cL_law 1487 = .ok (.istore 6, 2) := by decide +kernel
theorem dL_law_1489 : decode cL_law 1489 = .ok (.aload_n 2, 1) := by decide +kernel
theorem dL_law_1490 : decode cL_law 1490 = .ok (.invokevirtual 92, 3) := by decide +kernel
theorem dL_law_1493 : decode cL_law 1493 = .ok (.iload 5, 2) := by decide +kernel
theorem dL_law_1495 : decode cL_law 1495 = .ok (.if_icmp .eq 5, 3) := by decide +kernel
theorem dL_law_1498 : decode cL_law 1498 = .ok (.iconst 0, 1) := by decide +kernel
theorem dL_law_1499 : decode cL_law 1499 = .ok (.ireturn, 1) := by decide +kernel
theorem dL_law_1500 : decode cL_law 1500 = .ok (.iload 5, 2) := by decide +kernel
theorem dL_law_1502 : decode cL_law 1502 = .ok (.ifCond .ne 15, 3) := by decide +kernel
theorem dL_law_1505 : decode cL_law 1505 = .ok (.aload_n 3, 1) := by decide +kernel
theorem dL_law_1506 : decode cL_law 1506 = .ok (.iconst 0, 1) := by decide +kernel
theorem dL_law_1507 : decode cL_law 1507 = .ok (.laload, 1) := by decide +kernel
theorem dL_law_1508 : decode cL_law 1508 = .ok (.iload 6, 2) := by decide +kernel
theorem dL_law_1510 : decode cL_law 1510 = .ok (.i2l, 1) := by decide +kernel
theorem dL_law_1511 : decode cL_law 1511 = .ok (.lcmp, 1) := by decide +kernel
theorem dL_law_1512 : decode cL_law 1512 = .ok (.ifCond .eq 5, 3) := by decide +kernel
theorem dL_law_1515 : decode cL_law 1515 = .ok (.iconst 0, 1) := by decide +kernel
theorem dL_law_1516 : decode cL_law 1516 = .ok (.ireturn, 1) := by decide +kernel
theorem dL_law_1517 : decode cL_law 1517 = .ok (.goto 322, 3) := by decide +kernel
theorem dL_law_1520 : decode cL_law 1520 = .ok (.aload_n 1, 1) := by decide +kernel
theorem dL_law_1521 : decode cL_law 1521 = .ok (.aload_n 0, 1) := by decide +kernel
theorem dL_law_1522 : decode cL_law 1522 = .ok (.iload 4, 2) := by decide +kernel
theorem dL_law_1524 : decode cL_law 1524 = .ok (.iconst 1, 1) := by decide +kernel
theorem dL_law_1525 : decode cL_law 1525 = .ok (.iadd, 1) := by decide +kernel
theorem dL_law_1526 : decode cL_law 1526 = .ok (.iaload, 1) := by decide +kernel
theorem dL_law_1527 : decode cL_law 1527 = .ok (.aload_n 0, 1) := by decide +kernel
theorem dL_law_1528 : decode cL_law 1528 = .ok (.iload 4, 2) := by decide +kernel
theorem dL_law_1530 : decode cL_law 1530 = .ok (.iconst 2, 1) := by decide +kernel
theorem dL_law_1531 : decode cL_law 1531 = .ok (.iadd, 1) := by decide +kernel
theorem dL_law_1532 : decode cL_law 1532 = .ok (.iaload, 1) := by decide +kernel
theorem dL_law_1533 : decode cL_law 1533 = .ok (.aload_n 0, 1) := by decide +kernel
theorem dL_law_1534 : decode cL_law 1534 = .ok (.iload 4, 2) := by decide +kernel
theorem dL_law_1536 : decode cL_law 1536 = .ok (.iconst 3, 1) := by decide +kernel
theorem dL_law_1537 : decode cL_law 1537 = .ok (.iadd, 1) := by decide +kernel
theorem dL_law_1538 : decode cL_law 1538 = .ok (.iaload, 1) := by decide +kernel
theorem dL_law_1539 : decode cL_law 1539 = .ok (.aload_n 3, 1) := by decide +kernel
theorem dL_law_1540 : decode cL_law 1540 = .ok (.invokestatic 163, 3) := by decide +kernel
theorem dL_law_1543 : decode cL_law 1543 = .ok (.istore 5, 2) := by decide +kernel
theorem dL_law_1545 : decode cL_law 1545 = .ok (.aload_n 2, 1) := by decide +kernel
theorem dL_law_1546 : decode cL_law 1546 = .ok (.aload_n 0, 1) := by decide +kernel
theorem dL_law_1547 : decode cL_law 1547 = .ok (.iload 4, 2) := by decide +kernel
theorem dL_law_1549 : decode cL_law 1549 = .ok (.iconst 1, 1) := by decide +kernel
theorem dL_law_1550 : decode cL_law 1550 = .ok (.iadd, 1) := by decide +kernel
theorem dL_law_1551 : decode cL_law 1551 = .ok (.iaload, 1) := by decide +kernel
theorem dL_law_1552 : decode cL_law 1552 = .ok (.aload_n 0, 1) := by decide +kernel
theorem dL_law_1553 : decode cL_law 1553 = .ok (.iload 4, 2) := by decide +kernel
theorem dL_law_1555 : decode cL_law 1555 = .ok (.iconst 2, 1) := by decide +kernel
theorem dL_law_1556 : decode cL_law 1556 = .ok (.iadd, 1) := by decide +kernel
theorem dL_law_1557 : decode cL_law 1557 = .ok (.iaload, 1) := by decide +kernel
theorem dL_law_1558 : decode cL_law 1558 = .ok (.aload_n 0, 1) := by decide +kernel
theorem dL_law_1559 : decode cL_law 1559 = .ok (.iload 4, 2) := by decide +kernel
theorem dL_law_1561 : decode cL_law 1561 = .ok (.iconst 3, 1) := by decide +kernel
theorem dL_law_1562 : decode cL_law 1562 = .ok (.iadd, 1) := by decide +kernel
theorem dL_law_1563 : decode cL_law 1563 = .ok (.iaload, 1) := by decide +kernel
theorem dL_law_1564 : decode cL_law 1564 = .ok (.invokevirtual 165, 3) := by decide +kernel
theorem dL_law_1567 : decode cL_law 1567 = .ok (.istore 6, 2) := by decide +kernel
theorem dL_law_1569 : decode cL_law 1569 = .ok (.aload_n 2, 1) := by decide +kernel
theorem dL_law_1570 : decode cL_law 1570 = .ok (.invokevirtual 92, 3) := by decide +kernel
theorem dL_law_1573 : decode cL_law 1573 = .ok (.iload 5, 2) := by decide +kernel
theorem dL_law_1575 : decode cL_law 1575 = .ok (.if_icmp .eq 5, 3) := by decide +kernel
theorem dL_law_1578 : decode cL_law 1578 = .ok (.iconst 0, 1) := by decide +kernel
theorem dL_law_1579 : decode cL_law 1579 = .ok (.ireturn, 1) := by decide +kernel
theorem dL_law_1580 : decode cL_law 1580 = .ok (.iload 5, 2) := by decide +kernel
theorem dL_law_1582 : decode cL_law 1582 = .ok (.ifCond .ne 15, 3) := by decide +kernel
theorem dL_law_1585 : decode cL_law 1585 = .ok (.aload_n 3, 1) := by decide +kernel
theorem dL_law_1586 : decode cL_law 1586 = .ok (.iconst 0, 1) := by decide +kernel
theorem dL_law_1587 : decode cL_law 1587 = .ok (.laload, 1) := by decide +kernel
theorem dL_law_1588 : decode cL_law 1588 = .ok (.iload 6, 2) := by decide +kernel
theorem dL_law_1590 : decode cL_law 1590 = .ok (.i2l, 1) := by decide +kernel
theorem dL_law_1591 : decode cL_law 1591 = .ok (.lcmp, 1) := by decide +kernel
theorem dL_law_1592 : decode cL_law 1592 = .ok (.ifCond .eq 5, 3) := by decide +kernel
theorem dL_law_1595 : decode cL_law 1595 = .ok (.iconst 0, 1) := by decide +kernel
theorem dL_law_1596 : decode cL_law 1596 = .ok (.ireturn, 1) := by decide +kernel
theorem dL_law_1597 : decode cL_law 1597 = .ok (.goto 242, 3) := by decide +kernel
theorem dL_law_1600 : decode cL_law 1600 = .ok (.aload_n 1, 1) := by decide +kernel
theorem dL_law_1601 : decode cL_law 1601 = .ok (.aload_n 0, 1) := by decide +kernel
theorem dL_law_1602 : decode cL_law 1602 = .ok (.iload 4, 2) := by decide +kernel
theorem dL_law_1604 : decode cL_law 1604 = .ok (.iconst 1, 1) := by decide +kernel
theorem dL_law_1605 : decode cL_law 1605 = .ok (.iadd, 1) := by decide +kernel
theorem dL_law_1606 : decode cL_law 1606 = .ok (.iaload, 1) := by decide +kernel
theorem dL_law_1607 : decode cL_law 1607 = .ok (.aload_n 0, 1) := by decide +kernel
theorem dL_law_1608 : decode cL_law 1608 = .ok (.iload 4, 2) := by decide +kernel
theorem dL_law_1610 : decode cL_law 1610 = .ok (.iconst 2, 1) := by decide +kernel
theorem dL_law_1611 : decode cL_law 1611 = .ok (.iadd, 1) := by decide +kernel
theorem dL_law_1612 : decode cL_law 1612 = .ok (.iaload, 1) := by decide +kernel
theorem dL_law_1613 : decode cL_law 1613 = .ok (.aload_n 0, 1) := by decide +kernel
theorem dL_law_1614 : decode cL_law 1614 = .ok (.iload 4, 2) := by decide +kernel
theorem dL_law_1616 : decode cL_law 1616 = .ok (.iconst 3, 1) := by decide +kernel
theorem dL_law_1617 : decode cL_law 1617 = .ok (.iadd, 1) := by decide +kernel
theorem dL_law_1618 : decode cL_law 1618 = .ok (.iaload, 1) := by decide +kernel
theorem dL_law_1619 : decode cL_law 1619 = .ok (.aload_n 3, 1) := by decide +kernel
theorem dL_law_1620 : decode cL_law 1620 = .ok (.invokestatic 166, 3) := by decide +kernel
theorem dL_law_1623 : decode cL_law 1623 = .ok (.istore 5, 2) := by decide +kernel
theorem dL_law_1625 : decode cL_law 1625 = .ok (.aload_n 2, 1) := by decide +kernel
theorem dL_law_1626 : decode cL_law 1626 = .ok (.aload_n 0, 1) := by decide +kernel
theorem dL_law_1627 : decode cL_law 1627 = .ok (.iload 4, 2) := by decide +kernel
theorem dL_law_1629 : decode cL_law 1629 = .ok (.iconst 1, 1) := by decide +kernel
theorem dL_law_1630 : decode cL_law 1630 = .ok (.iadd, 1) := by decide +kernel
theorem dL_law_1631 : decode cL_law 1631 = .ok (.iaload, 1) := by decide +kernel
theorem dL_law_1632 : decode cL_law 1632 = .ok (.aload_n 0, 1) := by decide +kernel
theorem dL_law_1633 : decode cL_law 1633 = .ok (.iload 4, 2) := by decide +kernel
theorem dL_law_1635 : decode cL_law 1635 = .ok (.iconst 2, 1) := by decide +kernel
theorem dL_law_1636 : decode cL_law 1636 = .ok (.iadd, 1) := by decide +kernel
theorem dL_law_1637 : decode cL_law 1637 = .ok (.iaload, 1) := by decide +kernel
theorem dL_law_1638 : decode cL_law 1638 = .ok (.aload_n 0, 1) := by decide +kernel
theorem dL_law_1639 : decode cL_law 1639 = .ok (.iload 4, 2) := by decide +kernel
theorem dL_law_1641 : decode cL_law 1641 = .ok (.iconst 3, 1) := by decide +kernel
theorem dL_law_1642 : decode cL_law 1642 = .ok (.iadd, 1) := by decide +kernel
theorem dL_law_1643 : decode cL_law 1643 = .ok (.iaload, 1) := by decide +kernel
theorem dL_law_1644 : decode cL_law 1644 = .ok (.invokevirtual 168, 3) := by decide +kernel
theorem dL_law_1647 : decode cL_law 1647 = .ok (.istore 6, 2) := by decide +kernel
theorem dL_law_1649 : decode cL_law 1649 = .ok (.aload_n 2, 1) := by decide +kernel
theorem dL_law_1650 : decode cL_law 1650 = .ok (.invokevirtual 92, 3) := by decide +kernel
theorem dL_law_1653 : decode cL_law 1653 = .ok (.iload 5, 2) := by decide +kernel
theorem dL_law_1655 : decode cL_law 1655 = .ok (.if_icmp .eq 5, 3) := by decide +kernel
theorem dL_law_1658 : decode cL_law 1658 = .ok (.iconst 0, 1) := by decide +kernel
theorem dL_law_1659 : decode cL_law 1659 = .ok (.ireturn, 1) := by decide +kernel
theorem dL_law_1660 : decode cL_law 1660 = .ok (.iload 5, 2) := by decide +kernel
theorem dL_law_1662 : decode cL_law 1662 = .ok (.ifCond .ne 15, 3) := by decide +kernel
theorem dL_law_1665 : decode cL_law 1665 = .ok (.aload_n 3, 1) := by decide +kernel
theorem dL_law_1666 : decode cL_law 1666 = .ok (.iconst 0, 1) := by decide +kernel
theorem dL_law_1667 : decode cL_law 1667 = .ok (.laload, 1) := by decide +kernel
theorem dL_law_1668 : decode cL_law 1668 = .ok (.iload 6, 2) := by decide +kernel
theorem dL_law_1670 : decode cL_law 1670 = .ok (.i2l, 1) := by decide +kernel
theorem dL_law_1671 : decode cL_law 1671 = .ok (.lcmp, 1) := by decide +kernel
theorem dL_law_1672 : decode cL_law 1672 = .ok (.ifCond .eq 5, 3) := by decide +kernel
theorem dL_law_1675 : decode cL_law 1675 = .ok (.iconst 0, 1) := by decide +kernel
theorem dL_law_1676 : decode cL_law 1676 = .ok (.ireturn, 1) := by decide +kernel
theorem dL_law_1677 : decode cL_law 1677 = .ok (.goto 162, 3) := by decide +kernel
theorem dL_law_1680 : decode cL_law 1680 = .ok (.aload_n 1, 1) := by decide +kernel
theorem dL_law_1681 : decode cL_law 1681 = .ok (.aload_n 0, 1) := by decide +kernel
theorem dL_law_1682 : decode cL_law 1682 = .ok (.iload 4, 2) := by decide +kernel
theorem dL_law_1684 : decode cL_law 1684 = .ok (.iconst 1, 1) := by decide +kernel
theorem dL_law_1685 : decode cL_law 1685 = .ok (.iadd, 1) := by decide +kernel
theorem dL_law_1686 : decode cL_law 1686 = .ok (.iaload, 1) := by decide +kernel
theorem dL_law_1687 : decode cL_law 1687 = .ok (.aload_n 0, 1) := by decide +kernel
theorem dL_law_1688 : decode cL_law 1688 = .ok (.iload 4, 2) := by decide +kernel
theorem dL_law_1690 : decode cL_law 1690 = .ok (.iconst 2, 1) := by decide +kernel
theorem dL_law_1691 : decode cL_law 1691 = .ok (.iadd, 1) := by decide +kernel
theorem dL_law_1692 : decode cL_law 1692 = .ok (.iaload, 1) := by decide +kernel
theorem dL_law_1693 : decode cL_law 1693 = .ok (.aload_n 0, 1) := by decide +kernel
theorem dL_law_1694 : decode cL_law 1694 = .ok (.iload 4, 2) := by decide +kernel
theorem dL_law_1696 : decode cL_law 1696 = .ok (.iconst 3, 1) := by decide +kernel
theorem dL_law_1697 : decode cL_law 1697 = .ok (.iadd, 1) := by decide +kernel
theorem dL_law_1698 : decode cL_law 1698 = .ok (.iaload, 1) := by decide +kernel
theorem dL_law_1699 : decode cL_law 1699 = .ok (.aload_n 3, 1) := by decide +kernel
theorem dL_law_1700 : decode cL_law 1700 = .ok (.invokestatic 169, 3) := by decide +kernel
theorem dL_law_1703 : decode cL_law 1703 = .ok (.istore 5, 2) := by decide +kernel
theorem dL_law_1705 : decode cL_law 1705 = .ok (.aload_n 2, 1) := by decide +kernel
theorem dL_law_1706 : decode cL_law 1706 = .ok (.aload_n 0, 1) := by decide +kernel
theorem dL_law_1707 : decode cL_law 1707 = .ok (.iload 4, 2) := by decide +kernel
theorem dL_law_1709 : decode cL_law 1709 = .ok (.iconst 1, 1) := by decide +kernel
theorem dL_law_1710 : decode cL_law 1710 = .ok (.iadd, 1) := by decide +kernel
theorem dL_law_1711 : decode cL_law 1711 = .ok (.iaload, 1) := by decide +kernel
theorem dL_law_1712 : decode cL_law 1712 = .ok (.aload_n 0, 1) := by decide +kernel
theorem dL_law_1713 : decode cL_law 1713 = .ok (.iload 4, 2) := by decide +kernel
theorem dL_law_1715 : decode cL_law 1715 = .ok (.iconst 2, 1) := by decide +kernel
theorem dL_law_1716 : decode cL_law 1716 = .ok (.iadd, 1) := by decide +kernel
theorem dL_law_1717 : decode cL_law 1717 = .ok (.iaload, 1) := by decide +kernel
theorem dL_law_1718 : decode cL_law 1718 = .ok (.aload_n 0, 1) := by decide +kernel
theorem dL_law_1719 : decode cL_law 1719 = .ok (.iload 4, 2) := by decide +kernel
theorem dL_law_1721 : decode cL_law 1721 = .ok (.iconst 3, 1) := by decide +kernel
theorem dL_law_1722 : decode cL_law 1722 = .ok (.iadd, 1) := by decide +kernel
theorem dL_law_1723 : decode cL_law 1723 = .ok (.iaload, 1) := by decide +kernel
theorem dL_law_1724 : decode cL_law 1724 = .ok (.invokevirtual 171, 3) := by decide +kernel
theorem dL_law_1727 : decode cL_law 1727 = .ok (.lstore 6, 2) := by decide +kernel
theorem dL_law_1729 : decode cL_law 1729 = .ok (.aload_n 2, 1) := by decide +kernel
theorem dL_law_1730 : decode cL_law 1730 = .ok (.invokevirtual 92, 3) := by decide +kernel
theorem dL_law_1733 : decode cL_law 1733 = .ok (.iload 5, 2) := by decide +kernel
theorem dL_law_1735 : decode cL_law 1735 = .ok (.if_icmp .eq 5, 3) := by decide +kernel
theorem dL_law_1738 : decode cL_law 1738 = .ok (.iconst 0, 1) := by decide +kernel
theorem dL_law_1739 : decode cL_law 1739 = .ok (.ireturn, 1) := by decide +kernel
theorem dL_law_1740 : decode cL_law 1740 = .ok (.iload 5, 2) := by decide +kernel
theorem dL_law_1742 : decode cL_law 1742 = .ok (.ifCond .ne 14, 3) := by decide +kernel
theorem dL_law_1745 : decode cL_law 1745 = .ok (.aload_n 3, 1) := by decide +kernel
theorem dL_law_1746 : decode cL_law 1746 = .ok (.iconst 0, 1) := by decide +kernel
theorem dL_law_1747 : decode cL_law 1747 = .ok (.laload, 1) := by decide +kernel
theorem dL_law_1748 : decode cL_law 1748 = .ok (.lload 6, 2) := by decide +kernel
theorem dL_law_1750 : decode cL_law 1750 = .ok (.lcmp, 1) := by decide +kernel
theorem dL_law_1751 : decode cL_law 1751 = .ok (.ifCond .eq 5, 3) := by decide +kernel
theorem dL_law_1754 : decode cL_law 1754 = .ok (.iconst 0, 1) := by decide +kernel
theorem dL_law_1755 : decode cL_law 1755 = .ok (.ireturn, 1) := by decide +kernel
theorem dL_law_1756 : decode cL_law 1756 = .ok (.goto 83, 3) := by decide +kernel
theorem dL_law_1759 : decode cL_law 1759 = .ok (.aload_n 1, 1) := by decide +kernel
theorem dL_law_1760 : decode cL_law 1760 = .ok (.aload_n 0, 1) := by decide +kernel
theorem dL_law_1761 : decode cL_law 1761 = .ok (.iload 4, 2) := by decide +kernel
theorem dL_law_1763 : decode cL_law 1763 = .ok (.iconst 1, 1) := by decide +kernel
theorem dL_law_1764 : decode cL_law 1764 = .ok (.iadd, 1) := by decide +kernel
theorem dL_law_1765 : decode cL_law 1765 = .ok (.iaload, 1) := by decide +kernel
theorem dL_law_1766 : decode cL_law 1766 = .ok (.aload_n 0, 1) := by decide +kernel
theorem dL_law_1767 : decode cL_law 1767 = .ok (.iload 4, 2) := by decide +kernel
theorem dL_law_1769 : decode cL_law 1769 = .ok (.iconst 2, 1) := by decide +kernel
theorem dL_law_1770 : decode cL_law 1770 = .ok (.iadd, 1) := by decide +kernel
theorem dL_law_1771 : decode cL_law 1771 = .ok (.iaload, 1) := by decide +kernel
theorem dL_law_1772 : decode cL_law 1772 = .ok (.aload_n 0, 1) := by decide +kernel
theorem dL_law_1773 : decode cL_law 1773 = .ok (.iload 4, 2) := by decide +kernel
theorem dL_law_1775 : decode cL_law 1775 = .ok (.iconst 3, 1) := by decide +kernel
theorem dL_law_1776 : decode cL_law 1776 = .ok (.iadd, 1) := by decide +kernel
theorem dL_law_1777 : decode cL_law 1777 = .ok (.iaload, 1) := by decide +kernel
theorem dL_law_1778 : decode cL_law 1778 = .ok (.aload_n 3, 1) := by decide +kernel
theorem dL_law_1779 : decode cL_law 1779 = .ok (.invokestatic 172, 3) := by decide +kernel
theorem dL_law_1782 : decode cL_law 1782 = .ok (.istore 5, 2) := by decide +kernel
theorem dL_law_1784 : decode cL_law 1784 = .ok (.aload_n 2, 1) := by decide +kernel
theorem dL_law_1785 : decode cL_law 1785 = .ok (.aload_n 0, 1) := by decide +kernel
theorem dL_law_1786 : decode cL_law 1786 = .ok (.iload 4, 2) := by decide +kernel
theorem dL_law_1788 : decode cL_law 1788 = .ok (.iconst 1, 1) := by decide +kernel
theorem dL_law_1789 : decode cL_law 1789 = .ok (.iadd, 1) := by decide +kernel
theorem dL_law_1790 : decode cL_law 1790 = .ok (.iaload, 1) := by decide +kernel
theorem dL_law_1791 : decode cL_law 1791 = .ok (.aload_n 0, 1) := by decide +kernel
theorem dL_law_1792 : decode cL_law 1792 = .ok (.iload 4, 2) := by decide +kernel
theorem dL_law_1794 : decode cL_law 1794 = .ok (.iconst 2, 1) := by decide +kernel
theorem dL_law_1795 : decode cL_law 1795 = .ok (.iadd, 1) := by decide +kernel
theorem dL_law_1796 : decode cL_law 1796 = .ok (.iaload, 1) := by decide +kernel
theorem dL_law_1797 : decode cL_law 1797 = .ok (.aload_n 0, 1) := by decide +kernel
theorem dL_law_1798 : decode cL_law 1798 = .ok (.iload 4, 2) := by decide +kernel
theorem dL_law_1800 : decode cL_law 1800 = .ok (.iconst 3, 1) := by decide +kernel
theorem dL_law_1801 : decode cL_law 1801 = .ok (.iadd, 1) := by decide +kernel
theorem dL_law_1802 : decode cL_law 1802 = .ok (.iaload, 1) := by decide +kernel
theorem dL_law_1803 : decode cL_law 1803 = .ok (.invokevirtual 174, 3) := by decide +kernel
theorem dL_law_1806 : decode cL_law 1806 = .ok (.istore 6, 2) := by decide +kernel
theorem dL_law_1808 : decode cL_law 1808 = .ok (.aload_n 2, 1) := by decide +kernel
theorem dL_law_1809 : decode cL_law 1809 = .ok (.invokevirtual 92, 3) := by decide +kernel
theorem dL_law_1812 : decode cL_law 1812 = .ok (.iload 5, 2) := by decide +kernel
theorem dL_law_1814 : decode cL_law 1814 = .ok (.if_icmp .eq 5, 3) := by decide +kernel
theorem dL_law_1817 : decode cL_law 1817 = .ok (.iconst 0, 1) := by decide +kernel
theorem dL_law_1818 : decode cL_law 1818 = .ok (.ireturn, 1) := by decide +kernel
theorem dL_law_1819 : decode cL_law 1819 = .ok (.iload 5, 2) := by decide +kernel
theorem dL_law_1821 : decode cL_law 1821 = .ok (.ifCond .ne 15, 3) := by decide +kernel
theorem dL_law_1824 : decode cL_law 1824 = .ok (.aload_n 3, 1) := by decide +kernel
theorem dL_law_1825 : decode cL_law 1825 = .ok (.iconst 0, 1) := by decide +kernel
theorem dL_law_1826 : decode cL_law 1826 = .ok (.laload, 1) := by decide +kernel
theorem dL_law_1827 : decode cL_law 1827 = .ok (.iload 6, 2) := by decide +kernel
theorem dL_law_1829 : decode cL_law 1829 = .ok (.i2l, 1) := by decide +kernel
theorem dL_law_1830 : decode cL_law 1830 = .ok (.lcmp, 1) := by decide +kernel
theorem dL_law_1831 : decode cL_law 1831 = .ok (.ifCond .eq 5, 3) := by decide +kernel
theorem dL_law_1834 : decode cL_law 1834 = .ok (.iconst 0, 1) := by decide +kernel
theorem dL_law_1835 : decode cL_law 1835 = .ok (.ireturn, 1) := by decide +kernel
theorem dL_law_1836 : decode cL_law 1836 = .ok (.goto 3, 3) := by decide +kernel
theorem dL_law_1839 : decode cL_law 1839 = .ok (.iinc 4 7, 3) := by decide +kernel
theorem dL_law_1842 : decode cL_law 1842 = .ok (.goto (-1819), 3) := by decide +kernel
theorem dL_law_1845 : decode cL_law 1845 = .ok (.iconst 1, 1) := by decide +kernel
theorem dL_law_1846 : decode cL_law 1846 = .ok (.ireturn, 1) := by decide +kernel
