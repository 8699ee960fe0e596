theorem dX0_init_0 : decode cX0_init 0 = .ok (.aload_n 0, 1) := by decide +kernel
theorem dX0_init_1 : decode cX0_init 1 = .ok (.invokespecial 3, 3) := by decide +kernel
theorem dX0_init_4 : decode cX0_init 4 = .ok (.return_, 1) := by decide +kernel
theorem dX0_build_0 : decode cX0_build 0 = .ok (.aload_n 0, 1) := by decide +kernel
theorem dX0_build_1 : decode cX0_build 1 = .ok (.iload_n 1, 1) := by decide +kernel
theorem dX0_build_2 : decode cX0_build 2 = .ok (.putfield 9, 3) := by decide +kernel
theorem dX0_build_5 : decode cX0_build 5 = .ok (.aload_n 0, 1) := by decide +kernel
theorem dX0_build_6 : decode cX0_build 6 = .ok (.iload_n 2, 1) := by decide +kernel
theorem dX0_build_7 : decode cX0_build 7 = .ok (.putfield 15, 3) := by decide +kernel
theorem dX0_build_10 : decode cX0_build 10 = .ok (.aload_n 0, 1) := by decide +kernel
theorem dX0_build_11 : decode cX0_build 11 = .ok (.iload_n 3, 1) := by decide +kernel
theorem dX0_build_12 : decode cX0_build 12 = .ok (.putfield 18, 3) := by decide +kernel
theorem dX0_build_15 : decode cX0_build 15 = .ok (.aload_n 0, 1) := by decide +kernel
theorem dX0_build_16 : decode cX0_build 16 = .ok (.iload 4, 2) := by decide +kernel
theorem dX0_build_18 : decode cX0_build 18 = .ok (.putfield 21, 3) := by decide +kernel
theorem dX0_build_21 : decode cX0_build 21 = .ok (.aload_n 0, 1) := by decide +kernel
theorem dX0_build_22 : decode cX0_build 22 = .ok (.iconst 0, 1) := by decide +kernel
theorem dX0_build_23 : decode cX0_build 23 = .ok (.putfield 24, 3) := by decide +kernel
theorem dX0_build_26 : decode cX0_build 26 = .ok (.return_, 1) := by decide +kernel
theorem dX0_become_0 : decode cX0_become 0 = .ok (.aload_n 0, 1) := by decide +kernel
theorem dX0_become_1 : decode cX0_become 1 = .ok (.aload_n 1, 1) := by decide +kernel
theorem dX0_become_2 : decode cX0_become 2 = .ok (.getfield 9, 3) := by decide +kernel
theorem dX0_become_5 : decode cX0_become 5 = .ok (.aload_n 1, 1) := by decide +kernel
theorem dX0_become_6 : decode cX0_become 6 = .ok (.getfield 15, 3) := by decide +kernel
theorem dX0_become_9 : decode cX0_become 9 = .ok (.aload_n 1, 1) := by decide +kernel
theorem dX0_become_10 : decode cX0_become 10 = .ok (.getfield 18, 3) := by decide +kernel
theorem dX0_become_13 : decode cX0_become 13 = .ok (.aload_n 1, 1) := by decide +kernel
theorem dX0_become_14 : decode cX0_become 14 = .ok (.getfield 21, 3) := by decide +kernel
theorem dX0_become_17 : decode cX0_become 17 = .ok (.invokevirtual 28, 3) := by decide +kernel
theorem dX0_become_20 : decode cX0_become 20 = .ok (.aload_n 0, 1) := by decide +kernel
theorem dX0_become_21 : decode cX0_become 21 = .ok (.aload_n 1, 1) := by decide +kernel
theorem dX0_become_22 : decode cX0_become 22 = .ok (.getfield 24, 3) := by decide +kernel
theorem dX0_become_25 : decode cX0_become 25 = .ok (.putfield 24, 3) := by decide +kernel
theorem dX0_become_28 : decode cX0_become 28 = .ok (.return_, 1) := by decide +kernel
theorem dX0_isOfKind_0 : decode cX0_isOfKind 0 = .ok (.aload_n 0, 1) := by decide +kernel
theorem dX0_isOfKind_1 : decode cX0_isOfKind 1 = .ok (.getfield 9, 3) := by decide +kernel
theorem dX0_isOfKind_4 : decode cX0_isOfKind 4 = .ok (.istore_n 2, 1) := by decide +kernel
theorem dX0_isOfKind_5 : decode cX0_isOfKind 5 = .ok (.iconst 0, 1) := by decide +kernel
theorem dX0_isOfKind_6 : decode cX0_isOfKind 6 = .ok (.istore_n 3, 1) := by decide +kernel
theorem dX0_isOfKind_7 : decode cX0_isOfKind 7 = .ok (.iload_n 3, 1) := by decide +kernel
theorem dX0_isOfKind_8 : decode cX0_isOfKind 8 = .ok (.bipush 6, 2) := by decide +kernel
theorem dX0_isOfKind_10 : decode cX0_isOfKind 10 = .ok (.if_icmp .ge 31, 3) := by decide +kernel
theorem dX0_isOfKind_13 : decode cX0_isOfKind 13 = .ok (.iload_n 2, 1) := by decide +kernel
theorem dX0_isOfKind_14 : decode cX0_isOfKind 14 = .ok (.bipush 6, 2) := by decide +kernel
theorem dX0_isOfKind_16 : decode cX0_isOfKind 16 = .ok (.invokestatic 32, 3) := by decide +kernel
theorem dX0_isOfKind_19 : decode cX0_isOfKind 19 = .ok (.ifCond .eq 22, 3) := by decide +kernel
theorem dX0_isOfKind_22 : decode cX0_isOfKind 22 = .ok (.iload_n 2, 1) := by decide +kernel
theorem dX0_isOfKind_23 : decode cX0_isOfKind 23 = .ok (.iload_n 1, 1) := by decide +kernel
theorem dX0_isOfKind_24 : decode cX0_isOfKind 24 = .ok (.if_icmp .ne 5, 3) := by decide +kernel
theorem dX0_isOfKind_27 : decode cX0_isOfKind 27 = .ok (.iconst 1, 1) := by decide +kernel
theorem dX0_isOfKind_28 : decode cX0_isOfKind 28 = .ok (.ireturn, 1) := by decide +kernel
theorem dX0_isOfKind_29 : decode cX0_isOfKind 29 = .ok (.getstatic 36, 3) := by decide +kernel
theorem dX0_isOfKind_32 : decode cX0_isOfKind 32 = .ok (.iload_n 2, 1) := by decide +kernel
theorem dX0_isOfKind_33 : decode cX0_isOfKind 33 = .ok (.iaload, 1) := by decide +kernel
theorem dX0_isOfKind_34 : decode cX0_isOfKind 34 = .ok (.istore_n 2, 1) := by decide +kernel
theorem dX0_isOfKind_35 : decode cX0_isOfKind 35 = .ok (.iinc 3 1, 3) := by decide +kernel
theorem dX0_isOfKind_38 : decode cX0_isOfKind 38 = .ok (.goto (-31), 3) := by decide +kernel
theorem dX0_isOfKind_41 : decode cX0_isOfKind 41 = .ok (.iconst 0, 1) := by decide +kernel
theorem dX0_isOfKind_42 : decode cX0_isOfKind 42 = .ok (.ireturn, 1) := by decide +kernel
theorem dX0_riseAt_0 : decode cX0_riseAt 0 = .ok (.aload_n 0, 1) := by decide +kernel
theorem dX0_riseAt_1 : decode cX0_riseAt 1 = .ok (.getfield 9, 3) := by decide +kernel
theorem dX0_riseAt_4 : decode cX0_riseAt 4 = .ok (.tableswitch 68 1 4 #[32, 42, 56, 61], 32) := by decide +kernel
theorem dX0_riseAt_36 : decode cX0_riseAt 36 = .ok (.aload_n 0, 1) := by decide +kernel
theorem dX0_riseAt_37 : decode cX0_riseAt 37 = .ok (.getfield 21, 3) := by decide +kernel
theorem dX0_riseAt_40 : decode cX0_riseAt 40 = .ok (.iload_n 1, 1) := by decide +kernel
theorem dX0_riseAt_41 : decode cX0_riseAt 41 = .ok (.isub, 1) := by decide +kernel
theorem dX0_riseAt_42 : decode cX0_riseAt 42 = .ok (.bipush 10, 2) := by decide +kernel
theorem dX0_riseAt_44 : decode cX0_riseAt 44 = .ok (.isub, 1) := by decide +kernel
theorem dX0_riseAt_45 : decode cX0_riseAt 45 = .ok (.ireturn, 1) := by decide +kernel
theorem dX0_riseAt_46 : decode cX0_riseAt 46 = .ok (.iconst 0, 1) := by decide +kernel
theorem dX0_riseAt_47 : decode cX0_riseAt 47 = .ok (.aload_n 0, 1) := by decide +kernel
theorem dX0_riseAt_48 : decode cX0_riseAt 48 = .ok (.getfield 21, 3) := by decide +kernel
theorem dX0_riseAt_51 : decode cX0_riseAt 51 = .ok (.iload_n 1, 1) := by decide +kernel
theorem dX0_riseAt_52 : decode cX0_riseAt 52 = .ok (.isub, 1) := by decide +kernel
theorem dX0_riseAt_53 : decode cX0_riseAt 53 = .ok (.bipush 10, 2) := by decide +kernel
theorem dX0_riseAt_55 : decode cX0_riseAt 55 = .ok (.isub, 1) := by decide +kernel
theorem dX0_riseAt_56 : decode cX0_riseAt 56 = .ok (.invokestatic 40, 3) := by decide +kernel
theorem dX0_riseAt_59 : decode cX0_riseAt 59 = .ok (.ireturn, 1) := by decide +kernel
theorem dX0_riseAt_60 : decode cX0_riseAt 60 = .ok (.aload_n 0, 1) := by decide +kernel
theorem dX0_riseAt_61 : decode cX0_riseAt 61 = .ok (.getfield 21, 3) := by decide +kernel
theorem dX0_riseAt_64 : decode cX0_riseAt 64 = .ok (.ireturn, 1) := by decide +kernel
theorem dX0_riseAt_65 : decode cX0_riseAt 65 = .ok (.aload_n 0, 1) := by decide +kernel
theorem dX0_riseAt_66 : decode cX0_riseAt 66 = .ok (.getfield 21, 3) := by decide +kernel
theorem dX0_riseAt_69 : decode cX0_riseAt 69 = .ok (.iconst 2, 1) := by decide +kernel
theorem dX0_riseAt_70 : decode cX0_riseAt 70 = .ok (.idiv, 1) := by decide +kernel
theorem dX0_riseAt_71 : decode cX0_riseAt 71 = .ok (.ireturn, 1) := by decide +kernel
theorem dX0_riseAt_72 : decode cX0_riseAt 72 = .ok (.aload_n 0, 1) := by decide +kernel
theorem dX0_riseAt_73 : decode cX0_riseAt 73 = .ok (.getfield 21, 3) := by decide +kernel
theorem dX0_riseAt_76 : decode cX0_riseAt 76 = .ok (.iload_n 1, 1) := by decide +kernel
theorem dX0_riseAt_77 : decode cX0_riseAt 77 = .ok (.isub, 1) := by decide +kernel
theorem dX0_riseAt_78 : decode cX0_riseAt 78 = .ok (.ireturn, 1) := by decide +kernel
theorem dX0_paces_0 : decode cX0_paces 0 = .ok (.aload_n 0, 1) := by decide +kernel
theorem dX0_paces_1 : decode cX0_paces 1 = .ok (.getfield 9, 3) := by decide +kernel
theorem dX0_paces_4 : decode cX0_paces 4 = .ok (.tableswitch 61 1 5 #[36, 43, 61, 52, 59], 36) := by decide +kernel
theorem dX0_paces_40 : decode cX0_paces 40 = .ok (.iconst 2, 1) := by decide +kernel
theorem dX0_paces_41 : decode cX0_paces 41 = .ok (.aload_n 0, 1) := by decide +kernel
theorem dX0_paces_42 : decode cX0_paces 42 = .ok (.getfield 18, 3) := by decide +kernel
theorem dX0_paces_45 : decode cX0_paces 45 = .ok (.imul, 1) := by decide +kernel
theorem dX0_paces_46 : decode cX0_paces 46 = .ok (.ireturn, 1) := by decide +kernel
theorem dX0_paces_47 : decode cX0_paces 47 = .ok (.iconst 2, 1) := by decide +kernel
theorem dX0_paces_48 : decode cX0_paces 48 = .ok (.aload_n 0, 1) := by decide +kernel
theorem dX0_paces_49 : decode cX0_paces 49 = .ok (.getfield 18, 3) := by decide +kernel
theorem dX0_paces_52 : decode cX0_paces 52 = .ok (.imul, 1) := by decide +kernel
theorem dX0_paces_53 : decode cX0_paces 53 = .ok (.iconst 4, 1) := by decide +kernel
theorem dX0_paces_54 : decode cX0_paces 54 = .ok (.iadd, 1) := by decide +kernel
theorem dX0_paces_55 : decode cX0_paces 55 = .ok (.ireturn, 1) := by decide +kernel
theorem dX0_paces_56 : decode cX0_paces 56 = .ok (.aload_n 0, 1) := by decide +kernel
theorem dX0_paces_57 : decode cX0_paces 57 = .ok (.getfield 18, 3) := by decide +kernel
theorem dX0_paces_60 : decode cX0_paces 60 = .ok (.iconst 2, 1) := by decide +kernel
theorem dX0_paces_61 : decode cX0_paces 61 = .ok (.iadd, 1) := by decide +kernel
theorem dX0_paces_62 : decode cX0_paces 62 = .ok (.ireturn, 1) := by decide +kernel
theorem dX0_paces_63 : decode cX0_paces 63 = .ok (.iconst 1, 1) := by decide +kernel
theorem dX0_paces_64 : decode cX0_paces 64 = .ok (.ireturn, 1) := by decide +kernel
theorem dX0_paces_65 : decode cX0_paces 65 = .ok (.aload_n 0, 1) := by decide +kernel
theorem dX0_paces_66 : decode cX0_paces 66 = .ok (.getfield 18, 3) := by decide +kernel
theorem dX0_paces_69 : decode cX0_paces 69 = .ok (.ireturn, 1) := by decide +kernel
theorem dX1_init_0 : decode cX1_init 0 = .ok (.aload_n 0, 1) := by decide +kernel
theorem dX1_init_1 : decode cX1_init 1 = .ok (.invokespecial 3, 3) := by decide +kernel
theorem dX1_init_4 : decode cX1_init 4 = .ok (.aload_n 0, 1) := by decide +kernel
theorem dX1_init_5 : decode cX1_init 5 = .ok (.bipush 20, 2) := by decide +kernel
theorem dX1_init_7 : decode cX1_init 7 = .ok (.anewarray 9, 3) := by decide +kernel
theorem dX1_init_10 : decode cX1_init 10 = .ok (.putfield 11, 3) := by decide +kernel
theorem dX1_init_13 : decode cX1_init 13 = .ok (.aload_n 0, 1) := by decide +kernel
theorem dX1_init_14 : decode cX1_init 14 = .ok (.bipush 6, 2) := by decide +kernel
theorem dX1_init_16 : decode cX1_init 16 = .ok (.anewarray 17, 3) := by decide +kernel
theorem dX1_init_19 : decode cX1_init 19 = .ok (.putfield 19, 3) := by decide +kernel
theorem dX1_init_22 : decode cX1_init 22 = .ok (.aload_n 0, 1) := by decide +kernel
theorem dX1_init_23 : decode cX1_init 23 = .ok (.iconst (-1), 1) := by decide +kernel
theorem dX1_init_24 : decode cX1_init 24 = .ok (.putfield 23, 3) := by decide +kernel
theorem dX1_init_27 : decode cX1_init 27 = .ok (.aload_n 0, 1) := by decide +kernel
theorem dX1_init_28 : decode cX1_init 28 = .ok (.bipush 6, 2) := by decide +kernel
theorem dX1_init_30 : decode cX1_init 30 = .ok (.anewarray 27, 3) := by decide +kernel
theorem dX1_init_33 : decode cX1_init 33 = .ok (.putfield 29, 3) := by decide +kernel
theorem dX1_init_36 : decode cX1_init 36 = .ok (.aload_n 0, 1) := by decide +kernel
theorem dX1_init_37 : decode cX1_init 37 = .ok (.bipush 10, 2) := by decide +kernel
theorem dX1_init_39 : decode cX1_init 39 = .ok (.newarray .int, 2) := by decide +kernel
theorem dX1_init_41 : decode cX1_init 41 = .ok (.putfield 33, 3) := by decide +kernel
theorem dX1_init_44 : decode cX1_init 44 = .ok (.aload_n 0, 1) := by decide +kernel
theorem dX1_init_45 : decode cX1_init 45 = .ok (.bipush 10, 2) := by decide +kernel
theorem dX1_init_47 : decode cX1_init 47 = .ok (.newarray .int, 2) := by decide +kernel
theorem dX1_init_49 : decode cX1_init 49 = .ok (.putfield 37, 3) := by decide +kernel
theorem dX1_init_52 : decode cX1_init 52 = .ok (.aload_n 0, 1) := by decide +kernel
theorem dX1_init_53 : decode cX1_init 53 = .ok (.bipush 12, 2) := by decide +kernel
theorem dX1_init_55 : decode cX1_init 55 = .ok (.newarray .int, 2) := by decide +kernel
theorem dX1_init_57 : decode cX1_init 57 = .ok (.putfield 40, 3) := by decide +kernel
theorem dX1_init_60 : decode cX1_init 60 = .ok (.aload_n 0, 1) := by decide +kernel
theorem dX1_init_61 : decode cX1_init 61 = .ok (.iconst 1, 1) := by decide +kernel
theorem dX1_init_62 : decode cX1_init 62 = .ok (.putfield 43, 3) := by decide +kernel
theorem dX1_init_65 : decode cX1_init 65 = .ok (.aload_n 0, 1) := by decide +kernel
theorem dX1_init_66 : decode cX1_init 66 = .ok (.new 46, 3) := by decide +kernel
theorem dX1_init_69 : decode cX1_init 69 = .ok (.dup, 1) := by decide +kernel
theorem dX1_init_70 : decode cX1_init 70 = .ok (.invokespecial 48, 3) := by decide +kernel
theorem dX1_init_73 : decode cX1_init 73 = .ok (.putfield 49, 3) := by decide +kernel
theorem dX1_init_76 : decode cX1_init 76 = .ok (.iconst 0, 1) := by decide +kernel
theorem dX1_init_77 : decode cX1_init 77 = .ok (.istore_n 1, 1) := by decide +kernel
theorem dX1_init_78 : decode cX1_init 78 = .ok (.iload_n 1, 1) := by decide +kernel
theorem dX1_init_79 : decode cX1_init 79 = .ok (.bipush 20, 2) := by decide +kernel
theorem dX1_init_81 : decode cX1_init 81 = .ok (.if_icmp .ge 22, 3) := by decide +kernel
theorem dX1_init_84 : decode cX1_init 84 = .ok (.aload_n 0, 1) := by decide +kernel
theorem dX1_init_85 : decode cX1_init 85 = .ok (.getfield 11, 3) := by decide +kernel
theorem dX1_init_88 : decode cX1_init 88 = .ok (.iload_n 1, 1) := by decide +kernel
theorem dX1_init_89 : decode cX1_init 89 = .ok (.new 9, 3) := by decide +kernel
theorem dX1_init_92 : decode cX1_init 92 = .ok (.dup, 1) := by decide +kernel
theorem dX1_init_93 : decode cX1_init 93 = .ok (.invokespecial 53, 3) := by decide +kernel
theorem dX1_init_96 : decode cX1_init 96 = .ok (.aastore, 1) := by decide +kernel
theorem dX1_init_97 : decode cX1_init 97 = .ok (.iinc 1 1, 3) := by decide +kernel
theorem dX1_init_100 : decode cX1_init 100 = .ok (.goto (-22), 3) := by decide +kernel
theorem dX1_init_103 : decode cX1_init 103 = .ok (.iconst 0, 1) := by decide +kernel
theorem dX1_init_104 : decode cX1_init 104 = .ok (.istore_n 1, 1) := by decide +kernel
theorem dX1_init_105 : decode cX1_init 105 = .ok (.iload_n 1, 1) := by decide +kernel
theorem dX1_init_106 : decode cX1_init 106 = .ok (.bipush 6, 2) := by decide +kernel
theorem dX1_init_108 : decode cX1_init 108 = .ok (.if_icmp .ge 22, 3) := by decide +kernel
theorem dX1_init_111 : decode cX1_init 111 = .ok (.aload_n 0, 1) := by decide +kernel
theorem dX1_init_112 : decode cX1_init 112 = .ok (.getfield 19, 3) := by decide +kernel
theorem dX1_init_115 : decode cX1_init 115 = .ok (.iload_n 1, 1) := by decide +kernel
theorem dX1_init_116 : decode cX1_init 116 = .ok (.new 17, 3) := by decide +kernel
theorem dX1_init_119 : decode cX1_init 119 = .ok (.dup, 1) := by decide +kernel
theorem dX1_init_120 : decode cX1_init 120 = .ok (.invokespecial 54, 3) := by decide +kernel
theorem dX1_init_123 : decode cX1_init 123 = .ok (.aastore, 1) := by decide +kernel
theorem dX1_init_124 : decode cX1_init 124 = .ok (.iinc 1 1, 3) := by decide +kernel
theorem dX1_init_127 : decode cX1_init 127 = .ok (.goto (-22), 3) := by decide +kernel
theorem dX1_init_130 : decode cX1_init 130 = .ok (.iconst 0, 1) := by decide +kernel
theorem dX1_init_131 : decode cX1_init 131 = .ok (.istore_n 1, 1) := by decide +kernel
theorem dX1_init_132 : decode cX1_init 132 = .ok (.iload_n 1, 1) := by decide +kernel
theorem dX1_init_133 : decode cX1_init 133 = .ok (.bipush 6, 2) := by decide +kernel
theorem dX1_init_135 : decode cX1_init 135 = .ok (.if_icmp .ge 22, 3) := by decide +kernel
theorem dX1_init_138 : decode cX1_init 138 = .ok (.aload_n 0, 1) := by decide +kernel
theorem dX1_init_139 : decode cX1_init 139 = .ok (.getfield 29, 3) := by decide +kernel
theorem dX1_init_142 : decode cX1_init 142 = .ok (.iload_n 1, 1) := by decide +kernel
theorem dX1_init_143 : decode cX1_init 143 = .ok (.new 27, 3) := by decide +kernel
theorem dX1_init_146 : decode cX1_init 146 = .ok (.dup, 1) := by decide +kernel
theorem dX1_init_147 : decode cX1_init 147 = .ok (.invokespecial 55, 3) := by decide +kernel
theorem dX1_init_150 : decode cX1_init 150 = .ok (.aastore, 1) := by decide +kernel
theorem dX1_init_151 : decode cX1_init 151 = .ok (.iinc 1 1, 3) := by decide +kernel
theorem dX1_init_154 : decode cX1_init 154 = .ok (.goto (-22), 3) := by decide +kernel
theorem dX1_init_157 : decode cX1_init 157 = .ok (.return_, 1) := by decide +kernel
theorem dX1_become_0 : decode cX1_become 0 = .ok (.aload_n 0, 1) := by decide +kernel
theorem dX1_become_1 : decode cX1_become 1 = .ok (.aload_n 1, 1) := by decide +kernel
theorem dX1_become_2 : decode cX1_become 2 = .ok (.invokevirtual 56, 3) := by decide +kernel
theorem dX1_become_5 : decode cX1_become 5 = .ok (.aload_n 1, 1) := by decide +kernel
theorem dX1_become_6 : decode cX1_become 6 = .ok (.getfield 40, 3) := by decide +kernel
theorem dX1_become_9 : decode cX1_become 9 = .ok (.iconst 0, 1) := by decide +kernel
theorem dX1_become_10 : decode cX1_become 10 = .ok (.aload_n 0, 1) := by decide +kernel
theorem dX1_become_11 : decode cX1_become 11 = .ok (.getfield 40, 3) := by decide +kernel
theorem dX1_become_14 : decode cX1_become 14 = .ok (.iconst 0, 1) := by decide +kernel
theorem dX1_become_15 : decode cX1_become 15 = .ok (.bipush 12, 2) := by decide +kernel
theorem dX1_become_17 : decode cX1_become 17 = .ok (.invokestatic 60, 3) := by decide +kernel
theorem dX1_become_20 : decode cX1_become 20 = .ok (.aload_n 0, 1) := by decide +kernel
theorem dX1_become_21 : decode cX1_become 21 = .ok (.aload_n 1, 1) := by decide +kernel
theorem dX1_become_22 : decode cX1_become 22 = .ok (.getfield 23, 3) := by decide +kernel
theorem dX1_become_25 : decode cX1_become 25 = .ok (.putfield 23, 3) := by decide +kernel
theorem dX1_become_28 : decode cX1_become 28 = .ok (.aload_n 0, 1) := by decide +kernel
theorem dX1_become_29 : decode cX1_become 29 = .ok (.aload_n 1, 1) := by decide +kernel
theorem dX1_become_30 : decode cX1_become 30 = .ok (.getfield 66, 3) := by decide +kernel
theorem dX1_become_33 : decode cX1_become 33 = .ok (.putfield 66, 3) := by decide +kernel
theorem dX1_become_36 : decode cX1_become 36 = .ok (.aload_n 0, 1) := by decide +kernel
theorem dX1_become_37 : decode cX1_become 37 = .ok (.aload_n 1, 1) := by decide +kernel
theorem dX1_become_38 : decode cX1_become 38 = .ok (.getfield 69, 3) := by decide +kernel
theorem dX1_become_41 : decode cX1_become 41 = .ok (.putfield 69, 3) := by decide +kernel
theorem dX1_become_44 : decode cX1_become 44 = .ok (.aload_n 0, 1) := by decide +kernel
theorem dX1_become_45 : decode cX1_become 45 = .ok (.aload_n 1, 1) := by decide +kernel
theorem dX1_become_46 : decode cX1_become 46 = .ok (.getfield 72, 3) := by decide +kernel
theorem dX1_become_49 : decode cX1_become 49 = .ok (.putfield 72, 3) := by decide +kernel
theorem dX1_become_52 : decode cX1_become 52 = .ok (.aload_n 0, 1) := by decide +kernel
theorem dX1_become_53 : decode cX1_become 53 = .ok (.aload_n 1, 1) := by decide +kernel
theorem dX1_become_54 : decode cX1_become 54 = .ok (.getfield 43, 3) := by decide +kernel
theorem dX1_become_57 : decode cX1_become 57 = .ok (.putfield 43, 3) := by decide +kernel
theorem dX1_become_60 : decode cX1_become 60 = .ok (.aload_n 0, 1) := by decide +kernel
theorem dX1_become_61 : decode cX1_become 61 = .ok (.getfield 49, 3) := by decide +kernel
theorem dX1_become_64 : decode cX1_become 64 = .ok (.aload_n 1, 1) := by decide +kernel
theorem dX1_become_65 : decode cX1_become 65 = .ok (.getfield 49, 3) := by decide +kernel
theorem dX1_become_68 : decode cX1_become 68 = .ok (.invokevirtual 75, 3) := by decide +kernel
theorem dX1_become_71 : decode cX1_become 71 = .ok (.return_, 1) := by decide +kernel
theorem dX1_becomeCounted_0 : decode cX1_becomeCounted 0 = .ok (.aload_n 0, 1) := by decide +kernel
theorem dX1_becomeCounted_1 : decode cX1_becomeCounted 1 = .ok (.aload_n 1, 1) := by decide +kernel
theorem dX1_becomeCounted_2 : decode cX1_becomeCounted 2 = .ok (.getfield 79, 3) := by decide +kernel
theorem dX1_becomeCounted_5 : decode cX1_becomeCounted 5 = .ok (.putfield 79, 3) := by decide +kernel
theorem dX1_becomeCounted_8 : decode cX1_becomeCounted 8 = .ok (.iconst 0, 1) := by decide +kernel
theorem dX1_becomeCounted_9 : decode cX1_becomeCounted 9 = .ok (.istore_n 2, 1) := by decide +kernel
theorem dX1_becomeCounted_10 : decode cX1_becomeCounted 10 = .ok (.iload_n 2, 1) := by decide +kernel
theorem dX1_becomeCounted_11 : decode cX1_becomeCounted 11 = .ok (.aload_n 0, 1) := by decide +kernel
theorem dX1_becomeCounted_12 : decode cX1_becomeCounted 12 = .ok (.getfield 79, 3) := by decide +kernel
theorem dX1_becomeCounted_15 : decode cX1_becomeCounted 15 = .ok (.if_icmp .ge 24, 3) := by decide +kernel
theorem dX1_becomeCounted_18 : decode cX1_becomeCounted 18 = .ok (.aload_n 0, 1) := by decide +kernel
theorem dX1_becomeCounted_19 : decode cX1_becomeCounted 19 = .ok (.getfield 11, 3) := by decide +kernel
theorem dX1_becomeCounted_22 : decode cX1_becomeCounted 22 = .ok (.iload_n 2, 1) := by decide +kernel
theorem dX1_becomeCounted_23 : decode cX1_becomeCounted 23 = .ok (.aaload, 1) := by decide +kernel
theorem dX1_becomeCounted_24 : decode cX1_becomeCounted 24 = .ok (.aload_n 1, 1) := by decide +kernel
theorem dX1_becomeCounted_25 : decode cX1_becomeCounted 25 = .ok (.getfield 11, 3) := by decide +kernel
theorem dX1_becomeCounted_28 : decode cX1_becomeCounted 28 = .ok (.iload_n 2, 1) := by decide +kernel
theorem dX1_becomeCounted_29 : decode cX1_becomeCounted 29 = .ok (.aaload, 1) := by decide +kernel
theorem dX1_becomeCounted_30 : decode cX1_becomeCounted 30 = .ok (.invokevirtual 82, 3) := by decide +kernel
theorem dX1_becomeCounted_33 : decode cX1_becomeCounted 33 = .ok (.iinc 2 1, 3) := by decide +kernel
theorem dX1_becomeCounted_36 : decode cX1_becomeCounted 36 = .ok (.goto (-26), 3) := by decide +kernel
theorem dX1_becomeCounted_39 : decode cX1_becomeCounted 39 = .ok (.aload_n 0, 1) := by decide +kernel
theorem dX1_becomeCounted_40 : decode cX1_becomeCounted 40 = .ok (.aload_n 1, 1) := by decide +kernel
theorem dX1_becomeCounted_41 : decode cX1_becomeCounted 41 = .ok (.getfield 85, 3) := by decide +kernel
theorem dX1_becomeCounted_44 : decode cX1_becomeCounted 44 = .ok (.putfield 85, 3) := by decide +kernel
theorem dX1_becomeCounted_47 : decode cX1_becomeCounted 47 = .ok (.iconst 0, 1) := by decide +kernel
theorem dX1_becomeCounted_48 : decode cX1_becomeCounted 48 = .ok (.istore_n 2, 1) := by decide +kernel
theorem dX1_becomeCounted_49 : decode cX1_becomeCounted 49 = .ok (.iload_n 2, 1) := by decide +kernel
theorem dX1_becomeCounted_50 : decode cX1_becomeCounted 50 = .ok (.aload_n 0, 1) := by decide +kernel
theorem dX1_becomeCounted_51 : decode cX1_becomeCounted 51 = .ok (.getfield 85, 3) := by decide +kernel
theorem dX1_becomeCounted_54 : decode cX1_becomeCounted 54 = .ok (.if_icmp .ge 24, 3) := by decide +kernel
theorem dX1_becomeCounted_57 : decode cX1_becomeCounted 57 = .ok (.aload_n 0, 1) := by decide +kernel
theorem dX1_becomeCounted_58 : decode cX1_becomeCounted 58 = .ok (.getfield 19, 3) := by decide +kernel
theorem dX1_becomeCounted_61 : decode cX1_becomeCounted 61 = .ok (.iload_n 2, 1) := by decide +kernel
theorem dX1_becomeCounted_62 : decode cX1_becomeCounted 62 = .ok (.aaload, 1) := by decide +kernel
theorem dX1_becomeCounted_63 : decode cX1_becomeCounted 63 = .ok (.aload_n 1, 1) := by decide +kernel
theorem dX1_becomeCounted_64 : decode cX1_becomeCounted 64 = .ok (.getfield 19, 3) := by decide +kernel
theorem dX1_becomeCounted_67 : decode cX1_becomeCounted 67 = .ok (.iload_n 2, 1) := by decide +kernel
theorem dX1_becomeCounted_68 : decode cX1_becomeCounted 68 = .ok (.aaload, 1) := by decide +kernel
theorem dX1_becomeCounted_69 : decode cX1_becomeCounted 69 = .ok (.invokevirtual 88, 3) := by decide +kernel
theorem dX1_becomeCounted_72 : decode cX1_becomeCounted 72 = .ok (.iinc 2 1, 3) := by decide +kernel
theorem dX1_becomeCounted_75 : decode cX1_becomeCounted 75 = .ok (.goto (-26), 3) := by decide +kernel
theorem dX1_becomeCounted_78 : decode cX1_becomeCounted 78 = .ok (.aload_n 0, 1) := by decide +kernel
theorem dX1_becomeCounted_79 : decode cX1_becomeCounted 79 = .ok (.aload_n 1, 1) := by decide +kernel
theorem dX1_becomeCounted_80 : decode cX1_becomeCounted 80 = .ok (.getfield 91, 3) := by decide +kernel
theorem dX1_becomeCounted_83 : decode cX1_becomeCounted 83 = .ok (.putfield 91, 3) := by decide +kernel
theorem dX1_becomeCounted_86 : decode cX1_becomeCounted 86 = .ok (.iconst 0, 1) := by decide +kernel
theorem dX1_becomeCounted_87 : decode cX1_becomeCounted 87 = .ok (.istore_n 2, 1) := by decide +kernel
theorem dX1_becomeCounted_88 : decode cX1_becomeCounted 88 = .ok (.iload_n 2, 1) := by decide +kernel
theorem dX1_becomeCounted_89 : decode cX1_becomeCounted 89 = .ok (.aload_n 0, 1) := by decide +kernel
theorem dX1_becomeCounted_90 : decode cX1_becomeCounted 90 = .ok (.getfield 91, 3) := by decide +kernel
theorem dX1_becomeCounted_93 : decode cX1_becomeCounted 93 = .ok (.if_icmp .ge 24, 3) := by decide +kernel
theorem dX1_becomeCounted_96 : decode cX1_becomeCounted 96 = .ok (.aload_n 0, 1) := by decide +kernel
theorem dX1_becomeCounted_97 : decode cX1_becomeCounted 97 = .ok (.getfield 29, 3) := by decide +kernel
theorem dX1_becomeCounted_100 : decode cX1_becomeCounted 100 = .ok (.iload_n 2, 1) := by decide +kernel
theorem dX1_becomeCounted_101 : decode cX1_becomeCounted 101 = .ok (.aaload, 1) := by decide +kernel
theorem dX1_becomeCounted_102 : decode cX1_becomeCounted 102 = .ok (.aload_n 1, 1) := by decide +kernel
theorem dX1_becomeCounted_103 : decode cX1_becomeCounted 103 = .ok (.getfield 29, 3) := by decide +kernel
theorem dX1_becomeCounted_106 : decode cX1_becomeCounted 106 = .ok (.iload_n 2, 1) := by decide +kernel
theorem dX1_becomeCounted_107 : decode cX1_becomeCounted 107 = .ok (.aaload, 1) := by decide +kernel
theorem dX1_becomeCounted_108 : decode cX1_becomeCounted 108 = .ok (.invokevirtual 94, 3) := by decide +kernel
theorem dX1_becomeCounted_111 : decode cX1_becomeCounted 111 = .ok (.iinc 2 1, 3) := by decide +kernel
theorem dX1_becomeCounted_114 : decode cX1_becomeCounted 114 = .ok (.goto (-26), 3) := by decide +kernel
theorem dX1_becomeCounted_117 : decode cX1_becomeCounted 117 = .ok (.aload_n 0, 1) := by decide +kernel
theorem dX1_becomeCounted_118 : decode cX1_becomeCounted 118 = .ok (.aload_n 1, 1) := by decide +kernel
theorem dX1_becomeCounted_119 : decode cX1_becomeCounted 119 = .ok (.getfield 97, 3) := by decide +kernel
theorem dX1_becomeCounted_122 : decode cX1_becomeCounted 122 = .ok (.putfield 97, 3) := by decide +kernel
theorem dX1_becomeCounted_125 : decode cX1_becomeCounted 125 = .ok (.aload_n 1, 1) := by decide +kernel
theorem dX1_becomeCounted_126 : decode cX1_becomeCounted 126 = .ok (.getfield 33, 3) := by decide +kernel
theorem dX1_becomeCounted_129 : decode cX1_becomeCounted 129 = .ok (.iconst 0, 1) := by decide +kernel
theorem dX1_becomeCounted_130 : decode cX1_becomeCounted 130 = .ok (.aload_n 0, 1) := by decide +kernel
theorem dX1_becomeCounted_131 : decode cX1_becomeCounted 131 = .ok (.getfield 33, 3) := by decide +kernel
theorem dX1_becomeCounted_134 : decode cX1_becomeCounted 134 = .ok (.iconst 0, 1) := by decide +kernel
theorem dX1_becomeCounted_135 : decode cX1_becomeCounted 135 = .ok (.bipush 10, 2) := by decide +kernel
theorem dX1_becomeCounted_137 : decode cX1_becomeCounted 137 = .ok (.invokestatic 60, 3) := by decide +kernel
theorem dX1_becomeCounted_140 : decode cX1_becomeCounted 140 = .ok (.aload_n 1, 1) := by decide +kernel
theorem dX1_becomeCounted_141 : decode cX1_becomeCounted 141 = .ok (.getfield 37, 3) := by decide +kernel
theorem dX1_becomeCounted_144 : decode cX1_becomeCounted 144 = .ok (.iconst 0, 1) := by decide +kernel
theorem dX1_becomeCounted_145 : decode cX1_becomeCounted 145 = .ok (.aload_n 0, 1) := by decide +kernel
theorem dX1_becomeCounted_146 : decode cX1_becomeCounted 146 = .ok (.getfield 37, 3) := by decide +kernel
theorem dX1_becomeCounted_149 : decode cX1_becomeCounted 149 = .ok (.iconst 0, 1) := by decide +kernel
theorem dX1_becomeCounted_150 : decode cX1_becomeCounted 150 = .ok (.bipush 10, 2) := by decide +kernel
theorem dX1_becomeCounted_152 : decode cX1_becomeCounted 152 = .ok (.invokestatic 60, 3) := by decide +kernel
theorem dX1_becomeCounted_155 : decode cX1_becomeCounted 155 = .ok (.return_, 1) := by decide +kernel
theorem dX1_lawValue_0 : decode cX1_lawValue 0 = .ok (.aload_n 0, 1) := by decide +kernel
theorem dX1_lawValue_1 : decode cX1_lawValue 1 = .ok (.getfield 23, 3) := by decide +kernel
theorem dX1_lawValue_4 : decode cX1_lawValue 4 = .ok (.ifCond .lt 18, 3) := by decide +kernel
theorem dX1_lawValue_7 : decode cX1_lawValue 7 = .ok (.aload_n 0, 1) := by decide +kernel
theorem dX1_lawValue_8 : decode cX1_lawValue 8 = .ok (.getfield 23, 3) := by decide +kernel
theorem dX1_lawValue_11 : decode cX1_lawValue 11 = .ok (.aload_n 0, 1) := by decide +kernel
theorem dX1_lawValue_12 : decode cX1_lawValue 12 = .ok (.getfield 85, 3) := by decide +kernel
theorem dX1_lawValue_15 : decode cX1_lawValue 15 = .ok (.if_icmp .ge 7, 3) := by decide +kernel
theorem dX1_lawValue_18 : decode cX1_lawValue 18 = .ok (.iconst 1, 1) := by decide +kernel
theorem dX1_lawValue_19 : decode cX1_lawValue 19 = .ok (.goto 4, 3) := by decide +kernel
theorem dX1_lawValue_22 : decode cX1_lawValue 22 = .ok (.iconst 0, 1) := by decide +kernel
theorem dX1_lawValue_23 : decode cX1_lawValue 23 = .ok (.istore_n 2, 1) := by decide +kernel
theorem dX1_lawValue_24 : decode cX1_lawValue 24 = .ok (.iload_n 2, 1) := by decide +kernel
theorem dX1_lawValue_25 : decode cX1_lawValue 25 = .ok (.ifCond .eq 20, 3) := by decide +kernel
theorem dX1_lawValue_28 : decode cX1_lawValue 28 = .ok (.aload_n 0, 1) := by decide +kernel
theorem dX1_lawValue_29 : decode cX1_lawValue 29 = .ok (.getfield 19, 3) := by decide +kernel
theorem dX1_lawValue_32 : decode cX1_lawValue 32 = .ok (.aload_n 0, 1) := by decide +kernel
theorem dX1_lawValue_33 : decode cX1_lawValue 33 = .ok (.getfield 23, 3) := by decide +kernel
theorem dX1_lawValue_36 : decode cX1_lawValue 36 = .ok (.aaload, 1) := by decide +kernel
theorem dX1_lawValue_37 : decode cX1_lawValue 37 = .ok (.getfield 100, 3) := by decide +kernel
theorem dX1_lawValue_40 : decode cX1_lawValue 40 = .ok (.iload_n 1, 1) := by decide +kernel
theorem dX1_lawValue_41 : decode cX1_lawValue 41 = .ok (.iaload, 1) := by decide +kernel
theorem dX1_lawValue_42 : decode cX1_lawValue 42 = .ok (.goto 8, 3) := by decide +kernel
theorem dX1_lawValue_45 : decode cX1_lawValue 45 = .ok (.getstatic 103, 3) := by decide +kernel
theorem dX1_lawValue_48 : decode cX1_lawValue 48 = .ok (.iload_n 1, 1) := by decide +kernel
theorem dX1_lawValue_49 : decode cX1_lawValue 49 = .ok (.iaload, 1) := by decide +kernel
theorem dX1_lawValue_50 : decode cX1_lawValue 50 = .ok (.ireturn, 1) := by decide +kernel
theorem dX1_speed_0 : decode cX1_speed 0 = .ok (.aload_n 0, 1) := by decide +kernel
theorem dX1_speed_1 : decode cX1_speed 1 = .ok (.iconst 1, 1) := by decide +kernel
theorem dX1_speed_2 : decode cX1_speed 2 = .ok (.invokevirtual 106, 3) := by decide +kernel
theorem dX1_speed_5 : decode cX1_speed 5 = .ok (.ireturn, 1) := by decide +kernel
theorem dX1_deck_0 : decode cX1_deck 0 = .ok (.bipush 20, 2) := by decide +kernel
theorem dX1_deck_2 : decode cX1_deck 2 = .ok (.aload_n 0, 1) := by decide +kernel
theorem dX1_deck_3 : decode cX1_deck 3 = .ok (.getfield 69, 3) := by decide +kernel
theorem dX1_deck_6 : decode cX1_deck 6 = .ok (.iconst 4, 1) := by decide +kernel
theorem dX1_deck_7 : decode cX1_deck 7 = .ok (.idiv, 1) := by decide +kernel
theorem dX1_deck_8 : decode cX1_deck 8 = .ok (.isub, 1) := by decide +kernel
theorem dX1_deck_9 : decode cX1_deck 9 = .ok (.ireturn, 1) := by decide +kernel
theorem dX1_isOut_0 : decode cX1_isOut 0 = .ok (.aload_n 1, 1) := by decide +kernel
theorem dX1_isOut_1 : decode cX1_isOut 1 = .ok (.iload_n 2, 1) := by decide +kernel
theorem dX1_isOut_2 : decode cX1_isOut 2 = .ok (.invokevirtual 110, 3) := by decide +kernel
theorem dX1_isOut_5 : decode cX1_isOut 5 = .ok (.aload_n 0, 1) := by decide +kernel
theorem dX1_isOut_6 : decode cX1_isOut 6 = .ok (.invokevirtual 113, 3) := by decide +kernel
theorem dX1_isOut_9 : decode cX1_isOut 9 = .ok (.isub, 1) := by decide +kernel
theorem dX1_isOut_10 : decode cX1_isOut 10 = .ok (.invokestatic 117, 3) := by decide +kernel
theorem dX1_isOut_13 : decode cX1_isOut 13 = .ok (.bipush 60, 2) := by decide +kernel
theorem dX1_isOut_15 : decode cX1_isOut 15 = .ok (.if_icmp .le 7, 3) := by decide +kernel
theorem dX1_isOut_18 : decode cX1_isOut 18 = .ok (.iconst 1, 1) := by decide +kernel
theorem dX1_isOut_19 : decode cX1_isOut 19 = .ok (.goto 4, 3) := by decide +kernel
theorem dX1_isOut_22 : decode cX1_isOut 22 = .ok (.iconst 0, 1) := by decide +kernel
theorem dX1_isOut_23 : decode cX1_isOut 23 = .ok (.ireturn, 1) := by decide +kernel
theorem dX1_hasTime_0 : decode cX1_hasTime 0 = .ok (.iconst 2, 1) := by decide +kernel
theorem dX1_hasTime_1 : decode cX1_hasTime 1 = .ok (.aload_n 1, 1) := by decide +kernel
theorem dX1_hasTime_2 : decode cX1_hasTime 2 = .ok (.invokevirtual 122, 3) := by decide +kernel
theorem dX1_hasTime_5 : decode cX1_hasTime 5 = .ok (.imul, 1) := by decide +kernel
theorem dX1_hasTime_6 : decode cX1_hasTime 6 = .ok (.aload_n 0, 1) := by decide +kernel
theorem dX1_hasTime_7 : decode cX1_hasTime 7 = .ok (.iconst 2, 1) := by decide +kernel
theorem dX1_hasTime_8 : decode cX1_hasTime 8 = .ok (.invokevirtual 106, 3) := by decide +kernel
theorem dX1_hasTime_11 : decode cX1_hasTime 11 = .ok (.invokestatic 125, 3) := by decide +kernel
theorem dX1_hasTime_14 : decode cX1_hasTime 14 = .ok (.aload_n 0, 1) := by decide +kernel
theorem dX1_hasTime_15 : decode cX1_hasTime 15 = .ok (.iconst 3, 1) := by decide +kernel
theorem dX1_hasTime_16 : decode cX1_hasTime 16 = .ok (.invokevirtual 106, 3) := by decide +kernel
theorem dX1_hasTime_19 : decode cX1_hasTime 19 = .ok (.iadd, 1) := by decide +kernel
theorem dX1_hasTime_20 : decode cX1_hasTime 20 = .ok (.istore_n 3, 1) := by decide +kernel
theorem dX1_hasTime_21 : decode cX1_hasTime 21 = .ok (.iload_n 3, 1) := by decide +kernel
theorem dX1_hasTime_22 : decode cX1_hasTime 22 = .ok (.aload_n 0, 1) := by decide +kernel
theorem dX1_hasTime_23 : decode cX1_hasTime 23 = .ok (.iconst 0, 1) := by decide +kernel
theorem dX1_hasTime_24 : decode cX1_hasTime 24 = .ok (.invokevirtual 106, 3) := by decide +kernel
theorem dX1_hasTime_27 : decode cX1_hasTime 27 = .ok (.iload_n 2, 1) := by decide +kernel
theorem dX1_hasTime_28 : decode cX1_hasTime 28 = .ok (.invokestatic 129, 3) := by decide +kernel
theorem dX1_hasTime_31 : decode cX1_hasTime 31 = .ok (.if_icmp .gt 7, 3) := by decide +kernel
theorem dX1_hasTime_34 : decode cX1_hasTime 34 = .ok (.iconst 1, 1) := by decide +kernel
theorem dX1_hasTime_35 : decode cX1_hasTime 35 = .ok (.goto 4, 3) := by decide +kernel
theorem dX1_hasTime_38 : decode cX1_hasTime 38 = .ok (.iconst 0, 1) := by decide +kernel
theorem dX1_hasTime_39 : decode cX1_hasTime 39 = .ok (.ireturn, 1) := by decide +kernel
theorem dX1_isHopeless_0 : decode cX1_isHopeless 0 = .ok (.aload_n 0, 1) := by decide +kernel
theorem dX1_isHopeless_1 : decode cX1_isHopeless 1 = .ok (.aload_n 1, 1) := by decide +kernel
theorem dX1_isHopeless_2 : decode cX1_isHopeless 2 = .ok (.aload_n 0, 1) := by decide +kernel
theorem dX1_isHopeless_3 : decode cX1_isHopeless 3 = .ok (.getfield 66, 3) := by decide +kernel
theorem dX1_isHopeless_6 : decode cX1_isHopeless 6 = .ok (.invokevirtual 132, 3) := by decide +kernel
theorem dX1_isHopeless_9 : decode cX1_isHopeless 9 = .ok (.ifCond .ne 15, 3) := by decide +kernel
theorem dX1_isHopeless_12 : decode cX1_isHopeless 12 = .ok (.aload_n 0, 1) := by decide +kernel
theorem dX1_isHopeless_13 : decode cX1_isHopeless 13 = .ok (.aload_n 1, 1) := by decide +kernel
theorem dX1_isHopeless_14 : decode cX1_isHopeless 14 = .ok (.aload_n 0, 1) := by decide +kernel
theorem dX1_isHopeless_15 : decode cX1_isHopeless 15 = .ok (.invokevirtual 136, 3) := by decide +kernel
theorem dX1_isHopeless_18 : decode cX1_isHopeless 18 = .ok (.invokevirtual 139, 3) := by decide +kernel
theorem dX1_isHopeless_21 : decode cX1_isHopeless 21 = .ok (.ifCond .ne 7, 3) := by decide +kernel
theorem dX1_isHopeless_24 : decode cX1_isHopeless 24 = .ok (.iconst 1, 1) := by decide +kernel
theorem dX1_isHopeless_25 : decode cX1_isHopeless 25 = .ok (.goto 4, 3) := by decide +kernel
theorem dX1_isHopeless_28 : decode cX1_isHopeless 28 = .ok (.iconst 0, 1) := by decide +kernel
theorem dX1_isHopeless_29 : decode cX1_isHopeless 29 = .ok (.ireturn, 1) := by decide +kernel
theorem dX1_riskOf_0 : decode cX1_riskOf 0 = .ok (.aload_n 0, 1) := by decide +kernel
theorem dX1_riskOf_1 : decode cX1_riskOf 1 = .ok (.getfield 11, 3) := by decide +kernel
theorem dX1_riskOf_4 : decode cX1_riskOf 4 = .ok (.iload_n 2, 1) := by decide +kernel
theorem dX1_riskOf_5 : decode cX1_riskOf 5 = .ok (.aaload, 1) := by decide +kernel
theorem dX1_riskOf_6 : decode cX1_riskOf 6 = .ok (.astore 4, 2) := by decide +kernel
theorem dX1_riskOf_8 : decode cX1_riskOf 8 = .ok (.aload_n 0, 1) := by decide +kernel
theorem dX1_riskOf_9 : decode cX1_riskOf 9 = .ok (.aload 4, 2) := by decide +kernel
theorem dX1_riskOf_11 : decode cX1_riskOf 11 = .ok (.invokevirtual 142, 3) := by decide +kernel
theorem dX1_riskOf_14 : decode cX1_riskOf 14 = .ok (.ifCond .eq 7, 3) := by decide +kernel
theorem dX1_riskOf_17 : decode cX1_riskOf 17 = .ok (.sipush 1000, 3) := by decide +kernel
theorem dX1_riskOf_20 : decode cX1_riskOf 20 = .ok (.ireturn, 1) := by decide +kernel
theorem dX1_riskOf_21 : decode cX1_riskOf 21 = .ok (.aload_n 0, 1) := by decide +kernel
theorem dX1_riskOf_22 : decode cX1_riskOf 22 = .ok (.iconst 4, 1) := by decide +kernel
theorem dX1_riskOf_23 : decode cX1_riskOf 23 = .ok (.invokevirtual 106, 3) := by decide +kernel
theorem dX1_riskOf_26 : decode cX1_riskOf 26 = .ok (.aload 4, 2) := by decide +kernel
theorem dX1_riskOf_28 : decode cX1_riskOf 28 = .ok (.aload_n 0, 1) := by decide +kernel
theorem dX1_riskOf_29 : decode cX1_riskOf 29 = .ok (.getfield 66, 3) := by decide +kernel
theorem dX1_riskOf_32 : decode cX1_riskOf 32 = .ok (.invokevirtual 110, 3) := by decide +kernel
theorem dX1_riskOf_35 : decode cX1_riskOf 35 = .ok (.aload_n 0, 1) := by decide +kernel
theorem dX1_riskOf_36 : decode cX1_riskOf 36 = .ok (.invokevirtual 113, 3) := by decide +kernel
theorem dX1_riskOf_39 : decode cX1_riskOf 39 = .ok (.isub, 1) := by decide +kernel
theorem dX1_riskOf_40 : decode cX1_riskOf 40 = .ok (.invokestatic 117, 3) := by decide +kernel
theorem dX1_riskOf_43 : decode cX1_riskOf 43 = .ok (.imul, 1) := by decide +kernel
theorem dX1_riskOf_44 : decode cX1_riskOf 44 = .ok (.aload 4, 2) := by decide +kernel
theorem dX1_riskOf_46 : decode cX1_riskOf 46 = .ok (.getfield 146, 3) := by decide +kernel
theorem dX1_riskOf_49 : decode cX1_riskOf 49 = .ok (.ifCond .eq 11, 3) := by decide +kernel
theorem dX1_riskOf_52 : decode cX1_riskOf 52 = .ok (.aload_n 0, 1) := by decide +kernel
theorem dX1_riskOf_53 : decode cX1_riskOf 53 = .ok (.iconst 5, 1) := by decide +kernel
theorem dX1_riskOf_54 : decode cX1_riskOf 54 = .ok (.invokevirtual 106, 3) := by decide +kernel
theorem dX1_riskOf_57 : decode cX1_riskOf 57 = .ok (.goto 4, 3) := by decide +kernel
theorem dX1_riskOf_60 : decode cX1_riskOf 60 = .ok (.iconst 0, 1) := by decide +kernel
theorem dX1_riskOf_61 : decode cX1_riskOf 61 = .ok (.iadd, 1) := by decide +kernel
theorem dX1_riskOf_62 : decode cX1_riskOf 62 = .ok (.aload_n 0, 1) := by decide +kernel
theorem dX1_riskOf_63 : decode cX1_riskOf 63 = .ok (.bipush 6, 2) := by decide +kernel
theorem dX1_riskOf_65 : decode cX1_riskOf 65 = .ok (.invokevirtual 106, 3) := by decide +kernel
theorem dX1_riskOf_68 : decode cX1_riskOf 68 = .ok (.aload_n 0, 1) := by decide +kernel
theorem dX1_riskOf_69 : decode cX1_riskOf 69 = .ok (.getfield 40, 3) := by decide +kernel
theorem dX1_riskOf_72 : decode cX1_riskOf 72 = .ok (.iload_n 3, 1) := by decide +kernel
theorem dX1_riskOf_73 : decode cX1_riskOf 73 = .ok (.iaload, 1) := by decide +kernel
theorem dX1_riskOf_74 : decode cX1_riskOf 74 = .ok (.imul, 1) := by decide +kernel
theorem dX1_riskOf_75 : decode cX1_riskOf 75 = .ok (.iadd, 1) := by decide +kernel
theorem dX1_riskOf_76 : decode cX1_riskOf 76 = .ok (.aload_n 0, 1) := by decide +kernel
theorem dX1_riskOf_77 : decode cX1_riskOf 77 = .ok (.bipush 7, 2) := by decide +kernel
theorem dX1_riskOf_79 : decode cX1_riskOf 79 = .ok (.invokevirtual 106, 3) := by decide +kernel
theorem dX1_riskOf_82 : decode cX1_riskOf 82 = .ok (.aload_n 0, 1) := by decide +kernel
theorem dX1_riskOf_83 : decode cX1_riskOf 83 = .ok (.getfield 29, 3) := by decide +kernel
theorem dX1_riskOf_86 : decode cX1_riskOf 86 = .ok (.iload_n 1, 1) := by decide +kernel
theorem dX1_riskOf_87 : decode cX1_riskOf 87 = .ok (.aaload, 1) := by decide +kernel
theorem dX1_riskOf_88 : decode cX1_riskOf 88 = .ok (.getfield 150, 3) := by decide +kernel
theorem dX1_riskOf_91 : decode cX1_riskOf 91 = .ok (.imul, 1) := by decide +kernel
theorem dX1_riskOf_92 : decode cX1_riskOf 92 = .ok (.isub, 1) := by decide +kernel
theorem dX1_riskOf_93 : decode cX1_riskOf 93 = .ok (.istore 5, 2) := by decide +kernel
theorem dX1_riskOf_95 : decode cX1_riskOf 95 = .ok (.iconst 0, 1) := by decide +kernel
theorem dX1_riskOf_96 : decode cX1_riskOf 96 = .ok (.sipush 1000, 3) := by decide +kernel
theorem dX1_riskOf_99 : decode cX1_riskOf 99 = .ok (.iload 5, 2) := by decide +kernel
theorem dX1_riskOf_101 : decode cX1_riskOf 101 = .ok (.invokestatic 153, 3) := by decide +kernel
theorem dX1_riskOf_104 : decode cX1_riskOf 104 = .ok (.invokestatic 156, 3) := by decide +kernel
theorem dX1_riskOf_107 : decode cX1_riskOf 107 = .ok (.ireturn, 1) := by decide +kernel
theorem dX1_legMinutes_0 : decode cX1_legMinutes 0 = .ok (.iload_n 1, 1) := by decide +kernel
theorem dX1_legMinutes_1 : decode cX1_legMinutes 1 = .ok (.bipush 16, 2) := by decide +kernel
theorem dX1_legMinutes_3 : decode cX1_legMinutes 3 = .ok (.idiv, 1) := by decide +kernel
theorem dX1_legMinutes_4 : decode cX1_legMinutes 4 = .ok (.iload_n 2, 1) := by decide +kernel
theorem dX1_legMinutes_5 : decode cX1_legMinutes 5 = .ok (.bipush 16, 2) := by decide +kernel
theorem dX1_legMinutes_7 : decode cX1_legMinutes 7 = .ok (.idiv, 1) := by decide +kernel
theorem dX1_legMinutes_8 : decode cX1_legMinutes 8 = .ok (.isub, 1) := by decide +kernel
theorem dX1_legMinutes_9 : decode cX1_legMinutes 9 = .ok (.invokestatic 117, 3) := by decide +kernel
theorem dX1_legMinutes_12 : decode cX1_legMinutes 12 = .ok (.istore 4, 2) := by decide +kernel
theorem dX1_legMinutes_14 : decode cX1_legMinutes 14 = .ok (.iload_n 1, 1) := by decide +kernel
theorem dX1_legMinutes_15 : decode cX1_legMinutes 15 = .ok (.bipush 16, 2) := by decide +kernel
theorem dX1_legMinutes_17 : decode cX1_legMinutes 17 = .ok (.irem, 1) := by decide +kernel
theorem dX1_legMinutes_18 : decode cX1_legMinutes 18 = .ok (.iload_n 2, 1) := by decide +kernel
theorem dX1_legMinutes_19 : decode cX1_legMinutes 19 = .ok (.bipush 16, 2) := by decide +kernel
theorem dX1_legMinutes_21 : decode cX1_legMinutes 21 = .ok (.irem, 1) := by decide +kernel
theorem dX1_legMinutes_22 : decode cX1_legMinutes 22 = .ok (.isub, 1) := by decide +kernel
theorem dX1_legMinutes_23 : decode cX1_legMinutes 23 = .ok (.invokestatic 117, 3) := by decide +kernel
theorem dX1_legMinutes_26 : decode cX1_legMinutes 26 = .ok (.istore 5, 2) := by decide +kernel
theorem dX1_legMinutes_28 : decode cX1_legMinutes 28 = .ok (.aload_n 0, 1) := by decide +kernel
theorem dX1_legMinutes_29 : decode cX1_legMinutes 29 = .ok (.bipush 8, 2) := by decide +kernel
theorem dX1_legMinutes_31 : decode cX1_legMinutes 31 = .ok (.invokevirtual 106, 3) := by decide +kernel
theorem dX1_legMinutes_34 : decode cX1_legMinutes 34 = .ok (.iload 4, 2) := by decide +kernel
theorem dX1_legMinutes_36 : decode cX1_legMinutes 36 = .ok (.iload 5, 2) := by decide +kernel
theorem dX1_legMinutes_38 : decode cX1_legMinutes 38 = .ok (.iadd, 1) := by decide +kernel
theorem dX1_legMinutes_39 : decode cX1_legMinutes 39 = .ok (.imul, 1) := by decide +kernel
theorem dX1_legMinutes_40 : decode cX1_legMinutes 40 = .ok (.iload_n 3, 1) := by decide +kernel
theorem dX1_legMinutes_41 : decode cX1_legMinutes 41 = .ok (.invokestatic 125, 3) := by decide +kernel
theorem dX1_legMinutes_44 : decode cX1_legMinutes 44 = .ok (.ireturn, 1) := by decide +kernel
theorem dX1_firstWeekOut_0 : decode cX1_firstWeekOut 0 = .ok (.iconst 0, 1) := by decide +kernel
theorem dX1_firstWeekOut_1 : decode cX1_firstWeekOut 1 = .ok (.istore_n 3, 1) := by decide +kernel
theorem dX1_firstWeekOut_2 : decode cX1_firstWeekOut 2 = .ok (.iload_n 3, 1) := by decide +kernel
theorem dX1_firstWeekOut_3 : decode cX1_firstWeekOut 3 = .ok (.bipush 20, 2) := by decide +kernel
theorem dX1_firstWeekOut_5 : decode cX1_firstWeekOut 5 = .ok (.if_icmp .gt 32, 3) := by decide +kernel
theorem dX1_firstWeekOut_8 : decode cX1_firstWeekOut 8 = .ok (.aload_n 0, 1) := by decide +kernel
theorem dX1_firstWeekOut_9 : decode cX1_firstWeekOut 9 = .ok (.aload_n 0, 1) := by decide +kernel
theorem dX1_firstWeekOut_10 : decode cX1_firstWeekOut 10 = .ok (.getfield 11, 3) := by decide +kernel
theorem dX1_firstWeekOut_13 : decode cX1_firstWeekOut 13 = .ok (.iload_n 1, 1) := by decide +kernel
theorem dX1_firstWeekOut_14 : decode cX1_firstWeekOut 14 = .ok (.aaload, 1) := by decide +kernel
theorem dX1_firstWeekOut_15 : decode cX1_firstWeekOut 15 = .ok (.aload_n 0, 1) := by decide +kernel
theorem dX1_firstWeekOut_16 : decode cX1_firstWeekOut 16 = .ok (.getfield 66, 3) := by decide +kernel
theorem dX1_firstWeekOut_19 : decode cX1_firstWeekOut 19 = .ok (.iload_n 3, 1) := by decide +kernel
theorem dX1_firstWeekOut_20 : decode cX1_firstWeekOut 20 = .ok (.iload_n 2, 1) := by decide +kernel
theorem dX1_firstWeekOut_21 : decode cX1_firstWeekOut 21 = .ok (.imul, 1) := by decide +kernel
theorem dX1_firstWeekOut_22 : decode cX1_firstWeekOut 22 = .ok (.isub, 1) := by decide +kernel
theorem dX1_firstWeekOut_23 : decode cX1_firstWeekOut 23 = .ok (.invokevirtual 132, 3) := by decide +kernel
theorem dX1_firstWeekOut_26 : decode cX1_firstWeekOut 26 = .ok (.ifCond .eq 5, 3) := by decide +kernel
theorem dX1_firstWeekOut_29 : decode cX1_firstWeekOut 29 = .ok (.iload_n 3, 1) := by decide +kernel
theorem dX1_firstWeekOut_30 : decode cX1_firstWeekOut 30 = .ok (.ireturn, 1) := by decide +kernel
theorem dX1_firstWeekOut_31 : decode cX1_firstWeekOut 31 = .ok (.iinc 3 1, 3) := by decide +kernel
theorem dX1_firstWeekOut_34 : decode cX1_firstWeekOut 34 = .ok (.goto (-32), 3) := by decide +kernel
theorem dX1_firstWeekOut_37 : decode cX1_firstWeekOut 37 = .ok (.iconst (-1), 1) := by decide +kernel
theorem dX1_firstWeekOut_38 : decode cX1_firstWeekOut 38 = .ok (.ireturn, 1) := by decide +kernel
theorem dX1_worthWithin_0 : decode cX1_worthWithin 0 = .ok (.iconst 0, 1) := by decide +kernel
theorem dX1_worthWithin_1 : decode cX1_worthWithin 1 = .ok (.istore_n 3, 1) := by decide +kernel
theorem dX1_worthWithin_2 : decode cX1_worthWithin 2 = .ok (.iload_n 2, 1) := by decide +kernel
theorem dX1_worthWithin_3 : decode cX1_worthWithin 3 = .ok (.istore 4, 2) := by decide +kernel
theorem dX1_worthWithin_5 : decode cX1_worthWithin 5 = .ok (.iconst 0, 1) := by decide +kernel
theorem dX1_worthWithin_6 : decode cX1_worthWithin 6 = .ok (.istore 5, 2) := by decide +kernel
theorem dX1_worthWithin_8 : decode cX1_worthWithin 8 = .ok (.iload 5, 2) := by decide +kernel
theorem dX1_worthWithin_10 : decode cX1_worthWithin 10 = .ok (.aload_n 0, 1) := by decide +kernel
theorem dX1_worthWithin_11 : decode cX1_worthWithin 11 = .ok (.getfield 97, 3) := by decide +kernel
theorem dX1_worthWithin_14 : decode cX1_worthWithin 14 = .ok (.if_icmp .ge 41, 3) := by decide +kernel
theorem dX1_worthWithin_17 : decode cX1_worthWithin 17 = .ok (.iload_n 1, 1) := by decide +kernel
theorem dX1_worthWithin_18 : decode cX1_worthWithin 18 = .ok (.iload 5, 2) := by decide +kernel
theorem dX1_worthWithin_20 : decode cX1_worthWithin 20 = .ok (.ishr, 1) := by decide +kernel
theorem dX1_worthWithin_21 : decode cX1_worthWithin 21 = .ok (.iconst 1, 1) := by decide +kernel
theorem dX1_worthWithin_22 : decode cX1_worthWithin 22 = .ok (.iand, 1) := by decide +kernel
theorem dX1_worthWithin_23 : decode cX1_worthWithin 23 = .ok (.iconst 1, 1) := by decide +kernel
theorem dX1_worthWithin_24 : decode cX1_worthWithin 24 = .ok (.if_icmp .ne 25, 3) := by decide +kernel
theorem dX1_worthWithin_27 : decode cX1_worthWithin 27 = .ok (.iload_n 3, 1) := by decide +kernel
theorem dX1_worthWithin_28 : decode cX1_worthWithin 28 = .ok (.aload_n 0, 1) := by decide +kernel
theorem dX1_worthWithin_29 : decode cX1_worthWithin 29 = .ok (.getfield 37, 3) := by decide +kernel
theorem dX1_worthWithin_32 : decode cX1_worthWithin 32 = .ok (.iload 5, 2) := by decide +kernel
theorem dX1_worthWithin_34 : decode cX1_worthWithin 34 = .ok (.iaload, 1) := by decide +kernel
theorem dX1_worthWithin_35 : decode cX1_worthWithin 35 = .ok (.iadd, 1) := by decide +kernel
theorem dX1_worthWithin_36 : decode cX1_worthWithin 36 = .ok (.istore_n 3, 1) := by decide +kernel
theorem dX1_worthWithin_37 : decode cX1_worthWithin 37 = .ok (.iload 4, 2) := by decide +kernel
theorem dX1_worthWithin_39 : decode cX1_worthWithin 39 = .ok (.aload_n 0, 1) := by decide +kernel
theorem dX1_worthWithin_40 : decode cX1_worthWithin 40 = .ok (.getfield 33, 3) := by decide +kernel
theorem dX1_worthWithin_43 : decode cX1_worthWithin 43 = .ok (.iload 5, 2) := by decide +kernel
theorem dX1_worthWithin_45 : decode cX1_worthWithin 45 = .ok (.iaload, 1) := by decide +kernel
theorem dX1_worthWithin_46 : decode cX1_worthWithin 46 = .ok (.isub, 1) := by decide +kernel
theorem dX1_worthWithin_47 : decode cX1_worthWithin 47 = .ok (.istore 4, 2) := by decide +kernel
theorem dX1_worthWithin_49 : decode cX1_worthWithin 49 = .ok (.iinc 5 1, 3) := by decide +kernel
theorem dX1_worthWithin_52 : decode cX1_worthWithin 52 = .ok (.goto (-44), 3) := by decide +kernel
theorem dX1_worthWithin_55 : decode cX1_worthWithin 55 = .ok (.iload 4, 2) := by decide +kernel
theorem dX1_worthWithin_57 : decode cX1_worthWithin 57 = .ok (.ifCond .ge 7, 3) := by decide +kernel
theorem dX1_worthWithin_60 : decode cX1_worthWithin 60 = .ok (.iconst (-1), 1) := by decide +kernel
theorem dX1_worthWithin_61 : decode cX1_worthWithin 61 = .ok (.goto 4, 3) := by decide +kernel
theorem dX1_worthWithin_64 : decode cX1_worthWithin 64 = .ok (.iload_n 3, 1) := by decide +kernel
theorem dX1_worthWithin_65 : decode cX1_worthWithin 65 = .ok (.ireturn, 1) := by decide +kernel
theorem dX1_drawBelow_0 : decode cX1_drawBelow 0 = .ok (.aload_n 0, 1) := by decide +kernel
theorem dX1_drawBelow_1 : decode cX1_drawBelow 1 = .ok (.aload_n 0, 1) := by decide +kernel
theorem dX1_drawBelow_2 : decode cX1_drawBelow 2 = .ok (.getfield 43, 3) := by decide +kernel
theorem dX1_drawBelow_5 : decode cX1_drawBelow 5 = .ok (.ldc 159, 2) := by decide +kernel
theorem dX1_drawBelow_7 : decode cX1_drawBelow 7 = .ok (.imul, 1) := by decide +kernel
theorem dX1_drawBelow_8 : decode cX1_drawBelow 8 = .ok (.sipush 12345, 3) := by decide +kernel
theorem dX1_drawBelow_11 : decode cX1_drawBelow 11 = .ok (.iadd, 1) := by decide +kernel
theorem dX1_drawBelow_12 : decode cX1_drawBelow 12 = .ok (.putfield 43, 3) := by decide +kernel
theorem dX1_drawBelow_15 : decode cX1_drawBelow 15 = .ok (.aload_n 0, 1) := by decide +kernel
theorem dX1_drawBelow_16 : decode cX1_drawBelow 16 = .ok (.getfield 43, 3) := by decide +kernel
theorem dX1_drawBelow_19 : decode cX1_drawBelow 19 = .ok (.bipush 16, 2) := by decide +kernel
theorem dX1_drawBelow_21 : decode cX1_drawBelow 21 = .ok (.iushr, 1) := by decide +kernel
theorem dX1_drawBelow_22 : decode cX1_drawBelow 22 = .ok (.istore_n 2, 1) := by decide +kernel
theorem dX1_drawBelow_23 : decode cX1_drawBelow 23 = .ok (.iload_n 1, 1) := by decide +kernel
theorem dX1_drawBelow_24 : decode cX1_drawBelow 24 = .ok (.iconst 1, 1) := by decide +kernel
theorem dX1_drawBelow_25 : decode cX1_drawBelow 25 = .ok (.if_icmp .ge 7, 3) := by decide +kernel
theorem dX1_drawBelow_28 : decode cX1_drawBelow 28 = .ok (.iconst 0, 1) := by decide +kernel
theorem dX1_drawBelow_29 : decode cX1_drawBelow 29 = .ok (.goto 6, 3) := by decide +kernel
theorem dX1_drawBelow_32 : decode cX1_drawBelow 32 = .ok (.iload_n 2, 1) := by decide +kernel
theorem dX1_drawBelow_33 : decode cX1_drawBelow 33 = .ok (.iload_n 1, 1) := by decide +kernel
theorem dX1_drawBelow_34 : decode cX1_drawBelow 34 = .ok (.irem, 1) := by decide +kernel
theorem dX1_drawBelow_35 : decode cX1_drawBelow 35 = .ok (.ireturn, 1) := by decide +kernel
theorem dX1_leapNext_0 : decode cX1_leapNext 0 = .ok (.aload_n 0, 1) := by decide +kernel
theorem dX1_leapNext_1 : decode cX1_leapNext 1 = .ok (.getfield 49, 3) := by decide +kernel
theorem dX1_leapNext_4 : decode cX1_leapNext 4 = .ok (.getfield 160, 3) := by decide +kernel
theorem dX1_leapNext_7 : decode cX1_leapNext 7 = .ok (.aload_n 0, 1) := by decide +kernel
theorem dX1_leapNext_8 : decode cX1_leapNext 8 = .ok (.getfield 49, 3) := by decide +kernel
theorem dX1_leapNext_11 : decode cX1_leapNext 11 = .ok (.getfield 162, 3) := by decide +kernel
theorem dX1_leapNext_14 : decode cX1_leapNext 14 = .ok (.iaload, 1) := by decide +kernel
theorem dX1_leapNext_15 : decode cX1_leapNext 15 = .ok (.istore_n 1, 1) := by decide +kernel
theorem dX1_leapNext_16 : decode cX1_leapNext 16 = .ok (.aload_n 0, 1) := by decide +kernel
theorem dX1_leapNext_17 : decode cX1_leapNext 17 = .ok (.getfield 11, 3) := by decide +kernel
theorem dX1_leapNext_20 : decode cX1_leapNext 20 = .ok (.iload_n 1, 1) := by decide +kernel
theorem dX1_leapNext_21 : decode cX1_leapNext 21 = .ok (.aaload, 1) := by decide +kernel
theorem dX1_leapNext_22 : decode cX1_leapNext 22 = .ok (.getfield 165, 3) := by decide +kernel
theorem dX1_leapNext_25 : decode cX1_leapNext 25 = .ok (.istore_n 2, 1) := by decide +kernel
theorem dX1_leapNext_26 : decode cX1_leapNext 26 = .ok (.aload_n 0, 1) := by decide +kernel
theorem dX1_leapNext_27 : decode cX1_leapNext 27 = .ok (.getfield 49, 3) := by decide +kernel
theorem dX1_leapNext_30 : decode cX1_leapNext 30 = .ok (.getfield 168, 3) := by decide +kernel
theorem dX1_leapNext_33 : decode cX1_leapNext 33 = .ok (.aload_n 0, 1) := by decide +kernel
theorem dX1_leapNext_34 : decode cX1_leapNext 34 = .ok (.aload_n 0, 1) := by decide +kernel
theorem dX1_leapNext_35 : decode cX1_leapNext 35 = .ok (.getfield 49, 3) := by decide +kernel
theorem dX1_leapNext_38 : decode cX1_leapNext 38 = .ok (.getfield 171, 3) := by decide +kernel
theorem dX1_leapNext_41 : decode cX1_leapNext 41 = .ok (.iload_n 2, 1) := by decide +kernel
theorem dX1_leapNext_42 : decode cX1_leapNext 42 = .ok (.aload_n 0, 1) := by decide +kernel
theorem dX1_leapNext_43 : decode cX1_leapNext 43 = .ok (.invokevirtual 136, 3) := by decide +kernel
theorem dX1_leapNext_46 : decode cX1_leapNext 46 = .ok (.invokevirtual 172, 3) := by decide +kernel
theorem dX1_leapNext_49 : decode cX1_leapNext 49 = .ok (.iadd, 1) := by decide +kernel
theorem dX1_leapNext_50 : decode cX1_leapNext 50 = .ok (.istore_n 3, 1) := by decide +kernel
theorem dX1_leapNext_51 : decode cX1_leapNext 51 = .ok (.aload_n 0, 1) := by decide +kernel
theorem dX1_leapNext_52 : decode cX1_leapNext 52 = .ok (.aload_n 0, 1) := by decide +kernel
theorem dX1_leapNext_53 : decode cX1_leapNext 53 = .ok (.getfield 49, 3) := by decide +kernel
theorem dX1_leapNext_56 : decode cX1_leapNext 56 = .ok (.getfield 176, 3) := by decide +kernel
theorem dX1_leapNext_59 : decode cX1_leapNext 59 = .ok (.iload_n 1, 1) := by decide +kernel
theorem dX1_leapNext_60 : decode cX1_leapNext 60 = .ok (.iload_n 3, 1) := by decide +kernel
theorem dX1_leapNext_61 : decode cX1_leapNext 61 = .ok (.invokestatic 179, 3) := by decide +kernel
theorem dX1_leapNext_64 : decode cX1_leapNext 64 = .ok (.invokevirtual 182, 3) := by decide +kernel
theorem dX1_leapNext_67 : decode cX1_leapNext 67 = .ok (.istore 4, 2) := by decide +kernel
theorem dX1_leapNext_69 : decode cX1_leapNext 69 = .ok (.aload_n 0, 1) := by decide +kernel
theorem dX1_leapNext_70 : decode cX1_leapNext 70 = .ok (.sipush 1000, 3) := by decide +kernel
theorem dX1_leapNext_73 : decode cX1_leapNext 73 = .ok (.invokevirtual 185, 3) := by decide +kernel
theorem dX1_leapNext_76 : decode cX1_leapNext 76 = .ok (.istore 5, 2) := by decide +kernel
theorem dX1_leapNext_78 : decode cX1_leapNext 78 = .ok (.aload_n 0, 1) := by decide +kernel
theorem dX1_leapNext_79 : decode cX1_leapNext 79 = .ok (.getfield 49, 3) := by decide +kernel
theorem dX1_leapNext_82 : decode cX1_leapNext 82 = .ok (.iload_n 2, 1) := by decide +kernel
theorem dX1_leapNext_83 : decode cX1_leapNext 83 = .ok (.putfield 171, 3) := by decide +kernel
theorem dX1_leapNext_86 : decode cX1_leapNext 86 = .ok (.aload_n 0, 1) := by decide +kernel
theorem dX1_leapNext_87 : decode cX1_leapNext 87 = .ok (.getfield 49, 3) := by decide +kernel
theorem dX1_leapNext_90 : decode cX1_leapNext 90 = .ok (.iload_n 3, 1) := by decide +kernel
theorem dX1_leapNext_91 : decode cX1_leapNext 91 = .ok (.iconst 1, 1) := by decide +kernel
theorem dX1_leapNext_92 : decode cX1_leapNext 92 = .ok (.iadd, 1) := by decide +kernel
theorem dX1_leapNext_93 : decode cX1_leapNext 93 = .ok (.putfield 168, 3) := by decide +kernel
theorem dX1_leapNext_96 : decode cX1_leapNext 96 = .ok (.aload_n 0, 1) := by decide +kernel
theorem dX1_leapNext_97 : decode cX1_leapNext 97 = .ok (.getfield 49, 3) := by decide +kernel
theorem dX1_leapNext_100 : decode cX1_leapNext 100 = .ok (.dup, 1) := by decide +kernel
theorem dX1_leapNext_101 : decode cX1_leapNext 101 = .ok (.getfield 162, 3) := by decide +kernel
theorem dX1_leapNext_104 : decode cX1_leapNext 104 = .ok (.iconst 1, 1) := by decide +kernel
theorem dX1_leapNext_105 : decode cX1_leapNext 105 = .ok (.iadd, 1) := by decide +kernel
theorem dX1_leapNext_106 : decode cX1_leapNext 106 = .ok (.putfield 162, 3) := by decide +kernel
theorem dX1_leapNext_109 : decode cX1_leapNext 109 = .ok (.aload_n 0, 1) := by decide +kernel
theorem dX1_leapNext_110 : decode cX1_leapNext 110 = .ok (.getfield 29, 3) := by decide +kernel
theorem dX1_leapNext_113 : decode cX1_leapNext 113 = .ok (.aload_n 0, 1) := by decide +kernel
theorem dX1_leapNext_114 : decode cX1_leapNext 114 = .ok (.getfield 49, 3) := by decide +kernel
theorem dX1_leapNext_117 : decode cX1_leapNext 117 = .ok (.getfield 176, 3) := by decide +kernel
theorem dX1_leapNext_120 : decode cX1_leapNext 120 = .ok (.aaload, 1) := by decide +kernel
theorem dX1_leapNext_121 : decode cX1_leapNext 121 = .ok (.astore 6, 2) := by decide +kernel
theorem dX1_leapNext_123 : decode cX1_leapNext 123 = .ok (.iload 5, 2) := by decide +kernel
theorem dX1_leapNext_125 : decode cX1_leapNext 125 = .ok (.iload 4, 2) := by decide +kernel
theorem dX1_leapNext_127 : decode cX1_leapNext 127 = .ok (.bipush 10, 2) := by decide +kernel
theorem dX1_leapNext_129 : decode cX1_leapNext 129 = .ok (.idiv, 1) := by decide +kernel
theorem dX1_leapNext_130 : decode cX1_leapNext 130 = .ok (.if_icmp .ge 43, 3) := by decide +kernel
theorem dX1_leapNext_133 : decode cX1_leapNext 133 = .ok (.aload_n 0, 1) := by decide +kernel
theorem dX1_leapNext_134 : decode cX1_leapNext 134 = .ok (.getfield 49, 3) := by decide +kernel
theorem dX1_leapNext_137 : decode cX1_leapNext 137 = .ok (.dup, 1) := by decide +kernel
theorem dX1_leapNext_138 : decode cX1_leapNext 138 = .ok (.getfield 168, 3) := by decide +kernel
theorem dX1_leapNext_141 : decode cX1_leapNext 141 = .ok (.iconst 3, 1) := by decide +kernel
theorem dX1_leapNext_142 : decode cX1_leapNext 142 = .ok (.aload_n 0, 1) := by decide +kernel
theorem dX1_leapNext_143 : decode cX1_leapNext 143 = .ok (.invokevirtual 136, 3) := by decide +kernel
theorem dX1_leapNext_146 : decode cX1_leapNext 146 = .ok (.imul, 1) := by decide +kernel
theorem dX1_leapNext_147 : decode cX1_leapNext 147 = .ok (.iadd, 1) := by decide +kernel
theorem dX1_leapNext_148 : decode cX1_leapNext 148 = .ok (.putfield 168, 3) := by decide +kernel
theorem dX1_leapNext_151 : decode cX1_leapNext 151 = .ok (.aload_n 0, 1) := by decide +kernel
theorem dX1_leapNext_152 : decode cX1_leapNext 152 = .ok (.getfield 49, 3) := by decide +kernel
theorem dX1_leapNext_155 : decode cX1_leapNext 155 = .ok (.dup, 1) := by decide +kernel
theorem dX1_leapNext_156 : decode cX1_leapNext 156 = .ok (.getfield 188, 3) := by decide +kernel
theorem dX1_leapNext_159 : decode cX1_leapNext 159 = .ok (.iconst 1, 1) := by decide +kernel
theorem dX1_leapNext_160 : decode cX1_leapNext 160 = .ok (.iadd, 1) := by decide +kernel
theorem dX1_leapNext_161 : decode cX1_leapNext 161 = .ok (.putfield 188, 3) := by decide +kernel
theorem dX1_leapNext_164 : decode cX1_leapNext 164 = .ok (.aload 6, 2) := by decide +kernel
theorem dX1_leapNext_166 : decode cX1_leapNext 166 = .ok (.iconst 1, 1) := by decide +kernel
theorem dX1_leapNext_167 : decode cX1_leapNext 167 = .ok (.iconst 1, 1) := by decide +kernel
theorem dX1_leapNext_168 : decode cX1_leapNext 168 = .ok (.invokevirtual 191, 3) := by decide +kernel
theorem dX1_leapNext_171 : decode cX1_leapNext 171 = .ok (.iconst 2, 1) := by decide +kernel
theorem dX1_leapNext_172 : decode cX1_leapNext 172 = .ok (.ireturn, 1) := by decide +kernel
theorem dX1_leapNext_173 : decode cX1_leapNext 173 = .ok (.iload 5, 2) := by decide +kernel
theorem dX1_leapNext_175 : decode cX1_leapNext 175 = .ok (.iload 4, 2) := by decide +kernel
theorem dX1_leapNext_177 : decode cX1_leapNext 177 = .ok (.if_icmp .ge 25, 3) := by decide +kernel
theorem dX1_leapNext_180 : decode cX1_leapNext 180 = .ok (.aload_n 0, 1) := by decide +kernel
theorem dX1_leapNext_181 : decode cX1_leapNext 181 = .ok (.getfield 49, 3) := by decide +kernel
theorem dX1_leapNext_184 : decode cX1_leapNext 184 = .ok (.dup, 1) := by decide +kernel
theorem dX1_leapNext_185 : decode cX1_leapNext 185 = .ok (.getfield 195, 3) := by decide +kernel
theorem dX1_leapNext_188 : decode cX1_leapNext 188 = .ok (.iconst 1, 1) := by decide +kernel
theorem dX1_leapNext_189 : decode cX1_leapNext 189 = .ok (.iadd, 1) := by decide +kernel
theorem dX1_leapNext_190 : decode cX1_leapNext 190 = .ok (.putfield 195, 3) := by decide +kernel
theorem dX1_leapNext_193 : decode cX1_leapNext 193 = .ok (.aload 6, 2) := by decide +kernel
theorem dX1_leapNext_195 : decode cX1_leapNext 195 = .ok (.iconst 1, 1) := by decide +kernel
theorem dX1_leapNext_196 : decode cX1_leapNext 196 = .ok (.iconst 1, 1) := by decide +kernel
theorem dX1_leapNext_197 : decode cX1_leapNext 197 = .ok (.invokevirtual 191, 3) := by decide +kernel
theorem dX1_leapNext_200 : decode cX1_leapNext 200 = .ok (.iconst 1, 1) := by decide +kernel
theorem dX1_leapNext_201 : decode cX1_leapNext 201 = .ok (.ireturn, 1) := by decide +kernel
theorem dX1_leapNext_202 : decode cX1_leapNext 202 = .ok (.aload 6, 2) := by decide +kernel
theorem dX1_leapNext_204 : decode cX1_leapNext 204 = .ok (.iconst 1, 1) := by decide +kernel
theorem dX1_leapNext_205 : decode cX1_leapNext 205 = .ok (.iconst 0, 1) := by decide +kernel
theorem dX1_leapNext_206 : decode cX1_leapNext 206 = .ok (.invokevirtual 191, 3) := by decide +kernel
theorem dX1_leapNext_209 : decode cX1_leapNext 209 = .ok (.iconst 0, 1) := by decide +kernel
theorem dX1_leapNext_210 : decode cX1_leapNext 210 = .ok (.ireturn, 1) := by decide +kernel
theorem dX2_init_0 : decode cX2_init 0 = .ok (.aload_n 0, 1) := by decide +kernel
theorem dX2_init_1 : decode cX2_init 1 = .ok (.invokespecial 3, 3) := by decide +kernel
theorem dX2_init_4 : decode cX2_init 4 = .ok (.aload_n 0, 1) := by decide +kernel
theorem dX2_init_5 : decode cX2_init 5 = .ok (.bipush 9, 2) := by decide +kernel
theorem dX2_init_7 : decode cX2_init 7 = .ok (.newarray .int, 2) := by decide +kernel
theorem dX2_init_9 : decode cX2_init 9 = .ok (.putfield 9, 3) := by decide +kernel
theorem dX2_init_12 : decode cX2_init 12 = .ok (.aload_n 0, 1) := by decide +kernel
theorem dX2_init_13 : decode cX2_init 13 = .ok (.invokevirtual 15, 3) := by decide +kernel
theorem dX2_init_16 : decode cX2_init 16 = .ok (.return_, 1) := by decide +kernel
theorem dX2_reset_0 : decode cX2_reset 0 = .ok (.getstatic 18, 3) := by decide +kernel
theorem dX2_reset_3 : decode cX2_reset 3 = .ok (.iconst 0, 1) := by decide +kernel
theorem dX2_reset_4 : decode cX2_reset 4 = .ok (.aload_n 0, 1) := by decide +kernel
theorem dX2_reset_5 : decode cX2_reset 5 = .ok (.getfield 9, 3) := by decide +kernel
theorem dX2_reset_8 : decode cX2_reset 8 = .ok (.iconst 0, 1) := by decide +kernel
theorem dX2_reset_9 : decode cX2_reset 9 = .ok (.bipush 9, 2) := by decide +kernel
theorem dX2_reset_11 : decode cX2_reset 11 = .ok (.invokestatic 21, 3) := by decide +kernel
theorem dX2_reset_14 : decode cX2_reset 14 = .ok (.return_, 1) := by decide +kernel
theorem dX2_become_0 : decode cX2_become 0 = .ok (.aload_n 1, 1) := by decide +kernel
theorem dX2_become_1 : decode cX2_become 1 = .ok (.getfield 9, 3) := by decide +kernel
theorem dX2_become_4 : decode cX2_become 4 = .ok (.iconst 0, 1) := by decide +kernel
theorem dX2_become_5 : decode cX2_become 5 = .ok (.aload_n 0, 1) := by decide +kernel
theorem dX2_become_6 : decode cX2_become 6 = .ok (.getfield 9, 3) := by decide +kernel
theorem dX2_become_9 : decode cX2_become 9 = .ok (.iconst 0, 1) := by decide +kernel
theorem dX2_become_10 : decode cX2_become 10 = .ok (.bipush 9, 2) := by decide +kernel
theorem dX2_become_12 : decode cX2_become 12 = .ok (.invokestatic 21, 3) := by decide +kernel
theorem dX2_become_15 : decode cX2_become 15 = .ok (.return_, 1) := by decide +kernel
theorem dX3_init_0 : decode cX3_init 0 = .ok (.aload_n 0, 1) := by decide +kernel
theorem dX3_init_1 : decode cX3_init 1 = .ok (.invokespecial 3, 3) := by decide +kernel
theorem dX3_init_4 : decode cX3_init 4 = .ok (.return_, 1) := by decide +kernel
theorem dX3_join_0 : decode cX3_join 0 = .ok (.aload_n 0, 1) := by decide +kernel
theorem dX3_join_1 : decode cX3_join 1 = .ok (.iload_n 1, 1) := by decide +kernel
theorem dX3_join_2 : decode cX3_join 2 = .ok (.putfield 9, 3) := by decide +kernel
theorem dX3_join_5 : decode cX3_join 5 = .ok (.aload_n 0, 1) := by decide +kernel
theorem dX3_join_6 : decode cX3_join 6 = .ok (.iconst 0, 1) := by decide +kernel
theorem dX3_join_7 : decode cX3_join 7 = .ok (.putfield 15, 3) := by decide +kernel
theorem dX3_join_10 : decode cX3_join 10 = .ok (.aload_n 0, 1) := by decide +kernel
theorem dX3_join_11 : decode cX3_join 11 = .ok (.iconst 0, 1) := by decide +kernel
theorem dX3_join_12 : decode cX3_join 12 = .ok (.putfield 18, 3) := by decide +kernel
theorem dX3_join_15 : decode cX3_join 15 = .ok (.return_, 1) := by decide +kernel
theorem dX3_become_0 : decode cX3_become 0 = .ok (.aload_n 0, 1) := by decide +kernel
theorem dX3_become_1 : decode cX3_become 1 = .ok (.aload_n 1, 1) := by decide +kernel
theorem dX3_become_2 : decode cX3_become 2 = .ok (.getfield 9, 3) := by decide +kernel
theorem dX3_become_5 : decode cX3_become 5 = .ok (.putfield 9, 3) := by decide +kernel
theorem dX3_become_8 : decode cX3_become 8 = .ok (.aload_n 0, 1) := by decide +kernel
theorem dX3_become_9 : decode cX3_become 9 = .ok (.aload_n 1, 1) := by decide +kernel
theorem dX3_become_10 : decode cX3_become 10 = .ok (.getfield 15, 3) := by decide +kernel
theorem dX3_become_13 : decode cX3_become 13 = .ok (.putfield 15, 3) := by decide +kernel
theorem dX3_become_16 : decode cX3_become 16 = .ok (.aload_n 0, 1) := by decide +kernel
theorem dX3_become_17 : decode cX3_become 17 = .ok (.aload_n 1, 1) := by decide +kernel
theorem dX3_become_18 : decode cX3_become 18 = .ok (.getfield 18, 3) := by decide +kernel
theorem dX3_become_21 : decode cX3_become 21 = .ok (.putfield 18, 3) := by decide +kernel
theorem dX3_become_24 : decode cX3_become 24 = .ok (.return_, 1) := by decide +kernel
theorem dX3_count_0 : decode cX3_count 0 = .ok (.aload_n 0, 1) := by decide +kernel
theorem dX3_count_1 : decode cX3_count 1 = .ok (.dup, 1) := by decide +kernel
theorem dX3_count_2 : decode cX3_count 2 = .ok (.getfield 15, 3) := by decide +kernel
theorem dX3_count_5 : decode cX3_count 5 = .ok (.iload_n 1, 1) := by decide +kernel
theorem dX3_count_6 : decode cX3_count 6 = .ok (.iadd, 1) := by decide +kernel
theorem dX3_count_7 : decode cX3_count 7 = .ok (.putfield 15, 3) := by decide +kernel
theorem dX3_count_10 : decode cX3_count 10 = .ok (.aload_n 0, 1) := by decide +kernel
theorem dX3_count_11 : decode cX3_count 11 = .ok (.dup, 1) := by decide +kernel
theorem dX3_count_12 : decode cX3_count 12 = .ok (.getfield 18, 3) := by decide +kernel
theorem dX3_count_15 : decode cX3_count 15 = .ok (.iload_n 2, 1) := by decide +kernel
theorem dX3_count_16 : decode cX3_count 16 = .ok (.iadd, 1) := by decide +kernel
theorem dX3_count_17 : decode cX3_count 17 = .ok (.putfield 18, 3) := by decide +kernel
theorem dX3_count_20 : decode cX3_count 20 = .ok (.return_, 1) := by decide +kernel
theorem dX3_learntSkill_0 : decode cX3_learntSkill 0 = .ok (.bipush 99, 2) := by decide +kernel
theorem dX3_learntSkill_2 : decode cX3_learntSkill 2 = .ok (.bipush 100, 2) := by decide +kernel
theorem dX3_learntSkill_4 : decode cX3_learntSkill 4 = .ok (.aload_n 0, 1) := by decide +kernel
theorem dX3_learntSkill_5 : decode cX3_learntSkill 5 = .ok (.getfield 15, 3) := by decide +kernel
theorem dX3_learntSkill_8 : decode cX3_learntSkill 8 = .ok (.aload_n 0, 1) := by decide +kernel
theorem dX3_learntSkill_9 : decode cX3_learntSkill 9 = .ok (.getfield 18, 3) := by decide +kernel
theorem dX3_learntSkill_12 : decode cX3_learntSkill 12 = .ok (.isub, 1) := by decide +kernel
theorem dX3_learntSkill_13 : decode cX3_learntSkill 13 = .ok (.imul, 1) := by decide +kernel
theorem dX3_learntSkill_14 : decode cX3_learntSkill 14 = .ok (.bipush 50, 2) := by decide +kernel
theorem dX3_learntSkill_16 : decode cX3_learntSkill 16 = .ok (.iadd, 1) := by decide +kernel
theorem dX3_learntSkill_17 : decode cX3_learntSkill 17 = .ok (.aload_n 0, 1) := by decide +kernel
theorem dX3_learntSkill_18 : decode cX3_learntSkill 18 = .ok (.getfield 15, 3) := by decide +kernel
theorem dX3_learntSkill_21 : decode cX3_learntSkill 21 = .ok (.iconst 1, 1) := by decide +kernel
theorem dX3_learntSkill_22 : decode cX3_learntSkill 22 = .ok (.iadd, 1) := by decide +kernel
theorem dX3_learntSkill_23 : decode cX3_learntSkill 23 = .ok (.invokestatic 21, 3) := by decide +kernel
theorem dX3_learntSkill_26 : decode cX3_learntSkill 26 = .ok (.invokestatic 25, 3) := by decide +kernel
theorem dX3_learntSkill_29 : decode cX3_learntSkill 29 = .ok (.ireturn, 1) := by decide +kernel
theorem dX4_init_0 : decode cX4_init 0 = .ok (.aload_n 0, 1) := by decide +kernel
theorem dX4_init_1 : decode cX4_init 1 = .ok (.invokespecial 3, 3) := by decide +kernel
theorem dX4_init_4 : decode cX4_init 4 = .ok (.aload_n 0, 1) := by decide +kernel
theorem dX4_init_5 : decode cX4_init 5 = .ok (.bipush 6, 2) := by decide +kernel
theorem dX4_init_7 : decode cX4_init 7 = .ok (.newarray .int, 2) := by decide +kernel
theorem dX4_init_9 : decode cX4_init 9 = .ok (.putfield 9, 3) := by decide +kernel
theorem dX4_init_12 : decode cX4_init 12 = .ok (.aload_n 0, 1) := by decide +kernel
theorem dX4_init_13 : decode cX4_init 13 = .ok (.bipush 6, 2) := by decide +kernel
theorem dX4_init_15 : decode cX4_init 15 = .ok (.newarray .int, 2) := by decide +kernel
theorem dX4_init_17 : decode cX4_init 17 = .ok (.putfield 15, 3) := by decide +kernel
theorem dX4_init_20 : decode cX4_init 20 = .ok (.aload_n 0, 1) := by decide +kernel
theorem dX4_init_21 : decode cX4_init 21 = .ok (.bipush 6, 2) := by decide +kernel
theorem dX4_init_23 : decode cX4_init 23 = .ok (.newarray .boolean, 2) := by decide +kernel
theorem dX4_init_25 : decode cX4_init 25 = .ok (.putfield 18, 3) := by decide +kernel
theorem dX4_init_28 : decode cX4_init 28 = .ok (.aload_n 0, 1) := by decide +kernel
theorem dX4_init_29 : decode cX4_init 29 = .ok (.bipush 6, 2) := by decide +kernel
theorem dX4_init_31 : decode cX4_init 31 = .ok (.newarray .int, 2) := by decide +kernel
theorem dX4_init_33 : decode cX4_init 33 = .ok (.putfield 22, 3) := by decide +kernel
theorem dX4_init_36 : decode cX4_init 36 = .ok (.return_, 1) := by decide +kernel
theorem dX4_find_0 : decode cX4_find 0 = .ok (.aload_n 0, 1) := by decide +kernel
theorem dX4_find_1 : decode cX4_find 1 = .ok (.aload_n 1, 1) := by decide +kernel
theorem dX4_find_2 : decode cX4_find 2 = .ok (.putfield 25, 3) := by decide +kernel
theorem dX4_find_5 : decode cX4_find 5 = .ok (.aload_n 0, 1) := by decide +kernel
theorem dX4_find_6 : decode cX4_find 6 = .ok (.iload_n 2, 1) := by decide +kernel
theorem dX4_find_7 : decode cX4_find 7 = .ok (.putfield 29, 3) := by decide +kernel
theorem dX4_find_10 : decode cX4_find 10 = .ok (.aload_n 0, 1) := by decide +kernel
theorem dX4_find_11 : decode cX4_find 11 = .ok (.iload 4, 2) := by decide +kernel
theorem dX4_find_13 : decode cX4_find 13 = .ok (.putfield 33, 3) := by decide +kernel
theorem dX4_find_16 : decode cX4_find 16 = .ok (.aload_n 0, 1) := by decide +kernel
theorem dX4_find_17 : decode cX4_find 17 = .ok (.iload_n 3, 1) := by decide +kernel
theorem dX4_find_18 : decode cX4_find 18 = .ok (.aload_n 0, 1) := by decide +kernel
theorem dX4_find_19 : decode cX4_find 19 = .ok (.getfield 15, 3) := by decide +kernel
theorem dX4_find_22 : decode cX4_find 22 = .ok (.invokestatic 36, 3) := by decide +kernel
theorem dX4_find_25 : decode cX4_find 25 = .ok (.putfield 40, 3) := by decide +kernel
theorem dX4_find_28 : decode cX4_find 28 = .ok (.aload_n 0, 1) := by decide +kernel
theorem dX4_find_29 : decode cX4_find 29 = .ok (.ldc 43, 2) := by decide +kernel
theorem dX4_find_31 : decode cX4_find 31 = .ok (.putfield 44, 3) := by decide +kernel
theorem dX4_find_34 : decode cX4_find 34 = .ok (.aload_n 0, 1) := by decide +kernel
theorem dX4_find_35 : decode cX4_find 35 = .ok (.ldc 43, 2) := by decide +kernel
theorem dX4_find_37 : decode cX4_find 37 = .ok (.putfield 47, 3) := by decide +kernel
theorem dX4_find_40 : decode cX4_find 40 = .ok (.aload_n 0, 1) := by decide +kernel
theorem dX4_find_41 : decode cX4_find 41 = .ok (.iconst 0, 1) := by decide +kernel
theorem dX4_find_42 : decode cX4_find 42 = .ok (.aload_n 0, 1) := by decide +kernel
theorem dX4_find_43 : decode cX4_find 43 = .ok (.getfield 25, 3) := by decide +kernel
theorem dX4_find_46 : decode cX4_find 46 = .ok (.getfield 50, 3) := by decide +kernel
theorem dX4_find_49 : decode cX4_find 49 = .ok (.iconst 0, 1) := by decide +kernel
theorem dX4_find_50 : decode cX4_find 50 = .ok (.iconst 0, 1) := by decide +kernel
theorem dX4_find_51 : decode cX4_find 51 = .ok (.invokestatic 55, 3) := by decide +kernel
theorem dX4_find_54 : decode cX4_find 54 = .ok (.aload_n 0, 1) := by decide +kernel
theorem dX4_find_55 : decode cX4_find 55 = .ok (.getfield 44, 3) := by decide +kernel
theorem dX4_find_58 : decode cX4_find 58 = .ok (.ldc 43, 2) := by decide +kernel
theorem dX4_find_60 : decode cX4_find 60 = .ok (.if_icmp .eq 7, 3) := by decide +kernel
theorem dX4_find_63 : decode cX4_find 63 = .ok (.iconst 1, 1) := by decide +kernel
theorem dX4_find_64 : decode cX4_find 64 = .ok (.goto 4, 3) := by decide +kernel
theorem dX4_find_67 : decode cX4_find 67 = .ok (.iconst 0, 1) := by decide +kernel
theorem dX4_find_68 : decode cX4_find 68 = .ok (.ireturn, 1) := by decide +kernel
theorem dX4_extend_0 : decode cX4_extend 0 = .ok (.iload_n 1, 1) := by decide +kernel
theorem dX4_extend_1 : decode cX4_extend 1 = .ok (.aload_n 0, 1) := by decide +kernel
theorem dX4_extend_2 : decode cX4_extend 2 = .ok (.getfield 40, 3) := by decide +kernel
theorem dX4_extend_5 : decode cX4_extend 5 = .ok (.if_icmp .lt 17, 3) := by decide +kernel
theorem dX4_extend_8 : decode cX4_extend 8 = .ok (.aload_n 0, 1) := by decide +kernel
theorem dX4_extend_9 : decode cX4_extend 9 = .ok (.iload 4, 2) := by decide +kernel
theorem dX4_extend_11 : decode cX4_extend 11 = .ok (.iconst 0, 1) := by decide +kernel
theorem dX4_extend_12 : decode cX4_extend 12 = .ok (.iload_n 3, 1) := by decide +kernel
theorem dX4_extend_13 : decode cX4_extend 13 = .ok (.iconst 1, 1) := by decide +kernel
theorem dX4_extend_14 : decode cX4_extend 14 = .ok (.isub, 1) := by decide +kernel
theorem dX4_extend_15 : decode cX4_extend 15 = .ok (.invokestatic 59, 3) := by decide +kernel
theorem dX4_extend_18 : decode cX4_extend 18 = .ok (.invokevirtual 65, 3) := by decide +kernel
theorem dX4_extend_21 : decode cX4_extend 21 = .ok (.return_, 1) := by decide +kernel
theorem dX4_extend_22 : decode cX4_extend 22 = .ok (.iconst 0, 1) := by decide +kernel
theorem dX4_extend_23 : decode cX4_extend 23 = .ok (.istore 5, 2) := by decide +kernel
theorem dX4_extend_25 : decode cX4_extend 25 = .ok (.iload 5, 2) := by decide +kernel
theorem dX4_extend_27 : decode cX4_extend 27 = .ok (.aload_n 0, 1) := by decide +kernel
theorem dX4_extend_28 : decode cX4_extend 28 = .ok (.getfield 40, 3) := by decide +kernel
theorem dX4_extend_31 : decode cX4_extend 31 = .ok (.if_icmp .ge 155, 3) := by decide +kernel
theorem dX4_extend_34 : decode cX4_extend 34 = .ok (.aload_n 0, 1) := by decide +kernel
theorem dX4_extend_35 : decode cX4_extend 35 = .ok (.getfield 18, 3) := by decide +kernel
theorem dX4_extend_38 : decode cX4_extend 38 = .ok (.iload 5, 2) := by decide +kernel
theorem dX4_extend_40 : decode cX4_extend 40 = .ok (.baload, 1) := by decide +kernel
theorem dX4_extend_41 : decode cX4_extend 41 = .ok (.ifCond .eq 6, 3) := by decide +kernel
theorem dX4_extend_44 : decode cX4_extend 44 = .ok (.goto 136, 3) := by decide +kernel
theorem dX4_extend_47 : decode cX4_extend 47 = .ok (.aload_n 0, 1) := by decide +kernel
theorem dX4_extend_48 : decode cX4_extend 48 = .ok (.getfield 25, 3) := by decide +kernel
theorem dX4_extend_51 : decode cX4_extend 51 = .ok (.getfield 69, 3) := by decide +kernel
theorem dX4_extend_54 : decode cX4_extend 54 = .ok (.aload_n 0, 1) := by decide +kernel
theorem dX4_extend_55 : decode cX4_extend 55 = .ok (.getfield 15, 3) := by decide +kernel
theorem dX4_extend_58 : decode cX4_extend 58 = .ok (.iload 5, 2) := by decide +kernel
theorem dX4_extend_60 : decode cX4_extend 60 = .ok (.iaload, 1) := by decide +kernel
theorem dX4_extend_61 : decode cX4_extend 61 = .ok (.aaload, 1) := by decide +kernel
theorem dX4_extend_62 : decode cX4_extend 62 = .ok (.getfield 72, 3) := by decide +kernel
theorem dX4_extend_65 : decode cX4_extend 65 = .ok (.istore 6, 2) := by decide +kernel
theorem dX4_extend_67 : decode cX4_extend 67 = .ok (.iload_n 3, 1) := by decide +kernel
theorem dX4_extend_68 : decode cX4_extend 68 = .ok (.aload_n 0, 1) := by decide +kernel
theorem dX4_extend_69 : decode cX4_extend 69 = .ok (.getfield 25, 3) := by decide +kernel
theorem dX4_extend_72 : decode cX4_extend 72 = .ok (.iload_n 2, 1) := by decide +kernel
theorem dX4_extend_73 : decode cX4_extend 73 = .ok (.iload 6, 2) := by decide +kernel
theorem dX4_extend_75 : decode cX4_extend 75 = .ok (.aload_n 0, 1) := by decide +kernel
theorem dX4_extend_76 : decode cX4_extend 76 = .ok (.getfield 25, 3) := by decide +kernel
theorem dX4_extend_79 : decode cX4_extend 79 = .ok (.invokevirtual 77, 3) := by decide +kernel
theorem dX4_extend_82 : decode cX4_extend 82 = .ok (.invokevirtual 81, 3) := by decide +kernel
theorem dX4_extend_85 : decode cX4_extend 85 = .ok (.iadd, 1) := by decide +kernel
theorem dX4_extend_86 : decode cX4_extend 86 = .ok (.istore 7, 2) := by decide +kernel
theorem dX4_extend_88 : decode cX4_extend 88 = .ok (.iload 4, 2) := by decide +kernel
theorem dX4_extend_90 : decode cX4_extend 90 = .ok (.aload_n 0, 1) := by decide +kernel
theorem dX4_extend_91 : decode cX4_extend 91 = .ok (.getfield 25, 3) := by decide +kernel
theorem dX4_extend_94 : decode cX4_extend 94 = .ok (.aload_n 0, 1) := by decide +kernel
theorem dX4_extend_95 : decode cX4_extend 95 = .ok (.getfield 29, 3) := by decide +kernel
theorem dX4_extend_98 : decode cX4_extend 98 = .ok (.aload_n 0, 1) := by decide +kernel
theorem dX4_extend_99 : decode cX4_extend 99 = .ok (.getfield 15, 3) := by decide +kernel
theorem dX4_extend_102 : decode cX4_extend 102 = .ok (.iload 5, 2) := by decide +kernel
theorem dX4_extend_104 : decode cX4_extend 104 = .ok (.iaload, 1) := by decide +kernel
theorem dX4_extend_105 : decode cX4_extend 105 = .ok (.iload 7, 2) := by decide +kernel
theorem dX4_extend_107 : decode cX4_extend 107 = .ok (.invokestatic 85, 3) := by decide +kernel
theorem dX4_extend_110 : decode cX4_extend 110 = .ok (.invokevirtual 89, 3) := by decide +kernel
theorem dX4_extend_113 : decode cX4_extend 113 = .ok (.iadd, 1) := by decide +kernel
theorem dX4_extend_114 : decode cX4_extend 114 = .ok (.istore 8, 2) := by decide +kernel
theorem dX4_extend_116 : decode cX4_extend 116 = .ok (.iload 7, 2) := by decide +kernel
theorem dX4_extend_118 : decode cX4_extend 118 = .ok (.aload_n 0, 1) := by decide +kernel
theorem dX4_extend_119 : decode cX4_extend 119 = .ok (.getfield 33, 3) := by decide +kernel
theorem dX4_extend_122 : decode cX4_extend 122 = .ok (.if_icmp .gt 58, 3) := by decide +kernel
theorem dX4_extend_125 : decode cX4_extend 125 = .ok (.aload_n 0, 1) := by decide +kernel
theorem dX4_extend_126 : decode cX4_extend 126 = .ok (.iload 8, 2) := by decide +kernel
theorem dX4_extend_128 : decode cX4_extend 128 = .ok (.iload 7, 2) := by decide +kernel
theorem dX4_extend_130 : decode cX4_extend 130 = .ok (.invokevirtual 92, 3) := by decide +kernel
theorem dX4_extend_133 : decode cX4_extend 133 = .ok (.ifCond .eq 47, 3) := by decide +kernel
theorem dX4_extend_136 : decode cX4_extend 136 = .ok (.aload_n 0, 1) := by decide +kernel
theorem dX4_extend_137 : decode cX4_extend 137 = .ok (.getfield 18, 3) := by decide +kernel
theorem dX4_extend_140 : decode cX4_extend 140 = .ok (.iload 5, 2) := by decide +kernel
theorem dX4_extend_142 : decode cX4_extend 142 = .ok (.iconst 1, 1) := by decide +kernel
theorem dX4_extend_143 : decode cX4_extend 143 = .ok (.bastore, 1) := by decide +kernel
theorem dX4_extend_144 : decode cX4_extend 144 = .ok (.aload_n 0, 1) := by decide +kernel
theorem dX4_extend_145 : decode cX4_extend 145 = .ok (.getfield 22, 3) := by decide +kernel
theorem dX4_extend_148 : decode cX4_extend 148 = .ok (.iload_n 1, 1) := by decide +kernel
theorem dX4_extend_149 : decode cX4_extend 149 = .ok (.aload_n 0, 1) := by decide +kernel
theorem dX4_extend_150 : decode cX4_extend 150 = .ok (.getfield 15, 3) := by decide +kernel
theorem dX4_extend_153 : decode cX4_extend 153 = .ok (.iload 5, 2) := by decide +kernel
theorem dX4_extend_155 : decode cX4_extend 155 = .ok (.iaload, 1) := by decide +kernel
theorem dX4_extend_156 : decode cX4_extend 156 = .ok (.iastore, 1) := by decide +kernel
theorem dX4_extend_157 : decode cX4_extend 157 = .ok (.aload_n 0, 1) := by decide +kernel
theorem dX4_extend_158 : decode cX4_extend 158 = .ok (.iload_n 1, 1) := by decide +kernel
theorem dX4_extend_159 : decode cX4_extend 159 = .ok (.iconst 1, 1) := by decide +kernel
theorem dX4_extend_160 : decode cX4_extend 160 = .ok (.iadd, 1) := by decide +kernel
theorem dX4_extend_161 : decode cX4_extend 161 = .ok (.iload 6, 2) := by decide +kernel
theorem dX4_extend_163 : decode cX4_extend 163 = .ok (.iload 7, 2) := by decide +kernel
theorem dX4_extend_165 : decode cX4_extend 165 = .ok (.iconst 1, 1) := by decide +kernel
theorem dX4_extend_166 : decode cX4_extend 166 = .ok (.iadd, 1) := by decide +kernel
theorem dX4_extend_167 : decode cX4_extend 167 = .ok (.iload 8, 2) := by decide +kernel
theorem dX4_extend_169 : decode cX4_extend 169 = .ok (.invokestatic 55, 3) := by decide +kernel
theorem dX4_extend_172 : decode cX4_extend 172 = .ok (.aload_n 0, 1) := by decide +kernel
theorem dX4_extend_173 : decode cX4_extend 173 = .ok (.getfield 18, 3) := by decide +kernel
theorem dX4_extend_176 : decode cX4_extend 176 = .ok (.iload 5, 2) := by decide +kernel
theorem dX4_extend_178 : decode cX4_extend 178 = .ok (.iconst 0, 1) := by decide +kernel
theorem dX4_extend_179 : decode cX4_extend 179 = .ok (.bastore, 1) := by decide +kernel
theorem dX4_extend_180 : decode cX4_extend 180 = .ok (.iinc 5 1, 3) := by decide +kernel
theorem dX4_extend_183 : decode cX4_extend 183 = .ok (.goto (-158), 3) := by decide +kernel
theorem dX4_extend_186 : decode cX4_extend 186 = .ok (.return_, 1) := by decide +kernel
theorem dX4_isBetter_0 : decode cX4_isBetter 0 = .ok (.iload_n 1, 1) := by decide +kernel
theorem dX4_isBetter_1 : decode cX4_isBetter 1 = .ok (.aload_n 0, 1) := by decide +kernel
theorem dX4_isBetter_2 : decode cX4_isBetter 2 = .ok (.getfield 44, 3) := by decide +kernel
theorem dX4_isBetter_5 : decode cX4_isBetter 5 = .ok (.if_icmp .lt 19, 3) := by decide +kernel
theorem dX4_isBetter_8 : decode cX4_isBetter 8 = .ok (.iload_n 1, 1) := by decide +kernel
theorem dX4_isBetter_9 : decode cX4_isBetter 9 = .ok (.aload_n 0, 1) := by decide +kernel
theorem dX4_isBetter_10 : decode cX4_isBetter 10 = .ok (.getfield 44, 3) := by decide +kernel
theorem dX4_isBetter_13 : decode cX4_isBetter 13 = .ok (.if_icmp .ne 15, 3) := by decide +kernel
theorem dX4_isBetter_16 : decode cX4_isBetter 16 = .ok (.iload_n 2, 1) := by decide +kernel
theorem dX4_isBetter_17 : decode cX4_isBetter 17 = .ok (.aload_n 0, 1) := by decide +kernel
theorem dX4_isBetter_18 : decode cX4_isBetter 18 = .ok (.getfield 47, 3) := by decide +kernel
theorem dX4_isBetter_21 : decode cX4_isBetter 21 = .ok (.if_icmp .ge 7, 3) := by decide +kernel
theorem dX4_isBetter_24 : decode cX4_isBetter 24 = .ok (.iconst 1, 1) := by decide +kernel
theorem dX4_isBetter_25 : decode cX4_isBetter 25 = .ok (.goto 4, 3) := by decide +kernel
theorem dX4_isBetter_28 : decode cX4_isBetter 28 = .ok (.iconst 0, 1) := by decide +kernel
theorem dX4_isBetter_29 : decode cX4_isBetter 29 = .ok (.ireturn, 1) := by decide +kernel
theorem dX4_keep_0 : decode cX4_keep 0 = .ok (.aload_n 0, 1) := by decide +kernel
theorem dX4_keep_1 : decode cX4_keep 1 = .ok (.iload_n 1, 1) := by decide +kernel
theorem dX4_keep_2 : decode cX4_keep 2 = .ok (.putfield 44, 3) := by decide +kernel
theorem dX4_keep_5 : decode cX4_keep 5 = .ok (.aload_n 0, 1) := by decide +kernel
theorem dX4_keep_6 : decode cX4_keep 6 = .ok (.iload_n 2, 1) := by decide +kernel
theorem dX4_keep_7 : decode cX4_keep 7 = .ok (.putfield 47, 3) := by decide +kernel
theorem dX4_keep_10 : decode cX4_keep 10 = .ok (.aload_n 0, 1) := by decide +kernel
theorem dX4_keep_11 : decode cX4_keep 11 = .ok (.getfield 22, 3) := by decide +kernel
theorem dX4_keep_14 : decode cX4_keep 14 = .ok (.iconst 0, 1) := by decide +kernel
theorem dX4_keep_15 : decode cX4_keep 15 = .ok (.aload_n 0, 1) := by decide +kernel
theorem dX4_keep_16 : decode cX4_keep 16 = .ok (.getfield 9, 3) := by decide +kernel
theorem dX4_keep_19 : decode cX4_keep 19 = .ok (.iconst 0, 1) := by decide +kernel
theorem dX4_keep_20 : decode cX4_keep 20 = .ok (.aload_n 0, 1) := by decide +kernel
theorem dX4_keep_21 : decode cX4_keep 21 = .ok (.getfield 40, 3) := by decide +kernel
theorem dX4_keep_24 : decode cX4_keep 24 = .ok (.invokestatic 96, 3) := by decide +kernel
theorem dX4_keep_27 : decode cX4_keep 27 = .ok (.return_, 1) := by decide +kernel
theorem dX5_init_0 : decode cX5_init 0 = .ok (.aload_n 0, 1) := by decide +kernel
theorem dX5_init_1 : decode cX5_init 1 = .ok (.invokespecial 3, 3) := by decide +kernel
theorem dX5_init_4 : decode cX5_init 4 = .ok (.aload_n 0, 1) := by decide +kernel
theorem dX5_init_5 : decode cX5_init 5 = .ok (.iconst (-1), 1) := by decide +kernel
theorem dX5_init_6 : decode cX5_init 6 = .ok (.putfield 9, 3) := by decide +kernel
theorem dX5_init_9 : decode cX5_init 9 = .ok (.aload_n 0, 1) := by decide +kernel
theorem dX5_init_10 : decode cX5_init 10 = .ok (.iconst (-1), 1) := by decide +kernel
theorem dX5_init_11 : decode cX5_init 11 = .ok (.putfield 15, 3) := by decide +kernel
theorem dX5_init_14 : decode cX5_init 14 = .ok (.aload_n 0, 1) := by decide +kernel
theorem dX5_init_15 : decode cX5_init 15 = .ok (.bipush 40, 2) := by decide +kernel
theorem dX5_init_17 : decode cX5_init 17 = .ok (.newarray .long, 2) := by decide +kernel
theorem dX5_init_19 : decode cX5_init 19 = .ok (.putfield 18, 3) := by decide +kernel
theorem dX5_init_22 : decode cX5_init 22 = .ok (.return_, 1) := by decide +kernel
theorem dX5_isEmpty_0 : decode cX5_isEmpty 0 = .ok (.aload_n 0, 1) := by decide +kernel
theorem dX5_isEmpty_1 : decode cX5_isEmpty 1 = .ok (.getfield 9, 3) := by decide +kernel
theorem dX5_isEmpty_4 : decode cX5_isEmpty 4 = .ok (.iconst (-1), 1) := by decide +kernel
theorem dX5_isEmpty_5 : decode cX5_isEmpty 5 = .ok (.if_icmp .ne 15, 3) := by decide +kernel
theorem dX5_isEmpty_8 : decode cX5_isEmpty 8 = .ok (.aload_n 0, 1) := by decide +kernel
theorem dX5_isEmpty_9 : decode cX5_isEmpty 9 = .ok (.getfield 15, 3) := by decide +kernel
theorem dX5_isEmpty_12 : decode cX5_isEmpty 12 = .ok (.iconst (-1), 1) := by decide +kernel
theorem dX5_isEmpty_13 : decode cX5_isEmpty 13 = .ok (.if_icmp .ne 7, 3) := by decide +kernel
theorem dX5_isEmpty_16 : decode cX5_isEmpty 16 = .ok (.iconst 1, 1) := by decide +kernel
theorem dX5_isEmpty_17 : decode cX5_isEmpty 17 = .ok (.goto 4, 3) := by decide +kernel
theorem dX5_isEmpty_20 : decode cX5_isEmpty 20 = .ok (.iconst 0, 1) := by decide +kernel
theorem dX5_isEmpty_21 : decode cX5_isEmpty 21 = .ok (.ireturn, 1) := by decide +kernel
theorem dX5_takeRow_0 : decode cX5_takeRow 0 = .ok (.aload_n 0, 1) := by decide +kernel
theorem dX5_takeRow_1 : decode cX5_takeRow 1 = .ok (.iload_n 1, 1) := by decide +kernel
theorem dX5_takeRow_2 : decode cX5_takeRow 2 = .ok (.putfield 9, 3) := by decide +kernel
theorem dX5_takeRow_5 : decode cX5_takeRow 5 = .ok (.aload_n 0, 1) := by decide +kernel
theorem dX5_takeRow_6 : decode cX5_takeRow 6 = .ok (.iload_n 2, 1) := by decide +kernel
theorem dX5_takeRow_7 : decode cX5_takeRow 7 = .ok (.putfield 22, 3) := by decide +kernel
theorem dX5_takeRow_10 : decode cX5_takeRow 10 = .ok (.aload_n 0, 1) := by decide +kernel
theorem dX5_takeRow_11 : decode cX5_takeRow 11 = .ok (.iconst (-1), 1) := by decide +kernel
theorem dX5_takeRow_12 : decode cX5_takeRow 12 = .ok (.putfield 15, 3) := by decide +kernel
theorem dX5_takeRow_15 : decode cX5_takeRow 15 = .ok (.iconst 0, 1) := by decide +kernel
theorem dX5_takeRow_16 : decode cX5_takeRow 16 = .ok (.istore_n 3, 1) := by decide +kernel
theorem dX5_takeRow_17 : decode cX5_takeRow 17 = .ok (.iload_n 3, 1) := by decide +kernel
theorem dX5_takeRow_18 : decode cX5_takeRow 18 = .ok (.aload_n 0, 1) := by decide +kernel
theorem dX5_takeRow_19 : decode cX5_takeRow 19 = .ok (.getfield 18, 3) := by decide +kernel
theorem dX5_takeRow_22 : decode cX5_takeRow 22 = .ok (.arraylength, 1) := by decide +kernel
theorem dX5_takeRow_23 : decode cX5_takeRow 23 = .ok (.if_icmp .ge 16, 3) := by decide +kernel
theorem dX5_takeRow_26 : decode cX5_takeRow 26 = .ok (.aload_n 0, 1) := by decide +kernel
theorem dX5_takeRow_27 : decode cX5_takeRow 27 = .ok (.getfield 18, 3) := by decide +kernel
theorem dX5_takeRow_30 : decode cX5_takeRow 30 = .ok (.iload_n 3, 1) := by decide +kernel
theorem dX5_takeRow_31 : decode cX5_takeRow 31 = .ok (.lconst 0, 1) := by decide +kernel
theorem dX5_takeRow_32 : decode cX5_takeRow 32 = .ok (.lastore, 1) := by decide +kernel
theorem dX5_takeRow_33 : decode cX5_takeRow 33 = .ok (.iinc 3 1, 3) := by decide +kernel
theorem dX5_takeRow_36 : decode cX5_takeRow 36 = .ok (.goto (-19), 3) := by decide +kernel
theorem dX5_takeRow_39 : decode cX5_takeRow 39 = .ok (.return_, 1) := by decide +kernel
theorem dX5_takeJetty_0 : decode cX5_takeJetty 0 = .ok (.aload_n 0, 1) := by decide +kernel
theorem dX5_takeJetty_1 : decode cX5_takeJetty 1 = .ok (.iconst (-1), 1) := by decide +kernel
theorem dX5_takeJetty_2 : decode cX5_takeJetty 2 = .ok (.putfield 9, 3) := by decide +kernel
theorem dX5_takeJetty_5 : decode cX5_takeJetty 5 = .ok (.aload_n 0, 1) := by decide +kernel
theorem dX5_takeJetty_6 : decode cX5_takeJetty 6 = .ok (.iconst 0, 1) := by decide +kernel
theorem dX5_takeJetty_7 : decode cX5_takeJetty 7 = .ok (.putfield 22, 3) := by decide +kernel
theorem dX5_takeJetty_10 : decode cX5_takeJetty 10 = .ok (.aload_n 0, 1) := by decide +kernel
theorem dX5_takeJetty_11 : decode cX5_takeJetty 11 = .ok (.iload_n 1, 1) := by decide +kernel
theorem dX5_takeJetty_12 : decode cX5_takeJetty 12 = .ok (.putfield 15, 3) := by decide +kernel
theorem dX5_takeJetty_15 : decode cX5_takeJetty 15 = .ok (.return_, 1) := by decide +kernel
theorem dX5_hasPart_0 : decode cX5_hasPart 0 = .ok (.iload_n 1, 1) := by decide +kernel
theorem dX5_hasPart_1 : decode cX5_hasPart 1 = .ok (.ifCond .lt 29, 3) := by decide +kernel
theorem dX5_hasPart_4 : decode cX5_hasPart 4 = .ok (.iload_n 2, 1) := by decide +kernel
theorem dX5_hasPart_5 : decode cX5_hasPart 5 = .ok (.ifCond .lt 25, 3) := by decide +kernel
theorem dX5_hasPart_8 : decode cX5_hasPart 8 = .ok (.iload_n 1, 1) := by decide +kernel
theorem dX5_hasPart_9 : decode cX5_hasPart 9 = .ok (.aload_n 0, 1) := by decide +kernel
theorem dX5_hasPart_10 : decode cX5_hasPart 10 = .ok (.getfield 22, 3) := by decide +kernel
theorem dX5_hasPart_13 : decode cX5_hasPart 13 = .ok (.if_icmp .gt 17, 3) := by decide +kernel
theorem dX5_hasPart_16 : decode cX5_hasPart 16 = .ok (.iload_n 2, 1) := by decide +kernel
theorem dX5_hasPart_17 : decode cX5_hasPart 17 = .ok (.aload_n 0, 1) := by decide +kernel
theorem dX5_hasPart_18 : decode cX5_hasPart 18 = .ok (.getfield 22, 3) := by decide +kernel
theorem dX5_hasPart_21 : decode cX5_hasPart 21 = .ok (.iload_n 1, 1) := by decide +kernel
theorem dX5_hasPart_22 : decode cX5_hasPart 22 = .ok (.isub, 1) := by decide +kernel
theorem dX5_hasPart_23 : decode cX5_hasPart 23 = .ok (.if_icmp .gt 7, 3) := by decide +kernel
theorem dX5_hasPart_26 : decode cX5_hasPart 26 = .ok (.iconst 1, 1) := by decide +kernel
theorem dX5_hasPart_27 : decode cX5_hasPart 27 = .ok (.goto 4, 3) := by decide +kernel
theorem dX5_hasPart_30 : decode cX5_hasPart 30 = .ok (.iconst 0, 1) := by decide +kernel
theorem dX5_hasPart_31 : decode cX5_hasPart 31 = .ok (.ireturn, 1) := by decide +kernel
theorem dX5_at_0 : decode cX5_at 0 = .ok (.iload_n 1, 1) := by decide +kernel
theorem dX5_at_1 : decode cX5_at 1 = .ok (.aload_n 0, 1) := by decide +kernel
theorem dX5_at_2 : decode cX5_at 2 = .ok (.getfield 22, 3) := by decide +kernel
theorem dX5_at_5 : decode cX5_at 5 = .ok (.invokestatic 25, 3) := by decide +kernel
theorem dX5_at_8 : decode cX5_at 8 = .ok (.ifCond .eq 12, 3) := by decide +kernel
theorem dX5_at_11 : decode cX5_at 11 = .ok (.aload_n 0, 1) := by decide +kernel
theorem dX5_at_12 : decode cX5_at 12 = .ok (.getfield 18, 3) := by decide +kernel
theorem dX5_at_15 : decode cX5_at 15 = .ok (.iload_n 1, 1) := by decide +kernel
theorem dX5_at_16 : decode cX5_at 16 = .ok (.laload, 1) := by decide +kernel
theorem dX5_at_17 : decode cX5_at 17 = .ok (.goto 4, 3) := by decide +kernel
theorem dX5_at_20 : decode cX5_at 20 = .ok (.lconst 0, 1) := by decide +kernel
theorem dX5_at_21 : decode cX5_at 21 = .ok (.lreturn, 1) := by decide +kernel
theorem dX5_put_0 : decode cX5_put 0 = .ok (.iload_n 1, 1) := by decide +kernel
theorem dX5_put_1 : decode cX5_put 1 = .ok (.aload_n 0, 1) := by decide +kernel
theorem dX5_put_2 : decode cX5_put 2 = .ok (.getfield 22, 3) := by decide +kernel
theorem dX5_put_5 : decode cX5_put 5 = .ok (.invokestatic 25, 3) := by decide +kernel
theorem dX5_put_8 : decode cX5_put 8 = .ok (.ifCond .eq 14, 3) := by decide +kernel
theorem dX5_put_11 : decode cX5_put 11 = .ok (.aload_n 0, 1) := by decide +kernel
theorem dX5_put_12 : decode cX5_put 12 = .ok (.getfield 18, 3) := by decide +kernel
theorem dX5_put_15 : decode cX5_put 15 = .ok (.iload_n 1, 1) := by decide +kernel
theorem dX5_put_16 : decode cX5_put 16 = .ok (.aload_n 0, 1) := by decide +kernel
theorem dX5_put_17 : decode cX5_put 17 = .ok (.lload_n 2, 1) := by decide +kernel
theorem dX5_put_18 : decode cX5_put 18 = .ok (.invokevirtual 29, 3) := by decide +kernel
theorem dX5_put_21 : decode cX5_put 21 = .ok (.lastore, 1) := by decide +kernel
theorem dX5_put_22 : decode cX5_put 22 = .ok (.return_, 1) := by decide +kernel
theorem dX5_lowestBits_0 : decode cX5_lowestBits 0 = .ok (.aload_n 0, 1) := by decide +kernel
theorem dX5_lowestBits_1 : decode cX5_lowestBits 1 = .ok (.getfield 9, 3) := by decide +kernel
theorem dX5_lowestBits_4 : decode cX5_lowestBits 4 = .ok (.tableswitch 48 0 3 #[32, 37, 42, 46], 32) := by decide +kernel
theorem dX5_lowestBits_36 : decode cX5_lowestBits 36 = .ok (.lload_n 1, 1) := by decide +kernel
theorem dX5_lowestBits_37 : decode cX5_lowestBits 37 = .ok (.l2i, 1) := by decide +kernel
theorem dX5_lowestBits_38 : decode cX5_lowestBits 38 = .ok (.i2b, 1) := by decide +kernel
theorem dX5_lowestBits_39 : decode cX5_lowestBits 39 = .ok (.i2l, 1) := by decide +kernel
theorem dX5_lowestBits_40 : decode cX5_lowestBits 40 = .ok (.lreturn, 1) := by decide +kernel
theorem dX5_lowestBits_41 : decode cX5_lowestBits 41 = .ok (.lload_n 1, 1) := by decide +kernel
theorem dX5_lowestBits_42 : decode cX5_lowestBits 42 = .ok (.l2i, 1) := by decide +kernel
theorem dX5_lowestBits_43 : decode cX5_lowestBits 43 = .ok (.i2s, 1) := by decide +kernel
theorem dX5_lowestBits_44 : decode cX5_lowestBits 44 = .ok (.i2l, 1) := by decide +kernel
theorem dX5_lowestBits_45 : decode cX5_lowestBits 45 = .ok (.lreturn, 1) := by decide +kernel
theorem dX5_lowestBits_46 : decode cX5_lowestBits 46 = .ok (.lload_n 1, 1) := by decide +kernel
theorem dX5_lowestBits_47 : decode cX5_lowestBits 47 = .ok (.l2i, 1) := by decide +kernel
theorem dX5_lowestBits_48 : decode cX5_lowestBits 48 = .ok (.i2l, 1) := by decide +kernel
theorem dX5_lowestBits_49 : decode cX5_lowestBits 49 = .ok (.lreturn, 1) := by decide +kernel
theorem dX5_lowestBits_50 : decode cX5_lowestBits 50 = .ok (.lload_n 1, 1) := by decide +kernel
theorem dX5_lowestBits_51 : decode cX5_lowestBits 51 = .ok (.lreturn, 1) := by decide +kernel
theorem dX5_lowestBits_52 : decode cX5_lowestBits 52 = .ok (.lload_n 1, 1) := by decide +kernel
theorem dX5_lowestBits_53 : decode cX5_lowestBits 53 = .ok (.lconst 0, 1) := by decide +kernel
theorem dX5_lowestBits_54 : decode cX5_lowestBits 54 = .ok (.lcmp, 1) := by decide +kernel
theorem dX5_lowestBits_55 : decode cX5_lowestBits 55 = .ok (.ifCond .eq 7, 3) := by decide +kernel
theorem dX5_lowestBits_58 : decode cX5_lowestBits 58 = .ok (.lconst 1, 1) := by decide +kernel
theorem dX5_lowestBits_59 : decode cX5_lowestBits 59 = .ok (.goto 4, 3) := by decide +kernel
theorem dX5_lowestBits_62 : decode cX5_lowestBits 62 = .ok (.lconst 0, 1) := by decide +kernel
theorem dX5_lowestBits_63 : decode cX5_lowestBits 63 = .ok (.lreturn, 1) := by decide +kernel
theorem dX6_init_0 : decode cX6_init 0 = .ok (.aload_n 0, 1) := by decide +kernel
theorem dX6_init_1 : decode cX6_init 1 = .ok (.invokespecial 3, 3) := by decide +kernel
theorem dX6_init_4 : decode cX6_init 4 = .ok (.aload_n 0, 1) := by decide +kernel
theorem dX6_init_5 : decode cX6_init 5 = .ok (.sipush 160, 3) := by decide +kernel
theorem dX6_init_8 : decode cX6_init 8 = .ok (.newarray .byte, 2) := by decide +kernel
theorem dX6_init_10 : decode cX6_init 10 = .ok (.putfield 9, 3) := by decide +kernel
theorem dX6_init_13 : decode cX6_init 13 = .ok (.return_, 1) := by decide +kernel
theorem dX6_append_0 : decode cX6_append 0 = .ok (.iload_n 2, 1) := by decide +kernel
theorem dX6_append_1 : decode cX6_append 1 = .ok (.iconst 1, 1) := by decide +kernel
theorem dX6_append_2 : decode cX6_append 2 = .ok (.isub, 1) := by decide +kernel
theorem dX6_append_3 : decode cX6_append 3 = .ok (.istore_n 3, 1) := by decide +kernel
theorem dX6_append_4 : decode cX6_append 4 = .ok (.iload_n 3, 1) := by decide +kernel
theorem dX6_append_5 : decode cX6_append 5 = .ok (.ifCond .lt 47, 3) := by decide +kernel
theorem dX6_append_8 : decode cX6_append 8 = .ok (.aload_n 0, 1) := by decide +kernel
theorem dX6_append_9 : decode cX6_append 9 = .ok (.getfield 15, 3) := by decide +kernel
theorem dX6_append_12 : decode cX6_append 12 = .ok (.aload_n 0, 1) := by decide +kernel
theorem dX6_append_13 : decode cX6_append 13 = .ok (.getfield 9, 3) := by decide +kernel
theorem dX6_append_16 : decode cX6_append 16 = .ok (.arraylength, 1) := by decide +kernel
theorem dX6_append_17 : decode cX6_append 17 = .ok (.if_icmp .ge 35, 3) := by decide +kernel
theorem dX6_append_20 : decode cX6_append 20 = .ok (.aload_n 0, 1) := by decide +kernel
theorem dX6_append_21 : decode cX6_append 21 = .ok (.getfield 9, 3) := by decide +kernel
theorem dX6_append_24 : decode cX6_append 24 = .ok (.aload_n 0, 1) := by decide +kernel
theorem dX6_append_25 : decode cX6_append 25 = .ok (.getfield 15, 3) := by decide +kernel
theorem dX6_append_28 : decode cX6_append 28 = .ok (.iload_n 1, 1) := by decide +kernel
theorem dX6_append_29 : decode cX6_append 29 = .ok (.bipush 8, 2) := by decide +kernel
theorem dX6_append_31 : decode cX6_append 31 = .ok (.iload_n 3, 1) := by decide +kernel
theorem dX6_append_32 : decode cX6_append 32 = .ok (.imul, 1) := by decide +kernel
theorem dX6_append_33 : decode cX6_append 33 = .ok (.ishr, 1) := by decide +kernel
theorem dX6_append_34 : decode cX6_append 34 = .ok (.i2b, 1) := by decide +kernel
theorem dX6_append_35 : decode cX6_append 35 = .ok (.bastore, 1) := by decide +kernel
theorem dX6_append_36 : decode cX6_append 36 = .ok (.aload_n 0, 1) := by decide +kernel
theorem dX6_append_37 : decode cX6_append 37 = .ok (.dup, 1) := by decide +kernel
theorem dX6_append_38 : decode cX6_append 38 = .ok (.getfield 15, 3) := by decide +kernel
theorem dX6_append_41 : decode cX6_append 41 = .ok (.iconst 1, 1) := by decide +kernel
theorem dX6_append_42 : decode cX6_append 42 = .ok (.iadd, 1) := by decide +kernel
theorem dX6_append_43 : decode cX6_append 43 = .ok (.putfield 15, 3) := by decide +kernel
theorem dX6_append_46 : decode cX6_append 46 = .ok (.iinc 3 (-1), 3) := by decide +kernel
theorem dX6_append_49 : decode cX6_append 49 = .ok (.goto (-45), 3) := by decide +kernel
theorem dX6_append_52 : decode cX6_append 52 = .ok (.return_, 1) := by decide +kernel
theorem dX6_readInto_0 : decode cX6_readInto 0 = .ok (.aload_n 1, 1) := by decide +kernel
theorem dX6_readInto_1 : decode cX6_readInto 1 = .ok (.invokevirtual 19, 3) := by decide +kernel
theorem dX6_readInto_4 : decode cX6_readInto 4 = .ok (.aload_n 0, 1) := by decide +kernel
theorem dX6_readInto_5 : decode cX6_readInto 5 = .ok (.iconst 0, 1) := by decide +kernel
theorem dX6_readInto_6 : decode cX6_readInto 6 = .ok (.putfield 24, 3) := by decide +kernel
theorem dX6_readInto_9 : decode cX6_readInto 9 = .ok (.iconst 0, 1) := by decide +kernel
theorem dX6_readInto_10 : decode cX6_readInto 10 = .ok (.istore_n 2, 1) := by decide +kernel
theorem dX6_readInto_11 : decode cX6_readInto 11 = .ok (.iload_n 2, 1) := by decide +kernel
theorem dX6_readInto_12 : decode cX6_readInto 12 = .ok (.sipush 160, 3) := by decide +kernel
theorem dX6_readInto_15 : decode cX6_readInto 15 = .ok (.if_icmp .ge 119, 3) := by decide +kernel
theorem dX6_readInto_18 : decode cX6_readInto 18 = .ok (.aload_n 0, 1) := by decide +kernel
theorem dX6_readInto_19 : decode cX6_readInto 19 = .ok (.invokevirtual 27, 3) := by decide +kernel
theorem dX6_readInto_22 : decode cX6_readInto 22 = .ok (.aload_n 0, 1) := by decide +kernel
theorem dX6_readInto_23 : decode cX6_readInto 23 = .ok (.invokevirtual 30, 3) := by decide +kernel
theorem dX6_readInto_26 : decode cX6_readInto 26 = .ok (.istore_n 3, 1) := by decide +kernel
theorem dX6_readInto_27 : decode cX6_readInto 27 = .ok (.iload_n 3, 1) := by decide +kernel
theorem dX6_readInto_28 : decode cX6_readInto 28 = .ok (.iconst (-1), 1) := by decide +kernel
theorem dX6_readInto_29 : decode cX6_readInto 29 = .ok (.if_icmp .ne 8, 3) := by decide +kernel
theorem dX6_readInto_32 : decode cX6_readInto 32 = .ok (.aload_n 0, 1) := by decide +kernel
theorem dX6_readInto_33 : decode cX6_readInto 33 = .ok (.getfield 24, 3) := by decide +kernel
theorem dX6_readInto_36 : decode cX6_readInto 36 = .ok (.ireturn, 1) := by decide +kernel
theorem dX6_readInto_37 : decode cX6_readInto 37 = .ok (.aload_n 0, 1) := by decide +kernel
theorem dX6_readInto_38 : decode cX6_readInto 38 = .ok (.invokevirtual 27, 3) := by decide +kernel
theorem dX6_readInto_41 : decode cX6_readInto 41 = .ok (.aload_n 0, 1) := by decide +kernel
theorem dX6_readInto_42 : decode cX6_readInto 42 = .ok (.getfield 24, 3) := by decide +kernel
theorem dX6_readInto_45 : decode cX6_readInto 45 = .ok (.istore 4, 2) := by decide +kernel
theorem dX6_readInto_47 : decode cX6_readInto 47 = .ok (.aload_n 0, 1) := by decide +kernel
theorem dX6_readInto_48 : decode cX6_readInto 48 = .ok (.invokevirtual 34, 3) := by decide +kernel
theorem dX6_readInto_51 : decode cX6_readInto 51 = .ok (.istore 5, 2) := by decide +kernel
theorem dX6_readInto_53 : decode cX6_readInto 53 = .ok (.iload 5, 2) := by decide +kernel
theorem dX6_readInto_55 : decode cX6_readInto 55 = .ok (.getstatic 37, 3) := by decide +kernel
theorem dX6_readInto_58 : decode cX6_readInto 58 = .ok (.iload_n 3, 1) := by decide +kernel
theorem dX6_readInto_59 : decode cX6_readInto 59 = .ok (.iaload, 1) := by decide +kernel
theorem dX6_readInto_60 : decode cX6_readInto 60 = .ok (.getstatic 41, 3) := by decide +kernel
theorem dX6_readInto_63 : decode cX6_readInto 63 = .ok (.iload_n 3, 1) := by decide +kernel
theorem dX6_readInto_64 : decode cX6_readInto 64 = .ok (.iaload, 1) := by decide +kernel
theorem dX6_readInto_65 : decode cX6_readInto 65 = .ok (.invokestatic 44, 3) := by decide +kernel
theorem dX6_readInto_68 : decode cX6_readInto 68 = .ok (.ifCond .ne 6, 3) := by decide +kernel
theorem dX6_readInto_71 : decode cX6_readInto 71 = .ok (.iload 4, 2) := by decide +kernel
theorem dX6_readInto_73 : decode cX6_readInto 73 = .ok (.ireturn, 1) := by decide +kernel
theorem dX6_readInto_74 : decode cX6_readInto 74 = .ok (.aload_n 1, 1) := by decide +kernel
theorem dX6_readInto_75 : decode cX6_readInto 75 = .ok (.getfield 48, 3) := by decide +kernel
theorem dX6_readInto_78 : decode cX6_readInto 78 = .ok (.iload_n 3, 1) := by decide +kernel
theorem dX6_readInto_79 : decode cX6_readInto 79 = .ok (.iload 5, 2) := by decide +kernel
theorem dX6_readInto_81 : decode cX6_readInto 81 = .ok (.iastore, 1) := by decide +kernel
theorem dX6_readInto_82 : decode cX6_readInto 82 = .ok (.aload_n 0, 1) := by decide +kernel
theorem dX6_readInto_83 : decode cX6_readInto 83 = .ok (.invokevirtual 27, 3) := by decide +kernel
theorem dX6_readInto_86 : decode cX6_readInto 86 = .ok (.aload_n 0, 1) := by decide +kernel
theorem dX6_readInto_87 : decode cX6_readInto 87 = .ok (.getfield 24, 3) := by decide +kernel
theorem dX6_readInto_90 : decode cX6_readInto 90 = .ok (.aload_n 0, 1) := by decide +kernel
theorem dX6_readInto_91 : decode cX6_readInto 91 = .ok (.getfield 15, 3) := by decide +kernel
theorem dX6_readInto_94 : decode cX6_readInto 94 = .ok (.if_icmp .lt 5, 3) := by decide +kernel
theorem dX6_readInto_97 : decode cX6_readInto 97 = .ok (.iconst (-1), 1) := by decide +kernel
theorem dX6_readInto_98 : decode cX6_readInto 98 = .ok (.ireturn, 1) := by decide +kernel
theorem dX6_readInto_99 : decode cX6_readInto 99 = .ok (.aload_n 0, 1) := by decide +kernel
theorem dX6_readInto_100 : decode cX6_readInto 100 = .ok (.getfield 9, 3) := by decide +kernel
theorem dX6_readInto_103 : decode cX6_readInto 103 = .ok (.aload_n 0, 1) := by decide +kernel
theorem dX6_readInto_104 : decode cX6_readInto 104 = .ok (.getfield 24, 3) := by decide +kernel
theorem dX6_readInto_107 : decode cX6_readInto 107 = .ok (.baload, 1) := by decide +kernel
theorem dX6_readInto_108 : decode cX6_readInto 108 = .ok (.bipush 59, 2) := by decide +kernel
theorem dX6_readInto_110 : decode cX6_readInto 110 = .ok (.if_icmp .eq 8, 3) := by decide +kernel
theorem dX6_readInto_113 : decode cX6_readInto 113 = .ok (.aload_n 0, 1) := by decide +kernel
theorem dX6_readInto_114 : decode cX6_readInto 114 = .ok (.getfield 24, 3) := by decide +kernel
theorem dX6_readInto_117 : decode cX6_readInto 117 = .ok (.ireturn, 1) := by decide +kernel
theorem dX6_readInto_118 : decode cX6_readInto 118 = .ok (.aload_n 0, 1) := by decide +kernel
theorem dX6_readInto_119 : decode cX6_readInto 119 = .ok (.dup, 1) := by decide +kernel
theorem dX6_readInto_120 : decode cX6_readInto 120 = .ok (.getfield 24, 3) := by decide +kernel
theorem dX6_readInto_123 : decode cX6_readInto 123 = .ok (.iconst 1, 1) := by decide +kernel
theorem dX6_readInto_124 : decode cX6_readInto 124 = .ok (.iadd, 1) := by decide +kernel
theorem dX6_readInto_125 : decode cX6_readInto 125 = .ok (.putfield 24, 3) := by decide +kernel
theorem dX6_readInto_128 : decode cX6_readInto 128 = .ok (.iinc 2 1, 3) := by decide +kernel
theorem dX6_readInto_131 : decode cX6_readInto 131 = .ok (.goto (-120), 3) := by decide +kernel
theorem dX6_readInto_134 : decode cX6_readInto 134 = .ok (.aload_n 0, 1) := by decide +kernel
theorem dX6_readInto_135 : decode cX6_readInto 135 = .ok (.getfield 24, 3) := by decide +kernel
theorem dX6_readInto_138 : decode cX6_readInto 138 = .ok (.ireturn, 1) := by decide +kernel
theorem dX6_skipBlanks_0 : decode cX6_skipBlanks 0 = .ok (.aload_n 0, 1) := by decide +kernel
theorem dX6_skipBlanks_1 : decode cX6_skipBlanks 1 = .ok (.getfield 24, 3) := by decide +kernel
theorem dX6_skipBlanks_4 : decode cX6_skipBlanks 4 = .ok (.aload_n 0, 1) := by decide +kernel
theorem dX6_skipBlanks_5 : decode cX6_skipBlanks 5 = .ok (.getfield 15, 3) := by decide +kernel
theorem dX6_skipBlanks_8 : decode cX6_skipBlanks 8 = .ok (.if_icmp .ge 30, 3) := by decide +kernel
theorem dX6_skipBlanks_11 : decode cX6_skipBlanks 11 = .ok (.aload_n 0, 1) := by decide +kernel
theorem dX6_skipBlanks_12 : decode cX6_skipBlanks 12 = .ok (.getfield 9, 3) := by decide +kernel
theorem dX6_skipBlanks_15 : decode cX6_skipBlanks 15 = .ok (.aload_n 0, 1) := by decide +kernel
theorem dX6_skipBlanks_16 : decode cX6_skipBlanks 16 = .ok (.getfield 24, 3) := by decide +kernel
theorem dX6_skipBlanks_19 : decode cX6_skipBlanks 19 = .ok (.baload, 1) := by decide +kernel
theorem dX6_skipBlanks_20 : decode cX6_skipBlanks 20 = .ok (.bipush 32, 2) := by decide +kernel
theorem dX6_skipBlanks_22 : decode cX6_skipBlanks 22 = .ok (.if_icmp .ne 16, 3) := by decide +kernel
theorem dX6_skipBlanks_25 : decode cX6_skipBlanks 25 = .ok (.aload_n 0, 1) := by decide +kernel
theorem dX6_skipBlanks_26 : decode cX6_skipBlanks 26 = .ok (.dup, 1) := by decide +kernel
theorem dX6_skipBlanks_27 : decode cX6_skipBlanks 27 = .ok (.getfield 24, 3) := by decide +kernel
theorem dX6_skipBlanks_30 : decode cX6_skipBlanks 30 = .ok (.iconst 1, 1) := by decide +kernel
theorem dX6_skipBlanks_31 : decode cX6_skipBlanks 31 = .ok (.iadd, 1) := by decide +kernel
theorem dX6_skipBlanks_32 : decode cX6_skipBlanks 32 = .ok (.putfield 24, 3) := by decide +kernel
theorem dX6_skipBlanks_35 : decode cX6_skipBlanks 35 = .ok (.goto (-35), 3) := by decide +kernel
theorem dX6_skipBlanks_38 : decode cX6_skipBlanks 38 = .ok (.return_, 1) := by decide +kernel
theorem dX6_readWord_0 : decode cX6_readWord 0 = .ok (.aload_n 0, 1) := by decide +kernel
theorem dX6_readWord_1 : decode cX6_readWord 1 = .ok (.bipush 97, 2) := by decide +kernel
theorem dX6_readWord_3 : decode cX6_readWord 3 = .ok (.bipush 122, 2) := by decide +kernel
theorem dX6_readWord_5 : decode cX6_readWord 5 = .ok (.invokevirtual 51, 3) := by decide +kernel
theorem dX6_readWord_8 : decode cX6_readWord 8 = .ok (.istore_n 1, 1) := by decide +kernel
theorem dX6_readWord_9 : decode cX6_readWord 9 = .ok (.iconst 0, 1) := by decide +kernel
theorem dX6_readWord_10 : decode cX6_readWord 10 = .ok (.istore_n 2, 1) := by decide +kernel
theorem dX6_readWord_11 : decode cX6_readWord 11 = .ok (.iload_n 2, 1) := by decide +kernel
theorem dX6_readWord_12 : decode cX6_readWord 12 = .ok (.bipush 9, 2) := by decide +kernel
theorem dX6_readWord_14 : decode cX6_readWord 14 = .ok (.if_icmp .ge 28, 3) := by decide +kernel
theorem dX6_readWord_17 : decode cX6_readWord 17 = .ok (.aload_n 0, 1) := by decide +kernel
theorem dX6_readWord_18 : decode cX6_readWord 18 = .ok (.iload_n 2, 1) := by decide +kernel
theorem dX6_readWord_19 : decode cX6_readWord 19 = .ok (.invokestatic 55, 3) := by decide +kernel
theorem dX6_readWord_22 : decode cX6_readWord 22 = .ok (.iload_n 1, 1) := by decide +kernel
theorem dX6_readWord_23 : decode cX6_readWord 23 = .ok (.invokevirtual 59, 3) := by decide +kernel
theorem dX6_readWord_26 : decode cX6_readWord 26 = .ok (.ifCond .eq 10, 3) := by decide +kernel
theorem dX6_readWord_29 : decode cX6_readWord 29 = .ok (.aload_n 0, 1) := by decide +kernel
theorem dX6_readWord_30 : decode cX6_readWord 30 = .ok (.iload_n 1, 1) := by decide +kernel
theorem dX6_readWord_31 : decode cX6_readWord 31 = .ok (.putfield 24, 3) := by decide +kernel
theorem dX6_readWord_34 : decode cX6_readWord 34 = .ok (.iload_n 2, 1) := by decide +kernel
theorem dX6_readWord_35 : decode cX6_readWord 35 = .ok (.ireturn, 1) := by decide +kernel
theorem dX6_readWord_36 : decode cX6_readWord 36 = .ok (.iinc 2 1, 3) := by decide +kernel
theorem dX6_readWord_39 : decode cX6_readWord 39 = .ok (.goto (-28), 3) := by decide +kernel
theorem dX6_readWord_42 : decode cX6_readWord 42 = .ok (.iconst (-1), 1) := by decide +kernel
theorem dX6_readWord_43 : decode cX6_readWord 43 = .ok (.ireturn, 1) := by decide +kernel
theorem dX6_readNumber_0 : decode cX6_readNumber 0 = .ok (.aload_n 0, 1) := by decide +kernel
theorem dX6_readNumber_1 : decode cX6_readNumber 1 = .ok (.bipush 48, 2) := by decide +kernel
theorem dX6_readNumber_3 : decode cX6_readNumber 3 = .ok (.bipush 57, 2) := by decide +kernel
theorem dX6_readNumber_5 : decode cX6_readNumber 5 = .ok (.invokevirtual 51, 3) := by decide +kernel
theorem dX6_readNumber_8 : decode cX6_readNumber 8 = .ok (.istore_n 1, 1) := by decide +kernel
theorem dX6_readNumber_9 : decode cX6_readNumber 9 = .ok (.iload_n 1, 1) := by decide +kernel
theorem dX6_readNumber_10 : decode cX6_readNumber 10 = .ok (.aload_n 0, 1) := by decide +kernel
theorem dX6_readNumber_11 : decode cX6_readNumber 11 = .ok (.getfield 24, 3) := by decide +kernel
theorem dX6_readNumber_14 : decode cX6_readNumber 14 = .ok (.isub, 1) := by decide +kernel
theorem dX6_readNumber_15 : decode cX6_readNumber 15 = .ok (.istore_n 2, 1) := by decide +kernel
theorem dX6_readNumber_16 : decode cX6_readNumber 16 = .ok (.iload_n 2, 1) := by decide +kernel
theorem dX6_readNumber_17 : decode cX6_readNumber 17 = .ok (.iconst 1, 1) := by decide +kernel
theorem dX6_readNumber_18 : decode cX6_readNumber 18 = .ok (.if_icmp .lt 8, 3) := by decide +kernel
theorem dX6_readNumber_21 : decode cX6_readNumber 21 = .ok (.iload_n 2, 1) := by decide +kernel
theorem dX6_readNumber_22 : decode cX6_readNumber 22 = .ok (.iconst 2, 1) := by decide +kernel
theorem dX6_readNumber_23 : decode cX6_readNumber 23 = .ok (.if_icmp .le 5, 3) := by decide +kernel
theorem dX6_readNumber_26 : decode cX6_readNumber 26 = .ok (.iconst (-1), 1) := by decide +kernel
theorem dX6_readNumber_27 : decode cX6_readNumber 27 = .ok (.ireturn, 1) := by decide +kernel
theorem dX6_readNumber_28 : decode cX6_readNumber 28 = .ok (.iconst 0, 1) := by decide +kernel
theorem dX6_readNumber_29 : decode cX6_readNumber 29 = .ok (.istore_n 3, 1) := by decide +kernel
theorem dX6_readNumber_30 : decode cX6_readNumber 30 = .ok (.aload_n 0, 1) := by decide +kernel
theorem dX6_readNumber_31 : decode cX6_readNumber 31 = .ok (.getfield 24, 3) := by decide +kernel
theorem dX6_readNumber_34 : decode cX6_readNumber 34 = .ok (.iload_n 1, 1) := by decide +kernel
theorem dX6_readNumber_35 : decode cX6_readNumber 35 = .ok (.if_icmp .ge 34, 3) := by decide +kernel
theorem dX6_readNumber_38 : decode cX6_readNumber 38 = .ok (.bipush 10, 2) := by decide +kernel
theorem dX6_readNumber_40 : decode cX6_readNumber 40 = .ok (.iload_n 3, 1) := by decide +kernel
theorem dX6_readNumber_41 : decode cX6_readNumber 41 = .ok (.imul, 1) := by decide +kernel
theorem dX6_readNumber_42 : decode cX6_readNumber 42 = .ok (.aload_n 0, 1) := by decide +kernel
theorem dX6_readNumber_43 : decode cX6_readNumber 43 = .ok (.getfield 9, 3) := by decide +kernel
theorem dX6_readNumber_46 : decode cX6_readNumber 46 = .ok (.aload_n 0, 1) := by decide +kernel
theorem dX6_readNumber_47 : decode cX6_readNumber 47 = .ok (.getfield 24, 3) := by decide +kernel
theorem dX6_readNumber_50 : decode cX6_readNumber 50 = .ok (.baload, 1) := by decide +kernel
theorem dX6_readNumber_51 : decode cX6_readNumber 51 = .ok (.iadd, 1) := by decide +kernel
theorem dX6_readNumber_52 : decode cX6_readNumber 52 = .ok (.bipush 48, 2) := by decide +kernel
theorem dX6_readNumber_54 : decode cX6_readNumber 54 = .ok (.isub, 1) := by decide +kernel
theorem dX6_readNumber_55 : decode cX6_readNumber 55 = .ok (.istore_n 3, 1) := by decide +kernel
theorem dX6_readNumber_56 : decode cX6_readNumber 56 = .ok (.aload_n 0, 1) := by decide +kernel
theorem dX6_readNumber_57 : decode cX6_readNumber 57 = .ok (.dup, 1) := by decide +kernel
theorem dX6_readNumber_58 : decode cX6_readNumber 58 = .ok (.getfield 24, 3) := by decide +kernel
theorem dX6_readNumber_61 : decode cX6_readNumber 61 = .ok (.iconst 1, 1) := by decide +kernel
theorem dX6_readNumber_62 : decode cX6_readNumber 62 = .ok (.iadd, 1) := by decide +kernel
theorem dX6_readNumber_63 : decode cX6_readNumber 63 = .ok (.putfield 24, 3) := by decide +kernel
theorem dX6_readNumber_66 : decode cX6_readNumber 66 = .ok (.goto (-36), 3) := by decide +kernel
theorem dX6_readNumber_69 : decode cX6_readNumber 69 = .ok (.iload_n 3, 1) := by decide +kernel
theorem dX6_readNumber_70 : decode cX6_readNumber 70 = .ok (.ireturn, 1) := by decide +kernel
theorem dX6_endOfRun_0 : decode cX6_endOfRun 0 = .ok (.aload_n 0, 1) := by decide +kernel
theorem dX6_endOfRun_1 : decode cX6_endOfRun 1 = .ok (.getfield 24, 3) := by decide +kernel
theorem dX6_endOfRun_4 : decode cX6_endOfRun 4 = .ok (.istore_n 3, 1) := by decide +kernel
theorem dX6_endOfRun_5 : decode cX6_endOfRun 5 = .ok (.iload_n 3, 1) := by decide +kernel
theorem dX6_endOfRun_6 : decode cX6_endOfRun 6 = .ok (.aload_n 0, 1) := by decide +kernel
theorem dX6_endOfRun_7 : decode cX6_endOfRun 7 = .ok (.getfield 15, 3) := by decide +kernel
theorem dX6_endOfRun_10 : decode cX6_endOfRun 10 = .ok (.if_icmp .ge 29, 3) := by decide +kernel
theorem dX6_endOfRun_13 : decode cX6_endOfRun 13 = .ok (.aload_n 0, 1) := by decide +kernel
theorem dX6_endOfRun_14 : decode cX6_endOfRun 14 = .ok (.getfield 9, 3) := by decide +kernel
theorem dX6_endOfRun_17 : decode cX6_endOfRun 17 = .ok (.iload_n 3, 1) := by decide +kernel
theorem dX6_endOfRun_18 : decode cX6_endOfRun 18 = .ok (.baload, 1) := by decide +kernel
theorem dX6_endOfRun_19 : decode cX6_endOfRun 19 = .ok (.iload_n 1, 1) := by decide +kernel
theorem dX6_endOfRun_20 : decode cX6_endOfRun 20 = .ok (.if_icmp .lt 19, 3) := by decide +kernel
theorem dX6_endOfRun_23 : decode cX6_endOfRun 23 = .ok (.aload_n 0, 1) := by decide +kernel
theorem dX6_endOfRun_24 : decode cX6_endOfRun 24 = .ok (.getfield 9, 3) := by decide +kernel
theorem dX6_endOfRun_27 : decode cX6_endOfRun 27 = .ok (.iload_n 3, 1) := by decide +kernel
theorem dX6_endOfRun_28 : decode cX6_endOfRun 28 = .ok (.baload, 1) := by decide +kernel
theorem dX6_endOfRun_29 : decode cX6_endOfRun 29 = .ok (.iload_n 2, 1) := by decide +kernel
theorem dX6_endOfRun_30 : decode cX6_endOfRun 30 = .ok (.if_icmp .gt 9, 3) := by decide +kernel
theorem dX6_endOfRun_33 : decode cX6_endOfRun 33 = .ok (.iinc 3 1, 3) := by decide +kernel
theorem dX6_endOfRun_36 : decode cX6_endOfRun 36 = .ok (.goto (-31), 3) := by decide +kernel
theorem dX6_endOfRun_39 : decode cX6_endOfRun 39 = .ok (.iload_n 3, 1) := by decide +kernel
theorem dX6_endOfRun_40 : decode cX6_endOfRun 40 = .ok (.ireturn, 1) := by decide +kernel
theorem dX6_stands_0 : decode cX6_stands 0 = .ok (.aload_n 1, 1) := by decide +kernel
theorem dX6_stands_1 : decode cX6_stands 1 = .ok (.invokevirtual 63, 3) := by decide +kernel
theorem dX6_stands_4 : decode cX6_stands 4 = .ok (.iload_n 2, 1) := by decide +kernel
theorem dX6_stands_5 : decode cX6_stands 5 = .ok (.aload_n 0, 1) := by decide +kernel
theorem dX6_stands_6 : decode cX6_stands 6 = .ok (.getfield 24, 3) := by decide +kernel
theorem dX6_stands_9 : decode cX6_stands 9 = .ok (.isub, 1) := by decide +kernel
theorem dX6_stands_10 : decode cX6_stands 10 = .ok (.if_icmp .eq 5, 3) := by decide +kernel
theorem dX6_stands_13 : decode cX6_stands 13 = .ok (.iconst 0, 1) := by decide +kernel
theorem dX6_stands_14 : decode cX6_stands 14 = .ok (.ireturn, 1) := by decide +kernel
theorem dX6_stands_15 : decode cX6_stands 15 = .ok (.iconst 0, 1) := by decide +kernel
theorem dX6_stands_16 : decode cX6_stands 16 = .ok (.istore_n 3, 1) := by decide +kernel
theorem dX6_stands_17 : decode cX6_stands 17 = .ok (.iload_n 3, 1) := by decide +kernel
theorem dX6_stands_18 : decode cX6_stands 18 = .ok (.aload_n 1, 1) := by decide +kernel
theorem dX6_stands_19 : decode cX6_stands 19 = .ok (.invokevirtual 63, 3) := by decide +kernel
theorem dX6_stands_22 : decode cX6_stands 22 = .ok (.if_icmp .ge 30, 3) := by decide +kernel
theorem dX6_stands_25 : decode cX6_stands 25 = .ok (.aload_n 1, 1) := by decide +kernel
theorem dX6_stands_26 : decode cX6_stands 26 = .ok (.iload_n 3, 1) := by decide +kernel
theorem dX6_stands_27 : decode cX6_stands 27 = .ok (.invokevirtual 68, 3) := by decide +kernel
theorem dX6_stands_30 : decode cX6_stands 30 = .ok (.aload_n 0, 1) := by decide +kernel
theorem dX6_stands_31 : decode cX6_stands 31 = .ok (.getfield 9, 3) := by decide +kernel
theorem dX6_stands_34 : decode cX6_stands 34 = .ok (.aload_n 0, 1) := by decide +kernel
theorem dX6_stands_35 : decode cX6_stands 35 = .ok (.getfield 24, 3) := by decide +kernel
theorem dX6_stands_38 : decode cX6_stands 38 = .ok (.iload_n 3, 1) := by decide +kernel
theorem dX6_stands_39 : decode cX6_stands 39 = .ok (.iadd, 1) := by decide +kernel
theorem dX6_stands_40 : decode cX6_stands 40 = .ok (.baload, 1) := by decide +kernel
theorem dX6_stands_41 : decode cX6_stands 41 = .ok (.if_icmp .eq 5, 3) := by decide +kernel
theorem dX6_stands_44 : decode cX6_stands 44 = .ok (.iconst 0, 1) := by decide +kernel
theorem dX6_stands_45 : decode cX6_stands 45 = .ok (.ireturn, 1) := by decide +kernel
theorem dX6_stands_46 : decode cX6_stands 46 = .ok (.iinc 3 1, 3) := by decide +kernel
theorem dX6_stands_49 : decode cX6_stands 49 = .ok (.goto (-32), 3) := by decide +kernel
theorem dX6_stands_52 : decode cX6_stands 52 = .ok (.iconst 1, 1) := by decide +kernel
theorem dX6_stands_53 : decode cX6_stands 53 = .ok (.ireturn, 1) := by decide +kernel
theorem dX6_lawWord_0 : decode cX6_lawWord 0 = .ok (.iload_n 0, 1) := by decide +kernel
theorem dX6_lawWord_1 : decode cX6_lawWord 1 = .ok (.tableswitch 71 0 7 #[47, 50, 53, 56, 59, 62, 65, 68], 47) := by decide +kernel
theorem dX6_lawWord_48 : decode cX6_lawWord 48 = .ok (.ldc 72, 2) := by decide +kernel
theorem dX6_lawWord_50 : decode cX6_lawWord 50 = .ok (.areturn, 1) := by decide +kernel
theorem dX6_lawWord_51 : decode cX6_lawWord 51 = .ok (.ldc 74, 2) := by decide +kernel
theorem dX6_lawWord_53 : decode cX6_lawWord 53 = .ok (.areturn, 1) := by decide +kernel
theorem dX6_lawWord_54 : decode cX6_lawWord 54 = .ok (.ldc 76, 2) := by decide +kernel
theorem dX6_lawWord_56 : decode cX6_lawWord 56 = .ok (.areturn, 1) := by decide +kernel
theorem dX6_lawWord_57 : decode cX6_lawWord 57 = .ok (.ldc 78, 2) := by decide +kernel
theorem dX6_lawWord_59 : decode cX6_lawWord 59 = .ok (.areturn, 1) := by decide +kernel
theorem dX6_lawWord_60 : decode cX6_lawWord 60 = .ok (.ldc 80, 2) := by decide +kernel
theorem dX6_lawWord_62 : decode cX6_lawWord 62 = .ok (.areturn, 1) := by decide +kernel
theorem dX6_lawWord_63 : decode cX6_lawWord 63 = .ok (.ldc 82, 2) := by decide +kernel
theorem dX6_lawWord_65 : decode cX6_lawWord 65 = .ok (.areturn, 1) := by decide +kernel
theorem dX6_lawWord_66 : decode cX6_lawWord 66 = .ok (.ldc 84, 2) := by decide +kernel
theorem dX6_lawWord_68 : decode cX6_lawWord 68 = .ok (.areturn, 1) := by decide +kernel
theorem dX6_lawWord_69 : decode cX6_lawWord 69 = .ok (.ldc 86, 2) := by decide +kernel
theorem dX6_lawWord_71 : decode cX6_lawWord 71 = .ok (.areturn, 1) := by decide +kernel
theorem dX6_lawWord_72 : decode cX6_lawWord 72 = .ok (.ldc 88, 2) := by decide +kernel
theorem dX6_lawWord_74 : decode cX6_lawWord 74 = .ok (.areturn, 1) := by decide +kernel
theorem dX7_init_0 : decode cX7_init 0 = .ok (.aload_n 0, 1) := by decide +kernel
theorem dX7_init_1 : decode cX7_init 1 = .ok (.invokespecial 3, 3) := by decide +kernel
theorem dX7_init_4 : decode cX7_init 4 = .ok (.aload_n 0, 1) := by decide +kernel
theorem dX7_init_5 : decode cX7_init 5 = .ok (.bipush 6, 2) := by decide +kernel
theorem dX7_init_7 : decode cX7_init 7 = .ok (.newarray .int, 2) := by decide +kernel
theorem dX7_init_9 : decode cX7_init 9 = .ok (.putfield 9, 3) := by decide +kernel
theorem dX7_init_12 : decode cX7_init 12 = .ok (.aload_n 0, 1) := by decide +kernel
theorem dX7_init_13 : decode cX7_init 13 = .ok (.bipush 36, 2) := by decide +kernel
theorem dX7_init_15 : decode cX7_init 15 = .ok (.newarray .int, 2) := by decide +kernel
theorem dX7_init_17 : decode cX7_init 17 = .ok (.putfield 15, 3) := by decide +kernel
theorem dX7_init_20 : decode cX7_init 20 = .ok (.aload_n 0, 1) := by decide +kernel
theorem dX7_init_21 : decode cX7_init 21 = .ok (.bipush 7, 2) := by decide +kernel
theorem dX7_init_23 : decode cX7_init 23 = .ok (.newarray .int, 2) := by decide +kernel
theorem dX7_init_25 : decode cX7_init 25 = .ok (.putfield 18, 3) := by decide +kernel
theorem dX7_init_28 : decode cX7_init 28 = .ok (.aload_n 0, 1) := by decide +kernel
theorem dX7_init_29 : decode cX7_init 29 = .ok (.bipush 6, 2) := by decide +kernel
theorem dX7_init_31 : decode cX7_init 31 = .ok (.newarray .int, 2) := by decide +kernel
theorem dX7_init_33 : decode cX7_init 33 = .ok (.putfield 21, 3) := by decide +kernel
theorem dX7_init_36 : decode cX7_init 36 = .ok (.aload_n 0, 1) := by decide +kernel
theorem dX7_init_37 : decode cX7_init 37 = .ok (.bipush 6, 2) := by decide +kernel
theorem dX7_init_39 : decode cX7_init 39 = .ok (.newarray .int, 2) := by decide +kernel
theorem dX7_init_41 : decode cX7_init 41 = .ok (.putfield 24, 3) := by decide +kernel
theorem dX7_init_44 : decode cX7_init 44 = .ok (.aload_n 0, 1) := by decide +kernel
theorem dX7_init_45 : decode cX7_init 45 = .ok (.bipush 6, 2) := by decide +kernel
theorem dX7_init_47 : decode cX7_init 47 = .ok (.newarray .int, 2) := by decide +kernel
theorem dX7_init_49 : decode cX7_init 49 = .ok (.putfield 27, 3) := by decide +kernel
theorem dX7_init_52 : decode cX7_init 52 = .ok (.return_, 1) := by decide +kernel
theorem dX7_find_0 : decode cX7_find 0 = .ok (.aload_n 0, 1) := by decide +kernel
theorem dX7_find_1 : decode cX7_find 1 = .ok (.iload_n 3, 1) := by decide +kernel
theorem dX7_find_2 : decode cX7_find 2 = .ok (.putfield 30, 3) := by decide +kernel
theorem dX7_find_5 : decode cX7_find 5 = .ok (.aload_n 0, 1) := by decide +kernel
theorem dX7_find_6 : decode cX7_find 6 = .ok (.aload_n 1, 1) := by decide +kernel
theorem dX7_find_7 : decode cX7_find 7 = .ok (.getfield 34, 3) := by decide +kernel
theorem dX7_find_10 : decode cX7_find 10 = .ok (.putfield 39, 3) := by decide +kernel
theorem dX7_find_13 : decode cX7_find 13 = .ok (.aload_n 0, 1) := by decide +kernel
theorem dX7_find_14 : decode cX7_find 14 = .ok (.iload_n 2, 1) := by decide +kernel
theorem dX7_find_15 : decode cX7_find 15 = .ok (.aload_n 0, 1) := by decide +kernel
theorem dX7_find_16 : decode cX7_find 16 = .ok (.getfield 9, 3) := by decide +kernel
theorem dX7_find_19 : decode cX7_find 19 = .ok (.invokestatic 40, 3) := by decide +kernel
theorem dX7_find_22 : decode cX7_find 22 = .ok (.putfield 44, 3) := by decide +kernel
theorem dX7_find_25 : decode cX7_find 25 = .ok (.aload_n 0, 1) := by decide +kernel
theorem dX7_find_26 : decode cX7_find 26 = .ok (.aload_n 1, 1) := by decide +kernel
theorem dX7_find_27 : decode cX7_find 27 = .ok (.iload 4, 2) := by decide +kernel
theorem dX7_find_29 : decode cX7_find 29 = .ok (.invokevirtual 47, 3) := by decide +kernel
theorem dX7_find_32 : decode cX7_find 32 = .ok (.aload_n 0, 1) := by decide +kernel
theorem dX7_find_33 : decode cX7_find 33 = .ok (.ldc 51, 2) := by decide +kernel
theorem dX7_find_35 : decode cX7_find 35 = .ok (.putfield 52, 3) := by decide +kernel
theorem dX7_find_38 : decode cX7_find 38 = .ok (.aload_n 0, 1) := by decide +kernel
theorem dX7_find_39 : decode cX7_find 39 = .ok (.iconst 0, 1) := by decide +kernel
theorem dX7_find_40 : decode cX7_find 40 = .ok (.iconst 0, 1) := by decide +kernel
theorem dX7_find_41 : decode cX7_find 41 = .ok (.invokestatic 55, 3) := by decide +kernel
theorem dX7_find_44 : decode cX7_find 44 = .ok (.return_, 1) := by decide +kernel
theorem dX7_leaperOfJetty_0 : decode cX7_leaperOfJetty 0 = .ok (.iconst 0, 1) := by decide +kernel
theorem dX7_leaperOfJetty_1 : decode cX7_leaperOfJetty 1 = .ok (.istore_n 2, 1) := by decide +kernel
theorem dX7_leaperOfJetty_2 : decode cX7_leaperOfJetty 2 = .ok (.iload_n 2, 1) := by decide +kernel
theorem dX7_leaperOfJetty_3 : decode cX7_leaperOfJetty 3 = .ok (.aload_n 0, 1) := by decide +kernel
theorem dX7_leaperOfJetty_4 : decode cX7_leaperOfJetty 4 = .ok (.getfield 44, 3) := by decide +kernel
theorem dX7_leaperOfJetty_7 : decode cX7_leaperOfJetty 7 = .ok (.if_icmp .ge 26, 3) := by decide +kernel
theorem dX7_leaperOfJetty_10 : decode cX7_leaperOfJetty 10 = .ok (.aload_n 0, 1) := by decide +kernel
theorem dX7_leaperOfJetty_11 : decode cX7_leaperOfJetty 11 = .ok (.getfield 9, 3) := by decide +kernel
theorem dX7_leaperOfJetty_14 : decode cX7_leaperOfJetty 14 = .ok (.iload_n 2, 1) := by decide +kernel
theorem dX7_leaperOfJetty_15 : decode cX7_leaperOfJetty 15 = .ok (.iaload, 1) := by decide +kernel
theorem dX7_leaperOfJetty_16 : decode cX7_leaperOfJetty 16 = .ok (.iload_n 1, 1) := by decide +kernel
theorem dX7_leaperOfJetty_17 : decode cX7_leaperOfJetty 17 = .ok (.if_icmp .ne 10, 3) := by decide +kernel
theorem dX7_leaperOfJetty_20 : decode cX7_leaperOfJetty 20 = .ok (.aload_n 0, 1) := by decide +kernel
theorem dX7_leaperOfJetty_21 : decode cX7_leaperOfJetty 21 = .ok (.getfield 27, 3) := by decide +kernel
theorem dX7_leaperOfJetty_24 : decode cX7_leaperOfJetty 24 = .ok (.iload_n 2, 1) := by decide +kernel
theorem dX7_leaperOfJetty_25 : decode cX7_leaperOfJetty 25 = .ok (.iaload, 1) := by decide +kernel
theorem dX7_leaperOfJetty_26 : decode cX7_leaperOfJetty 26 = .ok (.ireturn, 1) := by decide +kernel
theorem dX7_leaperOfJetty_27 : decode cX7_leaperOfJetty 27 = .ok (.iinc 2 1, 3) := by decide +kernel
theorem dX7_leaperOfJetty_30 : decode cX7_leaperOfJetty 30 = .ok (.goto (-28), 3) := by decide +kernel
theorem dX7_leaperOfJetty_33 : decode cX7_leaperOfJetty 33 = .ok (.iconst (-1), 1) := by decide +kernel
theorem dX7_leaperOfJetty_34 : decode cX7_leaperOfJetty 34 = .ok (.ireturn, 1) := by decide +kernel
theorem dX7_readRisks_0 : decode cX7_readRisks 0 = .ok (.aload_n 0, 1) := by decide +kernel
theorem dX7_readRisks_1 : decode cX7_readRisks 1 = .ok (.getfield 18, 3) := by decide +kernel
theorem dX7_readRisks_4 : decode cX7_readRisks 4 = .ok (.aload_n 0, 1) := by decide +kernel
theorem dX7_readRisks_5 : decode cX7_readRisks 5 = .ok (.getfield 44, 3) := by decide +kernel
theorem dX7_readRisks_8 : decode cX7_readRisks 8 = .ok (.iconst 0, 1) := by decide +kernel
theorem dX7_readRisks_9 : decode cX7_readRisks 9 = .ok (.iastore, 1) := by decide +kernel
theorem dX7_readRisks_10 : decode cX7_readRisks 10 = .ok (.aload_n 0, 1) := by decide +kernel
theorem dX7_readRisks_11 : decode cX7_readRisks 11 = .ok (.getfield 44, 3) := by decide +kernel
theorem dX7_readRisks_14 : decode cX7_readRisks 14 = .ok (.iconst 1, 1) := by decide +kernel
theorem dX7_readRisks_15 : decode cX7_readRisks 15 = .ok (.isub, 1) := by decide +kernel
theorem dX7_readRisks_16 : decode cX7_readRisks 16 = .ok (.istore_n 3, 1) := by decide +kernel
theorem dX7_readRisks_17 : decode cX7_readRisks 17 = .ok (.iload_n 3, 1) := by decide +kernel
theorem dX7_readRisks_18 : decode cX7_readRisks 18 = .ok (.ifCond .lt 87, 3) := by decide +kernel
theorem dX7_readRisks_21 : decode cX7_readRisks 21 = .ok (.sipush 1000, 3) := by decide +kernel
theorem dX7_readRisks_24 : decode cX7_readRisks 24 = .ok (.istore 4, 2) := by decide +kernel
theorem dX7_readRisks_26 : decode cX7_readRisks 26 = .ok (.iconst 0, 1) := by decide +kernel
theorem dX7_readRisks_27 : decode cX7_readRisks 27 = .ok (.istore 5, 2) := by decide +kernel
theorem dX7_readRisks_29 : decode cX7_readRisks 29 = .ok (.iload 5, 2) := by decide +kernel
theorem dX7_readRisks_31 : decode cX7_readRisks 31 = .ok (.aload_n 0, 1) := by decide +kernel
theorem dX7_readRisks_32 : decode cX7_readRisks 32 = .ok (.getfield 39, 3) := by decide +kernel
theorem dX7_readRisks_35 : decode cX7_readRisks 35 = .ok (.if_icmp .ge 47, 3) := by decide +kernel
theorem dX7_readRisks_38 : decode cX7_readRisks 38 = .ok (.aload_n 1, 1) := by decide +kernel
theorem dX7_readRisks_39 : decode cX7_readRisks 39 = .ok (.iload 5, 2) := by decide +kernel
theorem dX7_readRisks_41 : decode cX7_readRisks 41 = .ok (.aload_n 0, 1) := by decide +kernel
theorem dX7_readRisks_42 : decode cX7_readRisks 42 = .ok (.getfield 9, 3) := by decide +kernel
theorem dX7_readRisks_45 : decode cX7_readRisks 45 = .ok (.iload_n 3, 1) := by decide +kernel
theorem dX7_readRisks_46 : decode cX7_readRisks 46 = .ok (.iaload, 1) := by decide +kernel
theorem dX7_readRisks_47 : decode cX7_readRisks 47 = .ok (.iload_n 2, 1) := by decide +kernel
theorem dX7_readRisks_48 : decode cX7_readRisks 48 = .ok (.invokevirtual 59, 3) := by decide +kernel
theorem dX7_readRisks_51 : decode cX7_readRisks 51 = .ok (.istore 6, 2) := by decide +kernel
theorem dX7_readRisks_53 : decode cX7_readRisks 53 = .ok (.aload_n 0, 1) := by decide +kernel
theorem dX7_readRisks_54 : decode cX7_readRisks 54 = .ok (.getfield 15, 3) := by decide +kernel
theorem dX7_readRisks_57 : decode cX7_readRisks 57 = .ok (.iload_n 3, 1) := by decide +kernel
theorem dX7_readRisks_58 : decode cX7_readRisks 58 = .ok (.bipush 6, 2) := by decide +kernel
theorem dX7_readRisks_60 : decode cX7_readRisks 60 = .ok (.imul, 1) := by decide +kernel
theorem dX7_readRisks_61 : decode cX7_readRisks 61 = .ok (.iload 5, 2) := by decide +kernel
theorem dX7_readRisks_63 : decode cX7_readRisks 63 = .ok (.iadd, 1) := by decide +kernel
theorem dX7_readRisks_64 : decode cX7_readRisks 64 = .ok (.iload 6, 2) := by decide +kernel
theorem dX7_readRisks_66 : decode cX7_readRisks 66 = .ok (.iastore, 1) := by decide +kernel
theorem dX7_readRisks_67 : decode cX7_readRisks 67 = .ok (.iload 4, 2) := by decide +kernel
theorem dX7_readRisks_69 : decode cX7_readRisks 69 = .ok (.iload 6, 2) := by decide +kernel
theorem dX7_readRisks_71 : decode cX7_readRisks 71 = .ok (.invokestatic 63, 3) := by decide +kernel
theorem dX7_readRisks_74 : decode cX7_readRisks 74 = .ok (.istore 4, 2) := by decide +kernel
theorem dX7_readRisks_76 : decode cX7_readRisks 76 = .ok (.iinc 5 1, 3) := by decide +kernel
theorem dX7_readRisks_79 : decode cX7_readRisks 79 = .ok (.goto (-50), 3) := by decide +kernel
theorem dX7_readRisks_82 : decode cX7_readRisks 82 = .ok (.aload_n 0, 1) := by decide +kernel
theorem dX7_readRisks_83 : decode cX7_readRisks 83 = .ok (.getfield 18, 3) := by decide +kernel
theorem dX7_readRisks_86 : decode cX7_readRisks 86 = .ok (.iload_n 3, 1) := by decide +kernel
theorem dX7_readRisks_87 : decode cX7_readRisks 87 = .ok (.aload_n 0, 1) := by decide +kernel
theorem dX7_readRisks_88 : decode cX7_readRisks 88 = .ok (.getfield 18, 3) := by decide +kernel
theorem dX7_readRisks_91 : decode cX7_readRisks 91 = .ok (.iload_n 3, 1) := by decide +kernel
theorem dX7_readRisks_92 : decode cX7_readRisks 92 = .ok (.iconst 1, 1) := by decide +kernel
theorem dX7_readRisks_93 : decode cX7_readRisks 93 = .ok (.iadd, 1) := by decide +kernel
theorem dX7_readRisks_94 : decode cX7_readRisks 94 = .ok (.iaload, 1) := by decide +kernel
theorem dX7_readRisks_95 : decode cX7_readRisks 95 = .ok (.iload 4, 2) := by decide +kernel
theorem dX7_readRisks_97 : decode cX7_readRisks 97 = .ok (.iadd, 1) := by decide +kernel
theorem dX7_readRisks_98 : decode cX7_readRisks 98 = .ok (.iastore, 1) := by decide +kernel
theorem dX7_readRisks_99 : decode cX7_readRisks 99 = .ok (.iinc 3 (-1), 3) := by decide +kernel
theorem dX7_readRisks_102 : decode cX7_readRisks 102 = .ok (.goto (-85), 3) := by decide +kernel
theorem dX7_readRisks_105 : decode cX7_readRisks 105 = .ok (.return_, 1) := by decide +kernel
theorem dX7_assign_0 : decode cX7_assign 0 = .ok (.iload_n 1, 1) := by decide +kernel
theorem dX7_assign_1 : decode cX7_assign 1 = .ok (.aload_n 0, 1) := by decide +kernel
theorem dX7_assign_2 : decode cX7_assign 2 = .ok (.getfield 44, 3) := by decide +kernel
theorem dX7_assign_5 : decode cX7_assign 5 = .ok (.if_icmp .lt 26, 3) := by decide +kernel
theorem dX7_assign_8 : decode cX7_assign 8 = .ok (.aload_n 0, 1) := by decide +kernel
theorem dX7_assign_9 : decode cX7_assign 9 = .ok (.iload_n 2, 1) := by decide +kernel
theorem dX7_assign_10 : decode cX7_assign 10 = .ok (.putfield 52, 3) := by decide +kernel
theorem dX7_assign_13 : decode cX7_assign 13 = .ok (.aload_n 0, 1) := by decide +kernel
theorem dX7_assign_14 : decode cX7_assign 14 = .ok (.getfield 24, 3) := by decide +kernel
theorem dX7_assign_17 : decode cX7_assign 17 = .ok (.iconst 0, 1) := by decide +kernel
theorem dX7_assign_18 : decode cX7_assign 18 = .ok (.aload_n 0, 1) := by decide +kernel
theorem dX7_assign_19 : decode cX7_assign 19 = .ok (.getfield 27, 3) := by decide +kernel
theorem dX7_assign_22 : decode cX7_assign 22 = .ok (.iconst 0, 1) := by decide +kernel
theorem dX7_assign_23 : decode cX7_assign 23 = .ok (.aload_n 0, 1) := by decide +kernel
theorem dX7_assign_24 : decode cX7_assign 24 = .ok (.getfield 44, 3) := by decide +kernel
theorem dX7_assign_27 : decode cX7_assign 27 = .ok (.invokestatic 69, 3) := by decide +kernel
theorem dX7_assign_30 : decode cX7_assign 30 = .ok (.return_, 1) := by decide +kernel
theorem dX7_assign_31 : decode cX7_assign 31 = .ok (.iconst 0, 1) := by decide +kernel
theorem dX7_assign_32 : decode cX7_assign 32 = .ok (.istore_n 3, 1) := by decide +kernel
theorem dX7_assign_33 : decode cX7_assign 33 = .ok (.iload_n 3, 1) := by decide +kernel
theorem dX7_assign_34 : decode cX7_assign 34 = .ok (.aload_n 0, 1) := by decide +kernel
theorem dX7_assign_35 : decode cX7_assign 35 = .ok (.getfield 39, 3) := by decide +kernel
theorem dX7_assign_38 : decode cX7_assign 38 = .ok (.if_icmp .ge 91, 3) := by decide +kernel
theorem dX7_assign_41 : decode cX7_assign 41 = .ok (.iload_n 2, 1) := by decide +kernel
theorem dX7_assign_42 : decode cX7_assign 42 = .ok (.aload_n 0, 1) := by decide +kernel
theorem dX7_assign_43 : decode cX7_assign 43 = .ok (.getfield 15, 3) := by decide +kernel
theorem dX7_assign_46 : decode cX7_assign 46 = .ok (.iload_n 1, 1) := by decide +kernel
theorem dX7_assign_47 : decode cX7_assign 47 = .ok (.bipush 6, 2) := by decide +kernel
theorem dX7_assign_49 : decode cX7_assign 49 = .ok (.imul, 1) := by decide +kernel
theorem dX7_assign_50 : decode cX7_assign 50 = .ok (.iload_n 3, 1) := by decide +kernel
theorem dX7_assign_51 : decode cX7_assign 51 = .ok (.iadd, 1) := by decide +kernel
theorem dX7_assign_52 : decode cX7_assign 52 = .ok (.iaload, 1) := by decide +kernel
theorem dX7_assign_53 : decode cX7_assign 53 = .ok (.iadd, 1) := by decide +kernel
theorem dX7_assign_54 : decode cX7_assign 54 = .ok (.istore 4, 2) := by decide +kernel
theorem dX7_assign_56 : decode cX7_assign 56 = .ok (.aload_n 0, 1) := by decide +kernel
theorem dX7_assign_57 : decode cX7_assign 57 = .ok (.getfield 21, 3) := by decide +kernel
theorem dX7_assign_60 : decode cX7_assign 60 = .ok (.iload_n 3, 1) := by decide +kernel
theorem dX7_assign_61 : decode cX7_assign 61 = .ok (.iaload, 1) := by decide +kernel
theorem dX7_assign_62 : decode cX7_assign 62 = .ok (.aload_n 0, 1) := by decide +kernel
theorem dX7_assign_63 : decode cX7_assign 63 = .ok (.getfield 30, 3) := by decide +kernel
theorem dX7_assign_66 : decode cX7_assign 66 = .ok (.if_icmp .ge 57, 3) := by decide +kernel
theorem dX7_assign_69 : decode cX7_assign 69 = .ok (.iload 4, 2) := by decide +kernel
theorem dX7_assign_71 : decode cX7_assign 71 = .ok (.aload_n 0, 1) := by decide +kernel
theorem dX7_assign_72 : decode cX7_assign 72 = .ok (.getfield 18, 3) := by decide +kernel
theorem dX7_assign_75 : decode cX7_assign 75 = .ok (.iload_n 1, 1) := by decide +kernel
theorem dX7_assign_76 : decode cX7_assign 76 = .ok (.iconst 1, 1) := by decide +kernel
theorem dX7_assign_77 : decode cX7_assign 77 = .ok (.iadd, 1) := by decide +kernel
theorem dX7_assign_78 : decode cX7_assign 78 = .ok (.iaload, 1) := by decide +kernel
theorem dX7_assign_79 : decode cX7_assign 79 = .ok (.iadd, 1) := by decide +kernel
theorem dX7_assign_80 : decode cX7_assign 80 = .ok (.aload_n 0, 1) := by decide +kernel
theorem dX7_assign_81 : decode cX7_assign 81 = .ok (.getfield 52, 3) := by decide +kernel
theorem dX7_assign_84 : decode cX7_assign 84 = .ok (.if_icmp .ge 39, 3) := by decide +kernel
theorem dX7_assign_87 : decode cX7_assign 87 = .ok (.aload_n 0, 1) := by decide +kernel
theorem dX7_assign_88 : decode cX7_assign 88 = .ok (.getfield 21, 3) := by decide +kernel
theorem dX7_assign_91 : decode cX7_assign 91 = .ok (.iload_n 3, 1) := by decide +kernel
theorem dX7_assign_92 : decode cX7_assign 92 = .ok (.dup2, 1) := by decide +kernel
theorem dX7_assign_93 : decode cX7_assign 93 = .ok (.iaload, 1) := by decide +kernel
theorem dX7_assign_94 : decode cX7_assign 94 = .ok (.iconst 1, 1) := by decide +kernel
theorem dX7_assign_95 : decode cX7_assign 95 = .ok (.iadd, 1) := by decide +kernel
theorem dX7_assign_96 : decode cX7_assign 96 = .ok (.iastore, 1) := by decide +kernel
theorem dX7_assign_97 : decode cX7_assign 97 = .ok (.aload_n 0, 1) := by decide +kernel
theorem dX7_assign_98 : decode cX7_assign 98 = .ok (.getfield 24, 3) := by decide +kernel
theorem dX7_assign_101 : decode cX7_assign 101 = .ok (.iload_n 1, 1) := by decide +kernel
theorem dX7_assign_102 : decode cX7_assign 102 = .ok (.iload_n 3, 1) := by decide +kernel
theorem dX7_assign_103 : decode cX7_assign 103 = .ok (.iastore, 1) := by decide +kernel
theorem dX7_assign_104 : decode cX7_assign 104 = .ok (.aload_n 0, 1) := by decide +kernel
theorem dX7_assign_105 : decode cX7_assign 105 = .ok (.iload_n 1, 1) := by decide +kernel
theorem dX7_assign_106 : decode cX7_assign 106 = .ok (.iconst 1, 1) := by decide +kernel
theorem dX7_assign_107 : decode cX7_assign 107 = .ok (.iadd, 1) := by decide +kernel
theorem dX7_assign_108 : decode cX7_assign 108 = .ok (.iload 4, 2) := by decide +kernel
theorem dX7_assign_110 : decode cX7_assign 110 = .ok (.invokestatic 55, 3) := by decide +kernel
theorem dX7_assign_113 : decode cX7_assign 113 = .ok (.aload_n 0, 1) := by decide +kernel
theorem dX7_assign_114 : decode cX7_assign 114 = .ok (.getfield 21, 3) := by decide +kernel
theorem dX7_assign_117 : decode cX7_assign 117 = .ok (.iload_n 3, 1) := by decide +kernel
theorem dX7_assign_118 : decode cX7_assign 118 = .ok (.dup2, 1) := by decide +kernel
theorem dX7_assign_119 : decode cX7_assign 119 = .ok (.iaload, 1) := by decide +kernel
theorem dX7_assign_120 : decode cX7_assign 120 = .ok (.iconst 1, 1) := by decide +kernel
theorem dX7_assign_121 : decode cX7_assign 121 = .ok (.isub, 1) := by decide +kernel
theorem dX7_assign_122 : decode cX7_assign 122 = .ok (.iastore, 1) := by decide +kernel
theorem dX7_assign_123 : decode cX7_assign 123 = .ok (.iinc 3 1, 3) := by decide +kernel
theorem dX7_assign_126 : decode cX7_assign 126 = .ok (.goto (-93), 3) := by decide +kernel
theorem dX7_assign_129 : decode cX7_assign 129 = .ok (.return_, 1) := by decide +kernel
theorem dX8_init_0 : decode cX8_init 0 = .ok (.aload_n 0, 1) := by decide +kernel
theorem dX8_init_1 : decode cX8_init 1 = .ok (.invokespecial 3, 3) := by decide +kernel
theorem dX8_init_4 : decode cX8_init 4 = .ok (.aload_n 0, 1) := by decide +kernel
theorem dX8_init_5 : decode cX8_init 5 = .ok (.bipush 20, 2) := by decide +kernel
theorem dX8_init_7 : decode cX8_init 7 = .ok (.newarray .int, 2) := by decide +kernel
theorem dX8_init_9 : decode cX8_init 9 = .ok (.putfield 9, 3) := by decide +kernel
theorem dX8_init_12 : decode cX8_init 12 = .ok (.aload_n 0, 1) := by decide +kernel
theorem dX8_init_13 : decode cX8_init 13 = .ok (.bipush 20, 2) := by decide +kernel
theorem dX8_init_15 : decode cX8_init 15 = .ok (.newarray .int, 2) := by decide +kernel
theorem dX8_init_17 : decode cX8_init 17 = .ok (.putfield 15, 3) := by decide +kernel
theorem dX8_init_20 : decode cX8_init 20 = .ok (.return_, 1) := by decide +kernel
theorem dX8_sail_0 : decode cX8_sail 0 = .ok (.aload_n 1, 1) := by decide +kernel
theorem dX8_sail_1 : decode cX8_sail 1 = .ok (.getfield 18, 3) := by decide +kernel
theorem dX8_sail_4 : decode cX8_sail 4 = .ok (.istore 4, 2) := by decide +kernel
theorem dX8_sail_6 : decode cX8_sail 6 = .ok (.iconst 0, 1) := by decide +kernel
theorem dX8_sail_7 : decode cX8_sail 7 = .ok (.istore 5, 2) := by decide +kernel
theorem dX8_sail_9 : decode cX8_sail 9 = .ok (.iconst 0, 1) := by decide +kernel
theorem dX8_sail_10 : decode cX8_sail 10 = .ok (.istore 6, 2) := by decide +kernel
theorem dX8_sail_12 : decode cX8_sail 12 = .ok (.iload 6, 2) := by decide +kernel
theorem dX8_sail_14 : decode cX8_sail 14 = .ok (.aload_n 0, 1) := by decide +kernel
theorem dX8_sail_15 : decode cX8_sail 15 = .ok (.getfield 24, 3) := by decide +kernel
theorem dX8_sail_18 : decode cX8_sail 18 = .ok (.if_icmp .ge 74, 3) := by decide +kernel
theorem dX8_sail_21 : decode cX8_sail 21 = .ok (.aload_n 1, 1) := by decide +kernel
theorem dX8_sail_22 : decode cX8_sail 22 = .ok (.getfield 27, 3) := by decide +kernel
theorem dX8_sail_25 : decode cX8_sail 25 = .ok (.aload_n 0, 1) := by decide +kernel
theorem dX8_sail_26 : decode cX8_sail 26 = .ok (.getfield 9, 3) := by decide +kernel
theorem dX8_sail_29 : decode cX8_sail 29 = .ok (.iload 6, 2) := by decide +kernel
theorem dX8_sail_31 : decode cX8_sail 31 = .ok (.iaload, 1) := by decide +kernel
theorem dX8_sail_32 : decode cX8_sail 32 = .ok (.aaload, 1) := by decide +kernel
theorem dX8_sail_33 : decode cX8_sail 33 = .ok (.getfield 30, 3) := by decide +kernel
theorem dX8_sail_36 : decode cX8_sail 36 = .ok (.istore 7, 2) := by decide +kernel
theorem dX8_sail_38 : decode cX8_sail 38 = .ok (.aload_n 0, 1) := by decide +kernel
theorem dX8_sail_39 : decode cX8_sail 39 = .ok (.getfield 15, 3) := by decide +kernel
theorem dX8_sail_42 : decode cX8_sail 42 = .ok (.iload 6, 2) := by decide +kernel
theorem dX8_sail_44 : decode cX8_sail 44 = .ok (.iload 5, 2) := by decide +kernel
theorem dX8_sail_46 : decode cX8_sail 46 = .ok (.aload_n 1, 1) := by decide +kernel
theorem dX8_sail_47 : decode cX8_sail 47 = .ok (.iload 4, 2) := by decide +kernel
theorem dX8_sail_49 : decode cX8_sail 49 = .ok (.iload 7, 2) := by decide +kernel
theorem dX8_sail_51 : decode cX8_sail 51 = .ok (.iload_n 2, 1) := by decide +kernel
theorem dX8_sail_52 : decode cX8_sail 52 = .ok (.invokevirtual 35, 3) := by decide +kernel
theorem dX8_sail_55 : decode cX8_sail 55 = .ok (.iadd, 1) := by decide +kernel
theorem dX8_sail_56 : decode cX8_sail 56 = .ok (.iastore, 1) := by decide +kernel
theorem dX8_sail_57 : decode cX8_sail 57 = .ok (.aload_n 0, 1) := by decide +kernel
theorem dX8_sail_58 : decode cX8_sail 58 = .ok (.getfield 15, 3) := by decide +kernel
theorem dX8_sail_61 : decode cX8_sail 61 = .ok (.iload 6, 2) := by decide +kernel
theorem dX8_sail_63 : decode cX8_sail 63 = .ok (.iaload, 1) := by decide +kernel
theorem dX8_sail_64 : decode cX8_sail 64 = .ok (.iconst 1, 1) := by decide +kernel
theorem dX8_sail_65 : decode cX8_sail 65 = .ok (.iadd, 1) := by decide +kernel
theorem dX8_sail_66 : decode cX8_sail 66 = .ok (.istore 5, 2) := by decide +kernel
theorem dX8_sail_68 : decode cX8_sail 68 = .ok (.iload 6, 2) := by decide +kernel
theorem dX8_sail_70 : decode cX8_sail 70 = .ok (.iload_n 3, 1) := by decide +kernel
theorem dX8_sail_71 : decode cX8_sail 71 = .ok (.if_icmp .ne 11, 3) := by decide +kernel
theorem dX8_sail_74 : decode cX8_sail 74 = .ok (.iload 5, 2) := by decide +kernel
theorem dX8_sail_76 : decode cX8_sail 76 = .ok (.iconst 3, 1) := by decide +kernel
theorem dX8_sail_77 : decode cX8_sail 77 = .ok (.iload_n 2, 1) := by decide +kernel
theorem dX8_sail_78 : decode cX8_sail 78 = .ok (.imul, 1) := by decide +kernel
theorem dX8_sail_79 : decode cX8_sail 79 = .ok (.iadd, 1) := by decide +kernel
theorem dX8_sail_80 : decode cX8_sail 80 = .ok (.istore 5, 2) := by decide +kernel
theorem dX8_sail_82 : decode cX8_sail 82 = .ok (.iload 7, 2) := by decide +kernel
theorem dX8_sail_84 : decode cX8_sail 84 = .ok (.istore 4, 2) := by decide +kernel
theorem dX8_sail_86 : decode cX8_sail 86 = .ok (.iinc 6 1, 3) := by decide +kernel
theorem dX8_sail_89 : decode cX8_sail 89 = .ok (.goto (-77), 3) := by decide +kernel
theorem dX8_sail_92 : decode cX8_sail 92 = .ok (.return_, 1) := by decide +kernel
theorem dX8_end_0 : decode cX8_end 0 = .ok (.aload_n 0, 1) := by decide +kernel
theorem dX8_end_1 : decode cX8_end 1 = .ok (.getfield 24, 3) := by decide +kernel
theorem dX8_end_4 : decode cX8_end 4 = .ok (.iconst 1, 1) := by decide +kernel
theorem dX8_end_5 : decode cX8_end 5 = .ok (.if_icmp .ge 7, 3) := by decide +kernel
theorem dX8_end_8 : decode cX8_end 8 = .ok (.iconst 0, 1) := by decide +kernel
theorem dX8_end_9 : decode cX8_end 9 = .ok (.goto 14, 3) := by decide +kernel
theorem dX8_end_12 : decode cX8_end 12 = .ok (.aload_n 0, 1) := by decide +kernel
theorem dX8_end_13 : decode cX8_end 13 = .ok (.getfield 15, 3) := by decide +kernel
theorem dX8_end_16 : decode cX8_end 16 = .ok (.aload_n 0, 1) := by decide +kernel
theorem dX8_end_17 : decode cX8_end 17 = .ok (.getfield 24, 3) := by decide +kernel
theorem dX8_end_20 : decode cX8_end 20 = .ok (.iconst 1, 1) := by decide +kernel
theorem dX8_end_21 : decode cX8_end 21 = .ok (.isub, 1) := by decide +kernel
theorem dX8_end_22 : decode cX8_end 22 = .ok (.iaload, 1) := by decide +kernel
theorem dX8_end_23 : decode cX8_end 23 = .ok (.ireturn, 1) := by decide +kernel
theorem dX8_riskBy_0 : decode cX8_riskBy 0 = .ok (.iconst 0, 1) := by decide +kernel
theorem dX8_riskBy_1 : decode cX8_riskBy 1 = .ok (.istore_n 3, 1) := by decide +kernel
theorem dX8_riskBy_2 : decode cX8_riskBy 2 = .ok (.iconst 0, 1) := by decide +kernel
theorem dX8_riskBy_3 : decode cX8_riskBy 3 = .ok (.istore 4, 2) := by decide +kernel
theorem dX8_riskBy_5 : decode cX8_riskBy 5 = .ok (.iload 4, 2) := by decide +kernel
theorem dX8_riskBy_7 : decode cX8_riskBy 7 = .ok (.aload_n 0, 1) := by decide +kernel
theorem dX8_riskBy_8 : decode cX8_riskBy 8 = .ok (.getfield 24, 3) := by decide +kernel
theorem dX8_riskBy_11 : decode cX8_riskBy 11 = .ok (.if_icmp .ge 34, 3) := by decide +kernel
theorem dX8_riskBy_14 : decode cX8_riskBy 14 = .ok (.iload_n 3, 1) := by decide +kernel
theorem dX8_riskBy_15 : decode cX8_riskBy 15 = .ok (.aload_n 1, 1) := by decide +kernel
theorem dX8_riskBy_16 : decode cX8_riskBy 16 = .ok (.iload_n 2, 1) := by decide +kernel
theorem dX8_riskBy_17 : decode cX8_riskBy 17 = .ok (.aload_n 0, 1) := by decide +kernel
theorem dX8_riskBy_18 : decode cX8_riskBy 18 = .ok (.getfield 9, 3) := by decide +kernel
theorem dX8_riskBy_21 : decode cX8_riskBy 21 = .ok (.iload 4, 2) := by decide +kernel
theorem dX8_riskBy_23 : decode cX8_riskBy 23 = .ok (.iaload, 1) := by decide +kernel
theorem dX8_riskBy_24 : decode cX8_riskBy 24 = .ok (.aload_n 0, 1) := by decide +kernel
theorem dX8_riskBy_25 : decode cX8_riskBy 25 = .ok (.getfield 15, 3) := by decide +kernel
theorem dX8_riskBy_28 : decode cX8_riskBy 28 = .ok (.iload 4, 2) := by decide +kernel
theorem dX8_riskBy_30 : decode cX8_riskBy 30 = .ok (.iaload, 1) := by decide +kernel
theorem dX8_riskBy_31 : decode cX8_riskBy 31 = .ok (.invokestatic 39, 3) := by decide +kernel
theorem dX8_riskBy_34 : decode cX8_riskBy 34 = .ok (.invokevirtual 43, 3) := by decide +kernel
theorem dX8_riskBy_37 : decode cX8_riskBy 37 = .ok (.iadd, 1) := by decide +kernel
theorem dX8_riskBy_38 : decode cX8_riskBy 38 = .ok (.istore_n 3, 1) := by decide +kernel
theorem dX8_riskBy_39 : decode cX8_riskBy 39 = .ok (.iinc 4 1, 3) := by decide +kernel
theorem dX8_riskBy_42 : decode cX8_riskBy 42 = .ok (.goto (-37), 3) := by decide +kernel
theorem dX8_riskBy_45 : decode cX8_riskBy 45 = .ok (.iload_n 3, 1) := by decide +kernel
theorem dX8_riskBy_46 : decode cX8_riskBy 46 = .ok (.ireturn, 1) := by decide +kernel
theorem dX8_hopeless_0 : decode cX8_hopeless 0 = .ok (.iconst 0, 1) := by decide +kernel
theorem dX8_hopeless_1 : decode cX8_hopeless 1 = .ok (.istore_n 2, 1) := by decide +kernel
theorem dX8_hopeless_2 : decode cX8_hopeless 2 = .ok (.iconst 0, 1) := by decide +kernel
theorem dX8_hopeless_3 : decode cX8_hopeless 3 = .ok (.istore_n 3, 1) := by decide +kernel
theorem dX8_hopeless_4 : decode cX8_hopeless 4 = .ok (.iload_n 3, 1) := by decide +kernel
theorem dX8_hopeless_5 : decode cX8_hopeless 5 = .ok (.aload_n 0, 1) := by decide +kernel
theorem dX8_hopeless_6 : decode cX8_hopeless 6 = .ok (.getfield 24, 3) := by decide +kernel
theorem dX8_hopeless_9 : decode cX8_hopeless 9 = .ok (.if_icmp .ge 30, 3) := by decide +kernel
theorem dX8_hopeless_12 : decode cX8_hopeless 12 = .ok (.iload_n 2, 1) := by decide +kernel
theorem dX8_hopeless_13 : decode cX8_hopeless 13 = .ok (.aload_n 1, 1) := by decide +kernel
theorem dX8_hopeless_14 : decode cX8_hopeless 14 = .ok (.aload_n 1, 1) := by decide +kernel
theorem dX8_hopeless_15 : decode cX8_hopeless 15 = .ok (.getfield 27, 3) := by decide +kernel
theorem dX8_hopeless_18 : decode cX8_hopeless 18 = .ok (.aload_n 0, 1) := by decide +kernel
theorem dX8_hopeless_19 : decode cX8_hopeless 19 = .ok (.getfield 9, 3) := by decide +kernel
theorem dX8_hopeless_22 : decode cX8_hopeless 22 = .ok (.iload_n 3, 1) := by decide +kernel
theorem dX8_hopeless_23 : decode cX8_hopeless 23 = .ok (.iaload, 1) := by decide +kernel
theorem dX8_hopeless_24 : decode cX8_hopeless 24 = .ok (.aaload, 1) := by decide +kernel
theorem dX8_hopeless_25 : decode cX8_hopeless 25 = .ok (.invokevirtual 46, 3) := by decide +kernel
theorem dX8_hopeless_28 : decode cX8_hopeless 28 = .ok (.invokestatic 50, 3) := by decide +kernel
theorem dX8_hopeless_31 : decode cX8_hopeless 31 = .ok (.iadd, 1) := by decide +kernel
theorem dX8_hopeless_32 : decode cX8_hopeless 32 = .ok (.istore_n 2, 1) := by decide +kernel
theorem dX8_hopeless_33 : decode cX8_hopeless 33 = .ok (.iinc 3 1, 3) := by decide +kernel
theorem dX8_hopeless_36 : decode cX8_hopeless 36 = .ok (.goto (-32), 3) := by decide +kernel
theorem dX8_hopeless_39 : decode cX8_hopeless 39 = .ok (.iload_n 2, 1) := by decide +kernel
theorem dX8_hopeless_40 : decode cX8_hopeless 40 = .ok (.ireturn, 1) := by decide +kernel
theorem dX8_hasTimeEverywhere_0 : decode cX8_hasTimeEverywhere 0 = .ok (.iconst 0, 1) := by decide +kernel
theorem dX8_hasTimeEverywhere_1 : decode cX8_hasTimeEverywhere 1 = .ok (.istore_n 3, 1) := by decide +kernel
theorem dX8_hasTimeEverywhere_2 : decode cX8_hasTimeEverywhere 2 = .ok (.iload_n 3, 1) := by decide +kernel
theorem dX8_hasTimeEverywhere_3 : decode cX8_hasTimeEverywhere 3 = .ok (.aload_n 0, 1) := by decide +kernel
theorem dX8_hasTimeEverywhere_4 : decode cX8_hasTimeEverywhere 4 = .ok (.getfield 24, 3) := by decide +kernel
theorem dX8_hasTimeEverywhere_7 : decode cX8_hasTimeEverywhere 7 = .ok (.if_icmp .ge 30, 3) := by decide +kernel
theorem dX8_hasTimeEverywhere_10 : decode cX8_hasTimeEverywhere 10 = .ok (.aload_n 1, 1) := by decide +kernel
theorem dX8_hasTimeEverywhere_11 : decode cX8_hasTimeEverywhere 11 = .ok (.aload_n 1, 1) := by decide +kernel
theorem dX8_hasTimeEverywhere_12 : decode cX8_hasTimeEverywhere 12 = .ok (.getfield 27, 3) := by decide +kernel
theorem dX8_hasTimeEverywhere_15 : decode cX8_hasTimeEverywhere 15 = .ok (.aload_n 0, 1) := by decide +kernel
theorem dX8_hasTimeEverywhere_16 : decode cX8_hasTimeEverywhere 16 = .ok (.getfield 9, 3) := by decide +kernel
theorem dX8_hasTimeEverywhere_19 : decode cX8_hasTimeEverywhere 19 = .ok (.iload_n 3, 1) := by decide +kernel
theorem dX8_hasTimeEverywhere_20 : decode cX8_hasTimeEverywhere 20 = .ok (.iaload, 1) := by decide +kernel
theorem dX8_hasTimeEverywhere_21 : decode cX8_hasTimeEverywhere 21 = .ok (.aaload, 1) := by decide +kernel
theorem dX8_hasTimeEverywhere_22 : decode cX8_hasTimeEverywhere 22 = .ok (.iload_n 2, 1) := by decide +kernel
theorem dX8_hasTimeEverywhere_23 : decode cX8_hasTimeEverywhere 23 = .ok (.invokevirtual 54, 3) := by decide +kernel
theorem dX8_hasTimeEverywhere_26 : decode cX8_hasTimeEverywhere 26 = .ok (.ifCond .ne 5, 3) := by decide +kernel
theorem dX8_hasTimeEverywhere_29 : decode cX8_hasTimeEverywhere 29 = .ok (.iconst 0, 1) := by decide +kernel
theorem dX8_hasTimeEverywhere_30 : decode cX8_hasTimeEverywhere 30 = .ok (.ireturn, 1) := by decide +kernel
theorem dX8_hasTimeEverywhere_31 : decode cX8_hasTimeEverywhere 31 = .ok (.iinc 3 1, 3) := by decide +kernel
theorem dX8_hasTimeEverywhere_34 : decode cX8_hasTimeEverywhere 34 = .ok (.goto (-32), 3) := by decide +kernel
theorem dX8_hasTimeEverywhere_37 : decode cX8_hasTimeEverywhere 37 = .ok (.iconst 1, 1) := by decide +kernel
theorem dX8_hasTimeEverywhere_38 : decode cX8_hasTimeEverywhere 38 = .ok (.ireturn, 1) := by decide +kernel
theorem dX8_laterHoursThan_0 : decode cX8_laterHoursThan 0 = .ok (.iconst 0, 1) := by decide +kernel
theorem dX8_laterHoursThan_1 : decode cX8_laterHoursThan 1 = .ok (.istore_n 2, 1) := by decide +kernel
theorem dX8_laterHoursThan_2 : decode cX8_laterHoursThan 2 = .ok (.iconst 0, 1) := by decide +kernel
theorem dX8_laterHoursThan_3 : decode cX8_laterHoursThan 3 = .ok (.istore_n 3, 1) := by decide +kernel
theorem dX8_laterHoursThan_4 : decode cX8_laterHoursThan 4 = .ok (.iload_n 3, 1) := by decide +kernel
theorem dX8_laterHoursThan_5 : decode cX8_laterHoursThan 5 = .ok (.aload_n 0, 1) := by decide +kernel
theorem dX8_laterHoursThan_6 : decode cX8_laterHoursThan 6 = .ok (.getfield 24, 3) := by decide +kernel
theorem dX8_laterHoursThan_9 : decode cX8_laterHoursThan 9 = .ok (.if_icmp .ge 41, 3) := by decide +kernel
theorem dX8_laterHoursThan_12 : decode cX8_laterHoursThan 12 = .ok (.iload_n 2, 1) := by decide +kernel
theorem dX8_laterHoursThan_13 : decode cX8_laterHoursThan 13 = .ok (.aload_n 0, 1) := by decide +kernel
theorem dX8_laterHoursThan_14 : decode cX8_laterHoursThan 14 = .ok (.getfield 15, 3) := by decide +kernel
theorem dX8_laterHoursThan_17 : decode cX8_laterHoursThan 17 = .ok (.iload_n 3, 1) := by decide +kernel
theorem dX8_laterHoursThan_18 : decode cX8_laterHoursThan 18 = .ok (.iaload, 1) := by decide +kernel
theorem dX8_laterHoursThan_19 : decode cX8_laterHoursThan 19 = .ok (.invokestatic 39, 3) := by decide +kernel
theorem dX8_laterHoursThan_22 : decode cX8_laterHoursThan 22 = .ok (.aload_n 1, 1) := by decide +kernel
theorem dX8_laterHoursThan_23 : decode cX8_laterHoursThan 23 = .ok (.getfield 15, 3) := by decide +kernel
theorem dX8_laterHoursThan_26 : decode cX8_laterHoursThan 26 = .ok (.iload_n 3, 1) := by decide +kernel
theorem dX8_laterHoursThan_27 : decode cX8_laterHoursThan 27 = .ok (.iaload, 1) := by decide +kernel
theorem dX8_laterHoursThan_28 : decode cX8_laterHoursThan 28 = .ok (.invokestatic 39, 3) := by decide +kernel
theorem dX8_laterHoursThan_31 : decode cX8_laterHoursThan 31 = .ok (.if_icmp .le 7, 3) := by decide +kernel
theorem dX8_laterHoursThan_34 : decode cX8_laterHoursThan 34 = .ok (.iconst 1, 1) := by decide +kernel
theorem dX8_laterHoursThan_35 : decode cX8_laterHoursThan 35 = .ok (.goto 4, 3) := by decide +kernel
theorem dX8_laterHoursThan_38 : decode cX8_laterHoursThan 38 = .ok (.iconst 0, 1) := by decide +kernel
theorem dX8_laterHoursThan_39 : decode cX8_laterHoursThan 39 = .ok (.invokestatic 50, 3) := by decide +kernel
theorem dX8_laterHoursThan_42 : decode cX8_laterHoursThan 42 = .ok (.iadd, 1) := by decide +kernel
theorem dX8_laterHoursThan_43 : decode cX8_laterHoursThan 43 = .ok (.istore_n 2, 1) := by decide +kernel
theorem dX8_laterHoursThan_44 : decode cX8_laterHoursThan 44 = .ok (.iinc 3 1, 3) := by decide +kernel
theorem dX8_laterHoursThan_47 : decode cX8_laterHoursThan 47 = .ok (.goto (-43), 3) := by decide +kernel
theorem dX8_laterHoursThan_50 : decode cX8_laterHoursThan 50 = .ok (.iload_n 2, 1) := by decide +kernel
theorem dX8_laterHoursThan_51 : decode cX8_laterHoursThan 51 = .ok (.ireturn, 1) := by decide +kernel
theorem dX9_init_0 : decode cX9_init 0 = .ok (.aload_n 0, 1) := by decide +kernel
theorem dX9_init_1 : decode cX9_init 1 = .ok (.invokespecial 3, 3) := by decide +kernel
theorem dX9_init_4 : decode cX9_init 4 = .ok (.aload_n 0, 1) := by decide +kernel
theorem dX9_init_5 : decode cX9_init 5 = .ok (.iconst (-1), 1) := by decide +kernel
theorem dX9_init_6 : decode cX9_init 6 = .ok (.putfield 9, 3) := by decide +kernel
theorem dX9_init_9 : decode cX9_init 9 = .ok (.aload_n 0, 1) := by decide +kernel
theorem dX9_init_10 : decode cX9_init 10 = .ok (.bipush 20, 2) := by decide +kernel
theorem dX9_init_12 : decode cX9_init 12 = .ok (.newarray .int, 2) := by decide +kernel
theorem dX9_init_14 : decode cX9_init 14 = .ok (.putfield 15, 3) := by decide +kernel
theorem dX9_init_17 : decode cX9_init 17 = .ok (.return_, 1) := by decide +kernel
theorem dX9_start_0 : decode cX9_start 0 = .ok (.aload_n 0, 1) := by decide +kernel
theorem dX9_start_1 : decode cX9_start 1 = .ok (.iload_n 1, 1) := by decide +kernel
theorem dX9_start_2 : decode cX9_start 2 = .ok (.putfield 9, 3) := by decide +kernel
theorem dX9_start_5 : decode cX9_start 5 = .ok (.aload_n 0, 1) := by decide +kernel
theorem dX9_start_6 : decode cX9_start 6 = .ok (.aload_n 2, 1) := by decide +kernel
theorem dX9_start_7 : decode cX9_start 7 = .ok (.getfield 19, 3) := by decide +kernel
theorem dX9_start_10 : decode cX9_start 10 = .ok (.putfield 24, 3) := by decide +kernel
theorem dX9_start_13 : decode cX9_start 13 = .ok (.aload_n 2, 1) := by decide +kernel
theorem dX9_start_14 : decode cX9_start 14 = .ok (.getfield 25, 3) := by decide +kernel
theorem dX9_start_17 : decode cX9_start 17 = .ok (.iconst 0, 1) := by decide +kernel
theorem dX9_start_18 : decode cX9_start 18 = .ok (.aload_n 0, 1) := by decide +kernel
theorem dX9_start_19 : decode cX9_start 19 = .ok (.getfield 15, 3) := by decide +kernel
theorem dX9_start_22 : decode cX9_start 22 = .ok (.iconst 0, 1) := by decide +kernel
theorem dX9_start_23 : decode cX9_start 23 = .ok (.bipush 20, 2) := by decide +kernel
theorem dX9_start_25 : decode cX9_start 25 = .ok (.invokestatic 26, 3) := by decide +kernel
theorem dX9_start_28 : decode cX9_start 28 = .ok (.aload_n 0, 1) := by decide +kernel
theorem dX9_start_29 : decode cX9_start 29 = .ok (.iload_n 3, 1) := by decide +kernel
theorem dX9_start_30 : decode cX9_start 30 = .ok (.putfield 32, 3) := by decide +kernel
theorem dX9_start_33 : decode cX9_start 33 = .ok (.aload_n 0, 1) := by decide +kernel
theorem dX9_start_34 : decode cX9_start 34 = .ok (.iconst 0, 1) := by decide +kernel
theorem dX9_start_35 : decode cX9_start 35 = .ok (.putfield 35, 3) := by decide +kernel
theorem dX9_start_38 : decode cX9_start 38 = .ok (.aload_n 0, 1) := by decide +kernel
theorem dX9_start_39 : decode cX9_start 39 = .ok (.iconst 0, 1) := by decide +kernel
theorem dX9_start_40 : decode cX9_start 40 = .ok (.putfield 38, 3) := by decide +kernel
theorem dX9_start_43 : decode cX9_start 43 = .ok (.aload_n 0, 1) := by decide +kernel
theorem dX9_start_44 : decode cX9_start 44 = .ok (.iconst 0, 1) := by decide +kernel
theorem dX9_start_45 : decode cX9_start 45 = .ok (.putfield 41, 3) := by decide +kernel
theorem dX9_start_48 : decode cX9_start 48 = .ok (.aload_n 0, 1) := by decide +kernel
theorem dX9_start_49 : decode cX9_start 49 = .ok (.iconst 0, 1) := by decide +kernel
theorem dX9_start_50 : decode cX9_start 50 = .ok (.putfield 44, 3) := by decide +kernel
theorem dX9_start_53 : decode cX9_start 53 = .ok (.return_, 1) := by decide +kernel
theorem dX9_become_0 : decode cX9_become 0 = .ok (.aload_n 0, 1) := by decide +kernel
theorem dX9_become_1 : decode cX9_become 1 = .ok (.aload_n 1, 1) := by decide +kernel
theorem dX9_become_2 : decode cX9_become 2 = .ok (.getfield 9, 3) := by decide +kernel
theorem dX9_become_5 : decode cX9_become 5 = .ok (.putfield 9, 3) := by decide +kernel
theorem dX9_become_8 : decode cX9_become 8 = .ok (.aload_n 0, 1) := by decide +kernel
theorem dX9_become_9 : decode cX9_become 9 = .ok (.aload_n 1, 1) := by decide +kernel
theorem dX9_become_10 : decode cX9_become 10 = .ok (.getfield 24, 3) := by decide +kernel
theorem dX9_become_13 : decode cX9_become 13 = .ok (.putfield 24, 3) := by decide +kernel
theorem dX9_become_16 : decode cX9_become 16 = .ok (.aload_n 1, 1) := by decide +kernel
theorem dX9_become_17 : decode cX9_become 17 = .ok (.getfield 15, 3) := by decide +kernel
theorem dX9_become_20 : decode cX9_become 20 = .ok (.iconst 0, 1) := by decide +kernel
theorem dX9_become_21 : decode cX9_become 21 = .ok (.aload_n 0, 1) := by decide +kernel
theorem dX9_become_22 : decode cX9_become 22 = .ok (.getfield 15, 3) := by decide +kernel
theorem dX9_become_25 : decode cX9_become 25 = .ok (.iconst 0, 1) := by decide +kernel
theorem dX9_become_26 : decode cX9_become 26 = .ok (.bipush 20, 2) := by decide +kernel
theorem dX9_become_28 : decode cX9_become 28 = .ok (.invokestatic 26, 3) := by decide +kernel
theorem dX9_become_31 : decode cX9_become 31 = .ok (.aload_n 0, 1) := by decide +kernel
theorem dX9_become_32 : decode cX9_become 32 = .ok (.aload_n 1, 1) := by decide +kernel
theorem dX9_become_33 : decode cX9_become 33 = .ok (.getfield 32, 3) := by decide +kernel
theorem dX9_become_36 : decode cX9_become 36 = .ok (.putfield 32, 3) := by decide +kernel
theorem dX9_become_39 : decode cX9_become 39 = .ok (.aload_n 0, 1) := by decide +kernel
theorem dX9_become_40 : decode cX9_become 40 = .ok (.aload_n 1, 1) := by decide +kernel
theorem dX9_become_41 : decode cX9_become 41 = .ok (.getfield 35, 3) := by decide +kernel
theorem dX9_become_44 : decode cX9_become 44 = .ok (.putfield 35, 3) := by decide +kernel
theorem dX9_become_47 : decode cX9_become 47 = .ok (.aload_n 0, 1) := by decide +kernel
theorem dX9_become_48 : decode cX9_become 48 = .ok (.aload_n 1, 1) := by decide +kernel
theorem dX9_become_49 : decode cX9_become 49 = .ok (.getfield 38, 3) := by decide +kernel
theorem dX9_become_52 : decode cX9_become 52 = .ok (.putfield 38, 3) := by decide +kernel
theorem dX9_become_55 : decode cX9_become 55 = .ok (.aload_n 0, 1) := by decide +kernel
theorem dX9_become_56 : decode cX9_become 56 = .ok (.aload_n 1, 1) := by decide +kernel
theorem dX9_become_57 : decode cX9_become 57 = .ok (.getfield 41, 3) := by decide +kernel
theorem dX9_become_60 : decode cX9_become 60 = .ok (.putfield 41, 3) := by decide +kernel
theorem dX9_become_63 : decode cX9_become 63 = .ok (.aload_n 0, 1) := by decide +kernel
theorem dX9_become_64 : decode cX9_become 64 = .ok (.aload_n 1, 1) := by decide +kernel
theorem dX9_become_65 : decode cX9_become 65 = .ok (.getfield 44, 3) := by decide +kernel
theorem dX9_become_68 : decode cX9_become 68 = .ok (.putfield 44, 3) := by decide +kernel
theorem dX9_become_71 : decode cX9_become 71 = .ok (.return_, 1) := by decide +kernel
theorem dX9_isUnderWay_0 : decode cX9_isUnderWay 0 = .ok (.aload_n 0, 1) := by decide +kernel
theorem dX9_isUnderWay_1 : decode cX9_isUnderWay 1 = .ok (.getfield 9, 3) := by decide +kernel
theorem dX9_isUnderWay_4 : decode cX9_isUnderWay 4 = .ok (.iconst (-1), 1) := by decide +kernel
theorem dX9_isUnderWay_5 : decode cX9_isUnderWay 5 = .ok (.if_icmp .eq 18, 3) := by decide +kernel
theorem dX9_isUnderWay_8 : decode cX9_isUnderWay 8 = .ok (.aload_n 0, 1) := by decide +kernel
theorem dX9_isUnderWay_9 : decode cX9_isUnderWay 9 = .ok (.getfield 38, 3) := by decide +kernel
theorem dX9_isUnderWay_12 : decode cX9_isUnderWay 12 = .ok (.aload_n 0, 1) := by decide +kernel
theorem dX9_isUnderWay_13 : decode cX9_isUnderWay 13 = .ok (.getfield 24, 3) := by decide +kernel
theorem dX9_isUnderWay_16 : decode cX9_isUnderWay 16 = .ok (.if_icmp .ge 7, 3) := by decide +kernel
theorem dX9_isUnderWay_19 : decode cX9_isUnderWay 19 = .ok (.iconst 1, 1) := by decide +kernel
theorem dX9_isUnderWay_20 : decode cX9_isUnderWay 20 = .ok (.goto 4, 3) := by decide +kernel
theorem dX9_isUnderWay_23 : decode cX9_isUnderWay 23 = .ok (.iconst 0, 1) := by decide +kernel
theorem dX9_isUnderWay_24 : decode cX9_isUnderWay 24 = .ok (.ireturn, 1) := by decide +kernel
theorem dX10_init_0 : decode cX10_init 0 = .ok (.aload_n 0, 1) := by decide +kernel
theorem dX10_init_1 : decode cX10_init 1 = .ok (.invokespecial 1, 3) := by decide +kernel
theorem dX10_init_4 : decode cX10_init 4 = .ok (.aload_n 0, 1) := by decide +kernel
theorem dX10_init_5 : decode cX10_init 5 = .ok (.bipush 8, 2) := by decide +kernel
theorem dX10_init_7 : decode cX10_init 7 = .ok (.anewarray 9, 3) := by decide +kernel
theorem dX10_init_10 : decode cX10_init 10 = .ok (.putfield 11, 3) := by decide +kernel
theorem dX10_init_13 : decode cX10_init 13 = .ok (.aload_n 0, 1) := by decide +kernel
theorem dX10_init_14 : decode cX10_init 14 = .ok (.new 15, 3) := by decide +kernel
theorem dX10_init_17 : decode cX10_init 17 = .ok (.dup, 1) := by decide +kernel
theorem dX10_init_18 : decode cX10_init 18 = .ok (.invokespecial 17, 3) := by decide +kernel
theorem dX10_init_21 : decode cX10_init 21 = .ok (.putfield 18, 3) := by decide +kernel
theorem dX10_init_24 : decode cX10_init 24 = .ok (.aload_n 0, 1) := by decide +kernel
theorem dX10_init_25 : decode cX10_init 25 = .ok (.new 22, 3) := by decide +kernel
theorem dX10_init_28 : decode cX10_init 28 = .ok (.dup, 1) := by decide +kernel
theorem dX10_init_29 : decode cX10_init 29 = .ok (.invokespecial 24, 3) := by decide +kernel
theorem dX10_init_32 : decode cX10_init 32 = .ok (.putfield 25, 3) := by decide +kernel
theorem dX10_init_35 : decode cX10_init 35 = .ok (.aload_n 0, 1) := by decide +kernel
theorem dX10_init_36 : decode cX10_init 36 = .ok (.new 22, 3) := by decide +kernel
theorem dX10_init_39 : decode cX10_init 39 = .ok (.dup, 1) := by decide +kernel
theorem dX10_init_40 : decode cX10_init 40 = .ok (.invokespecial 24, 3) := by decide +kernel
theorem dX10_init_43 : decode cX10_init 43 = .ok (.putfield 29, 3) := by decide +kernel
theorem dX10_init_46 : decode cX10_init 46 = .ok (.aload_n 0, 1) := by decide +kernel
theorem dX10_init_47 : decode cX10_init 47 = .ok (.iconst 5, 1) := by decide +kernel
theorem dX10_init_48 : decode cX10_init 48 = .ok (.newarray .int, 2) := by decide +kernel
theorem dX10_init_50 : decode cX10_init 50 = .ok (.putfield 32, 3) := by decide +kernel
theorem dX10_init_53 : decode cX10_init 53 = .ok (.aload_n 0, 1) := by decide +kernel
theorem dX10_init_54 : decode cX10_init 54 = .ok (.new 36, 3) := by decide +kernel
theorem dX10_init_57 : decode cX10_init 57 = .ok (.dup, 1) := by decide +kernel
theorem dX10_init_58 : decode cX10_init 58 = .ok (.invokespecial 38, 3) := by decide +kernel
theorem dX10_init_61 : decode cX10_init 61 = .ok (.putfield 39, 3) := by decide +kernel
theorem dX10_init_64 : decode cX10_init 64 = .ok (.aload_n 0, 1) := by decide +kernel
theorem dX10_init_65 : decode cX10_init 65 = .ok (.new 36, 3) := by decide +kernel
theorem dX10_init_68 : decode cX10_init 68 = .ok (.dup, 1) := by decide +kernel
theorem dX10_init_69 : decode cX10_init 69 = .ok (.invokespecial 38, 3) := by decide +kernel
theorem dX10_init_72 : decode cX10_init 72 = .ok (.putfield 43, 3) := by decide +kernel
theorem dX10_init_75 : decode cX10_init 75 = .ok (.aload_n 0, 1) := by decide +kernel
theorem dX10_init_76 : decode cX10_init 76 = .ok (.new 46, 3) := by decide +kernel
theorem dX10_init_79 : decode cX10_init 79 = .ok (.dup, 1) := by decide +kernel
theorem dX10_init_80 : decode cX10_init 80 = .ok (.invokespecial 48, 3) := by decide +kernel
theorem dX10_init_83 : decode cX10_init 83 = .ok (.putfield 49, 3) := by decide +kernel
theorem dX10_init_86 : decode cX10_init 86 = .ok (.aload_n 0, 1) := by decide +kernel
theorem dX10_init_87 : decode cX10_init 87 = .ok (.new 53, 3) := by decide +kernel
theorem dX10_init_90 : decode cX10_init 90 = .ok (.dup, 1) := by decide +kernel
theorem dX10_init_91 : decode cX10_init 91 = .ok (.invokespecial 55, 3) := by decide +kernel
theorem dX10_init_94 : decode cX10_init 94 = .ok (.putfield 56, 3) := by decide +kernel
theorem dX10_init_97 : decode cX10_init 97 = .ok (.aload_n 0, 1) := by decide +kernel
theorem dX10_init_98 : decode cX10_init 98 = .ok (.bipush 40, 2) := by decide +kernel
theorem dX10_init_100 : decode cX10_init 100 = .ok (.newarray .int, 2) := by decide +kernel
theorem dX10_init_102 : decode cX10_init 102 = .ok (.putfield 60, 3) := by decide +kernel
theorem dX10_init_105 : decode cX10_init 105 = .ok (.iconst 0, 1) := by decide +kernel
theorem dX10_init_106 : decode cX10_init 106 = .ok (.istore_n 1, 1) := by decide +kernel
theorem dX10_init_107 : decode cX10_init 107 = .ok (.iload_n 1, 1) := by decide +kernel
theorem dX10_init_108 : decode cX10_init 108 = .ok (.bipush 8, 2) := by decide +kernel
theorem dX10_init_110 : decode cX10_init 110 = .ok (.if_icmp .ge 22, 3) := by decide +kernel
theorem dX10_init_113 : decode cX10_init 113 = .ok (.aload_n 0, 1) := by decide +kernel
theorem dX10_init_114 : decode cX10_init 114 = .ok (.getfield 11, 3) := by decide +kernel
theorem dX10_init_117 : decode cX10_init 117 = .ok (.iload_n 1, 1) := by decide +kernel
theorem dX10_init_118 : decode cX10_init 118 = .ok (.new 9, 3) := by decide +kernel
theorem dX10_init_121 : decode cX10_init 121 = .ok (.dup, 1) := by decide +kernel
theorem dX10_init_122 : decode cX10_init 122 = .ok (.invokespecial 63, 3) := by decide +kernel
theorem dX10_init_125 : decode cX10_init 125 = .ok (.aastore, 1) := by decide +kernel
theorem dX10_init_126 : decode cX10_init 126 = .ok (.iinc 1 1, 3) := by decide +kernel
theorem dX10_init_129 : decode cX10_init 129 = .ok (.goto (-22), 3) := by decide +kernel
theorem dX10_init_132 : decode cX10_init 132 = .ok (.return_, 1) := by decide +kernel
theorem dX10_row_0 : decode cX10_row 0 = .ok (.iload_n 1, 1) := by decide +kernel
theorem dX10_row_1 : decode cX10_row 1 = .ok (.invokestatic 64, 3) := by decide +kernel
theorem dX10_row_4 : decode cX10_row 4 = .ok (.ifCond .eq 21, 3) := by decide +kernel
theorem dX10_row_7 : decode cX10_row 7 = .ok (.iload_n 2, 1) := by decide +kernel
theorem dX10_row_8 : decode cX10_row 8 = .ok (.iconst 5, 1) := by decide +kernel
theorem dX10_row_9 : decode cX10_row 9 = .ok (.invokestatic 68, 3) := by decide +kernel
theorem dX10_row_12 : decode cX10_row 12 = .ok (.ifCond .eq 13, 3) := by decide +kernel
theorem dX10_row_15 : decode cX10_row 15 = .ok (.iload_n 3, 1) := by decide +kernel
theorem dX10_row_16 : decode cX10_row 16 = .ok (.iconst 0, 1) := by decide +kernel
theorem dX10_row_17 : decode cX10_row 17 = .ok (.bipush 40, 2) := by decide +kernel
theorem dX10_row_19 : decode cX10_row 19 = .ok (.invokestatic 72, 3) := by decide +kernel
theorem dX10_row_22 : decode cX10_row 22 = .ok (.ifCond .ne 10, 3) := by decide +kernel
theorem dX10_row_25 : decode cX10_row 25 = .ok (.aload_n 0, 1) := by decide +kernel
theorem dX10_row_26 : decode cX10_row 26 = .ok (.bipush (-2), 2) := by decide +kernel
theorem dX10_row_28 : decode cX10_row 28 = .ok (.invokevirtual 76, 3) := by decide +kernel
theorem dX10_row_31 : decode cX10_row 31 = .ok (.ireturn, 1) := by decide +kernel
theorem dX10_row_32 : decode cX10_row 32 = .ok (.aload_n 0, 1) := by decide +kernel
theorem dX10_row_33 : decode cX10_row 33 = .ok (.getfield 11, 3) := by decide +kernel
theorem dX10_row_36 : decode cX10_row 36 = .ok (.iload_n 1, 1) := by decide +kernel
theorem dX10_row_37 : decode cX10_row 37 = .ok (.aaload, 1) := by decide +kernel
theorem dX10_row_38 : decode cX10_row 38 = .ok (.iload_n 2, 1) := by decide +kernel
theorem dX10_row_39 : decode cX10_row 39 = .ok (.iload_n 3, 1) := by decide +kernel
theorem dX10_row_40 : decode cX10_row 40 = .ok (.invokevirtual 80, 3) := by decide +kernel
theorem dX10_row_43 : decode cX10_row 43 = .ok (.iconst 1, 1) := by decide +kernel
theorem dX10_row_44 : decode cX10_row 44 = .ok (.ireturn, 1) := by decide +kernel
theorem dX10_set_0 : decode cX10_set 0 = .ok (.aload_n 0, 1) := by decide +kernel
theorem dX10_set_1 : decode cX10_set 1 = .ok (.iload_n 1, 1) := by decide +kernel
theorem dX10_set_2 : decode cX10_set 2 = .ok (.iload_n 1, 1) := by decide +kernel
theorem dX10_set_3 : decode cX10_set 3 = .ok (.invokevirtual 84, 3) := by decide +kernel
theorem dX10_set_6 : decode cX10_set 6 = .ok (.istore 5, 2) := by decide +kernel
theorem dX10_set_8 : decode cX10_set 8 = .ok (.iload 5, 2) := by decide +kernel
theorem dX10_set_10 : decode cX10_set 10 = .ok (.ifCond .eq 10, 3) := by decide +kernel
theorem dX10_set_13 : decode cX10_set 13 = .ok (.aload_n 0, 1) := by decide +kernel
theorem dX10_set_14 : decode cX10_set 14 = .ok (.iload 5, 2) := by decide +kernel
theorem dX10_set_16 : decode cX10_set 16 = .ok (.invokevirtual 76, 3) := by decide +kernel
theorem dX10_set_19 : decode cX10_set 19 = .ok (.ireturn, 1) := by decide +kernel
theorem dX10_set_20 : decode cX10_set 20 = .ok (.iload_n 2, 1) := by decide +kernel
theorem dX10_set_21 : decode cX10_set 21 = .ok (.aload_n 0, 1) := by decide +kernel
theorem dX10_set_22 : decode cX10_set 22 = .ok (.getfield 11, 3) := by decide +kernel
theorem dX10_set_25 : decode cX10_set 25 = .ok (.iload_n 1, 1) := by decide +kernel
theorem dX10_set_26 : decode cX10_set 26 = .ok (.aaload, 1) := by decide +kernel
theorem dX10_set_27 : decode cX10_set 27 = .ok (.getfield 88, 3) := by decide +kernel
theorem dX10_set_30 : decode cX10_set 30 = .ok (.invokestatic 68, 3) := by decide +kernel
theorem dX10_set_33 : decode cX10_set 33 = .ok (.ifCond .ne 10, 3) := by decide +kernel
theorem dX10_set_36 : decode cX10_set 36 = .ok (.aload_n 0, 1) := by decide +kernel
theorem dX10_set_37 : decode cX10_set 37 = .ok (.bipush (-2), 2) := by decide +kernel
theorem dX10_set_39 : decode cX10_set 39 = .ok (.invokevirtual 76, 3) := by decide +kernel
theorem dX10_set_42 : decode cX10_set 42 = .ok (.ireturn, 1) := by decide +kernel
theorem dX10_set_43 : decode cX10_set 43 = .ok (.aload_n 0, 1) := by decide +kernel
theorem dX10_set_44 : decode cX10_set 44 = .ok (.getfield 11, 3) := by decide +kernel
theorem dX10_set_47 : decode cX10_set 47 = .ok (.iload_n 1, 1) := by decide +kernel
theorem dX10_set_48 : decode cX10_set 48 = .ok (.aaload, 1) := by decide +kernel
theorem dX10_set_49 : decode cX10_set 49 = .ok (.iload_n 2, 1) := by decide +kernel
theorem dX10_set_50 : decode cX10_set 50 = .ok (.lload_n 3, 1) := by decide +kernel
theorem dX10_set_51 : decode cX10_set 51 = .ok (.invokevirtual 92, 3) := by decide +kernel
theorem dX10_set_54 : decode cX10_set 54 = .ok (.iconst 1, 1) := by decide +kernel
theorem dX10_set_55 : decode cX10_set 55 = .ok (.ireturn, 1) := by decide +kernel
theorem dX10_copy_0 : decode cX10_copy 0 = .ok (.aload_n 0, 1) := by decide +kernel
theorem dX10_copy_1 : decode cX10_copy 1 = .ok (.iload_n 1, 1) := by decide +kernel
theorem dX10_copy_2 : decode cX10_copy 2 = .ok (.iload_n 2, 1) := by decide +kernel
theorem dX10_copy_3 : decode cX10_copy 3 = .ok (.invokevirtual 84, 3) := by decide +kernel
theorem dX10_copy_6 : decode cX10_copy 6 = .ok (.istore 6, 2) := by decide +kernel
theorem dX10_copy_8 : decode cX10_copy 8 = .ok (.iload 6, 2) := by decide +kernel
theorem dX10_copy_10 : decode cX10_copy 10 = .ok (.ifCond .eq 10, 3) := by decide +kernel
theorem dX10_copy_13 : decode cX10_copy 13 = .ok (.aload_n 0, 1) := by decide +kernel
theorem dX10_copy_14 : decode cX10_copy 14 = .ok (.iload 6, 2) := by decide +kernel
theorem dX10_copy_16 : decode cX10_copy 16 = .ok (.invokevirtual 76, 3) := by decide +kernel
theorem dX10_copy_19 : decode cX10_copy 19 = .ok (.ireturn, 1) := by decide +kernel
theorem dX10_copy_20 : decode cX10_copy 20 = .ok (.aload_n 0, 1) := by decide +kernel
theorem dX10_copy_21 : decode cX10_copy 21 = .ok (.getfield 11, 3) := by decide +kernel
theorem dX10_copy_24 : decode cX10_copy 24 = .ok (.iload_n 1, 1) := by decide +kernel
theorem dX10_copy_25 : decode cX10_copy 25 = .ok (.aaload, 1) := by decide +kernel
theorem dX10_copy_26 : decode cX10_copy 26 = .ok (.astore 7, 2) := by decide +kernel
theorem dX10_copy_28 : decode cX10_copy 28 = .ok (.aload_n 0, 1) := by decide +kernel
theorem dX10_copy_29 : decode cX10_copy 29 = .ok (.getfield 11, 3) := by decide +kernel
theorem dX10_copy_32 : decode cX10_copy 32 = .ok (.iload_n 2, 1) := by decide +kernel
theorem dX10_copy_33 : decode cX10_copy 33 = .ok (.aaload, 1) := by decide +kernel
theorem dX10_copy_34 : decode cX10_copy 34 = .ok (.astore 8, 2) := by decide +kernel
theorem dX10_copy_36 : decode cX10_copy 36 = .ok (.aload 7, 2) := by decide +kernel
theorem dX10_copy_38 : decode cX10_copy 38 = .ok (.getfield 96, 3) := by decide +kernel
theorem dX10_copy_41 : decode cX10_copy 41 = .ok (.aload 8, 2) := by decide +kernel
theorem dX10_copy_43 : decode cX10_copy 43 = .ok (.getfield 96, 3) := by decide +kernel
theorem dX10_copy_46 : decode cX10_copy 46 = .ok (.if_icmp .eq 10, 3) := by decide +kernel
theorem dX10_copy_49 : decode cX10_copy 49 = .ok (.aload_n 0, 1) := by decide +kernel
theorem dX10_copy_50 : decode cX10_copy 50 = .ok (.bipush (-3), 2) := by decide +kernel
theorem dX10_copy_52 : decode cX10_copy 52 = .ok (.invokevirtual 76, 3) := by decide +kernel
theorem dX10_copy_55 : decode cX10_copy 55 = .ok (.ireturn, 1) := by decide +kernel
theorem dX10_copy_56 : decode cX10_copy 56 = .ok (.aload 7, 2) := by decide +kernel
theorem dX10_copy_58 : decode cX10_copy 58 = .ok (.iload_n 3, 1) := by decide +kernel
theorem dX10_copy_59 : decode cX10_copy 59 = .ok (.iload 5, 2) := by decide +kernel
theorem dX10_copy_61 : decode cX10_copy 61 = .ok (.invokevirtual 99, 3) := by decide +kernel
theorem dX10_copy_64 : decode cX10_copy 64 = .ok (.ifCond .eq 15, 3) := by decide +kernel
theorem dX10_copy_67 : decode cX10_copy 67 = .ok (.aload 8, 2) := by decide +kernel
theorem dX10_copy_69 : decode cX10_copy 69 = .ok (.iload 4, 2) := by decide +kernel
theorem dX10_copy_71 : decode cX10_copy 71 = .ok (.iload 5, 2) := by decide +kernel
theorem dX10_copy_73 : decode cX10_copy 73 = .ok (.invokevirtual 99, 3) := by decide +kernel
theorem dX10_copy_76 : decode cX10_copy 76 = .ok (.ifCond .ne 10, 3) := by decide +kernel
theorem dX10_copy_79 : decode cX10_copy 79 = .ok (.aload_n 0, 1) := by decide +kernel
theorem dX10_copy_80 : decode cX10_copy 80 = .ok (.bipush (-2), 2) := by decide +kernel
theorem dX10_copy_82 : decode cX10_copy 82 = .ok (.invokevirtual 76, 3) := by decide +kernel
theorem dX10_copy_85 : decode cX10_copy 85 = .ok (.ireturn, 1) := by decide +kernel
theorem dX10_copy_86 : decode cX10_copy 86 = .ok (.aload 7, 2) := by decide +kernel
theorem dX10_copy_88 : decode cX10_copy 88 = .ok (.getfield 102, 3) := by decide +kernel
theorem dX10_copy_91 : decode cX10_copy 91 = .ok (.iload_n 3, 1) := by decide +kernel
theorem dX10_copy_92 : decode cX10_copy 92 = .ok (.aload 8, 2) := by decide +kernel
theorem dX10_copy_94 : decode cX10_copy 94 = .ok (.getfield 102, 3) := by decide +kernel
theorem dX10_copy_97 : decode cX10_copy 97 = .ok (.iload 4, 2) := by decide +kernel
theorem dX10_copy_99 : decode cX10_copy 99 = .ok (.iload 5, 2) := by decide +kernel
theorem dX10_copy_101 : decode cX10_copy 101 = .ok (.invokestatic 106, 3) := by decide +kernel
theorem dX10_copy_104 : decode cX10_copy 104 = .ok (.iload 5, 2) := by decide +kernel
theorem dX10_copy_106 : decode cX10_copy 106 = .ok (.ireturn, 1) := by decide +kernel
theorem dX10_element_0 : decode cX10_element 0 = .ok (.iload_n 1, 1) := by decide +kernel
theorem dX10_element_1 : decode cX10_element 1 = .ok (.invokestatic 64, 3) := by decide +kernel
theorem dX10_element_4 : decode cX10_element 4 = .ok (.ifCond .eq 16, 3) := by decide +kernel
theorem dX10_element_7 : decode cX10_element 7 = .ok (.aload_n 0, 1) := by decide +kernel
theorem dX10_element_8 : decode cX10_element 8 = .ok (.getfield 11, 3) := by decide +kernel
theorem dX10_element_11 : decode cX10_element 11 = .ok (.iload_n 1, 1) := by decide +kernel
theorem dX10_element_12 : decode cX10_element 12 = .ok (.aaload, 1) := by decide +kernel
theorem dX10_element_13 : decode cX10_element 13 = .ok (.iload_n 2, 1) := by decide +kernel
theorem dX10_element_14 : decode cX10_element 14 = .ok (.invokevirtual 112, 3) := by decide +kernel
theorem dX10_element_17 : decode cX10_element 17 = .ok (.goto 4, 3) := by decide +kernel
theorem dX10_element_20 : decode cX10_element 20 = .ok (.lconst 0, 1) := by decide +kernel
theorem dX10_element_21 : decode cX10_element 21 = .ok (.lreturn, 1) := by decide +kernel
theorem dX10_holds_0 : decode cX10_holds 0 = .ok (.iload_n 1, 1) := by decide +kernel
theorem dX10_holds_1 : decode cX10_holds 1 = .ok (.invokestatic 64, 3) := by decide +kernel
theorem dX10_holds_4 : decode cX10_holds 4 = .ok (.ifCond .ne 5, 3) := by decide +kernel
theorem dX10_holds_7 : decode cX10_holds 7 = .ok (.iconst (-1), 1) := by decide +kernel
theorem dX10_holds_8 : decode cX10_holds 8 = .ok (.ireturn, 1) := by decide +kernel
theorem dX10_holds_9 : decode cX10_holds 9 = .ok (.aload_n 0, 1) := by decide +kernel
theorem dX10_holds_10 : decode cX10_holds 10 = .ok (.getfield 11, 3) := by decide +kernel
theorem dX10_holds_13 : decode cX10_holds 13 = .ok (.iload_n 1, 1) := by decide +kernel
theorem dX10_holds_14 : decode cX10_holds 14 = .ok (.aaload, 1) := by decide +kernel
theorem dX10_holds_15 : decode cX10_holds 15 = .ok (.astore_n 2, 1) := by decide +kernel
theorem dX10_holds_16 : decode cX10_holds 16 = .ok (.aload_n 2, 1) := by decide +kernel
theorem dX10_holds_17 : decode cX10_holds 17 = .ok (.getfield 116, 3) := by decide +kernel
theorem dX10_holds_20 : decode cX10_holds 20 = .ok (.iconst (-1), 1) := by decide +kernel
theorem dX10_holds_21 : decode cX10_holds 21 = .ok (.if_icmp .ne 10, 3) := by decide +kernel
theorem dX10_holds_24 : decode cX10_holds 24 = .ok (.aload_n 2, 1) := by decide +kernel
theorem dX10_holds_25 : decode cX10_holds 25 = .ok (.getfield 96, 3) := by decide +kernel
theorem dX10_holds_28 : decode cX10_holds 28 = .ok (.goto 10, 3) := by decide +kernel
theorem dX10_holds_31 : decode cX10_holds 31 = .ok (.bipush 10, 2) := by decide +kernel
theorem dX10_holds_33 : decode cX10_holds 33 = .ok (.aload_n 2, 1) := by decide +kernel
theorem dX10_holds_34 : decode cX10_holds 34 = .ok (.getfield 116, 3) := by decide +kernel
theorem dX10_holds_37 : decode cX10_holds 37 = .ok (.iadd, 1) := by decide +kernel
theorem dX10_holds_38 : decode cX10_holds 38 = .ok (.ireturn, 1) := by decide +kernel
theorem dX10_show_0 : decode cX10_show 0 = .ok (.iload_n 1, 1) := by decide +kernel
theorem dX10_show_1 : decode cX10_show 1 = .ok (.invokestatic 64, 3) := by decide +kernel
theorem dX10_show_4 : decode cX10_show 4 = .ok (.ifCond .eq 16, 3) := by decide +kernel
theorem dX10_show_7 : decode cX10_show 7 = .ok (.iload_n 2, 1) := by decide +kernel
theorem dX10_show_8 : decode cX10_show 8 = .ok (.iconst (-1), 1) := by decide +kernel
theorem dX10_show_9 : decode cX10_show 9 = .ok (.if_icmp .eq 18, 3) := by decide +kernel
theorem dX10_show_12 : decode cX10_show 12 = .ok (.aload_n 0, 1) := by decide +kernel
theorem dX10_show_13 : decode cX10_show 13 = .ok (.iload_n 2, 1) := by decide +kernel
theorem dX10_show_14 : decode cX10_show 14 = .ok (.invokevirtual 119, 3) := by decide +kernel
theorem dX10_show_17 : decode cX10_show 17 = .ok (.ifCond .ne 10, 3) := by decide +kernel
theorem dX10_show_20 : decode cX10_show 20 = .ok (.aload_n 0, 1) := by decide +kernel
theorem dX10_show_21 : decode cX10_show 21 = .ok (.bipush (-2), 2) := by decide +kernel
theorem dX10_show_23 : decode cX10_show 23 = .ok (.invokevirtual 76, 3) := by decide +kernel
theorem dX10_show_26 : decode cX10_show 26 = .ok (.ireturn, 1) := by decide +kernel
theorem dX10_show_27 : decode cX10_show 27 = .ok (.aload_n 0, 1) := by decide +kernel
theorem dX10_show_28 : decode cX10_show 28 = .ok (.getfield 11, 3) := by decide +kernel
theorem dX10_show_31 : decode cX10_show 31 = .ok (.iload_n 1, 1) := by decide +kernel
theorem dX10_show_32 : decode cX10_show 32 = .ok (.aaload, 1) := by decide +kernel
theorem dX10_show_33 : decode cX10_show 33 = .ok (.iload_n 2, 1) := by decide +kernel
theorem dX10_show_34 : decode cX10_show 34 = .ok (.invokevirtual 122, 3) := by decide +kernel
theorem dX10_show_37 : decode cX10_show 37 = .ok (.iconst 1, 1) := by decide +kernel
theorem dX10_show_38 : decode cX10_show 38 = .ok (.ireturn, 1) := by decide +kernel
theorem dX10_says_0 : decode cX10_says 0 = .ok (.iload_n 1, 1) := by decide +kernel
theorem dX10_says_1 : decode cX10_says 1 = .ok (.invokestatic 64, 3) := by decide +kernel
theorem dX10_says_4 : decode cX10_says 4 = .ok (.ifCond .eq 12, 3) := by decide +kernel
theorem dX10_says_7 : decode cX10_says 7 = .ok (.iload_n 2, 1) := by decide +kernel
theorem dX10_says_8 : decode cX10_says 8 = .ok (.bipush 6, 2) := by decide +kernel
theorem dX10_says_10 : decode cX10_says 10 = .ok (.invokestatic 68, 3) := by decide +kernel
theorem dX10_says_13 : decode cX10_says 13 = .ok (.ifCond .ne 10, 3) := by decide +kernel
theorem dX10_says_16 : decode cX10_says 16 = .ok (.aload_n 0, 1) := by decide +kernel
theorem dX10_says_17 : decode cX10_says 17 = .ok (.bipush (-2), 2) := by decide +kernel
theorem dX10_says_19 : decode cX10_says 19 = .ok (.invokevirtual 76, 3) := by decide +kernel
theorem dX10_says_22 : decode cX10_says 22 = .ok (.ireturn, 1) := by decide +kernel
theorem dX10_says_23 : decode cX10_says 23 = .ok (.aload_n 0, 1) := by decide +kernel
theorem dX10_says_24 : decode cX10_says 24 = .ok (.getfield 11, 3) := by decide +kernel
theorem dX10_says_27 : decode cX10_says 27 = .ok (.iload_n 1, 1) := by decide +kernel
theorem dX10_says_28 : decode cX10_says 28 = .ok (.aaload, 1) := by decide +kernel
theorem dX10_says_29 : decode cX10_says 29 = .ok (.astore_n 3, 1) := by decide +kernel
theorem dX10_says_30 : decode cX10_says 30 = .ok (.aload_n 3, 1) := by decide +kernel
theorem dX10_says_31 : decode cX10_says 31 = .ok (.getfield 96, 3) := by decide +kernel
theorem dX10_says_34 : decode cX10_says 34 = .ok (.iconst (-1), 1) := by decide +kernel
theorem dX10_says_35 : decode cX10_says 35 = .ok (.if_icmp .eq 10, 3) := by decide +kernel
theorem dX10_says_38 : decode cX10_says 38 = .ok (.aload_n 0, 1) := by decide +kernel
theorem dX10_says_39 : decode cX10_says 39 = .ok (.bipush (-3), 2) := by decide +kernel
theorem dX10_says_41 : decode cX10_says 41 = .ok (.invokevirtual 76, 3) := by decide +kernel
theorem dX10_says_44 : decode cX10_says 44 = .ok (.ireturn, 1) := by decide +kernel
theorem dX10_says_45 : decode cX10_says 45 = .ok (.aload_n 0, 1) := by decide +kernel
theorem dX10_says_46 : decode cX10_says 46 = .ok (.aload_n 3, 1) := by decide +kernel
theorem dX10_says_47 : decode cX10_says 47 = .ok (.getfield 116, 3) := by decide +kernel
theorem dX10_says_50 : decode cX10_says 50 = .ok (.invokevirtual 119, 3) := by decide +kernel
theorem dX10_says_53 : decode cX10_says 53 = .ok (.ifCond .ne 10, 3) := by decide +kernel
theorem dX10_says_56 : decode cX10_says 56 = .ok (.aload_n 0, 1) := by decide +kernel
theorem dX10_says_57 : decode cX10_says 57 = .ok (.bipush (-4), 2) := by decide +kernel
theorem dX10_says_59 : decode cX10_says 59 = .ok (.invokevirtual 76, 3) := by decide +kernel
theorem dX10_says_62 : decode cX10_says 62 = .ok (.ireturn, 1) := by decide +kernel
theorem dX10_says_63 : decode cX10_says 63 = .ok (.aload_n 0, 1) := by decide +kernel
theorem dX10_says_64 : decode cX10_says 64 = .ok (.getfield 25, 3) := by decide +kernel
theorem dX10_says_67 : decode cX10_says 67 = .ok (.getfield 126, 3) := by decide +kernel
theorem dX10_says_70 : decode cX10_says 70 = .ok (.aload_n 3, 1) := by decide +kernel
theorem dX10_says_71 : decode cX10_says 71 = .ok (.getfield 116, 3) := by decide +kernel
theorem dX10_says_74 : decode cX10_says 74 = .ok (.aaload, 1) := by decide +kernel
theorem dX10_says_75 : decode cX10_says 75 = .ok (.astore 4, 2) := by decide +kernel
theorem dX10_says_77 : decode cX10_says 77 = .ok (.aload 4, 2) := by decide +kernel
theorem dX10_says_79 : decode cX10_says 79 = .ok (.iload_n 2, 1) := by decide +kernel
theorem dX10_says_80 : decode cX10_says 80 = .ok (.invokevirtual 130, 3) := by decide +kernel
theorem dX10_says_83 : decode cX10_says 83 = .ok (.ifCond .eq 13, 3) := by decide +kernel
theorem dX10_says_86 : decode cX10_says 86 = .ok (.aload_n 0, 1) := by decide +kernel
theorem dX10_says_87 : decode cX10_says 87 = .ok (.aload 4, 2) := by decide +kernel
theorem dX10_says_89 : decode cX10_says 89 = .ok (.iload_n 2, 1) := by decide +kernel
theorem dX10_says_90 : decode cX10_says 90 = .ok (.invokevirtual 135, 3) := by decide +kernel
theorem dX10_says_93 : decode cX10_says 93 = .ok (.goto 9, 3) := by decide +kernel
theorem dX10_says_96 : decode cX10_says 96 = .ok (.aload_n 0, 1) := by decide +kernel
theorem dX10_says_97 : decode cX10_says 97 = .ok (.bipush (-3), 2) := by decide +kernel
theorem dX10_says_99 : decode cX10_says 99 = .ok (.invokevirtual 76, 3) := by decide +kernel
theorem dX10_says_102 : decode cX10_says 102 = .ok (.ireturn, 1) := by decide +kernel
theorem dX10_saying_0 : decode cX10_saying 0 = .ok (.iload_n 2, 1) := by decide +kernel
theorem dX10_saying_1 : decode cX10_saying 1 = .ok (.tableswitch 60 1 5 #[35, 35, 40, 40, 52], 35) := by decide +kernel
theorem dX10_saying_36 : decode cX10_saying 36 = .ok (.aload_n 1, 1) := by decide +kernel
theorem dX10_saying_37 : decode cX10_saying 37 = .ok (.invokevirtual 139, 3) := by decide +kernel
theorem dX10_saying_40 : decode cX10_saying 40 = .ok (.ireturn, 1) := by decide +kernel
theorem dX10_saying_41 : decode cX10_saying 41 = .ok (.aload_n 1, 1) := by decide +kernel
theorem dX10_saying_42 : decode cX10_saying 42 = .ok (.aload_n 0, 1) := by decide +kernel
theorem dX10_saying_43 : decode cX10_saying 43 = .ok (.getfield 25, 3) := by decide +kernel
theorem dX10_saying_46 : decode cX10_saying 46 = .ok (.getfield 143, 3) := by decide +kernel
theorem dX10_saying_49 : decode cX10_saying 49 = .ok (.invokevirtual 146, 3) := by decide +kernel
theorem dX10_saying_52 : decode cX10_saying 52 = .ok (.ireturn, 1) := by decide +kernel
theorem dX10_saying_53 : decode cX10_saying 53 = .ok (.aload_n 1, 1) := by decide +kernel
theorem dX10_saying_54 : decode cX10_saying 54 = .ok (.getfield 149, 3) := by decide +kernel
theorem dX10_saying_57 : decode cX10_saying 57 = .ok (.invokestatic 153, 3) := by decide +kernel
theorem dX10_saying_60 : decode cX10_saying 60 = .ok (.ireturn, 1) := by decide +kernel
theorem dX10_saying_61 : decode cX10_saying 61 = .ok (.aload_n 1, 1) := by decide +kernel
theorem dX10_saying_62 : decode cX10_saying 62 = .ok (.getfield 157, 3) := by decide +kernel
theorem dX10_saying_65 : decode cX10_saying 65 = .ok (.ireturn, 1) := by decide +kernel
theorem dX10_jetty_0 : decode cX10_jetty 0 = .ok (.iload_n 1, 1) := by decide +kernel
theorem dX10_jetty_1 : decode cX10_jetty 1 = .ok (.bipush 6, 2) := by decide +kernel
theorem dX10_jetty_3 : decode cX10_jetty 3 = .ok (.invokestatic 68, 3) := by decide +kernel
theorem dX10_jetty_6 : decode cX10_jetty 6 = .ok (.ifCond .eq 34, 3) := by decide +kernel
theorem dX10_jetty_9 : decode cX10_jetty 9 = .ok (.iload_n 2, 1) := by decide +kernel
theorem dX10_jetty_10 : decode cX10_jetty 10 = .ok (.sipush 256, 3) := by decide +kernel
theorem dX10_jetty_13 : decode cX10_jetty 13 = .ok (.invokestatic 68, 3) := by decide +kernel
theorem dX10_jetty_16 : decode cX10_jetty 16 = .ok (.ifCond .eq 24, 3) := by decide +kernel
theorem dX10_jetty_19 : decode cX10_jetty 19 = .ok (.iload_n 3, 1) := by decide +kernel
theorem dX10_jetty_20 : decode cX10_jetty 20 = .ok (.iconst 1, 1) := by decide +kernel
theorem dX10_jetty_21 : decode cX10_jetty 21 = .ok (.bipush 30, 2) := by decide +kernel
theorem dX10_jetty_23 : decode cX10_jetty 23 = .ok (.invokestatic 72, 3) := by decide +kernel
theorem dX10_jetty_26 : decode cX10_jetty 26 = .ok (.ifCond .eq 14, 3) := by decide +kernel
theorem dX10_jetty_29 : decode cX10_jetty 29 = .ok (.iload 4, 2) := by decide +kernel
theorem dX10_jetty_31 : decode cX10_jetty 31 = .ok (.iconst 0, 1) := by decide +kernel
theorem dX10_jetty_32 : decode cX10_jetty 32 = .ok (.bipush 99, 2) := by decide +kernel
theorem dX10_jetty_34 : decode cX10_jetty 34 = .ok (.invokestatic 72, 3) := by decide +kernel
theorem dX10_jetty_37 : decode cX10_jetty 37 = .ok (.ifCond .ne 10, 3) := by decide +kernel
theorem dX10_jetty_40 : decode cX10_jetty 40 = .ok (.aload_n 0, 1) := by decide +kernel
theorem dX10_jetty_41 : decode cX10_jetty 41 = .ok (.bipush (-2), 2) := by decide +kernel
theorem dX10_jetty_43 : decode cX10_jetty 43 = .ok (.invokevirtual 76, 3) := by decide +kernel
theorem dX10_jetty_46 : decode cX10_jetty 46 = .ok (.ireturn, 1) := by decide +kernel
theorem dX10_jetty_47 : decode cX10_jetty 47 = .ok (.aload_n 0, 1) := by decide +kernel
theorem dX10_jetty_48 : decode cX10_jetty 48 = .ok (.getfield 25, 3) := by decide +kernel
theorem dX10_jetty_51 : decode cX10_jetty 51 = .ok (.getfield 160, 3) := by decide +kernel
theorem dX10_jetty_54 : decode cX10_jetty 54 = .ok (.bipush 20, 2) := by decide +kernel
theorem dX10_jetty_56 : decode cX10_jetty 56 = .ok (.if_icmp .lt 10, 3) := by decide +kernel
theorem dX10_jetty_59 : decode cX10_jetty 59 = .ok (.aload_n 0, 1) := by decide +kernel
theorem dX10_jetty_60 : decode cX10_jetty 60 = .ok (.bipush (-6), 2) := by decide +kernel
theorem dX10_jetty_62 : decode cX10_jetty 62 = .ok (.invokevirtual 76, 3) := by decide +kernel
theorem dX10_jetty_65 : decode cX10_jetty 65 = .ok (.ireturn, 1) := by decide +kernel
theorem dX10_jetty_66 : decode cX10_jetty 66 = .ok (.aload_n 0, 1) := by decide +kernel
theorem dX10_jetty_67 : decode cX10_jetty 67 = .ok (.getfield 25, 3) := by decide +kernel
theorem dX10_jetty_70 : decode cX10_jetty 70 = .ok (.getfield 126, 3) := by decide +kernel
theorem dX10_jetty_73 : decode cX10_jetty 73 = .ok (.aload_n 0, 1) := by decide +kernel
theorem dX10_jetty_74 : decode cX10_jetty 74 = .ok (.getfield 25, 3) := by decide +kernel
theorem dX10_jetty_77 : decode cX10_jetty 77 = .ok (.getfield 160, 3) := by decide +kernel
theorem dX10_jetty_80 : decode cX10_jetty 80 = .ok (.aaload, 1) := by decide +kernel
theorem dX10_jetty_81 : decode cX10_jetty 81 = .ok (.iload_n 1, 1) := by decide +kernel
theorem dX10_jetty_82 : decode cX10_jetty 82 = .ok (.iload_n 2, 1) := by decide +kernel
theorem dX10_jetty_83 : decode cX10_jetty 83 = .ok (.iload_n 3, 1) := by decide +kernel
theorem dX10_jetty_84 : decode cX10_jetty 84 = .ok (.iload 4, 2) := by decide +kernel
theorem dX10_jetty_86 : decode cX10_jetty 86 = .ok (.invokevirtual 163, 3) := by decide +kernel
theorem dX10_jetty_89 : decode cX10_jetty 89 = .ok (.aload_n 0, 1) := by decide +kernel
theorem dX10_jetty_90 : decode cX10_jetty 90 = .ok (.getfield 25, 3) := by decide +kernel
theorem dX10_jetty_93 : decode cX10_jetty 93 = .ok (.dup, 1) := by decide +kernel
theorem dX10_jetty_94 : decode cX10_jetty 94 = .ok (.getfield 160, 3) := by decide +kernel
theorem dX10_jetty_97 : decode cX10_jetty 97 = .ok (.iconst 1, 1) := by decide +kernel
theorem dX10_jetty_98 : decode cX10_jetty 98 = .ok (.iadd, 1) := by decide +kernel
theorem dX10_jetty_99 : decode cX10_jetty 99 = .ok (.putfield 160, 3) := by decide +kernel
theorem dX10_jetty_102 : decode cX10_jetty 102 = .ok (.aload_n 0, 1) := by decide +kernel
theorem dX10_jetty_103 : decode cX10_jetty 103 = .ok (.getfield 25, 3) := by decide +kernel
theorem dX10_jetty_106 : decode cX10_jetty 106 = .ok (.getfield 160, 3) := by decide +kernel
theorem dX10_jetty_109 : decode cX10_jetty 109 = .ok (.iconst 1, 1) := by decide +kernel
theorem dX10_jetty_110 : decode cX10_jetty 110 = .ok (.isub, 1) := by decide +kernel
theorem dX10_jetty_111 : decode cX10_jetty 111 = .ok (.ireturn, 1) := by decide +kernel
theorem dX10_jettyOf_0 : decode cX10_jettyOf 0 = .ok (.aload_n 0, 1) := by decide +kernel
theorem dX10_jettyOf_1 : decode cX10_jettyOf 1 = .ok (.iload_n 1, 1) := by decide +kernel
theorem dX10_jettyOf_2 : decode cX10_jettyOf 2 = .ok (.invokevirtual 119, 3) := by decide +kernel
theorem dX10_jettyOf_5 : decode cX10_jettyOf 5 = .ok (.ifCond .ne 10, 3) := by decide +kernel
theorem dX10_jettyOf_8 : decode cX10_jettyOf 8 = .ok (.aload_n 0, 1) := by decide +kernel
theorem dX10_jettyOf_9 : decode cX10_jettyOf 9 = .ok (.bipush (-2), 2) := by decide +kernel
theorem dX10_jettyOf_11 : decode cX10_jettyOf 11 = .ok (.invokevirtual 76, 3) := by decide +kernel
theorem dX10_jettyOf_14 : decode cX10_jettyOf 14 = .ok (.ireturn, 1) := by decide +kernel
theorem dX10_jettyOf_15 : decode cX10_jettyOf 15 = .ok (.aload_n 0, 1) := by decide +kernel
theorem dX10_jettyOf_16 : decode cX10_jettyOf 16 = .ok (.getfield 25, 3) := by decide +kernel
theorem dX10_jettyOf_19 : decode cX10_jettyOf 19 = .ok (.getfield 126, 3) := by decide +kernel
theorem dX10_jettyOf_22 : decode cX10_jettyOf 22 = .ok (.iload_n 1, 1) := by decide +kernel
theorem dX10_jettyOf_23 : decode cX10_jettyOf 23 = .ok (.aaload, 1) := by decide +kernel
theorem dX10_jettyOf_24 : decode cX10_jettyOf 24 = .ok (.astore_n 3, 1) := by decide +kernel
theorem dX10_jettyOf_25 : decode cX10_jettyOf 25 = .ok (.iload_n 2, 1) := by decide +kernel
theorem dX10_jettyOf_26 : decode cX10_jettyOf 26 = .ok (.tableswitch 117 0 7 #[46, 51, 56, 61, 66, 71, 79, 98], 46) := by decide +kernel
theorem dX10_jettyOf_72 : decode cX10_jettyOf 72 = .ok (.aload_n 3, 1) := by decide +kernel
theorem dX10_jettyOf_73 : decode cX10_jettyOf 73 = .ok (.getfield 167, 3) := by decide +kernel
theorem dX10_jettyOf_76 : decode cX10_jettyOf 76 = .ok (.ireturn, 1) := by decide +kernel
theorem dX10_jettyOf_77 : decode cX10_jettyOf 77 = .ok (.aload_n 3, 1) := by decide +kernel
theorem dX10_jettyOf_78 : decode cX10_jettyOf 78 = .ok (.getfield 157, 3) := by decide +kernel
theorem dX10_jettyOf_81 : decode cX10_jettyOf 81 = .ok (.ireturn, 1) := by decide +kernel
theorem dX10_jettyOf_82 : decode cX10_jettyOf 82 = .ok (.aload_n 3, 1) := by decide +kernel
theorem dX10_jettyOf_83 : decode cX10_jettyOf 83 = .ok (.getfield 170, 3) := by decide +kernel
theorem dX10_jettyOf_86 : decode cX10_jettyOf 86 = .ok (.ireturn, 1) := by decide +kernel
theorem dX10_jettyOf_87 : decode cX10_jettyOf 87 = .ok (.aload_n 3, 1) := by decide +kernel
theorem dX10_jettyOf_88 : decode cX10_jettyOf 88 = .ok (.getfield 173, 3) := by decide +kernel
theorem dX10_jettyOf_91 : decode cX10_jettyOf 91 = .ok (.ireturn, 1) := by decide +kernel
theorem dX10_jettyOf_92 : decode cX10_jettyOf 92 = .ok (.aload_n 3, 1) := by decide +kernel
theorem dX10_jettyOf_93 : decode cX10_jettyOf 93 = .ok (.invokevirtual 139, 3) := by decide +kernel
theorem dX10_jettyOf_96 : decode cX10_jettyOf 96 = .ok (.ireturn, 1) := by decide +kernel
theorem dX10_jettyOf_97 : decode cX10_jettyOf 97 = .ok (.aload_n 3, 1) := by decide +kernel
theorem dX10_jettyOf_98 : decode cX10_jettyOf 98 = .ok (.getfield 149, 3) := by decide +kernel
theorem dX10_jettyOf_101 : decode cX10_jettyOf 101 = .ok (.invokestatic 153, 3) := by decide +kernel
theorem dX10_jettyOf_104 : decode cX10_jettyOf 104 = .ok (.ireturn, 1) := by decide +kernel
theorem dX10_jettyOf_105 : decode cX10_jettyOf 105 = .ok (.aload_n 0, 1) := by decide +kernel
theorem dX10_jettyOf_106 : decode cX10_jettyOf 106 = .ok (.getfield 25, 3) := by decide +kernel
theorem dX10_jettyOf_109 : decode cX10_jettyOf 109 = .ok (.aload_n 3, 1) := by decide +kernel
theorem dX10_jettyOf_110 : decode cX10_jettyOf 110 = .ok (.aload_n 0, 1) := by decide +kernel
theorem dX10_jettyOf_111 : decode cX10_jettyOf 111 = .ok (.getfield 25, 3) := by decide +kernel
theorem dX10_jettyOf_114 : decode cX10_jettyOf 114 = .ok (.getfield 143, 3) := by decide +kernel
theorem dX10_jettyOf_117 : decode cX10_jettyOf 117 = .ok (.invokevirtual 176, 3) := by decide +kernel
theorem dX10_jettyOf_120 : decode cX10_jettyOf 120 = .ok (.invokestatic 153, 3) := by decide +kernel
theorem dX10_jettyOf_123 : decode cX10_jettyOf 123 = .ok (.ireturn, 1) := by decide +kernel
theorem dX10_jettyOf_124 : decode cX10_jettyOf 124 = .ok (.aload_n 0, 1) := by decide +kernel
theorem dX10_jettyOf_125 : decode cX10_jettyOf 125 = .ok (.getfield 25, 3) := by decide +kernel
theorem dX10_jettyOf_128 : decode cX10_jettyOf 128 = .ok (.aload_n 3, 1) := by decide +kernel
theorem dX10_jettyOf_129 : decode cX10_jettyOf 129 = .ok (.aload_n 0, 1) := by decide +kernel
theorem dX10_jettyOf_130 : decode cX10_jettyOf 130 = .ok (.getfield 25, 3) := by decide +kernel
theorem dX10_jettyOf_133 : decode cX10_jettyOf 133 = .ok (.invokevirtual 180, 3) := by decide +kernel
theorem dX10_jettyOf_136 : decode cX10_jettyOf 136 = .ok (.invokevirtual 183, 3) := by decide +kernel
theorem dX10_jettyOf_139 : decode cX10_jettyOf 139 = .ok (.invokestatic 153, 3) := by decide +kernel
theorem dX10_jettyOf_142 : decode cX10_jettyOf 142 = .ok (.ireturn, 1) := by decide +kernel
theorem dX10_jettyOf_143 : decode cX10_jettyOf 143 = .ok (.aload_n 0, 1) := by decide +kernel
theorem dX10_jettyOf_144 : decode cX10_jettyOf 144 = .ok (.bipush (-2), 2) := by decide +kernel
theorem dX10_jettyOf_146 : decode cX10_jettyOf 146 = .ok (.invokevirtual 76, 3) := by decide +kernel
theorem dX10_jettyOf_149 : decode cX10_jettyOf 149 = .ok (.ireturn, 1) := by decide +kernel
theorem dX10_wet_0 : decode cX10_wet 0 = .ok (.aload_n 0, 1) := by decide +kernel
theorem dX10_wet_1 : decode cX10_wet 1 = .ok (.iload_n 1, 1) := by decide +kernel
theorem dX10_wet_2 : decode cX10_wet 2 = .ok (.invokevirtual 119, 3) := by decide +kernel
theorem dX10_wet_5 : decode cX10_wet 5 = .ok (.ifCond .ne 10, 3) := by decide +kernel
theorem dX10_wet_8 : decode cX10_wet 8 = .ok (.aload_n 0, 1) := by decide +kernel
theorem dX10_wet_9 : decode cX10_wet 9 = .ok (.bipush (-2), 2) := by decide +kernel
theorem dX10_wet_11 : decode cX10_wet 11 = .ok (.invokevirtual 76, 3) := by decide +kernel
theorem dX10_wet_14 : decode cX10_wet 14 = .ok (.ireturn, 1) := by decide +kernel
theorem dX10_wet_15 : decode cX10_wet 15 = .ok (.aload_n 0, 1) := by decide +kernel
theorem dX10_wet_16 : decode cX10_wet 16 = .ok (.getfield 25, 3) := by decide +kernel
theorem dX10_wet_19 : decode cX10_wet 19 = .ok (.getfield 126, 3) := by decide +kernel
theorem dX10_wet_22 : decode cX10_wet 22 = .ok (.iload_n 1, 1) := by decide +kernel
theorem dX10_wet_23 : decode cX10_wet 23 = .ok (.aaload, 1) := by decide +kernel
theorem dX10_wet_24 : decode cX10_wet 24 = .ok (.astore_n 3, 1) := by decide +kernel
theorem dX10_wet_25 : decode cX10_wet 25 = .ok (.aload_n 3, 1) := by decide +kernel
theorem dX10_wet_26 : decode cX10_wet 26 = .ok (.getfield 149, 3) := by decide +kernel
theorem dX10_wet_29 : decode cX10_wet 29 = .ok (.istore 4, 2) := by decide +kernel
theorem dX10_wet_31 : decode cX10_wet 31 = .ok (.aload_n 3, 1) := by decide +kernel
theorem dX10_wet_32 : decode cX10_wet 32 = .ok (.iload_n 2, 1) := by decide +kernel
theorem dX10_wet_33 : decode cX10_wet 33 = .ok (.putfield 149, 3) := by decide +kernel
theorem dX10_wet_36 : decode cX10_wet 36 = .ok (.iload 4, 2) := by decide +kernel
theorem dX10_wet_38 : decode cX10_wet 38 = .ok (.invokestatic 153, 3) := by decide +kernel
theorem dX10_wet_41 : decode cX10_wet 41 = .ok (.ireturn, 1) := by decide +kernel
theorem dX10_rise_0 : decode cX10_rise 0 = .ok (.aload_n 0, 1) := by decide +kernel
theorem dX10_rise_1 : decode cX10_rise 1 = .ok (.iload_n 1, 1) := by decide +kernel
theorem dX10_rise_2 : decode cX10_rise 2 = .ok (.invokevirtual 119, 3) := by decide +kernel
theorem dX10_rise_5 : decode cX10_rise 5 = .ok (.ifCond .eq 14, 3) := by decide +kernel
theorem dX10_rise_8 : decode cX10_rise 8 = .ok (.iload_n 2, 1) := by decide +kernel
theorem dX10_rise_9 : decode cX10_rise 9 = .ok (.bipush (-50), 2) := by decide +kernel
theorem dX10_rise_11 : decode cX10_rise 11 = .ok (.bipush 50, 2) := by decide +kernel
theorem dX10_rise_13 : decode cX10_rise 13 = .ok (.invokestatic 72, 3) := by decide +kernel
theorem dX10_rise_16 : decode cX10_rise 16 = .ok (.ifCond .ne 14, 3) := by decide +kernel
theorem dX10_rise_19 : decode cX10_rise 19 = .ok (.sipush (-1000), 3) := by decide +kernel
theorem dX10_rise_22 : decode cX10_rise 22 = .ok (.aload_n 0, 1) := by decide +kernel
theorem dX10_rise_23 : decode cX10_rise 23 = .ok (.bipush (-2), 2) := by decide +kernel
theorem dX10_rise_25 : decode cX10_rise 25 = .ok (.invokevirtual 76, 3) := by decide +kernel
theorem dX10_rise_28 : decode cX10_rise 28 = .ok (.iadd, 1) := by decide +kernel
theorem dX10_rise_29 : decode cX10_rise 29 = .ok (.ireturn, 1) := by decide +kernel
theorem dX10_rise_30 : decode cX10_rise 30 = .ok (.aload_n 0, 1) := by decide +kernel
theorem dX10_rise_31 : decode cX10_rise 31 = .ok (.getfield 25, 3) := by decide +kernel
theorem dX10_rise_34 : decode cX10_rise 34 = .ok (.getfield 126, 3) := by decide +kernel
theorem dX10_rise_37 : decode cX10_rise 37 = .ok (.iload_n 1, 1) := by decide +kernel
theorem dX10_rise_38 : decode cX10_rise 38 = .ok (.aaload, 1) := by decide +kernel
theorem dX10_rise_39 : decode cX10_rise 39 = .ok (.iload_n 2, 1) := by decide +kernel
theorem dX10_rise_40 : decode cX10_rise 40 = .ok (.invokevirtual 146, 3) := by decide +kernel
theorem dX10_rise_43 : decode cX10_rise 43 = .ok (.ireturn, 1) := by decide +kernel
theorem dX10_lake_0 : decode cX10_lake 0 = .ok (.iload_n 1, 1) := by decide +kernel
theorem dX10_lake_1 : decode cX10_lake 1 = .ok (.ifCond .ne 33, 3) := by decide +kernel
theorem dX10_lake_4 : decode cX10_lake 4 = .ok (.iload_n 2, 1) := by decide +kernel
theorem dX10_lake_5 : decode cX10_lake 5 = .ok (.bipush (-50), 2) := by decide +kernel
theorem dX10_lake_7 : decode cX10_lake 7 = .ok (.bipush 50, 2) := by decide +kernel
theorem dX10_lake_9 : decode cX10_lake 9 = .ok (.invokestatic 72, 3) := by decide +kernel
theorem dX10_lake_12 : decode cX10_lake 12 = .ok (.ifCond .eq 22, 3) := by decide +kernel
theorem dX10_lake_15 : decode cX10_lake 15 = .ok (.aload_n 0, 1) := by decide +kernel
theorem dX10_lake_16 : decode cX10_lake 16 = .ok (.getfield 25, 3) := by decide +kernel
theorem dX10_lake_19 : decode cX10_lake 19 = .ok (.getfield 143, 3) := by decide +kernel
theorem dX10_lake_22 : decode cX10_lake 22 = .ok (.istore_n 3, 1) := by decide +kernel
theorem dX10_lake_23 : decode cX10_lake 23 = .ok (.aload_n 0, 1) := by decide +kernel
theorem dX10_lake_24 : decode cX10_lake 24 = .ok (.getfield 25, 3) := by decide +kernel
theorem dX10_lake_27 : decode cX10_lake 27 = .ok (.iload_n 2, 1) := by decide +kernel
theorem dX10_lake_28 : decode cX10_lake 28 = .ok (.putfield 143, 3) := by decide +kernel
theorem dX10_lake_31 : decode cX10_lake 31 = .ok (.goto 78, 3) := by decide +kernel
theorem dX10_lake_34 : decode cX10_lake 34 = .ok (.iload_n 1, 1) := by decide +kernel
theorem dX10_lake_35 : decode cX10_lake 35 = .ok (.iconst 1, 1) := by decide +kernel
theorem dX10_lake_36 : decode cX10_lake 36 = .ok (.if_icmp .ne 32, 3) := by decide +kernel
theorem dX10_lake_39 : decode cX10_lake 39 = .ok (.iload_n 2, 1) := by decide +kernel
theorem dX10_lake_40 : decode cX10_lake 40 = .ok (.iconst 0, 1) := by decide +kernel
theorem dX10_lake_41 : decode cX10_lake 41 = .ok (.bipush 60, 2) := by decide +kernel
theorem dX10_lake_43 : decode cX10_lake 43 = .ok (.invokestatic 72, 3) := by decide +kernel
theorem dX10_lake_46 : decode cX10_lake 46 = .ok (.ifCond .eq 22, 3) := by decide +kernel
theorem dX10_lake_49 : decode cX10_lake 49 = .ok (.aload_n 0, 1) := by decide +kernel
theorem dX10_lake_50 : decode cX10_lake 50 = .ok (.getfield 25, 3) := by decide +kernel
theorem dX10_lake_53 : decode cX10_lake 53 = .ok (.getfield 186, 3) := by decide +kernel
theorem dX10_lake_56 : decode cX10_lake 56 = .ok (.istore_n 3, 1) := by decide +kernel
theorem dX10_lake_57 : decode cX10_lake 57 = .ok (.aload_n 0, 1) := by decide +kernel
theorem dX10_lake_58 : decode cX10_lake 58 = .ok (.getfield 25, 3) := by decide +kernel
theorem dX10_lake_61 : decode cX10_lake 61 = .ok (.iload_n 2, 1) := by decide +kernel
theorem dX10_lake_62 : decode cX10_lake 62 = .ok (.putfield 186, 3) := by decide +kernel
theorem dX10_lake_65 : decode cX10_lake 65 = .ok (.goto 44, 3) := by decide +kernel
theorem dX10_lake_68 : decode cX10_lake 68 = .ok (.iload_n 1, 1) := by decide +kernel
theorem dX10_lake_69 : decode cX10_lake 69 = .ok (.iconst 2, 1) := by decide +kernel
theorem dX10_lake_70 : decode cX10_lake 70 = .ok (.if_icmp .ne 32, 3) := by decide +kernel
theorem dX10_lake_73 : decode cX10_lake 73 = .ok (.iload_n 2, 1) := by decide +kernel
theorem dX10_lake_74 : decode cX10_lake 74 = .ok (.sipush 256, 3) := by decide +kernel
theorem dX10_lake_77 : decode cX10_lake 77 = .ok (.invokestatic 68, 3) := by decide +kernel
theorem dX10_lake_80 : decode cX10_lake 80 = .ok (.ifCond .eq 22, 3) := by decide +kernel
theorem dX10_lake_83 : decode cX10_lake 83 = .ok (.aload_n 0, 1) := by decide +kernel
theorem dX10_lake_84 : decode cX10_lake 84 = .ok (.getfield 25, 3) := by decide +kernel
theorem dX10_lake_87 : decode cX10_lake 87 = .ok (.getfield 189, 3) := by decide +kernel
theorem dX10_lake_90 : decode cX10_lake 90 = .ok (.istore_n 3, 1) := by decide +kernel
theorem dX10_lake_91 : decode cX10_lake 91 = .ok (.aload_n 0, 1) := by decide +kernel
theorem dX10_lake_92 : decode cX10_lake 92 = .ok (.getfield 25, 3) := by decide +kernel
theorem dX10_lake_95 : decode cX10_lake 95 = .ok (.iload_n 2, 1) := by decide +kernel
theorem dX10_lake_96 : decode cX10_lake 96 = .ok (.putfield 189, 3) := by decide +kernel
theorem dX10_lake_99 : decode cX10_lake 99 = .ok (.goto 10, 3) := by decide +kernel
theorem dX10_lake_102 : decode cX10_lake 102 = .ok (.aload_n 0, 1) := by decide +kernel
theorem dX10_lake_103 : decode cX10_lake 103 = .ok (.bipush (-2), 2) := by decide +kernel
theorem dX10_lake_105 : decode cX10_lake 105 = .ok (.invokevirtual 76, 3) := by decide +kernel
theorem dX10_lake_108 : decode cX10_lake 108 = .ok (.ireturn, 1) := by decide +kernel
theorem dX10_lake_109 : decode cX10_lake 109 = .ok (.iload_n 3, 1) := by decide +kernel
theorem dX10_lake_110 : decode cX10_lake 110 = .ok (.iload_n 2, 1) := by decide +kernel
theorem dX10_lake_111 : decode cX10_lake 111 = .ok (.if_icmp .eq 7, 3) := by decide +kernel
theorem dX10_lake_114 : decode cX10_lake 114 = .ok (.iconst 1, 1) := by decide +kernel
theorem dX10_lake_115 : decode cX10_lake 115 = .ok (.goto 4, 3) := by decide +kernel
theorem dX10_lake_118 : decode cX10_lake 118 = .ok (.iconst 0, 1) := by decide +kernel
theorem dX10_lake_119 : decode cX10_lake 119 = .ok (.invokestatic 153, 3) := by decide +kernel
theorem dX10_lake_122 : decode cX10_lake 122 = .ok (.ireturn, 1) := by decide +kernel
theorem dX10_wind_0 : decode cX10_wind 0 = .ok (.iload_n 1, 1) := by decide +kernel
theorem dX10_wind_1 : decode cX10_wind 1 = .ok (.invokestatic 192, 3) := by decide +kernel
theorem dX10_wind_4 : decode cX10_wind 4 = .ok (.ifCond .eq 13, 3) := by decide +kernel
theorem dX10_wind_7 : decode cX10_wind 7 = .ok (.iload_n 2, 1) := by decide +kernel
theorem dX10_wind_8 : decode cX10_wind 8 = .ok (.iconst 0, 1) := by decide +kernel
theorem dX10_wind_9 : decode cX10_wind 9 = .ok (.bipush 9, 2) := by decide +kernel
theorem dX10_wind_11 : decode cX10_wind 11 = .ok (.invokestatic 72, 3) := by decide +kernel
theorem dX10_wind_14 : decode cX10_wind 14 = .ok (.ifCond .ne 10, 3) := by decide +kernel
theorem dX10_wind_17 : decode cX10_wind 17 = .ok (.aload_n 0, 1) := by decide +kernel
theorem dX10_wind_18 : decode cX10_wind 18 = .ok (.bipush (-2), 2) := by decide +kernel
theorem dX10_wind_20 : decode cX10_wind 20 = .ok (.invokevirtual 76, 3) := by decide +kernel
theorem dX10_wind_23 : decode cX10_wind 23 = .ok (.ireturn, 1) := by decide +kernel
theorem dX10_wind_24 : decode cX10_wind 24 = .ok (.aload_n 0, 1) := by decide +kernel
theorem dX10_wind_25 : decode cX10_wind 25 = .ok (.getfield 25, 3) := by decide +kernel
theorem dX10_wind_28 : decode cX10_wind 28 = .ok (.getfield 195, 3) := by decide +kernel
theorem dX10_wind_31 : decode cX10_wind 31 = .ok (.iload_n 1, 1) := by decide +kernel
theorem dX10_wind_32 : decode cX10_wind 32 = .ok (.iaload, 1) := by decide +kernel
theorem dX10_wind_33 : decode cX10_wind 33 = .ok (.istore_n 3, 1) := by decide +kernel
theorem dX10_wind_34 : decode cX10_wind 34 = .ok (.aload_n 0, 1) := by decide +kernel
theorem dX10_wind_35 : decode cX10_wind 35 = .ok (.getfield 25, 3) := by decide +kernel
theorem dX10_wind_38 : decode cX10_wind 38 = .ok (.getfield 195, 3) := by decide +kernel
theorem dX10_wind_41 : decode cX10_wind 41 = .ok (.iload_n 1, 1) := by decide +kernel
theorem dX10_wind_42 : decode cX10_wind 42 = .ok (.iload_n 2, 1) := by decide +kernel
theorem dX10_wind_43 : decode cX10_wind 43 = .ok (.iastore, 1) := by decide +kernel
theorem dX10_wind_44 : decode cX10_wind 44 = .ok (.iload_n 3, 1) := by decide +kernel
theorem dX10_wind_45 : decode cX10_wind 45 = .ok (.ireturn, 1) := by decide +kernel
theorem dX10_winds_0 : decode cX10_winds 0 = .ok (.aload_n 0, 1) := by decide +kernel
theorem dX10_winds_1 : decode cX10_winds 1 = .ok (.iload_n 1, 1) := by decide +kernel
theorem dX10_winds_2 : decode cX10_winds 2 = .ok (.iload_n 1, 1) := by decide +kernel
theorem dX10_winds_3 : decode cX10_winds 3 = .ok (.invokevirtual 84, 3) := by decide +kernel
theorem dX10_winds_6 : decode cX10_winds 6 = .ok (.istore_n 2, 1) := by decide +kernel
theorem dX10_winds_7 : decode cX10_winds 7 = .ok (.iload_n 2, 1) := by decide +kernel
theorem dX10_winds_8 : decode cX10_winds 8 = .ok (.ifCond .eq 9, 3) := by decide +kernel
theorem dX10_winds_11 : decode cX10_winds 11 = .ok (.aload_n 0, 1) := by decide +kernel
theorem dX10_winds_12 : decode cX10_winds 12 = .ok (.iload_n 2, 1) := by decide +kernel
theorem dX10_winds_13 : decode cX10_winds 13 = .ok (.invokevirtual 76, 3) := by decide +kernel
theorem dX10_winds_16 : decode cX10_winds 16 = .ok (.ireturn, 1) := by decide +kernel
theorem dX10_winds_17 : decode cX10_winds 17 = .ok (.bipush 12, 2) := by decide +kernel
theorem dX10_winds_19 : decode cX10_winds 19 = .ok (.aload_n 0, 1) := by decide +kernel
theorem dX10_winds_20 : decode cX10_winds 20 = .ok (.getfield 11, 3) := by decide +kernel
theorem dX10_winds_23 : decode cX10_winds 23 = .ok (.iload_n 1, 1) := by decide +kernel
theorem dX10_winds_24 : decode cX10_winds 24 = .ok (.aaload, 1) := by decide +kernel
theorem dX10_winds_25 : decode cX10_winds 25 = .ok (.getfield 88, 3) := by decide +kernel
theorem dX10_winds_28 : decode cX10_winds 28 = .ok (.invokestatic 198, 3) := by decide +kernel
theorem dX10_winds_31 : decode cX10_winds 31 = .ok (.istore_n 3, 1) := by decide +kernel
theorem dX10_winds_32 : decode cX10_winds 32 = .ok (.iconst 0, 1) := by decide +kernel
theorem dX10_winds_33 : decode cX10_winds 33 = .ok (.istore 4, 2) := by decide +kernel
theorem dX10_winds_35 : decode cX10_winds 35 = .ok (.iload 4, 2) := by decide +kernel
theorem dX10_winds_37 : decode cX10_winds 37 = .ok (.iload_n 3, 1) := by decide +kernel
theorem dX10_winds_38 : decode cX10_winds 38 = .ok (.if_icmp .ge 54, 3) := by decide +kernel
theorem dX10_winds_41 : decode cX10_winds 41 = .ok (.aload_n 0, 1) := by decide +kernel
theorem dX10_winds_42 : decode cX10_winds 42 = .ok (.getfield 11, 3) := by decide +kernel
theorem dX10_winds_45 : decode cX10_winds 45 = .ok (.iload_n 1, 1) := by decide +kernel
theorem dX10_winds_46 : decode cX10_winds 46 = .ok (.aaload, 1) := by decide +kernel
theorem dX10_winds_47 : decode cX10_winds 47 = .ok (.iload 4, 2) := by decide +kernel
theorem dX10_winds_49 : decode cX10_winds 49 = .ok (.invokevirtual 112, 3) := by decide +kernel
theorem dX10_winds_52 : decode cX10_winds 52 = .ok (.lstore 5, 2) := by decide +kernel
theorem dX10_winds_54 : decode cX10_winds 54 = .ok (.lload 5, 2) := by decide +kernel
theorem dX10_winds_56 : decode cX10_winds 56 = .ok (.lconst 0, 1) := by decide +kernel
theorem dX10_winds_57 : decode cX10_winds 57 = .ok (.lcmp, 1) := by decide +kernel
theorem dX10_winds_58 : decode cX10_winds 58 = .ok (.ifCond .lt 12, 3) := by decide +kernel
theorem dX10_winds_61 : decode cX10_winds 61 = .ok (.lload 5, 2) := by decide +kernel
theorem dX10_winds_63 : decode cX10_winds 63 = .ok (.ldc2_w 203, 3) := by decide +kernel
theorem dX10_winds_66 : decode cX10_winds 66 = .ok (.lcmp, 1) := by decide +kernel
theorem dX10_winds_67 : decode cX10_winds 67 = .ok (.ifCond .le 6, 3) := by decide +kernel
theorem dX10_winds_70 : decode cX10_winds 70 = .ok (.iload 4, 2) := by decide +kernel
theorem dX10_winds_72 : decode cX10_winds 72 = .ok (.ireturn, 1) := by decide +kernel
theorem dX10_winds_73 : decode cX10_winds 73 = .ok (.aload_n 0, 1) := by decide +kernel
theorem dX10_winds_74 : decode cX10_winds 74 = .ok (.getfield 25, 3) := by decide +kernel
theorem dX10_winds_77 : decode cX10_winds 77 = .ok (.getfield 195, 3) := by decide +kernel
theorem dX10_winds_80 : decode cX10_winds 80 = .ok (.iload 4, 2) := by decide +kernel
theorem dX10_winds_82 : decode cX10_winds 82 = .ok (.lload 5, 2) := by decide +kernel
theorem dX10_winds_84 : decode cX10_winds 84 = .ok (.l2i, 1) := by decide +kernel
theorem dX10_winds_85 : decode cX10_winds 85 = .ok (.iastore, 1) := by decide +kernel
theorem dX10_winds_86 : decode cX10_winds 86 = .ok (.iinc 4 1, 3) := by decide +kernel
theorem dX10_winds_89 : decode cX10_winds 89 = .ok (.goto (-54), 3) := by decide +kernel
theorem dX10_winds_92 : decode cX10_winds 92 = .ok (.iload_n 3, 1) := by decide +kernel
theorem dX10_winds_93 : decode cX10_winds 93 = .ok (.ireturn, 1) := by decide +kernel
theorem dX10_feed_0 : decode cX10_feed 0 = .ok (.iload_n 2, 1) := by decide +kernel
theorem dX10_feed_1 : decode cX10_feed 1 = .ok (.iconst 1, 1) := by decide +kernel
theorem dX10_feed_2 : decode cX10_feed 2 = .ok (.iconst 4, 1) := by decide +kernel
theorem dX10_feed_3 : decode cX10_feed 3 = .ok (.invokestatic 72, 3) := by decide +kernel
theorem dX10_feed_6 : decode cX10_feed 6 = .ok (.ifCond .ne 10, 3) := by decide +kernel
theorem dX10_feed_9 : decode cX10_feed 9 = .ok (.aload_n 0, 1) := by decide +kernel
theorem dX10_feed_10 : decode cX10_feed 10 = .ok (.bipush (-2), 2) := by decide +kernel
theorem dX10_feed_12 : decode cX10_feed 12 = .ok (.invokevirtual 76, 3) := by decide +kernel
theorem dX10_feed_15 : decode cX10_feed 15 = .ok (.ireturn, 1) := by decide +kernel
theorem dX10_feed_16 : decode cX10_feed 16 = .ok (.iload_n 2, 1) := by decide +kernel
theorem dX10_feed_17 : decode cX10_feed 17 = .ok (.sipush 160, 3) := by decide +kernel
theorem dX10_feed_20 : decode cX10_feed 20 = .ok (.aload_n 0, 1) := by decide +kernel
theorem dX10_feed_21 : decode cX10_feed 21 = .ok (.getfield 18, 3) := by decide +kernel
theorem dX10_feed_24 : decode cX10_feed 24 = .ok (.getfield 205, 3) := by decide +kernel
theorem dX10_feed_27 : decode cX10_feed 27 = .ok (.isub, 1) := by decide +kernel
theorem dX10_feed_28 : decode cX10_feed 28 = .ok (.if_icmp .le 10, 3) := by decide +kernel
theorem dX10_feed_31 : decode cX10_feed 31 = .ok (.aload_n 0, 1) := by decide +kernel
theorem dX10_feed_32 : decode cX10_feed 32 = .ok (.bipush (-6), 2) := by decide +kernel
theorem dX10_feed_34 : decode cX10_feed 34 = .ok (.invokevirtual 76, 3) := by decide +kernel
theorem dX10_feed_37 : decode cX10_feed 37 = .ok (.ireturn, 1) := by decide +kernel
theorem dX10_feed_38 : decode cX10_feed 38 = .ok (.aload_n 0, 1) := by decide +kernel
theorem dX10_feed_39 : decode cX10_feed 39 = .ok (.getfield 18, 3) := by decide +kernel
theorem dX10_feed_42 : decode cX10_feed 42 = .ok (.iload_n 1, 1) := by decide +kernel
theorem dX10_feed_43 : decode cX10_feed 43 = .ok (.iload_n 2, 1) := by decide +kernel
theorem dX10_feed_44 : decode cX10_feed 44 = .ok (.invokevirtual 206, 3) := by decide +kernel
theorem dX10_feed_47 : decode cX10_feed 47 = .ok (.aload_n 0, 1) := by decide +kernel
theorem dX10_feed_48 : decode cX10_feed 48 = .ok (.getfield 18, 3) := by decide +kernel
theorem dX10_feed_51 : decode cX10_feed 51 = .ok (.getfield 205, 3) := by decide +kernel
theorem dX10_feed_54 : decode cX10_feed 54 = .ok (.ireturn, 1) := by decide +kernel
theorem dX10_wipe_0 : decode cX10_wipe 0 = .ok (.aload_n 0, 1) := by decide +kernel
theorem dX10_wipe_1 : decode cX10_wipe 1 = .ok (.getfield 18, 3) := by decide +kernel
theorem dX10_wipe_4 : decode cX10_wipe 4 = .ok (.getfield 205, 3) := by decide +kernel
theorem dX10_wipe_7 : decode cX10_wipe 7 = .ok (.istore_n 1, 1) := by decide +kernel
theorem dX10_wipe_8 : decode cX10_wipe 8 = .ok (.aload_n 0, 1) := by decide +kernel
theorem dX10_wipe_9 : decode cX10_wipe 9 = .ok (.getfield 18, 3) := by decide +kernel
theorem dX10_wipe_12 : decode cX10_wipe 12 = .ok (.iconst 0, 1) := by decide +kernel
theorem dX10_wipe_13 : decode cX10_wipe 13 = .ok (.putfield 205, 3) := by decide +kernel
theorem dX10_wipe_16 : decode cX10_wipe 16 = .ok (.iload_n 1, 1) := by decide +kernel
theorem dX10_wipe_17 : decode cX10_wipe 17 = .ok (.ireturn, 1) := by decide +kernel
theorem dX10_law_0 : decode cX10_law 0 = .ok (.aload_n 0, 1) := by decide +kernel
theorem dX10_law_1 : decode cX10_law 1 = .ok (.getfield 25, 3) := by decide +kernel
theorem dX10_law_4 : decode cX10_law 4 = .ok (.getfield 209, 3) := by decide +kernel
theorem dX10_law_7 : decode cX10_law 7 = .ok (.bipush 6, 2) := by decide +kernel
theorem dX10_law_9 : decode cX10_law 9 = .ok (.if_icmp .lt 10, 3) := by decide +kernel
theorem dX10_law_12 : decode cX10_law 12 = .ok (.aload_n 0, 1) := by decide +kernel
theorem dX10_law_13 : decode cX10_law 13 = .ok (.bipush (-6), 2) := by decide +kernel
theorem dX10_law_15 : decode cX10_law 15 = .ok (.invokevirtual 76, 3) := by decide +kernel
theorem dX10_law_18 : decode cX10_law 18 = .ok (.ireturn, 1) := by decide +kernel
theorem dX10_law_19 : decode cX10_law 19 = .ok (.aload_n 0, 1) := by decide +kernel
theorem dX10_law_20 : decode cX10_law 20 = .ok (.getfield 18, 3) := by decide +kernel
theorem dX10_law_23 : decode cX10_law 23 = .ok (.aload_n 0, 1) := by decide +kernel
theorem dX10_law_24 : decode cX10_law 24 = .ok (.getfield 25, 3) := by decide +kernel
theorem dX10_law_27 : decode cX10_law 27 = .ok (.getfield 212, 3) := by decide +kernel
theorem dX10_law_30 : decode cX10_law 30 = .ok (.aload_n 0, 1) := by decide +kernel
theorem dX10_law_31 : decode cX10_law 31 = .ok (.getfield 25, 3) := by decide +kernel
theorem dX10_law_34 : decode cX10_law 34 = .ok (.getfield 209, 3) := by decide +kernel
theorem dX10_law_37 : decode cX10_law 37 = .ok (.aaload, 1) := by decide +kernel
theorem dX10_law_38 : decode cX10_law 38 = .ok (.invokevirtual 216, 3) := by decide +kernel
theorem dX10_law_41 : decode cX10_law 41 = .ok (.istore_n 1, 1) := by decide +kernel
theorem dX10_law_42 : decode cX10_law 42 = .ok (.aload_n 0, 1) := by decide +kernel
theorem dX10_law_43 : decode cX10_law 43 = .ok (.getfield 18, 3) := by decide +kernel
theorem dX10_law_46 : decode cX10_law 46 = .ok (.iconst 0, 1) := by decide +kernel
theorem dX10_law_47 : decode cX10_law 47 = .ok (.putfield 205, 3) := by decide +kernel
theorem dX10_law_50 : decode cX10_law 50 = .ok (.iload_n 1, 1) := by decide +kernel
theorem dX10_law_51 : decode cX10_law 51 = .ok (.iconst (-1), 1) := by decide +kernel
theorem dX10_law_52 : decode cX10_law 52 = .ok (.if_icmp .eq 15, 3) := by decide +kernel
theorem dX10_law_55 : decode cX10_law 55 = .ok (.aload_n 0, 1) := by decide +kernel
theorem dX10_law_56 : decode cX10_law 56 = .ok (.bipush (-2), 2) := by decide +kernel
theorem dX10_law_58 : decode cX10_law 58 = .ok (.invokevirtual 76, 3) := by decide +kernel
theorem dX10_law_61 : decode cX10_law 61 = .ok (.pop, 1) := by decide +kernel
theorem dX10_law_62 : decode cX10_law 62 = .ok (.bipush (-20), 2) := by decide +kernel
theorem dX10_law_64 : decode cX10_law 64 = .ok (.iload_n 1, 1) := by decide +kernel
theorem dX10_law_65 : decode cX10_law 65 = .ok (.isub, 1) := by decide +kernel
theorem dX10_law_66 : decode cX10_law 66 = .ok (.ireturn, 1) := by decide +kernel
theorem dX10_law_67 : decode cX10_law 67 = .ok (.aload_n 0, 1) := by decide +kernel
theorem dX10_law_68 : decode cX10_law 68 = .ok (.getfield 25, 3) := by decide +kernel
theorem dX10_law_71 : decode cX10_law 71 = .ok (.dup, 1) := by decide +kernel
theorem dX10_law_72 : decode cX10_law 72 = .ok (.getfield 209, 3) := by decide +kernel
theorem dX10_law_75 : decode cX10_law 75 = .ok (.iconst 1, 1) := by decide +kernel
theorem dX10_law_76 : decode cX10_law 76 = .ok (.iadd, 1) := by decide +kernel
theorem dX10_law_77 : decode cX10_law 77 = .ok (.putfield 209, 3) := by decide +kernel
theorem dX10_law_80 : decode cX10_law 80 = .ok (.aload_n 0, 1) := by decide +kernel
theorem dX10_law_81 : decode cX10_law 81 = .ok (.getfield 25, 3) := by decide +kernel
theorem dX10_law_84 : decode cX10_law 84 = .ok (.getfield 209, 3) := by decide +kernel
theorem dX10_law_87 : decode cX10_law 87 = .ok (.iconst 1, 1) := by decide +kernel
theorem dX10_law_88 : decode cX10_law 88 = .ok (.isub, 1) := by decide +kernel
theorem dX10_law_89 : decode cX10_law 89 = .ok (.ireturn, 1) := by decide +kernel
theorem dX10_lawOf_0 : decode cX10_lawOf 0 = .ok (.aload_n 0, 1) := by decide +kernel
theorem dX10_lawOf_1 : decode cX10_lawOf 1 = .ok (.iload_n 1, 1) := by decide +kernel
theorem dX10_lawOf_2 : decode cX10_lawOf 2 = .ok (.invokevirtual 220, 3) := by decide +kernel
theorem dX10_lawOf_5 : decode cX10_lawOf 5 = .ok (.ifCond .eq 12, 3) := by decide +kernel
theorem dX10_lawOf_8 : decode cX10_lawOf 8 = .ok (.iload_n 2, 1) := by decide +kernel
theorem dX10_lawOf_9 : decode cX10_lawOf 9 = .ok (.bipush 9, 2) := by decide +kernel
theorem dX10_lawOf_11 : decode cX10_lawOf 11 = .ok (.invokestatic 68, 3) := by decide +kernel
theorem dX10_lawOf_14 : decode cX10_lawOf 14 = .ok (.ifCond .ne 10, 3) := by decide +kernel
theorem dX10_lawOf_17 : decode cX10_lawOf 17 = .ok (.aload_n 0, 1) := by decide +kernel
theorem dX10_lawOf_18 : decode cX10_lawOf 18 = .ok (.bipush (-2), 2) := by decide +kernel
theorem dX10_lawOf_20 : decode cX10_lawOf 20 = .ok (.invokevirtual 76, 3) := by decide +kernel
theorem dX10_lawOf_23 : decode cX10_lawOf 23 = .ok (.ireturn, 1) := by decide +kernel
theorem dX10_lawOf_24 : decode cX10_lawOf 24 = .ok (.aload_n 0, 1) := by decide +kernel
theorem dX10_lawOf_25 : decode cX10_lawOf 25 = .ok (.getfield 25, 3) := by decide +kernel
theorem dX10_lawOf_28 : decode cX10_lawOf 28 = .ok (.getfield 212, 3) := by decide +kernel
theorem dX10_lawOf_31 : decode cX10_lawOf 31 = .ok (.iload_n 1, 1) := by decide +kernel
theorem dX10_lawOf_32 : decode cX10_lawOf 32 = .ok (.aaload, 1) := by decide +kernel
theorem dX10_lawOf_33 : decode cX10_lawOf 33 = .ok (.getfield 223, 3) := by decide +kernel
theorem dX10_lawOf_36 : decode cX10_lawOf 36 = .ok (.iload_n 2, 1) := by decide +kernel
theorem dX10_lawOf_37 : decode cX10_lawOf 37 = .ok (.iaload, 1) := by decide +kernel
theorem dX10_lawOf_38 : decode cX10_lawOf 38 = .ok (.ireturn, 1) := by decide +kernel
theorem dX10_force_0 : decode cX10_force 0 = .ok (.iload_n 1, 1) := by decide +kernel
theorem dX10_force_1 : decode cX10_force 1 = .ok (.iconst (-1), 1) := by decide +kernel
theorem dX10_force_2 : decode cX10_force 2 = .ok (.if_icmp .eq 18, 3) := by decide +kernel
theorem dX10_force_5 : decode cX10_force 5 = .ok (.aload_n 0, 1) := by decide +kernel
theorem dX10_force_6 : decode cX10_force 6 = .ok (.iload_n 1, 1) := by decide +kernel
theorem dX10_force_7 : decode cX10_force 7 = .ok (.invokevirtual 220, 3) := by decide +kernel
theorem dX10_force_10 : decode cX10_force 10 = .ok (.ifCond .ne 10, 3) := by decide +kernel
theorem dX10_force_13 : decode cX10_force 13 = .ok (.aload_n 0, 1) := by decide +kernel
theorem dX10_force_14 : decode cX10_force 14 = .ok (.bipush (-2), 2) := by decide +kernel
theorem dX10_force_16 : decode cX10_force 16 = .ok (.invokevirtual 76, 3) := by decide +kernel
theorem dX10_force_19 : decode cX10_force 19 = .ok (.ireturn, 1) := by decide +kernel
theorem dX10_force_20 : decode cX10_force 20 = .ok (.aload_n 0, 1) := by decide +kernel
theorem dX10_force_21 : decode cX10_force 21 = .ok (.getfield 25, 3) := by decide +kernel
theorem dX10_force_24 : decode cX10_force 24 = .ok (.getfield 228, 3) := by decide +kernel
theorem dX10_force_27 : decode cX10_force 27 = .ok (.istore_n 2, 1) := by decide +kernel
theorem dX10_force_28 : decode cX10_force 28 = .ok (.aload_n 0, 1) := by decide +kernel
theorem dX10_force_29 : decode cX10_force 29 = .ok (.getfield 25, 3) := by decide +kernel
theorem dX10_force_32 : decode cX10_force 32 = .ok (.iload_n 1, 1) := by decide +kernel
theorem dX10_force_33 : decode cX10_force 33 = .ok (.putfield 228, 3) := by decide +kernel
theorem dX10_force_36 : decode cX10_force 36 = .ok (.iload_n 2, 1) := by decide +kernel
theorem dX10_force_37 : decode cX10_force 37 = .ok (.ireturn, 1) := by decide +kernel
theorem dX10_leaper_0 : decode cX10_leaper 0 = .ok (.iload_n 1, 1) := by decide +kernel
theorem dX10_leaper_1 : decode cX10_leaper 1 = .ok (.iconst 0, 1) := by decide +kernel
theorem dX10_leaper_2 : decode cX10_leaper 2 = .ok (.bipush 99, 2) := by decide +kernel
theorem dX10_leaper_4 : decode cX10_leaper 4 = .ok (.invokestatic 72, 3) := by decide +kernel
theorem dX10_leaper_7 : decode cX10_leaper 7 = .ok (.ifCond .ne 10, 3) := by decide +kernel
theorem dX10_leaper_10 : decode cX10_leaper 10 = .ok (.aload_n 0, 1) := by decide +kernel
theorem dX10_leaper_11 : decode cX10_leaper 11 = .ok (.bipush (-2), 2) := by decide +kernel
theorem dX10_leaper_13 : decode cX10_leaper 13 = .ok (.invokevirtual 76, 3) := by decide +kernel
theorem dX10_leaper_16 : decode cX10_leaper 16 = .ok (.ireturn, 1) := by decide +kernel
theorem dX10_leaper_17 : decode cX10_leaper 17 = .ok (.aload_n 0, 1) := by decide +kernel
theorem dX10_leaper_18 : decode cX10_leaper 18 = .ok (.getfield 25, 3) := by decide +kernel
theorem dX10_leaper_21 : decode cX10_leaper 21 = .ok (.getfield 231, 3) := by decide +kernel
theorem dX10_leaper_24 : decode cX10_leaper 24 = .ok (.bipush 6, 2) := by decide +kernel
theorem dX10_leaper_26 : decode cX10_leaper 26 = .ok (.if_icmp .lt 10, 3) := by decide +kernel
theorem dX10_leaper_29 : decode cX10_leaper 29 = .ok (.aload_n 0, 1) := by decide +kernel
theorem dX10_leaper_30 : decode cX10_leaper 30 = .ok (.bipush (-6), 2) := by decide +kernel
theorem dX10_leaper_32 : decode cX10_leaper 32 = .ok (.invokevirtual 76, 3) := by decide +kernel
theorem dX10_leaper_35 : decode cX10_leaper 35 = .ok (.ireturn, 1) := by decide +kernel
theorem dX10_leaper_36 : decode cX10_leaper 36 = .ok (.aload_n 0, 1) := by decide +kernel
theorem dX10_leaper_37 : decode cX10_leaper 37 = .ok (.getfield 25, 3) := by decide +kernel
theorem dX10_leaper_40 : decode cX10_leaper 40 = .ok (.getfield 234, 3) := by decide +kernel
theorem dX10_leaper_43 : decode cX10_leaper 43 = .ok (.aload_n 0, 1) := by decide +kernel
theorem dX10_leaper_44 : decode cX10_leaper 44 = .ok (.getfield 25, 3) := by decide +kernel
theorem dX10_leaper_47 : decode cX10_leaper 47 = .ok (.getfield 231, 3) := by decide +kernel
theorem dX10_leaper_50 : decode cX10_leaper 50 = .ok (.aaload, 1) := by decide +kernel
theorem dX10_leaper_51 : decode cX10_leaper 51 = .ok (.iload_n 1, 1) := by decide +kernel
theorem dX10_leaper_52 : decode cX10_leaper 52 = .ok (.invokevirtual 238, 3) := by decide +kernel
theorem dX10_leaper_55 : decode cX10_leaper 55 = .ok (.aload_n 0, 1) := by decide +kernel
theorem dX10_leaper_56 : decode cX10_leaper 56 = .ok (.getfield 25, 3) := by decide +kernel
theorem dX10_leaper_59 : decode cX10_leaper 59 = .ok (.dup, 1) := by decide +kernel
theorem dX10_leaper_60 : decode cX10_leaper 60 = .ok (.getfield 231, 3) := by decide +kernel
theorem dX10_leaper_63 : decode cX10_leaper 63 = .ok (.iconst 1, 1) := by decide +kernel
theorem dX10_leaper_64 : decode cX10_leaper 64 = .ok (.iadd, 1) := by decide +kernel
theorem dX10_leaper_65 : decode cX10_leaper 65 = .ok (.putfield 231, 3) := by decide +kernel
theorem dX10_leaper_68 : decode cX10_leaper 68 = .ok (.aload_n 0, 1) := by decide +kernel
theorem dX10_leaper_69 : decode cX10_leaper 69 = .ok (.getfield 25, 3) := by decide +kernel
theorem dX10_leaper_72 : decode cX10_leaper 72 = .ok (.getfield 231, 3) := by decide +kernel
theorem dX10_leaper_75 : decode cX10_leaper 75 = .ok (.iconst 1, 1) := by decide +kernel
theorem dX10_leaper_76 : decode cX10_leaper 76 = .ok (.isub, 1) := by decide +kernel
theorem dX10_leaper_77 : decode cX10_leaper 77 = .ok (.ireturn, 1) := by decide +kernel
theorem dX10_leaperOf_0 : decode cX10_leaperOf 0 = .ok (.aload_n 0, 1) := by decide +kernel
theorem dX10_leaperOf_1 : decode cX10_leaperOf 1 = .ok (.iload_n 1, 1) := by decide +kernel
theorem dX10_leaperOf_2 : decode cX10_leaperOf 2 = .ok (.invokevirtual 243, 3) := by decide +kernel
theorem dX10_leaperOf_5 : decode cX10_leaperOf 5 = .ok (.ifCond .ne 10, 3) := by decide +kernel
theorem dX10_leaperOf_8 : decode cX10_leaperOf 8 = .ok (.aload_n 0, 1) := by decide +kernel
theorem dX10_leaperOf_9 : decode cX10_leaperOf 9 = .ok (.bipush (-2), 2) := by decide +kernel
theorem dX10_leaperOf_11 : decode cX10_leaperOf 11 = .ok (.invokevirtual 76, 3) := by decide +kernel
theorem dX10_leaperOf_14 : decode cX10_leaperOf 14 = .ok (.ireturn, 1) := by decide +kernel
theorem dX10_leaperOf_15 : decode cX10_leaperOf 15 = .ok (.iload_n 2, 1) := by decide +kernel
theorem dX10_leaperOf_16 : decode cX10_leaperOf 16 = .ok (.tableswitch 67 0 2 #[28, 41, 54], 28) := by decide +kernel
theorem dX10_leaperOf_44 : decode cX10_leaperOf 44 = .ok (.aload_n 0, 1) := by decide +kernel
theorem dX10_leaperOf_45 : decode cX10_leaperOf 45 = .ok (.getfield 25, 3) := by decide +kernel
theorem dX10_leaperOf_48 : decode cX10_leaperOf 48 = .ok (.getfield 234, 3) := by decide +kernel
theorem dX10_leaperOf_51 : decode cX10_leaperOf 51 = .ok (.iload_n 1, 1) := by decide +kernel
theorem dX10_leaperOf_52 : decode cX10_leaperOf 52 = .ok (.aaload, 1) := by decide +kernel
theorem dX10_leaperOf_53 : decode cX10_leaperOf 53 = .ok (.getfield 246, 3) := by decide +kernel
theorem dX10_leaperOf_56 : decode cX10_leaperOf 56 = .ok (.ireturn, 1) := by decide +kernel
theorem dX10_leaperOf_57 : decode cX10_leaperOf 57 = .ok (.aload_n 0, 1) := by decide +kernel
theorem dX10_leaperOf_58 : decode cX10_leaperOf 58 = .ok (.getfield 25, 3) := by decide +kernel
theorem dX10_leaperOf_61 : decode cX10_leaperOf 61 = .ok (.getfield 234, 3) := by decide +kernel
theorem dX10_leaperOf_64 : decode cX10_leaperOf 64 = .ok (.iload_n 1, 1) := by decide +kernel
theorem dX10_leaperOf_65 : decode cX10_leaperOf 65 = .ok (.aaload, 1) := by decide +kernel
theorem dX10_leaperOf_66 : decode cX10_leaperOf 66 = .ok (.getfield 249, 3) := by decide +kernel
theorem dX10_leaperOf_69 : decode cX10_leaperOf 69 = .ok (.ireturn, 1) := by decide +kernel
theorem dX10_leaperOf_70 : decode cX10_leaperOf 70 = .ok (.aload_n 0, 1) := by decide +kernel
theorem dX10_leaperOf_71 : decode cX10_leaperOf 71 = .ok (.getfield 25, 3) := by decide +kernel
theorem dX10_leaperOf_74 : decode cX10_leaperOf 74 = .ok (.getfield 234, 3) := by decide +kernel
theorem dX10_leaperOf_77 : decode cX10_leaperOf 77 = .ok (.iload_n 1, 1) := by decide +kernel
theorem dX10_leaperOf_78 : decode cX10_leaperOf 78 = .ok (.aaload, 1) := by decide +kernel
theorem dX10_leaperOf_79 : decode cX10_leaperOf 79 = .ok (.getfield 252, 3) := by decide +kernel
theorem dX10_leaperOf_82 : decode cX10_leaperOf 82 = .ok (.ireturn, 1) := by decide +kernel
theorem dX10_leaperOf_83 : decode cX10_leaperOf 83 = .ok (.aload_n 0, 1) := by decide +kernel
theorem dX10_leaperOf_84 : decode cX10_leaperOf 84 = .ok (.bipush (-2), 2) := by decide +kernel
theorem dX10_leaperOf_86 : decode cX10_leaperOf 86 = .ok (.invokevirtual 76, 3) := by decide +kernel
theorem dX10_leaperOf_89 : decode cX10_leaperOf 89 = .ok (.ireturn, 1) := by decide +kernel
theorem dX10_tried_0 : decode cX10_tried 0 = .ok (.aload_n 0, 1) := by decide +kernel
theorem dX10_tried_1 : decode cX10_tried 1 = .ok (.iload_n 1, 1) := by decide +kernel
theorem dX10_tried_2 : decode cX10_tried 2 = .ok (.invokevirtual 243, 3) := by decide +kernel
theorem dX10_tried_5 : decode cX10_tried 5 = .ok (.ifCond .eq 22, 3) := by decide +kernel
theorem dX10_tried_8 : decode cX10_tried 8 = .ok (.iload_n 2, 1) := by decide +kernel
theorem dX10_tried_9 : decode cX10_tried 9 = .ok (.iconst 1, 1) := by decide +kernel
theorem dX10_tried_10 : decode cX10_tried 10 = .ok (.bipush 99, 2) := by decide +kernel
theorem dX10_tried_12 : decode cX10_tried 12 = .ok (.invokestatic 72, 3) := by decide +kernel
theorem dX10_tried_15 : decode cX10_tried 15 = .ok (.ifCond .eq 12, 3) := by decide +kernel
theorem dX10_tried_18 : decode cX10_tried 18 = .ok (.iload_n 3, 1) := by decide +kernel
theorem dX10_tried_19 : decode cX10_tried 19 = .ok (.iconst 0, 1) := by decide +kernel
theorem dX10_tried_20 : decode cX10_tried 20 = .ok (.iload_n 2, 1) := by decide +kernel
theorem dX10_tried_21 : decode cX10_tried 21 = .ok (.invokestatic 72, 3) := by decide +kernel
theorem dX10_tried_24 : decode cX10_tried 24 = .ok (.ifCond .ne 10, 3) := by decide +kernel
theorem dX10_tried_27 : decode cX10_tried 27 = .ok (.aload_n 0, 1) := by decide +kernel
theorem dX10_tried_28 : decode cX10_tried 28 = .ok (.bipush (-2), 2) := by decide +kernel
theorem dX10_tried_30 : decode cX10_tried 30 = .ok (.invokevirtual 76, 3) := by decide +kernel
theorem dX10_tried_33 : decode cX10_tried 33 = .ok (.ireturn, 1) := by decide +kernel
theorem dX10_tried_34 : decode cX10_tried 34 = .ok (.aload_n 0, 1) := by decide +kernel
theorem dX10_tried_35 : decode cX10_tried 35 = .ok (.getfield 25, 3) := by decide +kernel
theorem dX10_tried_38 : decode cX10_tried 38 = .ok (.getfield 234, 3) := by decide +kernel
theorem dX10_tried_41 : decode cX10_tried 41 = .ok (.iload_n 1, 1) := by decide +kernel
theorem dX10_tried_42 : decode cX10_tried 42 = .ok (.aaload, 1) := by decide +kernel
theorem dX10_tried_43 : decode cX10_tried 43 = .ok (.iload_n 2, 1) := by decide +kernel
theorem dX10_tried_44 : decode cX10_tried 44 = .ok (.iload_n 3, 1) := by decide +kernel
theorem dX10_tried_45 : decode cX10_tried 45 = .ok (.invokevirtual 255, 3) := by decide +kernel
theorem dX10_tried_48 : decode cX10_tried 48 = .ok (.aload_n 0, 1) := by decide +kernel
theorem dX10_tried_49 : decode cX10_tried 49 = .ok (.getfield 25, 3) := by decide +kernel
theorem dX10_tried_52 : decode cX10_tried 52 = .ok (.getfield 234, 3) := by decide +kernel
theorem dX10_tried_55 : decode cX10_tried 55 = .ok (.iload_n 1, 1) := by decide +kernel
theorem dX10_tried_56 : decode cX10_tried 56 = .ok (.aaload, 1) := by decide +kernel
theorem dX10_tried_57 : decode cX10_tried 57 = .ok (.getfield 249, 3) := by decide +kernel
theorem dX10_tried_60 : decode cX10_tried 60 = .ok (.ireturn, 1) := by decide +kernel
theorem dX10_learnt_0 : decode cX10_learnt 0 = .ok (.aload_n 0, 1) := by decide +kernel
theorem dX10_learnt_1 : decode cX10_learnt 1 = .ok (.iload_n 1, 1) := by decide +kernel
theorem dX10_learnt_2 : decode cX10_learnt 2 = .ok (.invokevirtual 243, 3) := by decide +kernel
theorem dX10_learnt_5 : decode cX10_learnt 5 = .ok (.ifCond .eq 18, 3) := by decide +kernel
theorem dX10_learnt_8 : decode cX10_learnt 8 = .ok (.aload_n 0, 1) := by decide +kernel
theorem dX10_learnt_9 : decode cX10_learnt 9 = .ok (.getfield 25, 3) := by decide +kernel
theorem dX10_learnt_12 : decode cX10_learnt 12 = .ok (.getfield 234, 3) := by decide +kernel
theorem dX10_learnt_15 : decode cX10_learnt 15 = .ok (.iload_n 1, 1) := by decide +kernel
theorem dX10_learnt_16 : decode cX10_learnt 16 = .ok (.aaload, 1) := by decide +kernel
theorem dX10_learnt_17 : decode cX10_learnt 17 = .ok (.invokevirtual 258, 3) := by decide +kernel
theorem dX10_learnt_20 : decode cX10_learnt 20 = .ok (.goto 9, 3) := by decide +kernel
theorem dX10_learnt_23 : decode cX10_learnt 23 = .ok (.aload_n 0, 1) := by decide +kernel
theorem dX10_learnt_24 : decode cX10_learnt 24 = .ok (.bipush (-2), 2) := by decide +kernel
theorem dX10_learnt_26 : decode cX10_learnt 26 = .ok (.invokevirtual 76, 3) := by decide +kernel
theorem dX10_learnt_29 : decode cX10_learnt 29 = .ok (.ireturn, 1) := by decide +kernel
theorem dX10_learn_0 : decode cX10_learn 0 = .ok (.aload_n 0, 1) := by decide +kernel
theorem dX10_learn_1 : decode cX10_learn 1 = .ok (.iload_n 1, 1) := by decide +kernel
theorem dX10_learn_2 : decode cX10_learn 2 = .ok (.invokevirtual 243, 3) := by decide +kernel
theorem dX10_learn_5 : decode cX10_learn 5 = .ok (.ifCond .ne 10, 3) := by decide +kernel
theorem dX10_learn_8 : decode cX10_learn 8 = .ok (.aload_n 0, 1) := by decide +kernel
theorem dX10_learn_9 : decode cX10_learn 9 = .ok (.bipush (-2), 2) := by decide +kernel
theorem dX10_learn_11 : decode cX10_learn 11 = .ok (.invokevirtual 76, 3) := by decide +kernel
theorem dX10_learn_14 : decode cX10_learn 14 = .ok (.ireturn, 1) := by decide +kernel
theorem dX10_learn_15 : decode cX10_learn 15 = .ok (.aload_n 0, 1) := by decide +kernel
theorem dX10_learn_16 : decode cX10_learn 16 = .ok (.getfield 25, 3) := by decide +kernel
theorem dX10_learn_19 : decode cX10_learn 19 = .ok (.getfield 234, 3) := by decide +kernel
theorem dX10_learn_22 : decode cX10_learn 22 = .ok (.iload_n 1, 1) := by decide +kernel
theorem dX10_learn_23 : decode cX10_learn 23 = .ok (.aaload, 1) := by decide +kernel
theorem dX10_learn_24 : decode cX10_learn 24 = .ok (.astore_n 2, 1) := by decide +kernel
theorem dX10_learn_25 : decode cX10_learn 25 = .ok (.aload_n 2, 1) := by decide +kernel
theorem dX10_learn_26 : decode cX10_learn 26 = .ok (.getfield 246, 3) := by decide +kernel
theorem dX10_learn_29 : decode cX10_learn 29 = .ok (.istore_n 3, 1) := by decide +kernel
theorem dX10_learn_30 : decode cX10_learn 30 = .ok (.aload_n 2, 1) := by decide +kernel
theorem dX10_learn_31 : decode cX10_learn 31 = .ok (.aload_n 2, 1) := by decide +kernel
theorem dX10_learn_32 : decode cX10_learn 32 = .ok (.invokevirtual 258, 3) := by decide +kernel
theorem dX10_learn_35 : decode cX10_learn 35 = .ok (.putfield 246, 3) := by decide +kernel
theorem dX10_learn_38 : decode cX10_learn 38 = .ok (.iload_n 3, 1) := by decide +kernel
theorem dX10_learn_39 : decode cX10_learn 39 = .ok (.ireturn, 1) := by decide +kernel
theorem dX10_risk_0 : decode cX10_risk 0 = .ok (.aload_n 0, 1) := by decide +kernel
theorem dX10_risk_1 : decode cX10_risk 1 = .ok (.iload_n 1, 1) := by decide +kernel
theorem dX10_risk_2 : decode cX10_risk 2 = .ok (.invokevirtual 243, 3) := by decide +kernel
theorem dX10_risk_5 : decode cX10_risk 5 = .ok (.ifCond .eq 18, 3) := by decide +kernel
theorem dX10_risk_8 : decode cX10_risk 8 = .ok (.aload_n 0, 1) := by decide +kernel
theorem dX10_risk_9 : decode cX10_risk 9 = .ok (.iload_n 2, 1) := by decide +kernel
theorem dX10_risk_10 : decode cX10_risk 10 = .ok (.invokevirtual 119, 3) := by decide +kernel
theorem dX10_risk_13 : decode cX10_risk 13 = .ok (.ifCond .eq 10, 3) := by decide +kernel
theorem dX10_risk_16 : decode cX10_risk 16 = .ok (.iload_n 3, 1) := by decide +kernel
theorem dX10_risk_17 : decode cX10_risk 17 = .ok (.invokestatic 192, 3) := by decide +kernel
theorem dX10_risk_20 : decode cX10_risk 20 = .ok (.ifCond .ne 10, 3) := by decide +kernel
theorem dX10_risk_23 : decode cX10_risk 23 = .ok (.aload_n 0, 1) := by decide +kernel
theorem dX10_risk_24 : decode cX10_risk 24 = .ok (.bipush (-2), 2) := by decide +kernel
theorem dX10_risk_26 : decode cX10_risk 26 = .ok (.invokevirtual 76, 3) := by decide +kernel
theorem dX10_risk_29 : decode cX10_risk 29 = .ok (.ireturn, 1) := by decide +kernel
theorem dX10_risk_30 : decode cX10_risk 30 = .ok (.aload_n 0, 1) := by decide +kernel
theorem dX10_risk_31 : decode cX10_risk 31 = .ok (.getfield 25, 3) := by decide +kernel
theorem dX10_risk_34 : decode cX10_risk 34 = .ok (.iload_n 1, 1) := by decide +kernel
theorem dX10_risk_35 : decode cX10_risk 35 = .ok (.iload_n 2, 1) := by decide +kernel
theorem dX10_risk_36 : decode cX10_risk 36 = .ok (.iload_n 3, 1) := by decide +kernel
theorem dX10_risk_37 : decode cX10_risk 37 = .ok (.invokevirtual 261, 3) := by decide +kernel
theorem dX10_risk_40 : decode cX10_risk 40 = .ok (.ireturn, 1) := by decide +kernel
theorem dX10_calm_0 : decode cX10_calm 0 = .ok (.aload_n 0, 1) := by decide +kernel
theorem dX10_calm_1 : decode cX10_calm 1 = .ok (.iload_n 1, 1) := by decide +kernel
theorem dX10_calm_2 : decode cX10_calm 2 = .ok (.invokevirtual 243, 3) := by decide +kernel
theorem dX10_calm_5 : decode cX10_calm 5 = .ok (.ifCond .eq 11, 3) := by decide +kernel
theorem dX10_calm_8 : decode cX10_calm 8 = .ok (.aload_n 0, 1) := by decide +kernel
theorem dX10_calm_9 : decode cX10_calm 9 = .ok (.iload_n 2, 1) := by decide +kernel
theorem dX10_calm_10 : decode cX10_calm 10 = .ok (.invokevirtual 119, 3) := by decide +kernel
theorem dX10_calm_13 : decode cX10_calm 13 = .ok (.ifCond .ne 10, 3) := by decide +kernel
theorem dX10_calm_16 : decode cX10_calm 16 = .ok (.aload_n 0, 1) := by decide +kernel
theorem dX10_calm_17 : decode cX10_calm 17 = .ok (.bipush (-2), 2) := by decide +kernel
theorem dX10_calm_19 : decode cX10_calm 19 = .ok (.invokevirtual 76, 3) := by decide +kernel
theorem dX10_calm_22 : decode cX10_calm 22 = .ok (.ireturn, 1) := by decide +kernel
theorem dX10_calm_23 : decode cX10_calm 23 = .ok (.iconst 0, 1) := by decide +kernel
theorem dX10_calm_24 : decode cX10_calm 24 = .ok (.istore_n 3, 1) := by decide +kernel
theorem dX10_calm_25 : decode cX10_calm 25 = .ok (.aload_n 0, 1) := by decide +kernel
theorem dX10_calm_26 : decode cX10_calm 26 = .ok (.getfield 25, 3) := by decide +kernel
theorem dX10_calm_29 : decode cX10_calm 29 = .ok (.iload_n 1, 1) := by decide +kernel
theorem dX10_calm_30 : decode cX10_calm 30 = .ok (.iload_n 2, 1) := by decide +kernel
theorem dX10_calm_31 : decode cX10_calm 31 = .ok (.iconst 0, 1) := by decide +kernel
theorem dX10_calm_32 : decode cX10_calm 32 = .ok (.invokevirtual 261, 3) := by decide +kernel
theorem dX10_calm_35 : decode cX10_calm 35 = .ok (.istore 4, 2) := by decide +kernel
theorem dX10_calm_37 : decode cX10_calm 37 = .ok (.iconst 1, 1) := by decide +kernel
theorem dX10_calm_38 : decode cX10_calm 38 = .ok (.istore 5, 2) := by decide +kernel
theorem dX10_calm_40 : decode cX10_calm 40 = .ok (.iload 5, 2) := by decide +kernel
theorem dX10_calm_42 : decode cX10_calm 42 = .ok (.bipush 12, 2) := by decide +kernel
theorem dX10_calm_44 : decode cX10_calm 44 = .ok (.if_icmp .ge 36, 3) := by decide +kernel
theorem dX10_calm_47 : decode cX10_calm 47 = .ok (.aload_n 0, 1) := by decide +kernel
theorem dX10_calm_48 : decode cX10_calm 48 = .ok (.getfield 25, 3) := by decide +kernel
theorem dX10_calm_51 : decode cX10_calm 51 = .ok (.iload_n 1, 1) := by decide +kernel
theorem dX10_calm_52 : decode cX10_calm 52 = .ok (.iload_n 2, 1) := by decide +kernel
theorem dX10_calm_53 : decode cX10_calm 53 = .ok (.iload 5, 2) := by decide +kernel
theorem dX10_calm_55 : decode cX10_calm 55 = .ok (.invokevirtual 261, 3) := by decide +kernel
theorem dX10_calm_58 : decode cX10_calm 58 = .ok (.istore 6, 2) := by decide +kernel
theorem dX10_calm_60 : decode cX10_calm 60 = .ok (.iload 6, 2) := by decide +kernel
theorem dX10_calm_62 : decode cX10_calm 62 = .ok (.iload 4, 2) := by decide +kernel
theorem dX10_calm_64 : decode cX10_calm 64 = .ok (.if_icmp .ge 10, 3) := by decide +kernel
theorem dX10_calm_67 : decode cX10_calm 67 = .ok (.iload 6, 2) := by decide +kernel
theorem dX10_calm_69 : decode cX10_calm 69 = .ok (.istore 4, 2) := by decide +kernel
theorem dX10_calm_71 : decode cX10_calm 71 = .ok (.iload 5, 2) := by decide +kernel
theorem dX10_calm_73 : decode cX10_calm 73 = .ok (.istore_n 3, 1) := by decide +kernel
theorem dX10_calm_74 : decode cX10_calm 74 = .ok (.iinc 5 1, 3) := by decide +kernel
theorem dX10_calm_77 : decode cX10_calm 77 = .ok (.goto (-37), 3) := by decide +kernel
theorem dX10_calm_80 : decode cX10_calm 80 = .ok (.iload_n 3, 1) := by decide +kernel
theorem dX10_calm_81 : decode cX10_calm 81 = .ok (.ireturn, 1) := by decide +kernel
theorem dX10_safest_0 : decode cX10_safest 0 = .ok (.aload_n 0, 1) := by decide +kernel
theorem dX10_safest_1 : decode cX10_safest 1 = .ok (.iload_n 1, 1) := by decide +kernel
theorem dX10_safest_2 : decode cX10_safest 2 = .ok (.invokevirtual 119, 3) := by decide +kernel
theorem dX10_safest_5 : decode cX10_safest 5 = .ok (.ifCond .eq 10, 3) := by decide +kernel
theorem dX10_safest_8 : decode cX10_safest 8 = .ok (.iload_n 2, 1) := by decide +kernel
theorem dX10_safest_9 : decode cX10_safest 9 = .ok (.invokestatic 192, 3) := by decide +kernel
theorem dX10_safest_12 : decode cX10_safest 12 = .ok (.ifCond .ne 10, 3) := by decide +kernel
theorem dX10_safest_15 : decode cX10_safest 15 = .ok (.aload_n 0, 1) := by decide +kernel
theorem dX10_safest_16 : decode cX10_safest 16 = .ok (.bipush (-2), 2) := by decide +kernel
theorem dX10_safest_18 : decode cX10_safest 18 = .ok (.invokevirtual 76, 3) := by decide +kernel
theorem dX10_safest_21 : decode cX10_safest 21 = .ok (.ireturn, 1) := by decide +kernel
theorem dX10_safest_22 : decode cX10_safest 22 = .ok (.aload_n 0, 1) := by decide +kernel
theorem dX10_safest_23 : decode cX10_safest 23 = .ok (.getfield 25, 3) := by decide +kernel
theorem dX10_safest_26 : decode cX10_safest 26 = .ok (.getfield 231, 3) := by decide +kernel
theorem dX10_safest_29 : decode cX10_safest 29 = .ok (.ifCond .ne 10, 3) := by decide +kernel
theorem dX10_safest_32 : decode cX10_safest 32 = .ok (.aload_n 0, 1) := by decide +kernel
theorem dX10_safest_33 : decode cX10_safest 33 = .ok (.bipush (-5), 2) := by decide +kernel
theorem dX10_safest_35 : decode cX10_safest 35 = .ok (.invokevirtual 76, 3) := by decide +kernel
theorem dX10_safest_38 : decode cX10_safest 38 = .ok (.ireturn, 1) := by decide +kernel
theorem dX10_safest_39 : decode cX10_safest 39 = .ok (.iconst 0, 1) := by decide +kernel
theorem dX10_safest_40 : decode cX10_safest 40 = .ok (.istore_n 3, 1) := by decide +kernel
theorem dX10_safest_41 : decode cX10_safest 41 = .ok (.aload_n 0, 1) := by decide +kernel
theorem dX10_safest_42 : decode cX10_safest 42 = .ok (.getfield 25, 3) := by decide +kernel
theorem dX10_safest_45 : decode cX10_safest 45 = .ok (.iconst 0, 1) := by decide +kernel
theorem dX10_safest_46 : decode cX10_safest 46 = .ok (.iload_n 1, 1) := by decide +kernel
theorem dX10_safest_47 : decode cX10_safest 47 = .ok (.iload_n 2, 1) := by decide +kernel
theorem dX10_safest_48 : decode cX10_safest 48 = .ok (.invokevirtual 261, 3) := by decide +kernel
theorem dX10_safest_51 : decode cX10_safest 51 = .ok (.istore 4, 2) := by decide +kernel
theorem dX10_safest_53 : decode cX10_safest 53 = .ok (.iconst 1, 1) := by decide +kernel
theorem dX10_safest_54 : decode cX10_safest 54 = .ok (.istore 5, 2) := by decide +kernel
theorem dX10_safest_56 : decode cX10_safest 56 = .ok (.iload 5, 2) := by decide +kernel
theorem dX10_safest_58 : decode cX10_safest 58 = .ok (.aload_n 0, 1) := by decide +kernel
theorem dX10_safest_59 : decode cX10_safest 59 = .ok (.getfield 25, 3) := by decide +kernel
theorem dX10_safest_62 : decode cX10_safest 62 = .ok (.getfield 231, 3) := by decide +kernel
theorem dX10_safest_65 : decode cX10_safest 65 = .ok (.if_icmp .ge 36, 3) := by decide +kernel
theorem dX10_safest_68 : decode cX10_safest 68 = .ok (.aload_n 0, 1) := by decide +kernel
theorem dX10_safest_69 : decode cX10_safest 69 = .ok (.getfield 25, 3) := by decide +kernel
theorem dX10_safest_72 : decode cX10_safest 72 = .ok (.iload 5, 2) := by decide +kernel
theorem dX10_safest_74 : decode cX10_safest 74 = .ok (.iload_n 1, 1) := by decide +kernel
theorem dX10_safest_75 : decode cX10_safest 75 = .ok (.iload_n 2, 1) := by decide +kernel
theorem dX10_safest_76 : decode cX10_safest 76 = .ok (.invokevirtual 261, 3) := by decide +kernel
theorem dX10_safest_79 : decode cX10_safest 79 = .ok (.istore 6, 2) := by decide +kernel
theorem dX10_safest_81 : decode cX10_safest 81 = .ok (.iload 6, 2) := by decide +kernel
theorem dX10_safest_83 : decode cX10_safest 83 = .ok (.iload 4, 2) := by decide +kernel
theorem dX10_safest_85 : decode cX10_safest 85 = .ok (.if_icmp .ge 10, 3) := by decide +kernel
theorem dX10_safest_88 : decode cX10_safest 88 = .ok (.iload 6, 2) := by decide +kernel
theorem dX10_safest_90 : decode cX10_safest 90 = .ok (.istore 4, 2) := by decide +kernel
theorem dX10_safest_92 : decode cX10_safest 92 = .ok (.iload 5, 2) := by decide +kernel
theorem dX10_safest_94 : decode cX10_safest 94 = .ok (.istore_n 3, 1) := by decide +kernel
theorem dX10_safest_95 : decode cX10_safest 95 = .ok (.iinc 5 1, 3) := by decide +kernel
theorem dX10_safest_98 : decode cX10_safest 98 = .ok (.goto (-42), 3) := by decide +kernel
theorem dX10_safest_101 : decode cX10_safest 101 = .ok (.iload_n 3, 1) := by decide +kernel
theorem dX10_safest_102 : decode cX10_safest 102 = .ok (.ireturn, 1) := by decide +kernel
theorem dX10_leg_0 : decode cX10_leg 0 = .ok (.iload_n 1, 1) := by decide +kernel
theorem dX10_leg_1 : decode cX10_leg 1 = .ok (.sipush 256, 3) := by decide +kernel
theorem dX10_leg_4 : decode cX10_leg 4 = .ok (.invokestatic 68, 3) := by decide +kernel
theorem dX10_leg_7 : decode cX10_leg 7 = .ok (.ifCond .eq 13, 3) := by decide +kernel
theorem dX10_leg_10 : decode cX10_leg 10 = .ok (.iload_n 2, 1) := by decide +kernel
theorem dX10_leg_11 : decode cX10_leg 11 = .ok (.sipush 256, 3) := by decide +kernel
theorem dX10_leg_14 : decode cX10_leg 14 = .ok (.invokestatic 68, 3) := by decide +kernel
theorem dX10_leg_17 : decode cX10_leg 17 = .ok (.ifCond .ne 10, 3) := by decide +kernel
theorem dX10_leg_20 : decode cX10_leg 20 = .ok (.aload_n 0, 1) := by decide +kernel
theorem dX10_leg_21 : decode cX10_leg 21 = .ok (.bipush (-2), 2) := by decide +kernel
theorem dX10_leg_23 : decode cX10_leg 23 = .ok (.invokevirtual 76, 3) := by decide +kernel
theorem dX10_leg_26 : decode cX10_leg 26 = .ok (.ireturn, 1) := by decide +kernel
theorem dX10_leg_27 : decode cX10_leg 27 = .ok (.aload_n 0, 1) := by decide +kernel
theorem dX10_leg_28 : decode cX10_leg 28 = .ok (.getfield 25, 3) := by decide +kernel
theorem dX10_leg_31 : decode cX10_leg 31 = .ok (.iload_n 1, 1) := by decide +kernel
theorem dX10_leg_32 : decode cX10_leg 32 = .ok (.iload_n 2, 1) := by decide +kernel
theorem dX10_leg_33 : decode cX10_leg 33 = .ok (.aload_n 0, 1) := by decide +kernel
theorem dX10_leg_34 : decode cX10_leg 34 = .ok (.getfield 25, 3) := by decide +kernel
theorem dX10_leg_37 : decode cX10_leg 37 = .ok (.invokevirtual 180, 3) := by decide +kernel
theorem dX10_leg_40 : decode cX10_leg 40 = .ok (.invokevirtual 265, 3) := by decide +kernel
theorem dX10_leg_43 : decode cX10_leg 43 = .ok (.ireturn, 1) := by decide +kernel
theorem dX10_round_0 : decode cX10_round 0 = .ok (.aload_n 0, 1) := by decide +kernel
theorem dX10_round_1 : decode cX10_round 1 = .ok (.iload_n 1, 1) := by decide +kernel
theorem dX10_round_2 : decode cX10_round 2 = .ok (.invokevirtual 243, 3) := by decide +kernel
theorem dX10_round_5 : decode cX10_round 5 = .ok (.ifCond .eq 13, 3) := by decide +kernel
theorem dX10_round_8 : decode cX10_round 8 = .ok (.iload 4, 2) := by decide +kernel
theorem dX10_round_10 : decode cX10_round 10 = .ok (.iconst 0, 1) := by decide +kernel
theorem dX10_round_11 : decode cX10_round 11 = .ok (.iconst 2, 1) := by decide +kernel
theorem dX10_round_12 : decode cX10_round 12 = .ok (.invokestatic 72, 3) := by decide +kernel
theorem dX10_round_15 : decode cX10_round 15 = .ok (.ifCond .ne 10, 3) := by decide +kernel
theorem dX10_round_18 : decode cX10_round 18 = .ok (.aload_n 0, 1) := by decide +kernel
theorem dX10_round_19 : decode cX10_round 19 = .ok (.bipush (-2), 2) := by decide +kernel
theorem dX10_round_21 : decode cX10_round 21 = .ok (.invokevirtual 76, 3) := by decide +kernel
theorem dX10_round_24 : decode cX10_round 24 = .ok (.ireturn, 1) := by decide +kernel
theorem dX10_round_25 : decode cX10_round 25 = .ok (.aload_n 0, 1) := by decide +kernel
theorem dX10_round_26 : decode cX10_round 26 = .ok (.iload_n 2, 1) := by decide +kernel
theorem dX10_round_27 : decode cX10_round 27 = .ok (.iload_n 3, 1) := by decide +kernel
theorem dX10_round_28 : decode cX10_round 28 = .ok (.invokevirtual 268, 3) := by decide +kernel
theorem dX10_round_31 : decode cX10_round 31 = .ok (.istore 5, 2) := by decide +kernel
theorem dX10_round_33 : decode cX10_round 33 = .ok (.iload 5, 2) := by decide +kernel
theorem dX10_round_35 : decode cX10_round 35 = .ok (.ifCond .eq 10, 3) := by decide +kernel
theorem dX10_round_38 : decode cX10_round 38 = .ok (.aload_n 0, 1) := by decide +kernel
theorem dX10_round_39 : decode cX10_round 39 = .ok (.iload 5, 2) := by decide +kernel
theorem dX10_round_41 : decode cX10_round 41 = .ok (.invokevirtual 76, 3) := by decide +kernel
theorem dX10_round_44 : decode cX10_round 44 = .ok (.ireturn, 1) := by decide +kernel
theorem dX10_round_45 : decode cX10_round 45 = .ok (.aload_n 0, 1) := by decide +kernel
theorem dX10_round_46 : decode cX10_round 46 = .ok (.aload_n 0, 1) := by decide +kernel
theorem dX10_round_47 : decode cX10_round 47 = .ok (.getfield 39, 3) := by decide +kernel
theorem dX10_round_50 : decode cX10_round 50 = .ok (.iload_n 2, 1) := by decide +kernel
theorem dX10_round_51 : decode cX10_round 51 = .ok (.iload_n 3, 1) := by decide +kernel
theorem dX10_round_52 : decode cX10_round 52 = .ok (.invokevirtual 271, 3) := by decide +kernel
theorem dX10_round_55 : decode cX10_round 55 = .ok (.iload 4, 2) := by decide +kernel
theorem dX10_round_57 : decode cX10_round 57 = .ok (.iconst 2, 1) := by decide +kernel
theorem dX10_round_58 : decode cX10_round 58 = .ok (.if_icmp .ne 15, 3) := by decide +kernel
theorem dX10_round_61 : decode cX10_round 61 = .ok (.aload_n 0, 1) := by decide +kernel
theorem dX10_round_62 : decode cX10_round 62 = .ok (.getfield 39, 3) := by decide +kernel
theorem dX10_round_65 : decode cX10_round 65 = .ok (.aload_n 0, 1) := by decide +kernel
theorem dX10_round_66 : decode cX10_round 66 = .ok (.getfield 25, 3) := by decide +kernel
theorem dX10_round_69 : decode cX10_round 69 = .ok (.invokevirtual 275, 3) := by decide +kernel
theorem dX10_round_72 : decode cX10_round 72 = .ok (.ireturn, 1) := by decide +kernel
theorem dX10_round_73 : decode cX10_round 73 = .ok (.aload_n 0, 1) := by decide +kernel
theorem dX10_round_74 : decode cX10_round 74 = .ok (.getfield 39, 3) := by decide +kernel
theorem dX10_round_77 : decode cX10_round 77 = .ok (.aload_n 0, 1) := by decide +kernel
theorem dX10_round_78 : decode cX10_round 78 = .ok (.getfield 25, 3) := by decide +kernel
theorem dX10_round_81 : decode cX10_round 81 = .ok (.aload_n 0, 1) := by decide +kernel
theorem dX10_round_82 : decode cX10_round 82 = .ok (.getfield 25, 3) := by decide +kernel
theorem dX10_round_85 : decode cX10_round 85 = .ok (.invokevirtual 180, 3) := by decide +kernel
theorem dX10_round_88 : decode cX10_round 88 = .ok (.iconst (-1), 1) := by decide +kernel
theorem dX10_round_89 : decode cX10_round 89 = .ok (.invokevirtual 279, 3) := by decide +kernel
theorem dX10_round_92 : decode cX10_round 92 = .ok (.iload 4, 2) := by decide +kernel
theorem dX10_round_94 : decode cX10_round 94 = .ok (.ifCond .ne 18, 3) := by decide +kernel
theorem dX10_round_97 : decode cX10_round 97 = .ok (.aload_n 0, 1) := by decide +kernel
theorem dX10_round_98 : decode cX10_round 98 = .ok (.getfield 39, 3) := by decide +kernel
theorem dX10_round_101 : decode cX10_round 101 = .ok (.aload_n 0, 1) := by decide +kernel
theorem dX10_round_102 : decode cX10_round 102 = .ok (.getfield 25, 3) := by decide +kernel
theorem dX10_round_105 : decode cX10_round 105 = .ok (.iload_n 1, 1) := by decide +kernel
theorem dX10_round_106 : decode cX10_round 106 = .ok (.invokevirtual 283, 3) := by decide +kernel
theorem dX10_round_109 : decode cX10_round 109 = .ok (.goto 10, 3) := by decide +kernel
theorem dX10_round_112 : decode cX10_round 112 = .ok (.aload_n 0, 1) := by decide +kernel
theorem dX10_round_113 : decode cX10_round 113 = .ok (.getfield 39, 3) := by decide +kernel
theorem dX10_round_116 : decode cX10_round 116 = .ok (.invokevirtual 287, 3) := by decide +kernel
theorem dX10_round_119 : decode cX10_round 119 = .ok (.ireturn, 1) := by decide +kernel
theorem dX10_best_0 : decode cX10_best 0 = .ok (.aload_n 0, 1) := by decide +kernel
theorem dX10_best_1 : decode cX10_best 1 = .ok (.iload_n 1, 1) := by decide +kernel
theorem dX10_best_2 : decode cX10_best 2 = .ok (.invokevirtual 243, 3) := by decide +kernel
theorem dX10_best_5 : decode cX10_best 5 = .ok (.ifCond .eq 22, 3) := by decide +kernel
theorem dX10_best_8 : decode cX10_best 8 = .ok (.aload_n 0, 1) := by decide +kernel
theorem dX10_best_9 : decode cX10_best 9 = .ok (.iload_n 2, 1) := by decide +kernel
theorem dX10_best_10 : decode cX10_best 10 = .ok (.invokevirtual 290, 3) := by decide +kernel
theorem dX10_best_13 : decode cX10_best 13 = .ok (.ifCond .eq 14, 3) := by decide +kernel
theorem dX10_best_16 : decode cX10_best 16 = .ok (.iload_n 3, 1) := by decide +kernel
theorem dX10_best_17 : decode cX10_best 17 = .ok (.iconst 0, 1) := by decide +kernel
theorem dX10_best_18 : decode cX10_best 18 = .ok (.sipush 999, 3) := by decide +kernel
theorem dX10_best_21 : decode cX10_best 21 = .ok (.invokestatic 72, 3) := by decide +kernel
theorem dX10_best_24 : decode cX10_best 24 = .ok (.ifCond .ne 10, 3) := by decide +kernel
theorem dX10_best_27 : decode cX10_best 27 = .ok (.aload_n 0, 1) := by decide +kernel
theorem dX10_best_28 : decode cX10_best 28 = .ok (.bipush (-2), 2) := by decide +kernel
theorem dX10_best_30 : decode cX10_best 30 = .ok (.invokevirtual 76, 3) := by decide +kernel
theorem dX10_best_33 : decode cX10_best 33 = .ok (.ireturn, 1) := by decide +kernel
theorem dX10_best_34 : decode cX10_best 34 = .ok (.iload 4, 2) := by decide +kernel
theorem dX10_best_36 : decode cX10_best 36 = .ok (.bipush 10, 2) := by decide +kernel
theorem dX10_best_38 : decode cX10_best 38 = .ok (.isub, 1) := by decide +kernel
theorem dX10_best_39 : decode cX10_best 39 = .ok (.istore 5, 2) := by decide +kernel
theorem dX10_best_41 : decode cX10_best 41 = .ok (.iload 4, 2) := by decide +kernel
theorem dX10_best_43 : decode cX10_best 43 = .ok (.bipush 10, 2) := by decide +kernel
theorem dX10_best_45 : decode cX10_best 45 = .ok (.if_icmp .lt 16, 3) := by decide +kernel
theorem dX10_best_48 : decode cX10_best 48 = .ok (.iload 5, 2) := by decide +kernel
theorem dX10_best_50 : decode cX10_best 50 = .ok (.iload_n 2, 1) := by decide +kernel
theorem dX10_best_51 : decode cX10_best 51 = .ok (.invokestatic 293, 3) := by decide +kernel
theorem dX10_best_54 : decode cX10_best 54 = .ok (.if_icmp .ge 7, 3) := by decide +kernel
theorem dX10_best_57 : decode cX10_best 57 = .ok (.iconst 1, 1) := by decide +kernel
theorem dX10_best_58 : decode cX10_best 58 = .ok (.goto 4, 3) := by decide +kernel
theorem dX10_best_61 : decode cX10_best 61 = .ok (.iconst 0, 1) := by decide +kernel
theorem dX10_best_62 : decode cX10_best 62 = .ok (.istore 6, 2) := by decide +kernel
theorem dX10_best_64 : decode cX10_best 64 = .ok (.iload 4, 2) := by decide +kernel
theorem dX10_best_66 : decode cX10_best 66 = .ok (.ifCond .eq 21, 3) := by decide +kernel
theorem dX10_best_69 : decode cX10_best 69 = .ok (.iload 4, 2) := by decide +kernel
theorem dX10_best_71 : decode cX10_best 71 = .ok (.iconst 1, 1) := by decide +kernel
theorem dX10_best_72 : decode cX10_best 72 = .ok (.if_icmp .eq 15, 3) := by decide +kernel
theorem dX10_best_75 : decode cX10_best 75 = .ok (.iload 6, 2) := by decide +kernel
theorem dX10_best_77 : decode cX10_best 77 = .ok (.ifCond .ne 10, 3) := by decide +kernel
theorem dX10_best_80 : decode cX10_best 80 = .ok (.aload_n 0, 1) := by decide +kernel
theorem dX10_best_81 : decode cX10_best 81 = .ok (.bipush (-2), 2) := by decide +kernel
theorem dX10_best_83 : decode cX10_best 83 = .ok (.invokevirtual 76, 3) := by decide +kernel
theorem dX10_best_86 : decode cX10_best 86 = .ok (.ireturn, 1) := by decide +kernel
theorem dX10_best_87 : decode cX10_best 87 = .ok (.aload_n 0, 1) := by decide +kernel
theorem dX10_best_88 : decode cX10_best 88 = .ok (.getfield 49, 3) := by decide +kernel
theorem dX10_best_91 : decode cX10_best 91 = .ok (.aload_n 0, 1) := by decide +kernel
theorem dX10_best_92 : decode cX10_best 92 = .ok (.getfield 25, 3) := by decide +kernel
theorem dX10_best_95 : decode cX10_best 95 = .ok (.iload_n 1, 1) := by decide +kernel
theorem dX10_best_96 : decode cX10_best 96 = .ok (.iload_n 2, 1) := by decide +kernel
theorem dX10_best_97 : decode cX10_best 97 = .ok (.iload_n 3, 1) := by decide +kernel
theorem dX10_best_98 : decode cX10_best 98 = .ok (.invokevirtual 298, 3) := by decide +kernel
theorem dX10_best_101 : decode cX10_best 101 = .ok (.ifCond .ne 10, 3) := by decide +kernel
theorem dX10_best_104 : decode cX10_best 104 = .ok (.aload_n 0, 1) := by decide +kernel
theorem dX10_best_105 : decode cX10_best 105 = .ok (.bipush (-5), 2) := by decide +kernel
theorem dX10_best_107 : decode cX10_best 107 = .ok (.invokevirtual 76, 3) := by decide +kernel
theorem dX10_best_110 : decode cX10_best 110 = .ok (.ireturn, 1) := by decide +kernel
theorem dX10_best_111 : decode cX10_best 111 = .ok (.iload 6, 2) := by decide +kernel
theorem dX10_best_113 : decode cX10_best 113 = .ok (.ifCond .eq 14, 3) := by decide +kernel
theorem dX10_best_116 : decode cX10_best 116 = .ok (.aload_n 0, 1) := by decide +kernel
theorem dX10_best_117 : decode cX10_best 117 = .ok (.getfield 49, 3) := by decide +kernel
theorem dX10_best_120 : decode cX10_best 120 = .ok (.getfield 302, 3) := by decide +kernel
theorem dX10_best_123 : decode cX10_best 123 = .ok (.iload 5, 2) := by decide +kernel
theorem dX10_best_125 : decode cX10_best 125 = .ok (.iaload, 1) := by decide +kernel
theorem dX10_best_126 : decode cX10_best 126 = .ok (.ireturn, 1) := by decide +kernel
theorem dX10_best_127 : decode cX10_best 127 = .ok (.iload 4, 2) := by decide +kernel
theorem dX10_best_129 : decode cX10_best 129 = .ok (.ifCond .ne 13, 3) := by decide +kernel
theorem dX10_best_132 : decode cX10_best 132 = .ok (.aload_n 0, 1) := by decide +kernel
theorem dX10_best_133 : decode cX10_best 133 = .ok (.getfield 49, 3) := by decide +kernel
theorem dX10_best_136 : decode cX10_best 136 = .ok (.getfield 305, 3) := by decide +kernel
theorem dX10_best_139 : decode cX10_best 139 = .ok (.goto 10, 3) := by decide +kernel
theorem dX10_best_142 : decode cX10_best 142 = .ok (.aload_n 0, 1) := by decide +kernel
theorem dX10_best_143 : decode cX10_best 143 = .ok (.getfield 49, 3) := by decide +kernel
theorem dX10_best_146 : decode cX10_best 146 = .ok (.getfield 308, 3) := by decide +kernel
theorem dX10_best_149 : decode cX10_best 149 = .ok (.ireturn, 1) := by decide +kernel
theorem dX10_team_0 : decode cX10_team 0 = .ok (.aload_n 0, 1) := by decide +kernel
theorem dX10_team_1 : decode cX10_team 1 = .ok (.iload_n 1, 1) := by decide +kernel
theorem dX10_team_2 : decode cX10_team 2 = .ok (.invokevirtual 290, 3) := by decide +kernel
theorem dX10_team_5 : decode cX10_team 5 = .ok (.ifCond .eq 36, 3) := by decide +kernel
theorem dX10_team_8 : decode cX10_team 8 = .ok (.iload_n 2, 1) := by decide +kernel
theorem dX10_team_9 : decode cX10_team 9 = .ok (.iconst 1, 1) := by decide +kernel
theorem dX10_team_10 : decode cX10_team 10 = .ok (.bipush 6, 2) := by decide +kernel
theorem dX10_team_12 : decode cX10_team 12 = .ok (.invokestatic 72, 3) := by decide +kernel
theorem dX10_team_15 : decode cX10_team 15 = .ok (.ifCond .eq 26, 3) := by decide +kernel
theorem dX10_team_18 : decode cX10_team 18 = .ok (.iload_n 3, 1) := by decide +kernel
theorem dX10_team_19 : decode cX10_team 19 = .ok (.invokestatic 192, 3) := by decide +kernel
theorem dX10_team_22 : decode cX10_team 22 = .ok (.ifCond .eq 19, 3) := by decide +kernel
theorem dX10_team_25 : decode cX10_team 25 = .ok (.iload 4, 2) := by decide +kernel
theorem dX10_team_27 : decode cX10_team 27 = .ok (.iconst (-1), 1) := by decide +kernel
theorem dX10_team_28 : decode cX10_team 28 = .ok (.if_icmp .eq 20, 3) := by decide +kernel
theorem dX10_team_31 : decode cX10_team 31 = .ok (.aload_n 0, 1) := by decide +kernel
theorem dX10_team_32 : decode cX10_team 32 = .ok (.iload 4, 2) := by decide +kernel
theorem dX10_team_34 : decode cX10_team 34 = .ok (.iload_n 1, 1) := by decide +kernel
theorem dX10_team_35 : decode cX10_team 35 = .ok (.invokevirtual 311, 3) := by decide +kernel
theorem dX10_team_38 : decode cX10_team 38 = .ok (.ifCond .ne 10, 3) := by decide +kernel
theorem dX10_team_41 : decode cX10_team 41 = .ok (.aload_n 0, 1) := by decide +kernel
theorem dX10_team_42 : decode cX10_team 42 = .ok (.bipush (-2), 2) := by decide +kernel
theorem dX10_team_44 : decode cX10_team 44 = .ok (.invokevirtual 76, 3) := by decide +kernel
theorem dX10_team_47 : decode cX10_team 47 = .ok (.ireturn, 1) := by decide +kernel
theorem dX10_team_48 : decode cX10_team 48 = .ok (.aload_n 0, 1) := by decide +kernel
theorem dX10_team_49 : decode cX10_team 49 = .ok (.getfield 25, 3) := by decide +kernel
theorem dX10_team_52 : decode cX10_team 52 = .ok (.getfield 231, 3) := by decide +kernel
theorem dX10_team_55 : decode cX10_team 55 = .ok (.iload_n 2, 1) := by decide +kernel
theorem dX10_team_56 : decode cX10_team 56 = .ok (.imul, 1) := by decide +kernel
theorem dX10_team_57 : decode cX10_team 57 = .ok (.iload_n 1, 1) := by decide +kernel
theorem dX10_team_58 : decode cX10_team 58 = .ok (.invokestatic 293, 3) := by decide +kernel
theorem dX10_team_61 : decode cX10_team 61 = .ok (.if_icmp .ge 10, 3) := by decide +kernel
theorem dX10_team_64 : decode cX10_team 64 = .ok (.aload_n 0, 1) := by decide +kernel
theorem dX10_team_65 : decode cX10_team 65 = .ok (.bipush (-5), 2) := by decide +kernel
theorem dX10_team_67 : decode cX10_team 67 = .ok (.invokevirtual 76, 3) := by decide +kernel
theorem dX10_team_70 : decode cX10_team 70 = .ok (.ireturn, 1) := by decide +kernel
theorem dX10_team_71 : decode cX10_team 71 = .ok (.aload_n 0, 1) := by decide +kernel
theorem dX10_team_72 : decode cX10_team 72 = .ok (.getfield 56, 3) := by decide +kernel
theorem dX10_team_75 : decode cX10_team 75 = .ok (.aload_n 0, 1) := by decide +kernel
theorem dX10_team_76 : decode cX10_team 76 = .ok (.getfield 25, 3) := by decide +kernel
theorem dX10_team_79 : decode cX10_team 79 = .ok (.iload_n 1, 1) := by decide +kernel
theorem dX10_team_80 : decode cX10_team 80 = .ok (.iload_n 2, 1) := by decide +kernel
theorem dX10_team_81 : decode cX10_team 81 = .ok (.iload_n 3, 1) := by decide +kernel
theorem dX10_team_82 : decode cX10_team 82 = .ok (.invokevirtual 314, 3) := by decide +kernel
theorem dX10_team_85 : decode cX10_team 85 = .ok (.iload 4, 2) := by decide +kernel
theorem dX10_team_87 : decode cX10_team 87 = .ok (.iconst (-1), 1) := by decide +kernel
theorem dX10_team_88 : decode cX10_team 88 = .ok (.if_icmp .ne 13, 3) := by decide +kernel
theorem dX10_team_91 : decode cX10_team 91 = .ok (.aload_n 0, 1) := by decide +kernel
theorem dX10_team_92 : decode cX10_team 92 = .ok (.getfield 56, 3) := by decide +kernel
theorem dX10_team_95 : decode cX10_team 95 = .ok (.getfield 317, 3) := by decide +kernel
theorem dX10_team_98 : decode cX10_team 98 = .ok (.goto 12, 3) := by decide +kernel
theorem dX10_team_101 : decode cX10_team 101 = .ok (.aload_n 0, 1) := by decide +kernel
theorem dX10_team_102 : decode cX10_team 102 = .ok (.getfield 56, 3) := by decide +kernel
theorem dX10_team_105 : decode cX10_team 105 = .ok (.iload 4, 2) := by decide +kernel
theorem dX10_team_107 : decode cX10_team 107 = .ok (.invokevirtual 320, 3) := by decide +kernel
theorem dX10_team_110 : decode cX10_team 110 = .ok (.ireturn, 1) := by decide +kernel
theorem dX10_missed_0 : decode cX10_missed 0 = .ok (.aload_n 0, 1) := by decide +kernel
theorem dX10_missed_1 : decode cX10_missed 1 = .ok (.iload_n 1, 1) := by decide +kernel
theorem dX10_missed_2 : decode cX10_missed 2 = .ok (.invokevirtual 243, 3) := by decide +kernel
theorem dX10_missed_5 : decode cX10_missed 5 = .ok (.ifCond .eq 22, 3) := by decide +kernel
theorem dX10_missed_8 : decode cX10_missed 8 = .ok (.iload 4, 2) := by decide +kernel
theorem dX10_missed_10 : decode cX10_missed 10 = .ok (.iload_n 3, 1) := by decide +kernel
theorem dX10_missed_11 : decode cX10_missed 11 = .ok (.invokestatic 68, 3) := by decide +kernel
theorem dX10_missed_14 : decode cX10_missed 14 = .ok (.ifCond .eq 13, 3) := by decide +kernel
theorem dX10_missed_17 : decode cX10_missed 17 = .ok (.iload 5, 2) := by decide +kernel
theorem dX10_missed_19 : decode cX10_missed 19 = .ok (.iconst 0, 1) := by decide +kernel
theorem dX10_missed_20 : decode cX10_missed 20 = .ok (.iconst 2, 1) := by decide +kernel
theorem dX10_missed_21 : decode cX10_missed 21 = .ok (.invokestatic 72, 3) := by decide +kernel
theorem dX10_missed_24 : decode cX10_missed 24 = .ok (.ifCond .ne 10, 3) := by decide +kernel
theorem dX10_missed_27 : decode cX10_missed 27 = .ok (.aload_n 0, 1) := by decide +kernel
theorem dX10_missed_28 : decode cX10_missed 28 = .ok (.bipush (-2), 2) := by decide +kernel
theorem dX10_missed_30 : decode cX10_missed 30 = .ok (.invokevirtual 76, 3) := by decide +kernel
theorem dX10_missed_33 : decode cX10_missed 33 = .ok (.ireturn, 1) := by decide +kernel
theorem dX10_missed_34 : decode cX10_missed 34 = .ok (.aload_n 0, 1) := by decide +kernel
theorem dX10_missed_35 : decode cX10_missed 35 = .ok (.iload_n 2, 1) := by decide +kernel
theorem dX10_missed_36 : decode cX10_missed 36 = .ok (.iload_n 3, 1) := by decide +kernel
theorem dX10_missed_37 : decode cX10_missed 37 = .ok (.invokevirtual 268, 3) := by decide +kernel
theorem dX10_missed_40 : decode cX10_missed 40 = .ok (.istore 6, 2) := by decide +kernel
theorem dX10_missed_42 : decode cX10_missed 42 = .ok (.iload 6, 2) := by decide +kernel
theorem dX10_missed_44 : decode cX10_missed 44 = .ok (.ifCond .eq 10, 3) := by decide +kernel
theorem dX10_missed_47 : decode cX10_missed 47 = .ok (.aload_n 0, 1) := by decide +kernel
theorem dX10_missed_48 : decode cX10_missed 48 = .ok (.iload 6, 2) := by decide +kernel
theorem dX10_missed_50 : decode cX10_missed 50 = .ok (.invokevirtual 76, 3) := by decide +kernel
theorem dX10_missed_53 : decode cX10_missed 53 = .ok (.ireturn, 1) := by decide +kernel
theorem dX10_missed_54 : decode cX10_missed 54 = .ok (.aload_n 0, 1) := by decide +kernel
theorem dX10_missed_55 : decode cX10_missed 55 = .ok (.aload_n 0, 1) := by decide +kernel
theorem dX10_missed_56 : decode cX10_missed 56 = .ok (.getfield 39, 3) := by decide +kernel
theorem dX10_missed_59 : decode cX10_missed 59 = .ok (.iload_n 2, 1) := by decide +kernel
theorem dX10_missed_60 : decode cX10_missed 60 = .ok (.iload_n 3, 1) := by decide +kernel
theorem dX10_missed_61 : decode cX10_missed 61 = .ok (.invokevirtual 271, 3) := by decide +kernel
theorem dX10_missed_64 : decode cX10_missed 64 = .ok (.aload_n 0, 1) := by decide +kernel
theorem dX10_missed_65 : decode cX10_missed 65 = .ok (.getfield 39, 3) := by decide +kernel
theorem dX10_missed_68 : decode cX10_missed 68 = .ok (.aload_n 0, 1) := by decide +kernel
theorem dX10_missed_69 : decode cX10_missed 69 = .ok (.getfield 25, 3) := by decide +kernel
theorem dX10_missed_72 : decode cX10_missed 72 = .ok (.aload_n 0, 1) := by decide +kernel
theorem dX10_missed_73 : decode cX10_missed 73 = .ok (.getfield 25, 3) := by decide +kernel
theorem dX10_missed_76 : decode cX10_missed 76 = .ok (.invokevirtual 180, 3) := by decide +kernel
theorem dX10_missed_79 : decode cX10_missed 79 = .ok (.iload 4, 2) := by decide +kernel
theorem dX10_missed_81 : decode cX10_missed 81 = .ok (.invokevirtual 279, 3) := by decide +kernel
theorem dX10_missed_84 : decode cX10_missed 84 = .ok (.iload 5, 2) := by decide +kernel
theorem dX10_missed_86 : decode cX10_missed 86 = .ok (.ifCond .ne 11, 3) := by decide +kernel
theorem dX10_missed_89 : decode cX10_missed 89 = .ok (.aload_n 0, 1) := by decide +kernel
theorem dX10_missed_90 : decode cX10_missed 90 = .ok (.getfield 39, 3) := by decide +kernel
theorem dX10_missed_93 : decode cX10_missed 93 = .ok (.invokevirtual 287, 3) := by decide +kernel
theorem dX10_missed_96 : decode cX10_missed 96 = .ok (.ireturn, 1) := by decide +kernel
theorem dX10_missed_97 : decode cX10_missed 97 = .ok (.iload 5, 2) := by decide +kernel
theorem dX10_missed_99 : decode cX10_missed 99 = .ok (.iconst 1, 1) := by decide +kernel
theorem dX10_missed_100 : decode cX10_missed 100 = .ok (.if_icmp .ne 16, 3) := by decide +kernel
theorem dX10_missed_103 : decode cX10_missed 103 = .ok (.aload_n 0, 1) := by decide +kernel
theorem dX10_missed_104 : decode cX10_missed 104 = .ok (.getfield 39, 3) := by decide +kernel
theorem dX10_missed_107 : decode cX10_missed 107 = .ok (.aload_n 0, 1) := by decide +kernel
theorem dX10_missed_108 : decode cX10_missed 108 = .ok (.getfield 25, 3) := by decide +kernel
theorem dX10_missed_111 : decode cX10_missed 111 = .ok (.iload_n 1, 1) := by decide +kernel
theorem dX10_missed_112 : decode cX10_missed 112 = .ok (.invokevirtual 283, 3) := by decide +kernel
theorem dX10_missed_115 : decode cX10_missed 115 = .ok (.ireturn, 1) := by decide +kernel
theorem dX10_missed_116 : decode cX10_missed 116 = .ok (.aload_n 0, 1) := by decide +kernel
theorem dX10_missed_117 : decode cX10_missed 117 = .ok (.aload_n 0, 1) := by decide +kernel
theorem dX10_missed_118 : decode cX10_missed 118 = .ok (.getfield 43, 3) := by decide +kernel
theorem dX10_missed_121 : decode cX10_missed 121 = .ok (.iload_n 2, 1) := by decide +kernel
theorem dX10_missed_122 : decode cX10_missed 122 = .ok (.iload_n 3, 1) := by decide +kernel
theorem dX10_missed_123 : decode cX10_missed 123 = .ok (.invokevirtual 271, 3) := by decide +kernel
theorem dX10_missed_126 : decode cX10_missed 126 = .ok (.aload_n 0, 1) := by decide +kernel
theorem dX10_missed_127 : decode cX10_missed 127 = .ok (.getfield 43, 3) := by decide +kernel
theorem dX10_missed_130 : decode cX10_missed 130 = .ok (.aload_n 0, 1) := by decide +kernel
theorem dX10_missed_131 : decode cX10_missed 131 = .ok (.getfield 25, 3) := by decide +kernel
theorem dX10_missed_134 : decode cX10_missed 134 = .ok (.aload_n 0, 1) := by decide +kernel
theorem dX10_missed_135 : decode cX10_missed 135 = .ok (.getfield 25, 3) := by decide +kernel
theorem dX10_missed_138 : decode cX10_missed 138 = .ok (.invokevirtual 180, 3) := by decide +kernel
theorem dX10_missed_141 : decode cX10_missed 141 = .ok (.iconst (-1), 1) := by decide +kernel
theorem dX10_missed_142 : decode cX10_missed 142 = .ok (.invokevirtual 279, 3) := by decide +kernel
theorem dX10_missed_145 : decode cX10_missed 145 = .ok (.aload_n 0, 1) := by decide +kernel
theorem dX10_missed_146 : decode cX10_missed 146 = .ok (.getfield 39, 3) := by decide +kernel
theorem dX10_missed_149 : decode cX10_missed 149 = .ok (.aload_n 0, 1) := by decide +kernel
theorem dX10_missed_150 : decode cX10_missed 150 = .ok (.getfield 43, 3) := by decide +kernel
theorem dX10_missed_153 : decode cX10_missed 153 = .ok (.invokevirtual 323, 3) := by decide +kernel
theorem dX10_missed_156 : decode cX10_missed 156 = .ok (.ireturn, 1) := by decide +kernel
theorem dX10_pilot_0 : decode cX10_pilot 0 = .ok (.iload_n 3, 1) := by decide +kernel
theorem dX10_pilot_1 : decode cX10_pilot 1 = .ok (.iconst 0, 1) := by decide +kernel
theorem dX10_pilot_2 : decode cX10_pilot 2 = .ok (.sipush 999, 3) := by decide +kernel
theorem dX10_pilot_5 : decode cX10_pilot 5 = .ok (.invokestatic 72, 3) := by decide +kernel
theorem dX10_pilot_8 : decode cX10_pilot 8 = .ok (.ifCond .ne 10, 3) := by decide +kernel
theorem dX10_pilot_11 : decode cX10_pilot 11 = .ok (.aload_n 0, 1) := by decide +kernel
theorem dX10_pilot_12 : decode cX10_pilot 12 = .ok (.bipush (-2), 2) := by decide +kernel
theorem dX10_pilot_14 : decode cX10_pilot 14 = .ok (.invokevirtual 76, 3) := by decide +kernel
theorem dX10_pilot_17 : decode cX10_pilot 17 = .ok (.ireturn, 1) := by decide +kernel
theorem dX10_pilot_18 : decode cX10_pilot 18 = .ok (.aload_n 0, 1) := by decide +kernel
theorem dX10_pilot_19 : decode cX10_pilot 19 = .ok (.iload_n 1, 1) := by decide +kernel
theorem dX10_pilot_20 : decode cX10_pilot 20 = .ok (.iload_n 2, 1) := by decide +kernel
theorem dX10_pilot_21 : decode cX10_pilot 21 = .ok (.invokevirtual 268, 3) := by decide +kernel
theorem dX10_pilot_24 : decode cX10_pilot 24 = .ok (.istore 4, 2) := by decide +kernel
theorem dX10_pilot_26 : decode cX10_pilot 26 = .ok (.iload 4, 2) := by decide +kernel
theorem dX10_pilot_28 : decode cX10_pilot 28 = .ok (.ifCond .eq 10, 3) := by decide +kernel
theorem dX10_pilot_31 : decode cX10_pilot 31 = .ok (.aload_n 0, 1) := by decide +kernel
theorem dX10_pilot_32 : decode cX10_pilot 32 = .ok (.iload 4, 2) := by decide +kernel
theorem dX10_pilot_34 : decode cX10_pilot 34 = .ok (.invokevirtual 76, 3) := by decide +kernel
theorem dX10_pilot_37 : decode cX10_pilot 37 = .ok (.ireturn, 1) := by decide +kernel
theorem dX10_pilot_38 : decode cX10_pilot 38 = .ok (.aload_n 0, 1) := by decide +kernel
theorem dX10_pilot_39 : decode cX10_pilot 39 = .ok (.aload_n 0, 1) := by decide +kernel
theorem dX10_pilot_40 : decode cX10_pilot 40 = .ok (.getfield 39, 3) := by decide +kernel
theorem dX10_pilot_43 : decode cX10_pilot 43 = .ok (.iload_n 1, 1) := by decide +kernel
theorem dX10_pilot_44 : decode cX10_pilot 44 = .ok (.iload_n 2, 1) := by decide +kernel
theorem dX10_pilot_45 : decode cX10_pilot 45 = .ok (.invokevirtual 271, 3) := by decide +kernel
theorem dX10_pilot_48 : decode cX10_pilot 48 = .ok (.iconst 1, 1) := by decide +kernel
theorem dX10_pilot_49 : decode cX10_pilot 49 = .ok (.istore 5, 2) := by decide +kernel
theorem dX10_pilot_51 : decode cX10_pilot 51 = .ok (.iload 5, 2) := by decide +kernel
theorem dX10_pilot_53 : decode cX10_pilot 53 = .ok (.bipush 9, 2) := by decide +kernel
theorem dX10_pilot_55 : decode cX10_pilot 55 = .ok (.if_icmp .gt 37, 3) := by decide +kernel
theorem dX10_pilot_58 : decode cX10_pilot 58 = .ok (.aload_n 0, 1) := by decide +kernel
theorem dX10_pilot_59 : decode cX10_pilot 59 = .ok (.getfield 39, 3) := by decide +kernel
theorem dX10_pilot_62 : decode cX10_pilot 62 = .ok (.aload_n 0, 1) := by decide +kernel
theorem dX10_pilot_63 : decode cX10_pilot 63 = .ok (.getfield 25, 3) := by decide +kernel
theorem dX10_pilot_66 : decode cX10_pilot 66 = .ok (.iload 5, 2) := by decide +kernel
theorem dX10_pilot_68 : decode cX10_pilot 68 = .ok (.iconst (-1), 1) := by decide +kernel
theorem dX10_pilot_69 : decode cX10_pilot 69 = .ok (.invokevirtual 279, 3) := by decide +kernel
theorem dX10_pilot_72 : decode cX10_pilot 72 = .ok (.aload_n 0, 1) := by decide +kernel
theorem dX10_pilot_73 : decode cX10_pilot 73 = .ok (.getfield 39, 3) := by decide +kernel
theorem dX10_pilot_76 : decode cX10_pilot 76 = .ok (.invokevirtual 287, 3) := by decide +kernel
theorem dX10_pilot_79 : decode cX10_pilot 79 = .ok (.iload_n 3, 1) := by decide +kernel
theorem dX10_pilot_80 : decode cX10_pilot 80 = .ok (.if_icmp .gt 6, 3) := by decide +kernel
theorem dX10_pilot_83 : decode cX10_pilot 83 = .ok (.iload 5, 2) := by decide +kernel
theorem dX10_pilot_85 : decode cX10_pilot 85 = .ok (.ireturn, 1) := by decide +kernel
theorem dX10_pilot_86 : decode cX10_pilot 86 = .ok (.iinc 5 1, 3) := by decide +kernel
theorem dX10_pilot_89 : decode cX10_pilot 89 = .ok (.goto (-38), 3) := by decide +kernel
theorem dX10_pilot_92 : decode cX10_pilot 92 = .ok (.iconst (-1), 1) := by decide +kernel
theorem dX10_pilot_93 : decode cX10_pilot 93 = .ok (.ireturn, 1) := by decide +kernel
theorem dX10_still_0 : decode cX10_still 0 = .ok (.aload_n 0, 1) := by decide +kernel
theorem dX10_still_1 : decode cX10_still 1 = .ok (.iload_n 1, 1) := by decide +kernel
theorem dX10_still_2 : decode cX10_still 2 = .ok (.iload_n 2, 1) := by decide +kernel
theorem dX10_still_3 : decode cX10_still 3 = .ok (.invokevirtual 268, 3) := by decide +kernel
theorem dX10_still_6 : decode cX10_still 6 = .ok (.istore_n 3, 1) := by decide +kernel
theorem dX10_still_7 : decode cX10_still 7 = .ok (.iload_n 3, 1) := by decide +kernel
theorem dX10_still_8 : decode cX10_still 8 = .ok (.ifCond .eq 9, 3) := by decide +kernel
theorem dX10_still_11 : decode cX10_still 11 = .ok (.aload_n 0, 1) := by decide +kernel
theorem dX10_still_12 : decode cX10_still 12 = .ok (.iload_n 3, 1) := by decide +kernel
theorem dX10_still_13 : decode cX10_still 13 = .ok (.invokevirtual 76, 3) := by decide +kernel
theorem dX10_still_16 : decode cX10_still 16 = .ok (.ireturn, 1) := by decide +kernel
theorem dX10_still_17 : decode cX10_still 17 = .ok (.aload_n 0, 1) := by decide +kernel
theorem dX10_still_18 : decode cX10_still 18 = .ok (.aload_n 0, 1) := by decide +kernel
theorem dX10_still_19 : decode cX10_still 19 = .ok (.getfield 39, 3) := by decide +kernel
theorem dX10_still_22 : decode cX10_still 22 = .ok (.iload_n 1, 1) := by decide +kernel
theorem dX10_still_23 : decode cX10_still 23 = .ok (.iload_n 2, 1) := by decide +kernel
theorem dX10_still_24 : decode cX10_still 24 = .ok (.invokevirtual 271, 3) := by decide +kernel
theorem dX10_still_27 : decode cX10_still 27 = .ok (.bipush 9, 2) := by decide +kernel
theorem dX10_still_29 : decode cX10_still 29 = .ok (.istore 4, 2) := by decide +kernel
theorem dX10_still_31 : decode cX10_still 31 = .ok (.iload 4, 2) := by decide +kernel
theorem dX10_still_33 : decode cX10_still 33 = .ok (.iconst 1, 1) := by decide +kernel
theorem dX10_still_34 : decode cX10_still 34 = .ok (.if_icmp .lt 28, 3) := by decide +kernel
theorem dX10_still_37 : decode cX10_still 37 = .ok (.aload_n 0, 1) := by decide +kernel
theorem dX10_still_38 : decode cX10_still 38 = .ok (.getfield 39, 3) := by decide +kernel
theorem dX10_still_41 : decode cX10_still 41 = .ok (.aload_n 0, 1) := by decide +kernel
theorem dX10_still_42 : decode cX10_still 42 = .ok (.getfield 25, 3) := by decide +kernel
theorem dX10_still_45 : decode cX10_still 45 = .ok (.iload 4, 2) := by decide +kernel
theorem dX10_still_47 : decode cX10_still 47 = .ok (.invokevirtual 327, 3) := by decide +kernel
theorem dX10_still_50 : decode cX10_still 50 = .ok (.ifCond .eq 6, 3) := by decide +kernel
theorem dX10_still_53 : decode cX10_still 53 = .ok (.iload 4, 2) := by decide +kernel
theorem dX10_still_55 : decode cX10_still 55 = .ok (.ireturn, 1) := by decide +kernel
theorem dX10_still_56 : decode cX10_still 56 = .ok (.iinc 4 (-1), 3) := by decide +kernel
theorem dX10_still_59 : decode cX10_still 59 = .ok (.goto (-28), 3) := by decide +kernel
theorem dX10_still_62 : decode cX10_still 62 = .ok (.iconst (-1), 1) := by decide +kernel
theorem dX10_still_63 : decode cX10_still 63 = .ok (.ireturn, 1) := by decide +kernel
theorem dX10_lifts_0 : decode cX10_lifts 0 = .ok (.iload_n 2, 1) := by decide +kernel
theorem dX10_lifts_1 : decode cX10_lifts 1 = .ok (.iconst 0, 1) := by decide +kernel
theorem dX10_lifts_2 : decode cX10_lifts 2 = .ok (.bipush 40, 2) := by decide +kernel
theorem dX10_lifts_4 : decode cX10_lifts 4 = .ok (.invokestatic 72, 3) := by decide +kernel
theorem dX10_lifts_7 : decode cX10_lifts 7 = .ok (.ifCond .eq 14, 3) := by decide +kernel
theorem dX10_lifts_10 : decode cX10_lifts 10 = .ok (.iload 4, 2) := by decide +kernel
theorem dX10_lifts_12 : decode cX10_lifts 12 = .ok (.iconst 0, 1) := by decide +kernel
theorem dX10_lifts_13 : decode cX10_lifts 13 = .ok (.bipush 20, 2) := by decide +kernel
theorem dX10_lifts_15 : decode cX10_lifts 15 = .ok (.invokestatic 72, 3) := by decide +kernel
theorem dX10_lifts_18 : decode cX10_lifts 18 = .ok (.ifCond .ne 10, 3) := by decide +kernel
theorem dX10_lifts_21 : decode cX10_lifts 21 = .ok (.aload_n 0, 1) := by decide +kernel
theorem dX10_lifts_22 : decode cX10_lifts 22 = .ok (.bipush (-2), 2) := by decide +kernel
theorem dX10_lifts_24 : decode cX10_lifts 24 = .ok (.invokevirtual 76, 3) := by decide +kernel
theorem dX10_lifts_27 : decode cX10_lifts 27 = .ok (.ireturn, 1) := by decide +kernel
theorem dX10_lifts_28 : decode cX10_lifts 28 = .ok (.aload_n 0, 1) := by decide +kernel
theorem dX10_lifts_29 : decode cX10_lifts 29 = .ok (.iload_n 1, 1) := by decide +kernel
theorem dX10_lifts_30 : decode cX10_lifts 30 = .ok (.iload_n 3, 1) := by decide +kernel
theorem dX10_lifts_31 : decode cX10_lifts 31 = .ok (.invokevirtual 84, 3) := by decide +kernel
theorem dX10_lifts_34 : decode cX10_lifts 34 = .ok (.istore 5, 2) := by decide +kernel
theorem dX10_lifts_36 : decode cX10_lifts 36 = .ok (.iload 5, 2) := by decide +kernel
theorem dX10_lifts_38 : decode cX10_lifts 38 = .ok (.ifCond .eq 10, 3) := by decide +kernel
theorem dX10_lifts_41 : decode cX10_lifts 41 = .ok (.aload_n 0, 1) := by decide +kernel
theorem dX10_lifts_42 : decode cX10_lifts 42 = .ok (.iload 5, 2) := by decide +kernel
theorem dX10_lifts_44 : decode cX10_lifts 44 = .ok (.invokevirtual 76, 3) := by decide +kernel
theorem dX10_lifts_47 : decode cX10_lifts 47 = .ok (.ireturn, 1) := by decide +kernel
theorem dX10_lifts_48 : decode cX10_lifts 48 = .ok (.aload_n 0, 1) := by decide +kernel
theorem dX10_lifts_49 : decode cX10_lifts 49 = .ok (.iload_n 1, 1) := by decide +kernel
theorem dX10_lifts_50 : decode cX10_lifts 50 = .ok (.iload_n 2, 1) := by decide +kernel
theorem dX10_lifts_51 : decode cX10_lifts 51 = .ok (.invokevirtual 331, 3) := by decide +kernel
theorem dX10_lifts_54 : decode cX10_lifts 54 = .ok (.ifCond .eq 13, 3) := by decide +kernel
theorem dX10_lifts_57 : decode cX10_lifts 57 = .ok (.aload_n 0, 1) := by decide +kernel
theorem dX10_lifts_58 : decode cX10_lifts 58 = .ok (.iload_n 3, 1) := by decide +kernel
theorem dX10_lifts_59 : decode cX10_lifts 59 = .ok (.iload 4, 2) := by decide +kernel
theorem dX10_lifts_61 : decode cX10_lifts 61 = .ok (.invokevirtual 331, 3) := by decide +kernel
theorem dX10_lifts_64 : decode cX10_lifts 64 = .ok (.ifCond .ne 10, 3) := by decide +kernel
theorem dX10_lifts_67 : decode cX10_lifts 67 = .ok (.aload_n 0, 1) := by decide +kernel
theorem dX10_lifts_68 : decode cX10_lifts 68 = .ok (.bipush (-2), 2) := by decide +kernel
theorem dX10_lifts_70 : decode cX10_lifts 70 = .ok (.invokevirtual 76, 3) := by decide +kernel
theorem dX10_lifts_73 : decode cX10_lifts 73 = .ok (.ireturn, 1) := by decide +kernel
theorem dX10_lifts_74 : decode cX10_lifts 74 = .ok (.iconst 0, 1) := by decide +kernel
theorem dX10_lifts_75 : decode cX10_lifts 75 = .ok (.istore 6, 2) := by decide +kernel
theorem dX10_lifts_77 : decode cX10_lifts 77 = .ok (.iload 6, 2) := by decide +kernel
theorem dX10_lifts_79 : decode cX10_lifts 79 = .ok (.iload_n 2, 1) := by decide +kernel
theorem dX10_lifts_80 : decode cX10_lifts 80 = .ok (.if_icmp .ge 28, 3) := by decide +kernel
theorem dX10_lifts_83 : decode cX10_lifts 83 = .ok (.aload_n 0, 1) := by decide +kernel
theorem dX10_lifts_84 : decode cX10_lifts 84 = .ok (.getfield 60, 3) := by decide +kernel
theorem dX10_lifts_87 : decode cX10_lifts 87 = .ok (.iload 6, 2) := by decide +kernel
theorem dX10_lifts_89 : decode cX10_lifts 89 = .ok (.aload_n 0, 1) := by decide +kernel
theorem dX10_lifts_90 : decode cX10_lifts 90 = .ok (.getfield 11, 3) := by decide +kernel
theorem dX10_lifts_93 : decode cX10_lifts 93 = .ok (.iload_n 1, 1) := by decide +kernel
theorem dX10_lifts_94 : decode cX10_lifts 94 = .ok (.aaload, 1) := by decide +kernel
theorem dX10_lifts_95 : decode cX10_lifts 95 = .ok (.iload 6, 2) := by decide +kernel
theorem dX10_lifts_97 : decode cX10_lifts 97 = .ok (.invokevirtual 112, 3) := by decide +kernel
theorem dX10_lifts_100 : decode cX10_lifts 100 = .ok (.l2i, 1) := by decide +kernel
theorem dX10_lifts_101 : decode cX10_lifts 101 = .ok (.iastore, 1) := by decide +kernel
theorem dX10_lifts_102 : decode cX10_lifts 102 = .ok (.iinc 6 1, 3) := by decide +kernel
theorem dX10_lifts_105 : decode cX10_lifts 105 = .ok (.goto (-28), 3) := by decide +kernel
theorem dX10_lifts_108 : decode cX10_lifts 108 = .ok (.iload_n 2, 1) := by decide +kernel
theorem dX10_lifts_109 : decode cX10_lifts 109 = .ok (.istore 6, 2) := by decide +kernel
theorem dX10_lifts_111 : decode cX10_lifts 111 = .ok (.iconst 0, 1) := by decide +kernel
theorem dX10_lifts_112 : decode cX10_lifts 112 = .ok (.istore 7, 2) := by decide +kernel
theorem dX10_lifts_114 : decode cX10_lifts 114 = .ok (.iconst 0, 1) := by decide +kernel
theorem dX10_lifts_115 : decode cX10_lifts 115 = .ok (.istore 8, 2) := by decide +kernel
theorem dX10_lifts_117 : decode cX10_lifts 117 = .ok (.iload 8, 2) := by decide +kernel
theorem dX10_lifts_119 : decode cX10_lifts 119 = .ok (.iload 4, 2) := by decide +kernel
theorem dX10_lifts_121 : decode cX10_lifts 121 = .ok (.if_icmp .ge 53, 3) := by decide +kernel
theorem dX10_lifts_124 : decode cX10_lifts 124 = .ok (.aload_n 0, 1) := by decide +kernel
theorem dX10_lifts_125 : decode cX10_lifts 125 = .ok (.getfield 11, 3) := by decide +kernel
theorem dX10_lifts_128 : decode cX10_lifts 128 = .ok (.iload_n 3, 1) := by decide +kernel
theorem dX10_lifts_129 : decode cX10_lifts 129 = .ok (.aaload, 1) := by decide +kernel
theorem dX10_lifts_130 : decode cX10_lifts 130 = .ok (.iload 8, 2) := by decide +kernel
theorem dX10_lifts_132 : decode cX10_lifts 132 = .ok (.invokevirtual 112, 3) := by decide +kernel
theorem dX10_lifts_135 : decode cX10_lifts 135 = .ok (.l2i, 1) := by decide +kernel
theorem dX10_lifts_136 : decode cX10_lifts 136 = .ok (.istore 9, 2) := by decide +kernel
theorem dX10_lifts_138 : decode cX10_lifts 138 = .ok (.aload_n 0, 1) := by decide +kernel
theorem dX10_lifts_139 : decode cX10_lifts 139 = .ok (.iload 9, 2) := by decide +kernel
theorem dX10_lifts_141 : decode cX10_lifts 141 = .ok (.iload 6, 2) := by decide +kernel
theorem dX10_lifts_143 : decode cX10_lifts 143 = .ok (.invokevirtual 334, 3) := by decide +kernel
theorem dX10_lifts_146 : decode cX10_lifts 146 = .ok (.istore 10, 2) := by decide +kernel
theorem dX10_lifts_148 : decode cX10_lifts 148 = .ok (.aload_n 0, 1) := by decide +kernel
theorem dX10_lifts_149 : decode cX10_lifts 149 = .ok (.iload 9, 2) := by decide +kernel
theorem dX10_lifts_151 : decode cX10_lifts 151 = .ok (.iload 6, 2) := by decide +kernel
theorem dX10_lifts_153 : decode cX10_lifts 153 = .ok (.invokevirtual 337, 3) := by decide +kernel
theorem dX10_lifts_156 : decode cX10_lifts 156 = .ok (.istore 6, 2) := by decide +kernel
theorem dX10_lifts_158 : decode cX10_lifts 158 = .ok (.iload 7, 2) := by decide +kernel
theorem dX10_lifts_160 : decode cX10_lifts 160 = .ok (.iload 6, 2) := by decide +kernel
theorem dX10_lifts_162 : decode cX10_lifts 162 = .ok (.iload 10, 2) := by decide +kernel
theorem dX10_lifts_164 : decode cX10_lifts 164 = .ok (.isub, 1) := by decide +kernel
theorem dX10_lifts_165 : decode cX10_lifts 165 = .ok (.iadd, 1) := by decide +kernel
theorem dX10_lifts_166 : decode cX10_lifts 166 = .ok (.istore 7, 2) := by decide +kernel
theorem dX10_lifts_168 : decode cX10_lifts 168 = .ok (.iinc 8 1, 3) := by decide +kernel
theorem dX10_lifts_171 : decode cX10_lifts 171 = .ok (.goto (-54), 3) := by decide +kernel
theorem dX10_lifts_174 : decode cX10_lifts 174 = .ok (.iload 7, 2) := by decide +kernel
theorem dX10_lifts_176 : decode cX10_lifts 176 = .ok (.ireturn, 1) := by decide +kernel
theorem dX10_lowestLetter_0 : decode cX10_lowestLetter 0 = .ok (.iconst 0, 1) := by decide +kernel
theorem dX10_lowestLetter_1 : decode cX10_lowestLetter 1 = .ok (.istore_n 3, 1) := by decide +kernel
theorem dX10_lowestLetter_2 : decode cX10_lowestLetter 2 = .ok (.iload_n 3, 1) := by decide +kernel
theorem dX10_lowestLetter_3 : decode cX10_lowestLetter 3 = .ok (.iload_n 2, 1) := by decide +kernel
theorem dX10_lowestLetter_4 : decode cX10_lowestLetter 4 = .ok (.if_icmp .ge 21, 3) := by decide +kernel
theorem dX10_lowestLetter_7 : decode cX10_lowestLetter 7 = .ok (.aload_n 0, 1) := by decide +kernel
theorem dX10_lowestLetter_8 : decode cX10_lowestLetter 8 = .ok (.getfield 60, 3) := by decide +kernel
theorem dX10_lowestLetter_11 : decode cX10_lowestLetter 11 = .ok (.iload_n 3, 1) := by decide +kernel
theorem dX10_lowestLetter_12 : decode cX10_lowestLetter 12 = .ok (.iaload, 1) := by decide +kernel
theorem dX10_lowestLetter_13 : decode cX10_lowestLetter 13 = .ok (.iload_n 1, 1) := by decide +kernel
theorem dX10_lowestLetter_14 : decode cX10_lowestLetter 14 = .ok (.if_icmp .ne 5, 3) := by decide +kernel
theorem dX10_lowestLetter_17 : decode cX10_lowestLetter 17 = .ok (.iload_n 3, 1) := by decide +kernel
theorem dX10_lowestLetter_18 : decode cX10_lowestLetter 18 = .ok (.ireturn, 1) := by decide +kernel
theorem dX10_lowestLetter_19 : decode cX10_lowestLetter 19 = .ok (.iinc 3 1, 3) := by decide +kernel
theorem dX10_lowestLetter_22 : decode cX10_lowestLetter 22 = .ok (.goto (-20), 3) := by decide +kernel
theorem dX10_lowestLetter_25 : decode cX10_lowestLetter 25 = .ok (.iload_n 2, 1) := by decide +kernel
theorem dX10_lowestLetter_26 : decode cX10_lowestLetter 26 = .ok (.ireturn, 1) := by decide +kernel
theorem dX10_takeLetters_0 : decode cX10_takeLetters 0 = .ok (.iconst 0, 1) := by decide +kernel
theorem dX10_takeLetters_1 : decode cX10_takeLetters 1 = .ok (.istore_n 3, 1) := by decide +kernel
theorem dX10_takeLetters_2 : decode cX10_takeLetters 2 = .ok (.iconst 0, 1) := by decide +kernel
theorem dX10_takeLetters_3 : decode cX10_takeLetters 3 = .ok (.istore 4, 2) := by decide +kernel
theorem dX10_takeLetters_5 : decode cX10_takeLetters 5 = .ok (.iload 4, 2) := by decide +kernel
theorem dX10_takeLetters_7 : decode cX10_takeLetters 7 = .ok (.iload_n 2, 1) := by decide +kernel
theorem dX10_takeLetters_8 : decode cX10_takeLetters 8 = .ok (.if_icmp .ge 36, 3) := by decide +kernel
theorem dX10_takeLetters_11 : decode cX10_takeLetters 11 = .ok (.aload_n 0, 1) := by decide +kernel
theorem dX10_takeLetters_12 : decode cX10_takeLetters 12 = .ok (.getfield 60, 3) := by decide +kernel
theorem dX10_takeLetters_15 : decode cX10_takeLetters 15 = .ok (.iload 4, 2) := by decide +kernel
theorem dX10_takeLetters_17 : decode cX10_takeLetters 17 = .ok (.iaload, 1) := by decide +kernel
theorem dX10_takeLetters_18 : decode cX10_takeLetters 18 = .ok (.iload_n 1, 1) := by decide +kernel
theorem dX10_takeLetters_19 : decode cX10_takeLetters 19 = .ok (.if_icmp .eq 19, 3) := by decide +kernel
theorem dX10_takeLetters_22 : decode cX10_takeLetters 22 = .ok (.aload_n 0, 1) := by decide +kernel
theorem dX10_takeLetters_23 : decode cX10_takeLetters 23 = .ok (.getfield 60, 3) := by decide +kernel
theorem dX10_takeLetters_26 : decode cX10_takeLetters 26 = .ok (.iload_n 3, 1) := by decide +kernel
theorem dX10_takeLetters_27 : decode cX10_takeLetters 27 = .ok (.aload_n 0, 1) := by decide +kernel
theorem dX10_takeLetters_28 : decode cX10_takeLetters 28 = .ok (.getfield 60, 3) := by decide +kernel
theorem dX10_takeLetters_31 : decode cX10_takeLetters 31 = .ok (.iload 4, 2) := by decide +kernel
theorem dX10_takeLetters_33 : decode cX10_takeLetters 33 = .ok (.iaload, 1) := by decide +kernel
theorem dX10_takeLetters_34 : decode cX10_takeLetters 34 = .ok (.iastore, 1) := by decide +kernel
theorem dX10_takeLetters_35 : decode cX10_takeLetters 35 = .ok (.iinc 3 1, 3) := by decide +kernel
theorem dX10_takeLetters_38 : decode cX10_takeLetters 38 = .ok (.iinc 4 1, 3) := by decide +kernel
theorem dX10_takeLetters_41 : decode cX10_takeLetters 41 = .ok (.goto (-36), 3) := by decide +kernel
theorem dX10_takeLetters_44 : decode cX10_takeLetters 44 = .ok (.iload_n 3, 1) := by decide +kernel
theorem dX10_takeLetters_45 : decode cX10_takeLetters 45 = .ok (.ireturn, 1) := by decide +kernel
theorem dX10_parcel_0 : decode cX10_parcel 0 = .ok (.aload_n 0, 1) := by decide +kernel
theorem dX10_parcel_1 : decode cX10_parcel 1 = .ok (.iload_n 1, 1) := by decide +kernel
theorem dX10_parcel_2 : decode cX10_parcel 2 = .ok (.invokevirtual 119, 3) := by decide +kernel
theorem dX10_parcel_5 : decode cX10_parcel 5 = .ok (.ifCond .eq 23, 3) := by decide +kernel
theorem dX10_parcel_8 : decode cX10_parcel 8 = .ok (.iload_n 2, 1) := by decide +kernel
theorem dX10_parcel_9 : decode cX10_parcel 9 = .ok (.iconst 1, 1) := by decide +kernel
theorem dX10_parcel_10 : decode cX10_parcel 10 = .ok (.bipush 60, 2) := by decide +kernel
theorem dX10_parcel_12 : decode cX10_parcel 12 = .ok (.invokestatic 72, 3) := by decide +kernel
theorem dX10_parcel_15 : decode cX10_parcel 15 = .ok (.ifCond .eq 13, 3) := by decide +kernel
theorem dX10_parcel_18 : decode cX10_parcel 18 = .ok (.iload_n 3, 1) := by decide +kernel
theorem dX10_parcel_19 : decode cX10_parcel 19 = .ok (.iconst 1, 1) := by decide +kernel
theorem dX10_parcel_20 : decode cX10_parcel 20 = .ok (.bipush 99, 2) := by decide +kernel
theorem dX10_parcel_22 : decode cX10_parcel 22 = .ok (.invokestatic 72, 3) := by decide +kernel
theorem dX10_parcel_25 : decode cX10_parcel 25 = .ok (.ifCond .ne 10, 3) := by decide +kernel
theorem dX10_parcel_28 : decode cX10_parcel 28 = .ok (.aload_n 0, 1) := by decide +kernel
theorem dX10_parcel_29 : decode cX10_parcel 29 = .ok (.bipush (-2), 2) := by decide +kernel
theorem dX10_parcel_31 : decode cX10_parcel 31 = .ok (.invokevirtual 76, 3) := by decide +kernel
theorem dX10_parcel_34 : decode cX10_parcel 34 = .ok (.ireturn, 1) := by decide +kernel
theorem dX10_parcel_35 : decode cX10_parcel 35 = .ok (.aload_n 0, 1) := by decide +kernel
theorem dX10_parcel_36 : decode cX10_parcel 36 = .ok (.getfield 25, 3) := by decide +kernel
theorem dX10_parcel_39 : decode cX10_parcel 39 = .ok (.getfield 340, 3) := by decide +kernel
theorem dX10_parcel_42 : decode cX10_parcel 42 = .ok (.bipush 10, 2) := by decide +kernel
theorem dX10_parcel_44 : decode cX10_parcel 44 = .ok (.if_icmp .lt 10, 3) := by decide +kernel
theorem dX10_parcel_47 : decode cX10_parcel 47 = .ok (.aload_n 0, 1) := by decide +kernel
theorem dX10_parcel_48 : decode cX10_parcel 48 = .ok (.bipush (-6), 2) := by decide +kernel
theorem dX10_parcel_50 : decode cX10_parcel 50 = .ok (.invokevirtual 76, 3) := by decide +kernel
theorem dX10_parcel_53 : decode cX10_parcel 53 = .ok (.ireturn, 1) := by decide +kernel
theorem dX10_parcel_54 : decode cX10_parcel 54 = .ok (.aload_n 0, 1) := by decide +kernel
theorem dX10_parcel_55 : decode cX10_parcel 55 = .ok (.getfield 25, 3) := by decide +kernel
theorem dX10_parcel_58 : decode cX10_parcel 58 = .ok (.getfield 343, 3) := by decide +kernel
theorem dX10_parcel_61 : decode cX10_parcel 61 = .ok (.aload_n 0, 1) := by decide +kernel
theorem dX10_parcel_62 : decode cX10_parcel 62 = .ok (.getfield 25, 3) := by decide +kernel
theorem dX10_parcel_65 : decode cX10_parcel 65 = .ok (.getfield 340, 3) := by decide +kernel
theorem dX10_parcel_68 : decode cX10_parcel 68 = .ok (.iload_n 2, 1) := by decide +kernel
theorem dX10_parcel_69 : decode cX10_parcel 69 = .ok (.iastore, 1) := by decide +kernel
theorem dX10_parcel_70 : decode cX10_parcel 70 = .ok (.aload_n 0, 1) := by decide +kernel
theorem dX10_parcel_71 : decode cX10_parcel 71 = .ok (.getfield 25, 3) := by decide +kernel
theorem dX10_parcel_74 : decode cX10_parcel 74 = .ok (.getfield 346, 3) := by decide +kernel
theorem dX10_parcel_77 : decode cX10_parcel 77 = .ok (.aload_n 0, 1) := by decide +kernel
theorem dX10_parcel_78 : decode cX10_parcel 78 = .ok (.getfield 25, 3) := by decide +kernel
theorem dX10_parcel_81 : decode cX10_parcel 81 = .ok (.getfield 340, 3) := by decide +kernel
theorem dX10_parcel_84 : decode cX10_parcel 84 = .ok (.iload_n 3, 1) := by decide +kernel
theorem dX10_parcel_85 : decode cX10_parcel 85 = .ok (.iastore, 1) := by decide +kernel
theorem dX10_parcel_86 : decode cX10_parcel 86 = .ok (.aload_n 0, 1) := by decide +kernel
theorem dX10_parcel_87 : decode cX10_parcel 87 = .ok (.getfield 25, 3) := by decide +kernel
theorem dX10_parcel_90 : decode cX10_parcel 90 = .ok (.dup, 1) := by decide +kernel
theorem dX10_parcel_91 : decode cX10_parcel 91 = .ok (.getfield 340, 3) := by decide +kernel
theorem dX10_parcel_94 : decode cX10_parcel 94 = .ok (.iconst 1, 1) := by decide +kernel
theorem dX10_parcel_95 : decode cX10_parcel 95 = .ok (.iadd, 1) := by decide +kernel
theorem dX10_parcel_96 : decode cX10_parcel 96 = .ok (.putfield 340, 3) := by decide +kernel
theorem dX10_parcel_99 : decode cX10_parcel 99 = .ok (.aload_n 0, 1) := by decide +kernel
theorem dX10_parcel_100 : decode cX10_parcel 100 = .ok (.getfield 25, 3) := by decide +kernel
theorem dX10_parcel_103 : decode cX10_parcel 103 = .ok (.getfield 340, 3) := by decide +kernel
theorem dX10_parcel_106 : decode cX10_parcel 106 = .ok (.iconst 1, 1) := by decide +kernel
theorem dX10_parcel_107 : decode cX10_parcel 107 = .ok (.isub, 1) := by decide +kernel
theorem dX10_parcel_108 : decode cX10_parcel 108 = .ok (.ireturn, 1) := by decide +kernel
theorem dX10_stops_0 : decode cX10_stops 0 = .ok (.iload_n 1, 1) := by decide +kernel
theorem dX10_stops_1 : decode cX10_stops 1 = .ok (.iconst 0, 1) := by decide +kernel
theorem dX10_stops_2 : decode cX10_stops 2 = .ok (.sipush 600, 3) := by decide +kernel
theorem dX10_stops_5 : decode cX10_stops 5 = .ok (.invokestatic 72, 3) := by decide +kernel
theorem dX10_stops_8 : decode cX10_stops 8 = .ok (.ifCond .ne 10, 3) := by decide +kernel
theorem dX10_stops_11 : decode cX10_stops 11 = .ok (.aload_n 0, 1) := by decide +kernel
theorem dX10_stops_12 : decode cX10_stops 12 = .ok (.bipush (-2), 2) := by decide +kernel
theorem dX10_stops_14 : decode cX10_stops 14 = .ok (.invokevirtual 76, 3) := by decide +kernel
theorem dX10_stops_17 : decode cX10_stops 17 = .ok (.ireturn, 1) := by decide +kernel
theorem dX10_stops_18 : decode cX10_stops 18 = .ok (.iconst 0, 1) := by decide +kernel
theorem dX10_stops_19 : decode cX10_stops 19 = .ok (.istore_n 2, 1) := by decide +kernel
theorem dX10_stops_20 : decode cX10_stops 20 = .ok (.iconst 0, 1) := by decide +kernel
theorem dX10_stops_21 : decode cX10_stops 21 = .ok (.istore_n 3, 1) := by decide +kernel
theorem dX10_stops_22 : decode cX10_stops 22 = .ok (.iconst 1, 1) := by decide +kernel
theorem dX10_stops_23 : decode cX10_stops 23 = .ok (.aload_n 0, 1) := by decide +kernel
theorem dX10_stops_24 : decode cX10_stops 24 = .ok (.getfield 25, 3) := by decide +kernel
theorem dX10_stops_27 : decode cX10_stops 27 = .ok (.getfield 340, 3) := by decide +kernel
theorem dX10_stops_30 : decode cX10_stops 30 = .ok (.ishl, 1) := by decide +kernel
theorem dX10_stops_31 : decode cX10_stops 31 = .ok (.istore 4, 2) := by decide +kernel
theorem dX10_stops_33 : decode cX10_stops 33 = .ok (.iconst 1, 1) := by decide +kernel
theorem dX10_stops_34 : decode cX10_stops 34 = .ok (.istore 5, 2) := by decide +kernel
theorem dX10_stops_36 : decode cX10_stops 36 = .ok (.iload 5, 2) := by decide +kernel
theorem dX10_stops_38 : decode cX10_stops 38 = .ok (.iload 4, 2) := by decide +kernel
theorem dX10_stops_40 : decode cX10_stops 40 = .ok (.if_icmp .ge 33, 3) := by decide +kernel
theorem dX10_stops_43 : decode cX10_stops 43 = .ok (.aload_n 0, 1) := by decide +kernel
theorem dX10_stops_44 : decode cX10_stops 44 = .ok (.getfield 25, 3) := by decide +kernel
theorem dX10_stops_47 : decode cX10_stops 47 = .ok (.iload 5, 2) := by decide +kernel
theorem dX10_stops_49 : decode cX10_stops 49 = .ok (.iload_n 1, 1) := by decide +kernel
theorem dX10_stops_50 : decode cX10_stops 50 = .ok (.invokevirtual 349, 3) := by decide +kernel
theorem dX10_stops_53 : decode cX10_stops 53 = .ok (.istore 6, 2) := by decide +kernel
theorem dX10_stops_55 : decode cX10_stops 55 = .ok (.iload 6, 2) := by decide +kernel
theorem dX10_stops_57 : decode cX10_stops 57 = .ok (.iload_n 3, 1) := by decide +kernel
theorem dX10_stops_58 : decode cX10_stops 58 = .ok (.if_icmp .le 9, 3) := by decide +kernel
theorem dX10_stops_61 : decode cX10_stops 61 = .ok (.iload 6, 2) := by decide +kernel
theorem dX10_stops_63 : decode cX10_stops 63 = .ok (.istore_n 3, 1) := by decide +kernel
theorem dX10_stops_64 : decode cX10_stops 64 = .ok (.iload 5, 2) := by decide +kernel
theorem dX10_stops_66 : decode cX10_stops 66 = .ok (.istore_n 2, 1) := by decide +kernel
theorem dX10_stops_67 : decode cX10_stops 67 = .ok (.iinc 5 1, 3) := by decide +kernel
theorem dX10_stops_70 : decode cX10_stops 70 = .ok (.goto (-34), 3) := by decide +kernel
theorem dX10_stops_73 : decode cX10_stops 73 = .ok (.iload_n 2, 1) := by decide +kernel
theorem dX10_stops_74 : decode cX10_stops 74 = .ok (.ireturn, 1) := by decide +kernel
theorem dX10_firstOut_0 : decode cX10_firstOut 0 = .ok (.iload_n 1, 1) := by decide +kernel
theorem dX10_firstOut_1 : decode cX10_firstOut 1 = .ok (.iconst 1, 1) := by decide +kernel
theorem dX10_firstOut_2 : decode cX10_firstOut 2 = .ok (.bipush 20, 2) := by decide +kernel
theorem dX10_firstOut_4 : decode cX10_firstOut 4 = .ok (.invokestatic 72, 3) := by decide +kernel
theorem dX10_firstOut_7 : decode cX10_firstOut 7 = .ok (.ifCond .ne 10, 3) := by decide +kernel
theorem dX10_firstOut_10 : decode cX10_firstOut 10 = .ok (.aload_n 0, 1) := by decide +kernel
theorem dX10_firstOut_11 : decode cX10_firstOut 11 = .ok (.bipush (-2), 2) := by decide +kernel
theorem dX10_firstOut_13 : decode cX10_firstOut 13 = .ok (.invokevirtual 76, 3) := by decide +kernel
theorem dX10_firstOut_16 : decode cX10_firstOut 16 = .ok (.ireturn, 1) := by decide +kernel
theorem dX10_firstOut_17 : decode cX10_firstOut 17 = .ok (.iconst (-1), 1) := by decide +kernel
theorem dX10_firstOut_18 : decode cX10_firstOut 18 = .ok (.istore_n 2, 1) := by decide +kernel
theorem dX10_firstOut_19 : decode cX10_firstOut 19 = .ok (.bipush 21, 2) := by decide +kernel
theorem dX10_firstOut_21 : decode cX10_firstOut 21 = .ok (.istore_n 3, 1) := by decide +kernel
theorem dX10_firstOut_22 : decode cX10_firstOut 22 = .ok (.iconst 0, 1) := by decide +kernel
theorem dX10_firstOut_23 : decode cX10_firstOut 23 = .ok (.istore 4, 2) := by decide +kernel
theorem dX10_firstOut_25 : decode cX10_firstOut 25 = .ok (.iload 4, 2) := by decide +kernel
theorem dX10_firstOut_27 : decode cX10_firstOut 27 = .ok (.aload_n 0, 1) := by decide +kernel
theorem dX10_firstOut_28 : decode cX10_firstOut 28 = .ok (.getfield 25, 3) := by decide +kernel
theorem dX10_firstOut_31 : decode cX10_firstOut 31 = .ok (.getfield 160, 3) := by decide +kernel
theorem dX10_firstOut_34 : decode cX10_firstOut 34 = .ok (.if_icmp .ge 39, 3) := by decide +kernel
theorem dX10_firstOut_37 : decode cX10_firstOut 37 = .ok (.aload_n 0, 1) := by decide +kernel
theorem dX10_firstOut_38 : decode cX10_firstOut 38 = .ok (.getfield 25, 3) := by decide +kernel
theorem dX10_firstOut_41 : decode cX10_firstOut 41 = .ok (.iload 4, 2) := by decide +kernel
theorem dX10_firstOut_43 : decode cX10_firstOut 43 = .ok (.iload_n 1, 1) := by decide +kernel
theorem dX10_firstOut_44 : decode cX10_firstOut 44 = .ok (.invokevirtual 352, 3) := by decide +kernel
theorem dX10_firstOut_47 : decode cX10_firstOut 47 = .ok (.istore 5, 2) := by decide +kernel
theorem dX10_firstOut_49 : decode cX10_firstOut 49 = .ok (.iload 5, 2) := by decide +kernel
theorem dX10_firstOut_51 : decode cX10_firstOut 51 = .ok (.iconst (-1), 1) := by decide +kernel
theorem dX10_firstOut_52 : decode cX10_firstOut 52 = .ok (.if_icmp .eq 15, 3) := by decide +kernel
theorem dX10_firstOut_55 : decode cX10_firstOut 55 = .ok (.iload 5, 2) := by decide +kernel
theorem dX10_firstOut_57 : decode cX10_firstOut 57 = .ok (.iload_n 3, 1) := by decide +kernel
theorem dX10_firstOut_58 : decode cX10_firstOut 58 = .ok (.if_icmp .ge 9, 3) := by decide +kernel
theorem dX10_firstOut_61 : decode cX10_firstOut 61 = .ok (.iload 5, 2) := by decide +kernel
theorem dX10_firstOut_63 : decode cX10_firstOut 63 = .ok (.istore_n 3, 1) := by decide +kernel
theorem dX10_firstOut_64 : decode cX10_firstOut 64 = .ok (.iload 4, 2) := by decide +kernel
theorem dX10_firstOut_66 : decode cX10_firstOut 66 = .ok (.istore_n 2, 1) := by decide +kernel
theorem dX10_firstOut_67 : decode cX10_firstOut 67 = .ok (.iinc 4 1, 3) := by decide +kernel
theorem dX10_firstOut_70 : decode cX10_firstOut 70 = .ok (.goto (-45), 3) := by decide +kernel
theorem dX10_firstOut_73 : decode cX10_firstOut 73 = .ok (.iload_n 2, 1) := by decide +kernel
theorem dX10_firstOut_74 : decode cX10_firstOut 74 = .ok (.ireturn, 1) := by decide +kernel
theorem dX10_week_0 : decode cX10_week 0 = .ok (.aload_n 0, 1) := by decide +kernel
theorem dX10_week_1 : decode cX10_week 1 = .ok (.iload_n 1, 1) := by decide +kernel
theorem dX10_week_2 : decode cX10_week 2 = .ok (.invokevirtual 119, 3) := by decide +kernel
theorem dX10_week_5 : decode cX10_week 5 = .ok (.ifCond .eq 13, 3) := by decide +kernel
theorem dX10_week_8 : decode cX10_week 8 = .ok (.iload_n 2, 1) := by decide +kernel
theorem dX10_week_9 : decode cX10_week 9 = .ok (.iconst 1, 1) := by decide +kernel
theorem dX10_week_10 : decode cX10_week 10 = .ok (.bipush 20, 2) := by decide +kernel
theorem dX10_week_12 : decode cX10_week 12 = .ok (.invokestatic 72, 3) := by decide +kernel
theorem dX10_week_15 : decode cX10_week 15 = .ok (.ifCond .ne 10, 3) := by decide +kernel
theorem dX10_week_18 : decode cX10_week 18 = .ok (.aload_n 0, 1) := by decide +kernel
theorem dX10_week_19 : decode cX10_week 19 = .ok (.bipush (-2), 2) := by decide +kernel
theorem dX10_week_21 : decode cX10_week 21 = .ok (.invokevirtual 76, 3) := by decide +kernel
theorem dX10_week_24 : decode cX10_week 24 = .ok (.ireturn, 1) := by decide +kernel
theorem dX10_week_25 : decode cX10_week 25 = .ok (.aload_n 0, 1) := by decide +kernel
theorem dX10_week_26 : decode cX10_week 26 = .ok (.getfield 25, 3) := by decide +kernel
theorem dX10_week_29 : decode cX10_week 29 = .ok (.iload_n 1, 1) := by decide +kernel
theorem dX10_week_30 : decode cX10_week 30 = .ok (.iload_n 2, 1) := by decide +kernel
theorem dX10_week_31 : decode cX10_week 31 = .ok (.invokevirtual 352, 3) := by decide +kernel
theorem dX10_week_34 : decode cX10_week 34 = .ok (.ireturn, 1) := by decide +kernel
theorem dX10_outs_0 : decode cX10_outs 0 = .ok (.iload_n 1, 1) := by decide +kernel
theorem dX10_outs_1 : decode cX10_outs 1 = .ok (.iconst 0, 1) := by decide +kernel
theorem dX10_outs_2 : decode cX10_outs 2 = .ok (.bipush 20, 2) := by decide +kernel
theorem dX10_outs_4 : decode cX10_outs 4 = .ok (.invokestatic 72, 3) := by decide +kernel
theorem dX10_outs_7 : decode cX10_outs 7 = .ok (.ifCond .eq 13, 3) := by decide +kernel
theorem dX10_outs_10 : decode cX10_outs 10 = .ok (.iload_n 2, 1) := by decide +kernel
theorem dX10_outs_11 : decode cX10_outs 11 = .ok (.iconst 1, 1) := by decide +kernel
theorem dX10_outs_12 : decode cX10_outs 12 = .ok (.bipush 20, 2) := by decide +kernel
theorem dX10_outs_14 : decode cX10_outs 14 = .ok (.invokestatic 72, 3) := by decide +kernel
theorem dX10_outs_17 : decode cX10_outs 17 = .ok (.ifCond .ne 10, 3) := by decide +kernel
theorem dX10_outs_20 : decode cX10_outs 20 = .ok (.aload_n 0, 1) := by decide +kernel
theorem dX10_outs_21 : decode cX10_outs 21 = .ok (.bipush (-2), 2) := by decide +kernel
theorem dX10_outs_23 : decode cX10_outs 23 = .ok (.invokevirtual 76, 3) := by decide +kernel
theorem dX10_outs_26 : decode cX10_outs 26 = .ok (.ireturn, 1) := by decide +kernel
theorem dX10_outs_27 : decode cX10_outs 27 = .ok (.iconst 0, 1) := by decide +kernel
theorem dX10_outs_28 : decode cX10_outs 28 = .ok (.istore_n 3, 1) := by decide +kernel
theorem dX10_outs_29 : decode cX10_outs 29 = .ok (.iconst 0, 1) := by decide +kernel
theorem dX10_outs_30 : decode cX10_outs 30 = .ok (.istore 4, 2) := by decide +kernel
theorem dX10_outs_32 : decode cX10_outs 32 = .ok (.iload 4, 2) := by decide +kernel
theorem dX10_outs_34 : decode cX10_outs 34 = .ok (.aload_n 0, 1) := by decide +kernel
theorem dX10_outs_35 : decode cX10_outs 35 = .ok (.getfield 25, 3) := by decide +kernel
theorem dX10_outs_38 : decode cX10_outs 38 = .ok (.getfield 160, 3) := by decide +kernel
theorem dX10_outs_41 : decode cX10_outs 41 = .ok (.if_icmp .ge 47, 3) := by decide +kernel
theorem dX10_outs_44 : decode cX10_outs 44 = .ok (.aload_n 0, 1) := by decide +kernel
theorem dX10_outs_45 : decode cX10_outs 45 = .ok (.getfield 25, 3) := by decide +kernel
theorem dX10_outs_48 : decode cX10_outs 48 = .ok (.aload_n 0, 1) := by decide +kernel
theorem dX10_outs_49 : decode cX10_outs 49 = .ok (.getfield 25, 3) := by decide +kernel
theorem dX10_outs_52 : decode cX10_outs 52 = .ok (.getfield 126, 3) := by decide +kernel
theorem dX10_outs_55 : decode cX10_outs 55 = .ok (.iload 4, 2) := by decide +kernel
theorem dX10_outs_57 : decode cX10_outs 57 = .ok (.aaload, 1) := by decide +kernel
theorem dX10_outs_58 : decode cX10_outs 58 = .ok (.aload_n 0, 1) := by decide +kernel
theorem dX10_outs_59 : decode cX10_outs 59 = .ok (.getfield 25, 3) := by decide +kernel
theorem dX10_outs_62 : decode cX10_outs 62 = .ok (.getfield 143, 3) := by decide +kernel
theorem dX10_outs_65 : decode cX10_outs 65 = .ok (.iload_n 1, 1) := by decide +kernel
theorem dX10_outs_66 : decode cX10_outs 66 = .ok (.iload_n 2, 1) := by decide +kernel
theorem dX10_outs_67 : decode cX10_outs 67 = .ok (.imul, 1) := by decide +kernel
theorem dX10_outs_68 : decode cX10_outs 68 = .ok (.isub, 1) := by decide +kernel
theorem dX10_outs_69 : decode cX10_outs 69 = .ok (.invokevirtual 176, 3) := by decide +kernel
theorem dX10_outs_72 : decode cX10_outs 72 = .ok (.ifCond .eq 10, 3) := by decide +kernel
theorem dX10_outs_75 : decode cX10_outs 75 = .ok (.iload_n 3, 1) := by decide +kernel
theorem dX10_outs_76 : decode cX10_outs 76 = .ok (.iconst 1, 1) := by decide +kernel
theorem dX10_outs_77 : decode cX10_outs 77 = .ok (.iload 4, 2) := by decide +kernel
theorem dX10_outs_79 : decode cX10_outs 79 = .ok (.ishl, 1) := by decide +kernel
theorem dX10_outs_80 : decode cX10_outs 80 = .ok (.ior, 1) := by decide +kernel
theorem dX10_outs_81 : decode cX10_outs 81 = .ok (.istore_n 3, 1) := by decide +kernel
theorem dX10_outs_82 : decode cX10_outs 82 = .ok (.iinc 4 1, 3) := by decide +kernel
theorem dX10_outs_85 : decode cX10_outs 85 = .ok (.goto (-53), 3) := by decide +kernel
theorem dX10_outs_88 : decode cX10_outs 88 = .ok (.iload_n 3, 1) := by decide +kernel
theorem dX10_outs_89 : decode cX10_outs 89 = .ok (.ireturn, 1) := by decide +kernel
theorem dX10_seed_0 : decode cX10_seed 0 = .ok (.aload_n 0, 1) := by decide +kernel
theorem dX10_seed_1 : decode cX10_seed 1 = .ok (.getfield 25, 3) := by decide +kernel
theorem dX10_seed_4 : decode cX10_seed 4 = .ok (.getfield 355, 3) := by decide +kernel
theorem dX10_seed_7 : decode cX10_seed 7 = .ok (.istore_n 2, 1) := by decide +kernel
theorem dX10_seed_8 : decode cX10_seed 8 = .ok (.aload_n 0, 1) := by decide +kernel
theorem dX10_seed_9 : decode cX10_seed 9 = .ok (.getfield 25, 3) := by decide +kernel
theorem dX10_seed_12 : decode cX10_seed 12 = .ok (.iload_n 1, 1) := by decide +kernel
theorem dX10_seed_13 : decode cX10_seed 13 = .ok (.putfield 355, 3) := by decide +kernel
theorem dX10_seed_16 : decode cX10_seed 16 = .ok (.iload_n 2, 1) := by decide +kernel
theorem dX10_seed_17 : decode cX10_seed 17 = .ok (.ireturn, 1) := by decide +kernel
theorem dX10_begin_0 : decode cX10_begin 0 = .ok (.aload_n 0, 1) := by decide +kernel
theorem dX10_begin_1 : decode cX10_begin 1 = .ok (.iload_n 1, 1) := by decide +kernel
theorem dX10_begin_2 : decode cX10_begin 2 = .ok (.invokevirtual 243, 3) := by decide +kernel
theorem dX10_begin_5 : decode cX10_begin 5 = .ok (.ifCond .ne 10, 3) := by decide +kernel
theorem dX10_begin_8 : decode cX10_begin 8 = .ok (.aload_n 0, 1) := by decide +kernel
theorem dX10_begin_9 : decode cX10_begin 9 = .ok (.bipush (-2), 2) := by decide +kernel
theorem dX10_begin_11 : decode cX10_begin 11 = .ok (.invokevirtual 76, 3) := by decide +kernel
theorem dX10_begin_14 : decode cX10_begin 14 = .ok (.ireturn, 1) := by decide +kernel
theorem dX10_begin_15 : decode cX10_begin 15 = .ok (.aload_n 0, 1) := by decide +kernel
theorem dX10_begin_16 : decode cX10_begin 16 = .ok (.iload_n 2, 1) := by decide +kernel
theorem dX10_begin_17 : decode cX10_begin 17 = .ok (.iload_n 3, 1) := by decide +kernel
theorem dX10_begin_18 : decode cX10_begin 18 = .ok (.invokevirtual 268, 3) := by decide +kernel
theorem dX10_begin_21 : decode cX10_begin 21 = .ok (.istore 4, 2) := by decide +kernel
theorem dX10_begin_23 : decode cX10_begin 23 = .ok (.iload 4, 2) := by decide +kernel
theorem dX10_begin_25 : decode cX10_begin 25 = .ok (.ifCond .eq 10, 3) := by decide +kernel
theorem dX10_begin_28 : decode cX10_begin 28 = .ok (.aload_n 0, 1) := by decide +kernel
theorem dX10_begin_29 : decode cX10_begin 29 = .ok (.iload 4, 2) := by decide +kernel
theorem dX10_begin_31 : decode cX10_begin 31 = .ok (.invokevirtual 76, 3) := by decide +kernel
theorem dX10_begin_34 : decode cX10_begin 34 = .ok (.ireturn, 1) := by decide +kernel
theorem dX10_begin_35 : decode cX10_begin 35 = .ok (.aload_n 0, 1) := by decide +kernel
theorem dX10_begin_36 : decode cX10_begin 36 = .ok (.aload_n 0, 1) := by decide +kernel
theorem dX10_begin_37 : decode cX10_begin 37 = .ok (.getfield 39, 3) := by decide +kernel
theorem dX10_begin_40 : decode cX10_begin 40 = .ok (.iload_n 2, 1) := by decide +kernel
theorem dX10_begin_41 : decode cX10_begin 41 = .ok (.iload_n 3, 1) := by decide +kernel
theorem dX10_begin_42 : decode cX10_begin 42 = .ok (.invokevirtual 271, 3) := by decide +kernel
theorem dX10_begin_45 : decode cX10_begin 45 = .ok (.aload_n 0, 1) := by decide +kernel
theorem dX10_begin_46 : decode cX10_begin 46 = .ok (.getfield 25, 3) := by decide +kernel
theorem dX10_begin_49 : decode cX10_begin 49 = .ok (.getfield 358, 3) := by decide +kernel
theorem dX10_begin_52 : decode cX10_begin 52 = .ok (.iload_n 1, 1) := by decide +kernel
theorem dX10_begin_53 : decode cX10_begin 53 = .ok (.aload_n 0, 1) := by decide +kernel
theorem dX10_begin_54 : decode cX10_begin 54 = .ok (.getfield 39, 3) := by decide +kernel
theorem dX10_begin_57 : decode cX10_begin 57 = .ok (.aload_n 0, 1) := by decide +kernel
theorem dX10_begin_58 : decode cX10_begin 58 = .ok (.getfield 25, 3) := by decide +kernel
theorem dX10_begin_61 : decode cX10_begin 61 = .ok (.getfield 189, 3) := by decide +kernel
theorem dX10_begin_64 : decode cX10_begin 64 = .ok (.invokevirtual 362, 3) := by decide +kernel
theorem dX10_begin_67 : decode cX10_begin 67 = .ok (.iload_n 3, 1) := by decide +kernel
theorem dX10_begin_68 : decode cX10_begin 68 = .ok (.ireturn, 1) := by decide +kernel
theorem dX10_step_0 : decode cX10_step 0 = .ok (.aload_n 0, 1) := by decide +kernel
theorem dX10_step_1 : decode cX10_step 1 = .ok (.getfield 25, 3) := by decide +kernel
theorem dX10_step_4 : decode cX10_step 4 = .ok (.getfield 358, 3) := by decide +kernel
theorem dX10_step_7 : decode cX10_step 7 = .ok (.invokevirtual 368, 3) := by decide +kernel
theorem dX10_step_10 : decode cX10_step 10 = .ok (.ifCond .eq 13, 3) := by decide +kernel
theorem dX10_step_13 : decode cX10_step 13 = .ok (.aload_n 0, 1) := by decide +kernel
theorem dX10_step_14 : decode cX10_step 14 = .ok (.getfield 25, 3) := by decide +kernel
theorem dX10_step_17 : decode cX10_step 17 = .ok (.invokevirtual 372, 3) := by decide +kernel
theorem dX10_step_20 : decode cX10_step 20 = .ok (.goto 9, 3) := by decide +kernel
theorem dX10_step_23 : decode cX10_step 23 = .ok (.aload_n 0, 1) := by decide +kernel
theorem dX10_step_24 : decode cX10_step 24 = .ok (.bipush (-5), 2) := by decide +kernel
theorem dX10_step_26 : decode cX10_step 26 = .ok (.invokevirtual 76, 3) := by decide +kernel
theorem dX10_step_29 : decode cX10_step 29 = .ok (.ireturn, 1) := by decide +kernel
theorem dX10_under_0 : decode cX10_under 0 = .ok (.iload_n 1, 1) := by decide +kernel
theorem dX10_under_1 : decode cX10_under 1 = .ok (.iconst 0, 1) := by decide +kernel
theorem dX10_under_2 : decode cX10_under 2 = .ok (.iconst 4, 1) := by decide +kernel
theorem dX10_under_3 : decode cX10_under 3 = .ok (.invokestatic 72, 3) := by decide +kernel
theorem dX10_under_6 : decode cX10_under 6 = .ok (.ifCond .ne 10, 3) := by decide +kernel
theorem dX10_under_9 : decode cX10_under 9 = .ok (.aload_n 0, 1) := by decide +kernel
theorem dX10_under_10 : decode cX10_under 10 = .ok (.bipush (-2), 2) := by decide +kernel
theorem dX10_under_12 : decode cX10_under 12 = .ok (.invokevirtual 76, 3) := by decide +kernel
theorem dX10_under_15 : decode cX10_under 15 = .ok (.ireturn, 1) := by decide +kernel
theorem dX10_under_16 : decode cX10_under 16 = .ok (.aload_n 0, 1) := by decide +kernel
theorem dX10_under_17 : decode cX10_under 17 = .ok (.getfield 25, 3) := by decide +kernel
theorem dX10_under_20 : decode cX10_under 20 = .ok (.getfield 358, 3) := by decide +kernel
theorem dX10_under_23 : decode cX10_under 23 = .ok (.astore_n 2, 1) := by decide +kernel
theorem dX10_under_24 : decode cX10_under 24 = .ok (.aload_n 2, 1) := by decide +kernel
theorem dX10_under_25 : decode cX10_under 25 = .ok (.getfield 375, 3) := by decide +kernel
theorem dX10_under_28 : decode cX10_under 28 = .ok (.iconst (-1), 1) := by decide +kernel
theorem dX10_under_29 : decode cX10_under 29 = .ok (.if_icmp .ne 10, 3) := by decide +kernel
theorem dX10_under_32 : decode cX10_under 32 = .ok (.aload_n 0, 1) := by decide +kernel
theorem dX10_under_33 : decode cX10_under 33 = .ok (.bipush (-5), 2) := by decide +kernel
theorem dX10_under_35 : decode cX10_under 35 = .ok (.invokevirtual 76, 3) := by decide +kernel
theorem dX10_under_38 : decode cX10_under 38 = .ok (.ireturn, 1) := by decide +kernel
theorem dX10_under_39 : decode cX10_under 39 = .ok (.iload_n 1, 1) := by decide +kernel
theorem dX10_under_40 : decode cX10_under 40 = .ok (.tableswitch 52 0 3 #[32, 37, 42, 47], 32) := by decide +kernel
theorem dX10_under_72 : decode cX10_under 72 = .ok (.aload_n 2, 1) := by decide +kernel
theorem dX10_under_73 : decode cX10_under 73 = .ok (.getfield 375, 3) := by decide +kernel
theorem dX10_under_76 : decode cX10_under 76 = .ok (.ireturn, 1) := by decide +kernel
theorem dX10_under_77 : decode cX10_under 77 = .ok (.aload_n 2, 1) := by decide +kernel
theorem dX10_under_78 : decode cX10_under 78 = .ok (.getfield 378, 3) := by decide +kernel
theorem dX10_under_81 : decode cX10_under 81 = .ok (.ireturn, 1) := by decide +kernel
theorem dX10_under_82 : decode cX10_under 82 = .ok (.aload_n 2, 1) := by decide +kernel
theorem dX10_under_83 : decode cX10_under 83 = .ok (.getfield 381, 3) := by decide +kernel
theorem dX10_under_86 : decode cX10_under 86 = .ok (.ireturn, 1) := by decide +kernel
theorem dX10_under_87 : decode cX10_under 87 = .ok (.aload_n 2, 1) := by decide +kernel
theorem dX10_under_88 : decode cX10_under 88 = .ok (.getfield 384, 3) := by decide +kernel
theorem dX10_under_91 : decode cX10_under 91 = .ok (.ireturn, 1) := by decide +kernel
theorem dX10_under_92 : decode cX10_under 92 = .ok (.aload_n 2, 1) := by decide +kernel
theorem dX10_under_93 : decode cX10_under 93 = .ok (.getfield 385, 3) := by decide +kernel
theorem dX10_under_96 : decode cX10_under 96 = .ok (.ireturn, 1) := by decide +kernel
theorem dX10_image_0 : decode cX10_image 0 = .ok (.aload_n 0, 1) := by decide +kernel
theorem dX10_image_1 : decode cX10_image 1 = .ok (.getfield 29, 3) := by decide +kernel
theorem dX10_image_4 : decode cX10_image 4 = .ok (.aload_n 0, 1) := by decide +kernel
theorem dX10_image_5 : decode cX10_image 5 = .ok (.getfield 25, 3) := by decide +kernel
theorem dX10_image_8 : decode cX10_image 8 = .ok (.invokevirtual 388, 3) := by decide +kernel
theorem dX10_image_11 : decode cX10_image 11 = .ok (.aload_n 0, 1) := by decide +kernel
theorem dX10_image_12 : decode cX10_image 12 = .ok (.iconst 1, 1) := by decide +kernel
theorem dX10_image_13 : decode cX10_image 13 = .ok (.putfield 392, 3) := by decide +kernel
theorem dX10_image_16 : decode cX10_image 16 = .ok (.iconst 1, 1) := by decide +kernel
theorem dX10_image_17 : decode cX10_image 17 = .ok (.ireturn, 1) := by decide +kernel
theorem dX10_back_0 : decode cX10_back 0 = .ok (.aload_n 0, 1) := by decide +kernel
theorem dX10_back_1 : decode cX10_back 1 = .ok (.getfield 392, 3) := by decide +kernel
theorem dX10_back_4 : decode cX10_back 4 = .ok (.ifCond .ne 10, 3) := by decide +kernel
theorem dX10_back_7 : decode cX10_back 7 = .ok (.aload_n 0, 1) := by decide +kernel
theorem dX10_back_8 : decode cX10_back 8 = .ok (.bipush (-5), 2) := by decide +kernel
theorem dX10_back_10 : decode cX10_back 10 = .ok (.invokevirtual 76, 3) := by decide +kernel
theorem dX10_back_13 : decode cX10_back 13 = .ok (.ireturn, 1) := by decide +kernel
theorem dX10_back_14 : decode cX10_back 14 = .ok (.aload_n 0, 1) := by decide +kernel
theorem dX10_back_15 : decode cX10_back 15 = .ok (.getfield 25, 3) := by decide +kernel
theorem dX10_back_18 : decode cX10_back 18 = .ok (.aload_n 0, 1) := by decide +kernel
theorem dX10_back_19 : decode cX10_back 19 = .ok (.getfield 29, 3) := by decide +kernel
theorem dX10_back_22 : decode cX10_back 22 = .ok (.invokevirtual 388, 3) := by decide +kernel
theorem dX10_back_25 : decode cX10_back 25 = .ok (.iconst 0, 1) := by decide +kernel
theorem dX10_back_26 : decode cX10_back 26 = .ok (.istore_n 1, 1) := by decide +kernel
theorem dX10_back_27 : decode cX10_back 27 = .ok (.iload_n 1, 1) := by decide +kernel
theorem dX10_back_28 : decode cX10_back 28 = .ok (.bipush 8, 2) := by decide +kernel
theorem dX10_back_30 : decode cX10_back 30 = .ok (.if_icmp .ge 38, 3) := by decide +kernel
theorem dX10_back_33 : decode cX10_back 33 = .ok (.aload_n 0, 1) := by decide +kernel
theorem dX10_back_34 : decode cX10_back 34 = .ok (.getfield 11, 3) := by decide +kernel
theorem dX10_back_37 : decode cX10_back 37 = .ok (.iload_n 1, 1) := by decide +kernel
theorem dX10_back_38 : decode cX10_back 38 = .ok (.aaload, 1) := by decide +kernel
theorem dX10_back_39 : decode cX10_back 39 = .ok (.getfield 116, 3) := by decide +kernel
theorem dX10_back_42 : decode cX10_back 42 = .ok (.aload_n 0, 1) := by decide +kernel
theorem dX10_back_43 : decode cX10_back 43 = .ok (.getfield 25, 3) := by decide +kernel
theorem dX10_back_46 : decode cX10_back 46 = .ok (.getfield 160, 3) := by decide +kernel
theorem dX10_back_49 : decode cX10_back 49 = .ok (.if_icmp .lt 13, 3) := by decide +kernel
theorem dX10_back_52 : decode cX10_back 52 = .ok (.aload_n 0, 1) := by decide +kernel
theorem dX10_back_53 : decode cX10_back 53 = .ok (.getfield 11, 3) := by decide +kernel
theorem dX10_back_56 : decode cX10_back 56 = .ok (.iload_n 1, 1) := by decide +kernel
theorem dX10_back_57 : decode cX10_back 57 = .ok (.aaload, 1) := by decide +kernel
theorem dX10_back_58 : decode cX10_back 58 = .ok (.iconst (-1), 1) := by decide +kernel
theorem dX10_back_59 : decode cX10_back 59 = .ok (.invokevirtual 122, 3) := by decide +kernel
theorem dX10_back_62 : decode cX10_back 62 = .ok (.iinc 1 1, 3) := by decide +kernel
theorem dX10_back_65 : decode cX10_back 65 = .ok (.goto (-38), 3) := by decide +kernel
theorem dX10_back_68 : decode cX10_back 68 = .ok (.iconst 1, 1) := by decide +kernel
theorem dX10_back_69 : decode cX10_back 69 = .ok (.ireturn, 1) := by decide +kernel
theorem dX10_status_0 : decode cX10_status 0 = .ok (.iload_n 1, 1) := by decide +kernel
theorem dX10_status_1 : decode cX10_status 1 = .ok (.tableswitch 120 0 8 #[51, 59, 67, 75, 83, 91, 99, 104, 112], 51) := by decide +kernel
theorem dX10_status_52 : decode cX10_status 52 = .ok (.aload_n 0, 1) := by decide +kernel
theorem dX10_status_53 : decode cX10_status 53 = .ok (.getfield 25, 3) := by decide +kernel
theorem dX10_status_56 : decode cX10_status 56 = .ok (.getfield 160, 3) := by decide +kernel
theorem dX10_status_59 : decode cX10_status 59 = .ok (.ireturn, 1) := by decide +kernel
theorem dX10_status_60 : decode cX10_status 60 = .ok (.aload_n 0, 1) := by decide +kernel
theorem dX10_status_61 : decode cX10_status 61 = .ok (.getfield 25, 3) := by decide +kernel
theorem dX10_status_64 : decode cX10_status 64 = .ok (.getfield 209, 3) := by decide +kernel
theorem dX10_status_67 : decode cX10_status 67 = .ok (.ireturn, 1) := by decide +kernel
theorem dX10_status_68 : decode cX10_status 68 = .ok (.aload_n 0, 1) := by decide +kernel
theorem dX10_status_69 : decode cX10_status 69 = .ok (.getfield 25, 3) := by decide +kernel
theorem dX10_status_72 : decode cX10_status 72 = .ok (.getfield 231, 3) := by decide +kernel
theorem dX10_status_75 : decode cX10_status 75 = .ok (.ireturn, 1) := by decide +kernel
theorem dX10_status_76 : decode cX10_status 76 = .ok (.aload_n 0, 1) := by decide +kernel
theorem dX10_status_77 : decode cX10_status 77 = .ok (.getfield 25, 3) := by decide +kernel
theorem dX10_status_80 : decode cX10_status 80 = .ok (.getfield 340, 3) := by decide +kernel
theorem dX10_status_83 : decode cX10_status 83 = .ok (.ireturn, 1) := by decide +kernel
theorem dX10_status_84 : decode cX10_status 84 = .ok (.aload_n 0, 1) := by decide +kernel
theorem dX10_status_85 : decode cX10_status 85 = .ok (.getfield 18, 3) := by decide +kernel
theorem dX10_status_88 : decode cX10_status 88 = .ok (.getfield 205, 3) := by decide +kernel
theorem dX10_status_91 : decode cX10_status 91 = .ok (.ireturn, 1) := by decide +kernel
theorem dX10_status_92 : decode cX10_status 92 = .ok (.aload_n 0, 1) := by decide +kernel
theorem dX10_status_93 : decode cX10_status 93 = .ok (.getfield 25, 3) := by decide +kernel
theorem dX10_status_96 : decode cX10_status 96 = .ok (.getfield 355, 3) := by decide +kernel
theorem dX10_status_99 : decode cX10_status 99 = .ok (.ireturn, 1) := by decide +kernel
theorem dX10_status_100 : decode cX10_status 100 = .ok (.aload_n 0, 1) := by decide +kernel
theorem dX10_status_101 : decode cX10_status 101 = .ok (.invokevirtual 395, 3) := by decide +kernel
theorem dX10_status_104 : decode cX10_status 104 = .ok (.ireturn, 1) := by decide +kernel
theorem dX10_status_105 : decode cX10_status 105 = .ok (.aload_n 0, 1) := by decide +kernel
theorem dX10_status_106 : decode cX10_status 106 = .ok (.getfield 25, 3) := by decide +kernel
theorem dX10_status_109 : decode cX10_status 109 = .ok (.getfield 186, 3) := by decide +kernel
theorem dX10_status_112 : decode cX10_status 112 = .ok (.ireturn, 1) := by decide +kernel
theorem dX10_status_113 : decode cX10_status 113 = .ok (.aload_n 0, 1) := by decide +kernel
theorem dX10_status_114 : decode cX10_status 114 = .ok (.getfield 25, 3) := by decide +kernel
theorem dX10_status_117 : decode cX10_status 117 = .ok (.getfield 189, 3) := by decide +kernel
theorem dX10_status_120 : decode cX10_status 120 = .ok (.ireturn, 1) := by decide +kernel
theorem dX10_status_121 : decode cX10_status 121 = .ok (.iload_n 1, 1) := by decide +kernel
theorem dX10_status_122 : decode cX10_status 122 = .ok (.bipush 12, 2) := by decide +kernel
theorem dX10_status_124 : decode cX10_status 124 = .ok (.bipush 16, 2) := by decide +kernel
theorem dX10_status_126 : decode cX10_status 126 = .ok (.invokestatic 72, 3) := by decide +kernel
theorem dX10_status_129 : decode cX10_status 129 = .ok (.ifCond .eq 15, 3) := by decide +kernel
theorem dX10_status_132 : decode cX10_status 132 = .ok (.aload_n 0, 1) := by decide +kernel
theorem dX10_status_133 : decode cX10_status 133 = .ok (.getfield 32, 3) := by decide +kernel
theorem dX10_status_136 : decode cX10_status 136 = .ok (.iload_n 1, 1) := by decide +kernel
theorem dX10_status_137 : decode cX10_status 137 = .ok (.bipush 12, 2) := by decide +kernel
theorem dX10_status_139 : decode cX10_status 139 = .ok (.isub, 1) := by decide +kernel
theorem dX10_status_140 : decode cX10_status 140 = .ok (.iaload, 1) := by decide +kernel
theorem dX10_status_141 : decode cX10_status 141 = .ok (.goto 4, 3) := by decide +kernel
theorem dX10_status_144 : decode cX10_status 144 = .ok (.iconst (-1), 1) := by decide +kernel
theorem dX10_status_145 : decode cX10_status 145 = .ok (.ireturn, 1) := by decide +kernel
theorem dX10_shelvesInUse_0 : decode cX10_shelvesInUse 0 = .ok (.iconst 0, 1) := by decide +kernel
theorem dX10_shelvesInUse_1 : decode cX10_shelvesInUse 1 = .ok (.istore_n 1, 1) := by decide +kernel
theorem dX10_shelvesInUse_2 : decode cX10_shelvesInUse 2 = .ok (.iconst 0, 1) := by decide +kernel
theorem dX10_shelvesInUse_3 : decode cX10_shelvesInUse 3 = .ok (.istore_n 2, 1) := by decide +kernel
theorem dX10_shelvesInUse_4 : decode cX10_shelvesInUse 4 = .ok (.iload_n 2, 1) := by decide +kernel
theorem dX10_shelvesInUse_5 : decode cX10_shelvesInUse 5 = .ok (.bipush 8, 2) := by decide +kernel
theorem dX10_shelvesInUse_7 : decode cX10_shelvesInUse 7 = .ok (.if_icmp .ge 32, 3) := by decide +kernel
theorem dX10_shelvesInUse_10 : decode cX10_shelvesInUse 10 = .ok (.iload_n 1, 1) := by decide +kernel
theorem dX10_shelvesInUse_11 : decode cX10_shelvesInUse 11 = .ok (.aload_n 0, 1) := by decide +kernel
theorem dX10_shelvesInUse_12 : decode cX10_shelvesInUse 12 = .ok (.getfield 11, 3) := by decide +kernel
theorem dX10_shelvesInUse_15 : decode cX10_shelvesInUse 15 = .ok (.iload_n 2, 1) := by decide +kernel
theorem dX10_shelvesInUse_16 : decode cX10_shelvesInUse 16 = .ok (.aaload, 1) := by decide +kernel
theorem dX10_shelvesInUse_17 : decode cX10_shelvesInUse 17 = .ok (.invokevirtual 398, 3) := by decide +kernel
theorem dX10_shelvesInUse_20 : decode cX10_shelvesInUse 20 = .ok (.ifCond .ne 7, 3) := by decide +kernel
theorem dX10_shelvesInUse_23 : decode cX10_shelvesInUse 23 = .ok (.iconst 1, 1) := by decide +kernel
theorem dX10_shelvesInUse_24 : decode cX10_shelvesInUse 24 = .ok (.goto 4, 3) := by decide +kernel
theorem dX10_shelvesInUse_27 : decode cX10_shelvesInUse 27 = .ok (.iconst 0, 1) := by decide +kernel
theorem dX10_shelvesInUse_28 : decode cX10_shelvesInUse 28 = .ok (.invokestatic 153, 3) := by decide +kernel
theorem dX10_shelvesInUse_31 : decode cX10_shelvesInUse 31 = .ok (.iadd, 1) := by decide +kernel
theorem dX10_shelvesInUse_32 : decode cX10_shelvesInUse 32 = .ok (.istore_n 1, 1) := by decide +kernel
theorem dX10_shelvesInUse_33 : decode cX10_shelvesInUse 33 = .ok (.iinc 2 1, 3) := by decide +kernel
theorem dX10_shelvesInUse_36 : decode cX10_shelvesInUse 36 = .ok (.goto (-32), 3) := by decide +kernel
theorem dX10_shelvesInUse_39 : decode cX10_shelvesInUse 39 = .ok (.iload_n 1, 1) := by decide +kernel
theorem dX10_shelvesInUse_40 : decode cX10_shelvesInUse 40 = .ok (.ireturn, 1) := by decide +kernel
theorem dX10_refuse_0 : decode cX10_refuse 0 = .ok (.bipush (-2), 2) := by decide +kernel
theorem dX10_refuse_2 : decode cX10_refuse 2 = .ok (.iload_n 1, 1) := by decide +kernel
theorem dX10_refuse_3 : decode cX10_refuse 3 = .ok (.isub, 1) := by decide +kernel
theorem dX10_refuse_4 : decode cX10_refuse 4 = .ok (.istore_n 2, 1) := by decide +kernel
theorem dX10_refuse_5 : decode cX10_refuse 5 = .ok (.iload_n 2, 1) := by decide +kernel
theorem dX10_refuse_6 : decode cX10_refuse 6 = .ok (.iconst 5, 1) := by decide +kernel
theorem dX10_refuse_7 : decode cX10_refuse 7 = .ok (.invokestatic 68, 3) := by decide +kernel
theorem dX10_refuse_10 : decode cX10_refuse 10 = .ok (.ifCond .eq 13, 3) := by decide +kernel
theorem dX10_refuse_13 : decode cX10_refuse 13 = .ok (.aload_n 0, 1) := by decide +kernel
theorem dX10_refuse_14 : decode cX10_refuse 14 = .ok (.getfield 32, 3) := by decide +kernel
theorem dX10_refuse_17 : decode cX10_refuse 17 = .ok (.iload_n 2, 1) := by decide +kernel
theorem dX10_refuse_18 : decode cX10_refuse 18 = .ok (.dup2, 1) := by decide +kernel
theorem dX10_refuse_19 : decode cX10_refuse 19 = .ok (.iaload, 1) := by decide +kernel
theorem dX10_refuse_20 : decode cX10_refuse 20 = .ok (.iconst 1, 1) := by decide +kernel
theorem dX10_refuse_21 : decode cX10_refuse 21 = .ok (.iadd, 1) := by decide +kernel
theorem dX10_refuse_22 : decode cX10_refuse 22 = .ok (.iastore, 1) := by decide +kernel
theorem dX10_refuse_23 : decode cX10_refuse 23 = .ok (.iload_n 1, 1) := by decide +kernel
theorem dX10_refuse_24 : decode cX10_refuse 24 = .ok (.ireturn, 1) := by decide +kernel
theorem dX10_rowTrouble_0 : decode cX10_rowTrouble 0 = .ok (.iload_n 1, 1) := by decide +kernel
theorem dX10_rowTrouble_1 : decode cX10_rowTrouble 1 = .ok (.invokestatic 64, 3) := by decide +kernel
theorem dX10_rowTrouble_4 : decode cX10_rowTrouble 4 = .ok (.ifCond .eq 10, 3) := by decide +kernel
theorem dX10_rowTrouble_7 : decode cX10_rowTrouble 7 = .ok (.iload_n 2, 1) := by decide +kernel
theorem dX10_rowTrouble_8 : decode cX10_rowTrouble 8 = .ok (.invokestatic 64, 3) := by decide +kernel
theorem dX10_rowTrouble_11 : decode cX10_rowTrouble 11 = .ok (.ifCond .ne 6, 3) := by decide +kernel
theorem dX10_rowTrouble_14 : decode cX10_rowTrouble 14 = .ok (.bipush (-2), 2) := by decide +kernel
theorem dX10_rowTrouble_16 : decode cX10_rowTrouble 16 = .ok (.ireturn, 1) := by decide +kernel
theorem dX10_rowTrouble_17 : decode cX10_rowTrouble 17 = .ok (.aload_n 0, 1) := by decide +kernel
theorem dX10_rowTrouble_18 : decode cX10_rowTrouble 18 = .ok (.getfield 11, 3) := by decide +kernel
theorem dX10_rowTrouble_21 : decode cX10_rowTrouble 21 = .ok (.iload_n 1, 1) := by decide +kernel
theorem dX10_rowTrouble_22 : decode cX10_rowTrouble 22 = .ok (.aaload, 1) := by decide +kernel
theorem dX10_rowTrouble_23 : decode cX10_rowTrouble 23 = .ok (.getfield 116, 3) := by decide +kernel
theorem dX10_rowTrouble_26 : decode cX10_rowTrouble 26 = .ok (.iconst (-1), 1) := by decide +kernel
theorem dX10_rowTrouble_27 : decode cX10_rowTrouble 27 = .ok (.if_icmp .ne 16, 3) := by decide +kernel
theorem dX10_rowTrouble_30 : decode cX10_rowTrouble 30 = .ok (.aload_n 0, 1) := by decide +kernel
theorem dX10_rowTrouble_31 : decode cX10_rowTrouble 31 = .ok (.getfield 11, 3) := by decide +kernel
theorem dX10_rowTrouble_34 : decode cX10_rowTrouble 34 = .ok (.iload_n 2, 1) := by decide +kernel
theorem dX10_rowTrouble_35 : decode cX10_rowTrouble 35 = .ok (.aaload, 1) := by decide +kernel
theorem dX10_rowTrouble_36 : decode cX10_rowTrouble 36 = .ok (.getfield 116, 3) := by decide +kernel
theorem dX10_rowTrouble_39 : decode cX10_rowTrouble 39 = .ok (.iconst (-1), 1) := by decide +kernel
theorem dX10_rowTrouble_40 : decode cX10_rowTrouble 40 = .ok (.if_icmp .eq 6, 3) := by decide +kernel
theorem dX10_rowTrouble_43 : decode cX10_rowTrouble 43 = .ok (.bipush (-3), 2) := by decide +kernel
theorem dX10_rowTrouble_45 : decode cX10_rowTrouble 45 = .ok (.ireturn, 1) := by decide +kernel
theorem dX10_rowTrouble_46 : decode cX10_rowTrouble 46 = .ok (.aload_n 0, 1) := by decide +kernel
theorem dX10_rowTrouble_47 : decode cX10_rowTrouble 47 = .ok (.getfield 11, 3) := by decide +kernel
theorem dX10_rowTrouble_50 : decode cX10_rowTrouble 50 = .ok (.iload_n 1, 1) := by decide +kernel
theorem dX10_rowTrouble_51 : decode cX10_rowTrouble 51 = .ok (.aaload, 1) := by decide +kernel
theorem dX10_rowTrouble_52 : decode cX10_rowTrouble 52 = .ok (.invokevirtual 398, 3) := by decide +kernel
theorem dX10_rowTrouble_55 : decode cX10_rowTrouble 55 = .ok (.ifCond .ne 15, 3) := by decide +kernel
theorem dX10_rowTrouble_58 : decode cX10_rowTrouble 58 = .ok (.aload_n 0, 1) := by decide +kernel
theorem dX10_rowTrouble_59 : decode cX10_rowTrouble 59 = .ok (.getfield 11, 3) := by decide +kernel
theorem dX10_rowTrouble_62 : decode cX10_rowTrouble 62 = .ok (.iload_n 2, 1) := by decide +kernel
theorem dX10_rowTrouble_63 : decode cX10_rowTrouble 63 = .ok (.aaload, 1) := by decide +kernel
theorem dX10_rowTrouble_64 : decode cX10_rowTrouble 64 = .ok (.invokevirtual 398, 3) := by decide +kernel
theorem dX10_rowTrouble_67 : decode cX10_rowTrouble 67 = .ok (.ifCond .eq 8, 3) := by decide +kernel
theorem dX10_rowTrouble_70 : decode cX10_rowTrouble 70 = .ok (.bipush (-4), 2) := by decide +kernel
theorem dX10_rowTrouble_72 : decode cX10_rowTrouble 72 = .ok (.goto 4, 3) := by decide +kernel
theorem dX10_rowTrouble_75 : decode cX10_rowTrouble 75 = .ok (.iconst 0, 1) := by decide +kernel
theorem dX10_rowTrouble_76 : decode cX10_rowTrouble 76 = .ok (.ireturn, 1) := by decide +kernel
theorem dX10_roundTrouble_0 : decode cX10_roundTrouble 0 = .ok (.iload_n 2, 1) := by decide +kernel
theorem dX10_roundTrouble_1 : decode cX10_roundTrouble 1 = .ok (.iconst 0, 1) := by decide +kernel
theorem dX10_roundTrouble_2 : decode cX10_roundTrouble 2 = .ok (.bipush 20, 2) := by decide +kernel
theorem dX10_roundTrouble_4 : decode cX10_roundTrouble 4 = .ok (.invokestatic 72, 3) := by decide +kernel
theorem dX10_roundTrouble_7 : decode cX10_roundTrouble 7 = .ok (.ifCond .ne 6, 3) := by decide +kernel
theorem dX10_roundTrouble_10 : decode cX10_roundTrouble 10 = .ok (.bipush (-2), 2) := by decide +kernel
theorem dX10_roundTrouble_12 : decode cX10_roundTrouble 12 = .ok (.ireturn, 1) := by decide +kernel
theorem dX10_roundTrouble_13 : decode cX10_roundTrouble 13 = .ok (.aload_n 0, 1) := by decide +kernel
theorem dX10_roundTrouble_14 : decode cX10_roundTrouble 14 = .ok (.iload_n 1, 1) := by decide +kernel
theorem dX10_roundTrouble_15 : decode cX10_roundTrouble 15 = .ok (.iload_n 1, 1) := by decide +kernel
theorem dX10_roundTrouble_16 : decode cX10_roundTrouble 16 = .ok (.invokevirtual 84, 3) := by decide +kernel
theorem dX10_roundTrouble_19 : decode cX10_roundTrouble 19 = .ok (.istore_n 3, 1) := by decide +kernel
theorem dX10_roundTrouble_20 : decode cX10_roundTrouble 20 = .ok (.iload_n 3, 1) := by decide +kernel
theorem dX10_roundTrouble_21 : decode cX10_roundTrouble 21 = .ok (.ifCond .eq 5, 3) := by decide +kernel
theorem dX10_roundTrouble_24 : decode cX10_roundTrouble 24 = .ok (.iload_n 3, 1) := by decide +kernel
theorem dX10_roundTrouble_25 : decode cX10_roundTrouble 25 = .ok (.ireturn, 1) := by decide +kernel
theorem dX10_roundTrouble_26 : decode cX10_roundTrouble 26 = .ok (.aload_n 0, 1) := by decide +kernel
theorem dX10_roundTrouble_27 : decode cX10_roundTrouble 27 = .ok (.iload_n 1, 1) := by decide +kernel
theorem dX10_roundTrouble_28 : decode cX10_roundTrouble 28 = .ok (.iload_n 2, 1) := by decide +kernel
theorem dX10_roundTrouble_29 : decode cX10_roundTrouble 29 = .ok (.invokevirtual 331, 3) := by decide +kernel
theorem dX10_roundTrouble_32 : decode cX10_roundTrouble 32 = .ok (.ifCond .eq 7, 3) := by decide +kernel
theorem dX10_roundTrouble_35 : decode cX10_roundTrouble 35 = .ok (.iconst 0, 1) := by decide +kernel
theorem dX10_roundTrouble_36 : decode cX10_roundTrouble 36 = .ok (.goto 5, 3) := by decide +kernel
theorem dX10_roundTrouble_39 : decode cX10_roundTrouble 39 = .ok (.bipush (-2), 2) := by decide +kernel
theorem dX10_roundTrouble_41 : decode cX10_roundTrouble 41 = .ok (.ireturn, 1) := by decide +kernel
theorem dX10_tellsJetties_0 : decode cX10_tellsJetties 0 = .ok (.aload_n 0, 1) := by decide +kernel
theorem dX10_tellsJetties_1 : decode cX10_tellsJetties 1 = .ok (.getfield 11, 3) := by decide +kernel
theorem dX10_tellsJetties_4 : decode cX10_tellsJetties 4 = .ok (.iload_n 1, 1) := by decide +kernel
theorem dX10_tellsJetties_5 : decode cX10_tellsJetties 5 = .ok (.aaload, 1) := by decide +kernel
theorem dX10_tellsJetties_6 : decode cX10_tellsJetties 6 = .ok (.astore_n 3, 1) := by decide +kernel
theorem dX10_tellsJetties_7 : decode cX10_tellsJetties 7 = .ok (.iload_n 2, 1) := by decide +kernel
theorem dX10_tellsJetties_8 : decode cX10_tellsJetties 8 = .ok (.aload_n 3, 1) := by decide +kernel
theorem dX10_tellsJetties_9 : decode cX10_tellsJetties 9 = .ok (.getfield 88, 3) := by decide +kernel
theorem dX10_tellsJetties_12 : decode cX10_tellsJetties 12 = .ok (.if_icmp .le 5, 3) := by decide +kernel
theorem dX10_tellsJetties_15 : decode cX10_tellsJetties 15 = .ok (.iconst 0, 1) := by decide +kernel
theorem dX10_tellsJetties_16 : decode cX10_tellsJetties 16 = .ok (.ireturn, 1) := by decide +kernel
theorem dX10_tellsJetties_17 : decode cX10_tellsJetties 17 = .ok (.iconst 0, 1) := by decide +kernel
theorem dX10_tellsJetties_18 : decode cX10_tellsJetties 18 = .ok (.istore 4, 2) := by decide +kernel
theorem dX10_tellsJetties_20 : decode cX10_tellsJetties 20 = .ok (.iload 4, 2) := by decide +kernel
theorem dX10_tellsJetties_22 : decode cX10_tellsJetties 22 = .ok (.iload_n 2, 1) := by decide +kernel
theorem dX10_tellsJetties_23 : decode cX10_tellsJetties 23 = .ok (.if_icmp .ge 40, 3) := by decide +kernel
theorem dX10_tellsJetties_26 : decode cX10_tellsJetties 26 = .ok (.aload_n 3, 1) := by decide +kernel
theorem dX10_tellsJetties_27 : decode cX10_tellsJetties 27 = .ok (.iload 4, 2) := by decide +kernel
theorem dX10_tellsJetties_29 : decode cX10_tellsJetties 29 = .ok (.invokevirtual 112, 3) := by decide +kernel
theorem dX10_tellsJetties_32 : decode cX10_tellsJetties 32 = .ok (.lstore 5, 2) := by decide +kernel
theorem dX10_tellsJetties_34 : decode cX10_tellsJetties 34 = .ok (.lload 5, 2) := by decide +kernel
theorem dX10_tellsJetties_36 : decode cX10_tellsJetties 36 = .ok (.lconst 0, 1) := by decide +kernel
theorem dX10_tellsJetties_37 : decode cX10_tellsJetties 37 = .ok (.lcmp, 1) := by decide +kernel
theorem dX10_tellsJetties_38 : decode cX10_tellsJetties 38 = .ok (.ifCond .lt 17, 3) := by decide +kernel
theorem dX10_tellsJetties_41 : decode cX10_tellsJetties 41 = .ok (.lload 5, 2) := by decide +kernel
theorem dX10_tellsJetties_43 : decode cX10_tellsJetties 43 = .ok (.aload_n 0, 1) := by decide +kernel
theorem dX10_tellsJetties_44 : decode cX10_tellsJetties 44 = .ok (.getfield 25, 3) := by decide +kernel
theorem dX10_tellsJetties_47 : decode cX10_tellsJetties 47 = .ok (.getfield 160, 3) := by decide +kernel
theorem dX10_tellsJetties_50 : decode cX10_tellsJetties 50 = .ok (.i2l, 1) := by decide +kernel
theorem dX10_tellsJetties_51 : decode cX10_tellsJetties 51 = .ok (.lcmp, 1) := by decide +kernel
theorem dX10_tellsJetties_52 : decode cX10_tellsJetties 52 = .ok (.ifCond .lt 5, 3) := by decide +kernel
theorem dX10_tellsJetties_55 : decode cX10_tellsJetties 55 = .ok (.iconst 0, 1) := by decide +kernel
theorem dX10_tellsJetties_56 : decode cX10_tellsJetties 56 = .ok (.ireturn, 1) := by decide +kernel
theorem dX10_tellsJetties_57 : decode cX10_tellsJetties 57 = .ok (.iinc 4 1, 3) := by decide +kernel
theorem dX10_tellsJetties_60 : decode cX10_tellsJetties 60 = .ok (.goto (-40), 3) := by decide +kernel
theorem dX10_tellsJetties_63 : decode cX10_tellsJetties 63 = .ok (.iconst 1, 1) := by decide +kernel
theorem dX10_tellsJetties_64 : decode cX10_tellsJetties 64 = .ok (.ireturn, 1) := by decide +kernel
theorem dX10_readTour_0 : decode cX10_readTour 0 = .ok (.aload_n 1, 1) := by decide +kernel
theorem dX10_readTour_1 : decode cX10_readTour 1 = .ok (.iload_n 3, 1) := by decide +kernel
theorem dX10_readTour_2 : decode cX10_readTour 2 = .ok (.putfield 401, 3) := by decide +kernel
theorem dX10_readTour_5 : decode cX10_readTour 5 = .ok (.iconst 0, 1) := by decide +kernel
theorem dX10_readTour_6 : decode cX10_readTour 6 = .ok (.istore 4, 2) := by decide +kernel
theorem dX10_readTour_8 : decode cX10_readTour 8 = .ok (.iload 4, 2) := by decide +kernel
theorem dX10_readTour_10 : decode cX10_readTour 10 = .ok (.iload_n 3, 1) := by decide +kernel
theorem dX10_readTour_11 : decode cX10_readTour 11 = .ok (.if_icmp .ge 28, 3) := by decide +kernel
theorem dX10_readTour_14 : decode cX10_readTour 14 = .ok (.aload_n 1, 1) := by decide +kernel
theorem dX10_readTour_15 : decode cX10_readTour 15 = .ok (.getfield 403, 3) := by decide +kernel
theorem dX10_readTour_18 : decode cX10_readTour 18 = .ok (.iload 4, 2) := by decide +kernel
theorem dX10_readTour_20 : decode cX10_readTour 20 = .ok (.aload_n 0, 1) := by decide +kernel
theorem dX10_readTour_21 : decode cX10_readTour 21 = .ok (.getfield 11, 3) := by decide +kernel
theorem dX10_readTour_24 : decode cX10_readTour 24 = .ok (.iload_n 2, 1) := by decide +kernel
theorem dX10_readTour_25 : decode cX10_readTour 25 = .ok (.aaload, 1) := by decide +kernel
theorem dX10_readTour_26 : decode cX10_readTour 26 = .ok (.iload 4, 2) := by decide +kernel
theorem dX10_readTour_28 : decode cX10_readTour 28 = .ok (.invokevirtual 112, 3) := by decide +kernel
theorem dX10_readTour_31 : decode cX10_readTour 31 = .ok (.l2i, 1) := by decide +kernel
theorem dX10_readTour_32 : decode cX10_readTour 32 = .ok (.iastore, 1) := by decide +kernel
theorem dX10_readTour_33 : decode cX10_readTour 33 = .ok (.iinc 4 1, 3) := by decide +kernel
theorem dX10_readTour_36 : decode cX10_readTour 36 = .ok (.goto (-28), 3) := by decide +kernel
theorem dX10_readTour_39 : decode cX10_readTour 39 = .ok (.return_, 1) := by decide +kernel
theorem dX10_isJetty_0 : decode cX10_isJetty 0 = .ok (.iload_n 1, 1) := by decide +kernel
theorem dX10_isJetty_1 : decode cX10_isJetty 1 = .ok (.aload_n 0, 1) := by decide +kernel
theorem dX10_isJetty_2 : decode cX10_isJetty 2 = .ok (.getfield 25, 3) := by decide +kernel
theorem dX10_isJetty_5 : decode cX10_isJetty 5 = .ok (.getfield 160, 3) := by decide +kernel
theorem dX10_isJetty_8 : decode cX10_isJetty 8 = .ok (.invokestatic 68, 3) := by decide +kernel
theorem dX10_isJetty_11 : decode cX10_isJetty 11 = .ok (.ireturn, 1) := by decide +kernel
theorem dX10_isLeaper_0 : decode cX10_isLeaper 0 = .ok (.iload_n 1, 1) := by decide +kernel
theorem dX10_isLeaper_1 : decode cX10_isLeaper 1 = .ok (.aload_n 0, 1) := by decide +kernel
theorem dX10_isLeaper_2 : decode cX10_isLeaper 2 = .ok (.getfield 25, 3) := by decide +kernel
theorem dX10_isLeaper_5 : decode cX10_isLeaper 5 = .ok (.getfield 231, 3) := by decide +kernel
theorem dX10_isLeaper_8 : decode cX10_isLeaper 8 = .ok (.invokestatic 68, 3) := by decide +kernel
theorem dX10_isLeaper_11 : decode cX10_isLeaper 11 = .ok (.ireturn, 1) := by decide +kernel
theorem dX10_isLaw_0 : decode cX10_isLaw 0 = .ok (.iload_n 1, 1) := by decide +kernel
theorem dX10_isLaw_1 : decode cX10_isLaw 1 = .ok (.aload_n 0, 1) := by decide +kernel
theorem dX10_isLaw_2 : decode cX10_isLaw 2 = .ok (.getfield 25, 3) := by decide +kernel
theorem dX10_isLaw_5 : decode cX10_isLaw 5 = .ok (.getfield 209, 3) := by decide +kernel
theorem dX10_isLaw_8 : decode cX10_isLaw 8 = .ok (.invokestatic 68, 3) := by decide +kernel
theorem dX10_isLaw_11 : decode cX10_isLaw 11 = .ok (.ireturn, 1) := by decide +kernel
theorem dX10_isSet_0 : decode cX10_isSet 0 = .ok (.iconst 1, 1) := by decide +kernel
theorem dX10_isSet_1 : decode cX10_isSet 1 = .ok (.aload_n 0, 1) := by decide +kernel
theorem dX10_isSet_2 : decode cX10_isSet 2 = .ok (.getfield 25, 3) := by decide +kernel
theorem dX10_isSet_5 : decode cX10_isSet 5 = .ok (.getfield 160, 3) := by decide +kernel
theorem dX10_isSet_8 : decode cX10_isSet 8 = .ok (.ishl, 1) := by decide +kernel
theorem dX10_isSet_9 : decode cX10_isSet 9 = .ok (.iconst 1, 1) := by decide +kernel
theorem dX10_isSet_10 : decode cX10_isSet 10 = .ok (.isub, 1) := by decide +kernel
theorem dX10_isSet_11 : decode cX10_isSet 11 = .ok (.istore_n 2, 1) := by decide +kernel
theorem dX10_isSet_12 : decode cX10_isSet 12 = .ok (.iload_n 1, 1) := by decide +kernel
theorem dX10_isSet_13 : decode cX10_isSet 13 = .ok (.iload_n 2, 1) := by decide +kernel
theorem dX10_isSet_14 : decode cX10_isSet 14 = .ok (.iconst (-1), 1) := by decide +kernel
theorem dX10_isSet_15 : decode cX10_isSet 15 = .ok (.ixor, 1) := by decide +kernel
theorem dX10_isSet_16 : decode cX10_isSet 16 = .ok (.iand, 1) := by decide +kernel
theorem dX10_isSet_17 : decode cX10_isSet 17 = .ok (.ifCond .ne 16, 3) := by decide +kernel
theorem dX10_isSet_20 : decode cX10_isSet 20 = .ok (.iload_n 1, 1) := by decide +kernel
theorem dX10_isSet_21 : decode cX10_isSet 21 = .ok (.invokestatic 293, 3) := by decide +kernel
theorem dX10_isSet_24 : decode cX10_isSet 24 = .ok (.bipush 6, 2) := by decide +kernel
theorem dX10_isSet_26 : decode cX10_isSet 26 = .ok (.if_icmp .gt 7, 3) := by decide +kernel
theorem dX10_isSet_29 : decode cX10_isSet 29 = .ok (.iconst 1, 1) := by decide +kernel
theorem dX10_isSet_30 : decode cX10_isSet 30 = .ok (.goto 4, 3) := by decide +kernel
theorem dX10_isSet_33 : decode cX10_isSet 33 = .ok (.iconst 0, 1) := by decide +kernel
theorem dX10_isSet_34 : decode cX10_isSet 34 = .ok (.ireturn, 1) := by decide +kernel
theorem dX10_isInSet_0 : decode cX10_isInSet 0 = .ok (.aload_n 0, 1) := by decide +kernel
theorem dX10_isInSet_1 : decode cX10_isInSet 1 = .ok (.iload_n 1, 1) := by decide +kernel
theorem dX10_isInSet_2 : decode cX10_isInSet 2 = .ok (.invokevirtual 119, 3) := by decide +kernel
theorem dX10_isInSet_5 : decode cX10_isInSet 5 = .ok (.ifCond .eq 16, 3) := by decide +kernel
theorem dX10_isInSet_8 : decode cX10_isInSet 8 = .ok (.iload_n 2, 1) := by decide +kernel
theorem dX10_isInSet_9 : decode cX10_isInSet 9 = .ok (.iload_n 1, 1) := by decide +kernel
theorem dX10_isInSet_10 : decode cX10_isInSet 10 = .ok (.ishr, 1) := by decide +kernel
theorem dX10_isInSet_11 : decode cX10_isInSet 11 = .ok (.iconst 1, 1) := by decide +kernel
theorem dX10_isInSet_12 : decode cX10_isInSet 12 = .ok (.iand, 1) := by decide +kernel
theorem dX10_isInSet_13 : decode cX10_isInSet 13 = .ok (.iconst 1, 1) := by decide +kernel
theorem dX10_isInSet_14 : decode cX10_isInSet 14 = .ok (.if_icmp .ne 7, 3) := by decide +kernel
theorem dX10_isInSet_17 : decode cX10_isInSet 17 = .ok (.iconst 1, 1) := by decide +kernel
theorem dX10_isInSet_18 : decode cX10_isInSet 18 = .ok (.goto 4, 3) := by decide +kernel
theorem dX10_isInSet_21 : decode cX10_isInSet 21 = .ok (.iconst 0, 1) := by decide +kernel
theorem dX10_isInSet_22 : decode cX10_isInSet 22 = .ok (.ireturn, 1) := by decide +kernel
theorem dX10_isShelf_0 : decode cX10_isShelf 0 = .ok (.iload_n 0, 1) := by decide +kernel
theorem dX10_isShelf_1 : decode cX10_isShelf 1 = .ok (.bipush 8, 2) := by decide +kernel
theorem dX10_isShelf_3 : decode cX10_isShelf 3 = .ok (.invokestatic 68, 3) := by decide +kernel
theorem dX10_isShelf_6 : decode cX10_isShelf 6 = .ok (.ireturn, 1) := by decide +kernel
theorem dX10_isHour_0 : decode cX10_isHour 0 = .ok (.iload_n 0, 1) := by decide +kernel
theorem dX10_isHour_1 : decode cX10_isHour 1 = .ok (.bipush 12, 2) := by decide +kernel
theorem dX10_isHour_3 : decode cX10_isHour 3 = .ok (.invokestatic 68, 3) := by decide +kernel
theorem dX10_isHour_6 : decode cX10_isHour 6 = .ok (.ireturn, 1) := by decide +kernel
theorem dX10_isBelow_0 : decode cX10_isBelow 0 = .ok (.iload_n 0, 1) := by decide +kernel
theorem dX10_isBelow_1 : decode cX10_isBelow 1 = .ok (.ifCond .lt 12, 3) := by decide +kernel
theorem dX10_isBelow_4 : decode cX10_isBelow 4 = .ok (.iload_n 0, 1) := by decide +kernel
theorem dX10_isBelow_5 : decode cX10_isBelow 5 = .ok (.iload_n 1, 1) := by decide +kernel
theorem dX10_isBelow_6 : decode cX10_isBelow 6 = .ok (.if_icmp .ge 7, 3) := by decide +kernel
theorem dX10_isBelow_9 : decode cX10_isBelow 9 = .ok (.iconst 1, 1) := by decide +kernel
theorem dX10_isBelow_10 : decode cX10_isBelow 10 = .ok (.goto 4, 3) := by decide +kernel
theorem dX10_isBelow_13 : decode cX10_isBelow 13 = .ok (.iconst 0, 1) := by decide +kernel
theorem dX10_isBelow_14 : decode cX10_isBelow 14 = .ok (.ireturn, 1) := by decide +kernel
theorem dX10_isWithin_0 : decode cX10_isWithin 0 = .ok (.iload_n 0, 1) := by decide +kernel
theorem dX10_isWithin_1 : decode cX10_isWithin 1 = .ok (.iload_n 1, 1) := by decide +kernel
theorem dX10_isWithin_2 : decode cX10_isWithin 2 = .ok (.if_icmp .lt 12, 3) := by decide +kernel
theorem dX10_isWithin_5 : decode cX10_isWithin 5 = .ok (.iload_n 0, 1) := by decide +kernel
theorem dX10_isWithin_6 : decode cX10_isWithin 6 = .ok (.iload_n 2, 1) := by decide +kernel
theorem dX10_isWithin_7 : decode cX10_isWithin 7 = .ok (.if_icmp .gt 7, 3) := by decide +kernel
theorem dX10_isWithin_10 : decode cX10_isWithin 10 = .ok (.iconst 1, 1) := by decide +kernel
theorem dX10_isWithin_11 : decode cX10_isWithin 11 = .ok (.goto 4, 3) := by decide +kernel
theorem dX10_isWithin_14 : decode cX10_isWithin 14 = .ok (.iconst 0, 1) := by decide +kernel
theorem dX10_isWithin_15 : decode cX10_isWithin 15 = .ok (.ireturn, 1) := by decide +kernel
theorem dX10_toNumber_0 : decode cX10_toNumber 0 = .ok (.iload_n 0, 1) := by decide +kernel
theorem dX10_toNumber_1 : decode cX10_toNumber 1 = .ok (.ifCond .eq 7, 3) := by decide +kernel
theorem dX10_toNumber_4 : decode cX10_toNumber 4 = .ok (.iconst 1, 1) := by decide +kernel
theorem dX10_toNumber_5 : decode cX10_toNumber 5 = .ok (.goto 4, 3) := by decide +kernel
theorem dX10_toNumber_8 : decode cX10_toNumber 8 = .ok (.iconst 0, 1) := by decide +kernel
theorem dX10_toNumber_9 : decode cX10_toNumber 9 = .ok (.ireturn, 1) := by decide +kernel
theorem dX10_cutBy_0 : decode cX10_cutBy 0 = .ok (.iload_n 1, 1) := by decide +kernel
theorem dX10_cutBy_1 : decode cX10_cutBy 1 = .ok (.iconst 1, 1) := by decide +kernel
theorem dX10_cutBy_2 : decode cX10_cutBy 2 = .ok (.if_icmp .ge 7, 3) := by decide +kernel
theorem dX10_cutBy_5 : decode cX10_cutBy 5 = .ok (.iconst 0, 1) := by decide +kernel
theorem dX10_cutBy_6 : decode cX10_cutBy 6 = .ok (.goto 6, 3) := by decide +kernel
theorem dX10_cutBy_9 : decode cX10_cutBy 9 = .ok (.iload_n 0, 1) := by decide +kernel
theorem dX10_cutBy_10 : decode cX10_cutBy 10 = .ok (.iload_n 1, 1) := by decide +kernel
theorem dX10_cutBy_11 : decode cX10_cutBy 11 = .ok (.idiv, 1) := by decide +kernel
theorem dX10_cutBy_12 : decode cX10_cutBy 12 = .ok (.ireturn, 1) := by decide +kernel
theorem dX10_roundedUpBy_0 : decode cX10_roundedUpBy 0 = .ok (.iload_n 1, 1) := by decide +kernel
theorem dX10_roundedUpBy_1 : decode cX10_roundedUpBy 1 = .ok (.iconst 1, 1) := by decide +kernel
theorem dX10_roundedUpBy_2 : decode cX10_roundedUpBy 2 = .ok (.if_icmp .ge 7, 3) := by decide +kernel
theorem dX10_roundedUpBy_5 : decode cX10_roundedUpBy 5 = .ok (.iconst 0, 1) := by decide +kernel
theorem dX10_roundedUpBy_6 : decode cX10_roundedUpBy 6 = .ok (.goto 10, 3) := by decide +kernel
theorem dX10_roundedUpBy_9 : decode cX10_roundedUpBy 9 = .ok (.iload_n 0, 1) := by decide +kernel
theorem dX10_roundedUpBy_10 : decode cX10_roundedUpBy 10 = .ok (.iload_n 1, 1) := by decide +kernel
theorem dX10_roundedUpBy_11 : decode cX10_roundedUpBy 11 = .ok (.iadd, 1) := by decide +kernel
theorem dX10_roundedUpBy_12 : decode cX10_roundedUpBy 12 = .ok (.iconst 1, 1) := by decide +kernel
theorem dX10_roundedUpBy_13 : decode cX10_roundedUpBy 13 = .ok (.isub, 1) := by decide +kernel
theorem dX10_roundedUpBy_14 : decode cX10_roundedUpBy 14 = .ok (.iload_n 1, 1) := by decide +kernel
theorem dX10_roundedUpBy_15 : decode cX10_roundedUpBy 15 = .ok (.idiv, 1) := by decide +kernel
theorem dX10_roundedUpBy_16 : decode cX10_roundedUpBy 16 = .ok (.ireturn, 1) := by decide +kernel
theorem dX10_hourOf_0 : decode cX10_hourOf 0 = .ok (.bipush 11, 2) := by decide +kernel
theorem dX10_hourOf_2 : decode cX10_hourOf 2 = .ok (.iload_n 0, 1) := by decide +kernel
theorem dX10_hourOf_3 : decode cX10_hourOf 3 = .ok (.bipush 60, 2) := by decide +kernel
theorem dX10_hourOf_5 : decode cX10_hourOf 5 = .ok (.idiv, 1) := by decide +kernel
theorem dX10_hourOf_6 : decode cX10_hourOf 6 = .ok (.invokestatic 198, 3) := by decide +kernel
theorem dX10_hourOf_9 : decode cX10_hourOf 9 = .ok (.ireturn, 1) := by decide +kernel
theorem dX10_readSet_0 : decode cX10_readSet 0 = .ok (.iconst 0, 1) := by decide +kernel
theorem dX10_readSet_1 : decode cX10_readSet 1 = .ok (.istore_n 2, 1) := by decide +kernel
theorem dX10_readSet_2 : decode cX10_readSet 2 = .ok (.iconst 0, 1) := by decide +kernel
theorem dX10_readSet_3 : decode cX10_readSet 3 = .ok (.istore_n 3, 1) := by decide +kernel
theorem dX10_readSet_4 : decode cX10_readSet 4 = .ok (.iload_n 3, 1) := by decide +kernel
theorem dX10_readSet_5 : decode cX10_readSet 5 = .ok (.bipush 20, 2) := by decide +kernel
theorem dX10_readSet_7 : decode cX10_readSet 7 = .ok (.if_icmp .ge 31, 3) := by decide +kernel
theorem dX10_readSet_10 : decode cX10_readSet 10 = .ok (.iload_n 2, 1) := by decide +kernel
theorem dX10_readSet_11 : decode cX10_readSet 11 = .ok (.aload_n 1, 1) := by decide +kernel
theorem dX10_readSet_12 : decode cX10_readSet 12 = .ok (.arraylength, 1) := by decide +kernel
theorem dX10_readSet_13 : decode cX10_readSet 13 = .ok (.if_icmp .ge 25, 3) := by decide +kernel
theorem dX10_readSet_16 : decode cX10_readSet 16 = .ok (.iload_n 0, 1) := by decide +kernel
theorem dX10_readSet_17 : decode cX10_readSet 17 = .ok (.iload_n 3, 1) := by decide +kernel
theorem dX10_readSet_18 : decode cX10_readSet 18 = .ok (.ishr, 1) := by decide +kernel
theorem dX10_readSet_19 : decode cX10_readSet 19 = .ok (.iconst 1, 1) := by decide +kernel
theorem dX10_readSet_20 : decode cX10_readSet 20 = .ok (.iand, 1) := by decide +kernel
theorem dX10_readSet_21 : decode cX10_readSet 21 = .ok (.iconst 1, 1) := by decide +kernel
theorem dX10_readSet_22 : decode cX10_readSet 22 = .ok (.if_icmp .ne 10, 3) := by decide +kernel
theorem dX10_readSet_25 : decode cX10_readSet 25 = .ok (.aload_n 1, 1) := by decide +kernel
theorem dX10_readSet_26 : decode cX10_readSet 26 = .ok (.iload_n 2, 1) := by decide +kernel
theorem dX10_readSet_27 : decode cX10_readSet 27 = .ok (.iload_n 3, 1) := by decide +kernel
theorem dX10_readSet_28 : decode cX10_readSet 28 = .ok (.iastore, 1) := by decide +kernel
theorem dX10_readSet_29 : decode cX10_readSet 29 = .ok (.iinc 2 1, 3) := by decide +kernel
theorem dX10_readSet_32 : decode cX10_readSet 32 = .ok (.iinc 3 1, 3) := by decide +kernel
theorem dX10_readSet_35 : decode cX10_readSet 35 = .ok (.goto (-31), 3) := by decide +kernel
theorem dX10_readSet_38 : decode cX10_readSet 38 = .ok (.iload_n 2, 1) := by decide +kernel
theorem dX10_readSet_39 : decode cX10_readSet 39 = .ok (.ireturn, 1) := by decide +kernel
theorem dX11_init_0 : decode cX11_init 0 = .ok (.aload_n 0, 1) := by decide +kernel
theorem dX11_init_1 : decode cX11_init 1 = .ok (.invokespecial 1, 3) := by decide +kernel
theorem dX11_init_4 : decode cX11_init 4 = .ok (.aload_n 0, 1) := by decide +kernel
theorem dX11_init_5 : decode cX11_init 5 = .ok (.bipush 8, 2) := by decide +kernel
theorem dX11_init_7 : decode cX11_init 7 = .ok (.newarray .int, 2) := by decide +kernel
theorem dX11_init_9 : decode cX11_init 9 = .ok (.putfield 7, 3) := by decide +kernel
theorem dX11_init_12 : decode cX11_init 12 = .ok (.aload_n 0, 1) := by decide +kernel
theorem dX11_init_13 : decode cX11_init 13 = .ok (.bipush 8, 2) := by decide +kernel
theorem dX11_init_15 : decode cX11_init 15 = .ok (.newarray .int, 2) := by decide +kernel
theorem dX11_init_17 : decode cX11_init 17 = .ok (.putfield 13, 3) := by decide +kernel
theorem dX11_init_20 : decode cX11_init 20 = .ok (.aload_n 0, 1) := by decide +kernel
theorem dX11_init_21 : decode cX11_init 21 = .ok (.sipush 320, 3) := by decide +kernel
theorem dX11_init_24 : decode cX11_init 24 = .ok (.newarray .long, 2) := by decide +kernel
theorem dX11_init_26 : decode cX11_init 26 = .ok (.putfield 16, 3) := by decide +kernel
theorem dX11_init_29 : decode cX11_init 29 = .ok (.aload_n 0, 1) := by decide +kernel
theorem dX11_init_30 : decode cX11_init 30 = .ok (.bipush 20, 2) := by decide +kernel
theorem dX11_init_32 : decode cX11_init 32 = .ok (.newarray .int, 2) := by decide +kernel
theorem dX11_init_34 : decode cX11_init 34 = .ok (.putfield 20, 3) := by decide +kernel
theorem dX11_init_37 : decode cX11_init 37 = .ok (.aload_n 0, 1) := by decide +kernel
theorem dX11_init_38 : decode cX11_init 38 = .ok (.bipush 20, 2) := by decide +kernel
theorem dX11_init_40 : decode cX11_init 40 = .ok (.newarray .int, 2) := by decide +kernel
theorem dX11_init_42 : decode cX11_init 42 = .ok (.putfield 23, 3) := by decide +kernel
theorem dX11_init_45 : decode cX11_init 45 = .ok (.aload_n 0, 1) := by decide +kernel
theorem dX11_init_46 : decode cX11_init 46 = .ok (.bipush 20, 2) := by decide +kernel
theorem dX11_init_48 : decode cX11_init 48 = .ok (.newarray .int, 2) := by decide +kernel
theorem dX11_init_50 : decode cX11_init 50 = .ok (.putfield 26, 3) := by decide +kernel
theorem dX11_init_53 : decode cX11_init 53 = .ok (.aload_n 0, 1) := by decide +kernel
theorem dX11_init_54 : decode cX11_init 54 = .ok (.bipush 20, 2) := by decide +kernel
theorem dX11_init_56 : decode cX11_init 56 = .ok (.newarray .int, 2) := by decide +kernel
theorem dX11_init_58 : decode cX11_init 58 = .ok (.putfield 29, 3) := by decide +kernel
theorem dX11_init_61 : decode cX11_init 61 = .ok (.aload_n 0, 1) := by decide +kernel
theorem dX11_init_62 : decode cX11_init 62 = .ok (.bipush 20, 2) := by decide +kernel
theorem dX11_init_64 : decode cX11_init 64 = .ok (.newarray .int, 2) := by decide +kernel
theorem dX11_init_66 : decode cX11_init 66 = .ok (.putfield 32, 3) := by decide +kernel
theorem dX11_init_69 : decode cX11_init 69 = .ok (.aload_n 0, 1) := by decide +kernel
theorem dX11_init_70 : decode cX11_init 70 = .ok (.sipush 160, 3) := by decide +kernel
theorem dX11_init_73 : decode cX11_init 73 = .ok (.newarray .int, 2) := by decide +kernel
theorem dX11_init_75 : decode cX11_init 75 = .ok (.putfield 35, 3) := by decide +kernel
theorem dX11_init_78 : decode cX11_init 78 = .ok (.aload_n 0, 1) := by decide +kernel
theorem dX11_init_79 : decode cX11_init 79 = .ok (.bipush 54, 2) := by decide +kernel
theorem dX11_init_81 : decode cX11_init 81 = .ok (.newarray .int, 2) := by decide +kernel
theorem dX11_init_83 : decode cX11_init 83 = .ok (.putfield 38, 3) := by decide +kernel
theorem dX11_init_86 : decode cX11_init 86 = .ok (.aload_n 0, 1) := by decide +kernel
theorem dX11_init_87 : decode cX11_init 87 = .ok (.bipush 6, 2) := by decide +kernel
theorem dX11_init_89 : decode cX11_init 89 = .ok (.newarray .int, 2) := by decide +kernel
theorem dX11_init_91 : decode cX11_init 91 = .ok (.putfield 41, 3) := by decide +kernel
theorem dX11_init_94 : decode cX11_init 94 = .ok (.aload_n 0, 1) := by decide +kernel
theorem dX11_init_95 : decode cX11_init 95 = .ok (.bipush 6, 2) := by decide +kernel
theorem dX11_init_97 : decode cX11_init 97 = .ok (.newarray .int, 2) := by decide +kernel
theorem dX11_init_99 : decode cX11_init 99 = .ok (.putfield 44, 3) := by decide +kernel
theorem dX11_init_102 : decode cX11_init 102 = .ok (.aload_n 0, 1) := by decide +kernel
theorem dX11_init_103 : decode cX11_init 103 = .ok (.bipush 6, 2) := by decide +kernel
theorem dX11_init_105 : decode cX11_init 105 = .ok (.newarray .int, 2) := by decide +kernel
theorem dX11_init_107 : decode cX11_init 107 = .ok (.putfield 47, 3) := by decide +kernel
theorem dX11_init_110 : decode cX11_init 110 = .ok (.aload_n 0, 1) := by decide +kernel
theorem dX11_init_111 : decode cX11_init 111 = .ok (.bipush 10, 2) := by decide +kernel
theorem dX11_init_113 : decode cX11_init 113 = .ok (.newarray .int, 2) := by decide +kernel
theorem dX11_init_115 : decode cX11_init 115 = .ok (.putfield 50, 3) := by decide +kernel
theorem dX11_init_118 : decode cX11_init 118 = .ok (.aload_n 0, 1) := by decide +kernel
theorem dX11_init_119 : decode cX11_init 119 = .ok (.bipush 10, 2) := by decide +kernel
theorem dX11_init_121 : decode cX11_init 121 = .ok (.newarray .int, 2) := by decide +kernel
theorem dX11_init_123 : decode cX11_init 123 = .ok (.putfield 53, 3) := by decide +kernel
theorem dX11_init_126 : decode cX11_init 126 = .ok (.aload_n 0, 1) := by decide +kernel
theorem dX11_init_127 : decode cX11_init 127 = .ok (.bipush 10, 2) := by decide +kernel
theorem dX11_init_129 : decode cX11_init 129 = .ok (.newarray .int, 2) := by decide +kernel
theorem dX11_init_131 : decode cX11_init 131 = .ok (.putfield 56, 3) := by decide +kernel
theorem dX11_init_134 : decode cX11_init 134 = .ok (.aload_n 0, 1) := by decide +kernel
theorem dX11_init_135 : decode cX11_init 135 = .ok (.bipush 12, 2) := by decide +kernel
theorem dX11_init_137 : decode cX11_init 137 = .ok (.newarray .int, 2) := by decide +kernel
theorem dX11_init_139 : decode cX11_init 139 = .ok (.putfield 59, 3) := by decide +kernel
theorem dX11_init_142 : decode cX11_init 142 = .ok (.aload_n 0, 1) := by decide +kernel
theorem dX11_init_143 : decode cX11_init 143 = .ok (.bipush 9, 2) := by decide +kernel
theorem dX11_init_145 : decode cX11_init 145 = .ok (.newarray .int, 2) := by decide +kernel
theorem dX11_init_147 : decode cX11_init 147 = .ok (.putfield 62, 3) := by decide +kernel
theorem dX11_init_150 : decode cX11_init 150 = .ok (.aload_n 0, 1) := by decide +kernel
theorem dX11_init_151 : decode cX11_init 151 = .ok (.bipush 28, 2) := by decide +kernel
theorem dX11_init_153 : decode cX11_init 153 = .ok (.newarray .int, 2) := by decide +kernel
theorem dX11_init_155 : decode cX11_init 155 = .ok (.putfield 65, 3) := by decide +kernel
theorem dX11_init_158 : decode cX11_init 158 = .ok (.aload_n 0, 1) := by decide +kernel
theorem dX11_init_159 : decode cX11_init 159 = .ok (.bipush 7, 2) := by decide +kernel
theorem dX11_init_161 : decode cX11_init 161 = .ok (.newarray .int, 2) := by decide +kernel
theorem dX11_init_163 : decode cX11_init 163 = .ok (.putfield 68, 3) := by decide +kernel
theorem dX11_init_166 : decode cX11_init 166 = .ok (.aload_n 0, 1) := by decide +kernel
theorem dX11_init_167 : decode cX11_init 167 = .ok (.sipush 300, 3) := by decide +kernel
theorem dX11_init_170 : decode cX11_init 170 = .ok (.newarray .int, 2) := by decide +kernel
theorem dX11_init_172 : decode cX11_init 172 = .ok (.putfield 71, 3) := by decide +kernel
theorem dX11_init_175 : decode cX11_init 175 = .ok (.aload_n 0, 1) := by decide +kernel
theorem dX11_init_176 : decode cX11_init 176 = .ok (.bipush 20, 2) := by decide +kernel
theorem dX11_init_178 : decode cX11_init 178 = .ok (.newarray .int, 2) := by decide +kernel
theorem dX11_init_180 : decode cX11_init 180 = .ok (.putfield 74, 3) := by decide +kernel
theorem dX11_init_183 : decode cX11_init 183 = .ok (.aload_n 0, 1) := by decide +kernel
theorem dX11_init_184 : decode cX11_init 184 = .ok (.bipush 6, 2) := by decide +kernel
theorem dX11_init_186 : decode cX11_init 186 = .ok (.newarray .int, 2) := by decide +kernel
theorem dX11_init_188 : decode cX11_init 188 = .ok (.putfield 77, 3) := by decide +kernel
theorem dX11_init_191 : decode cX11_init 191 = .ok (.aload_n 0, 1) := by decide +kernel
theorem dX11_init_192 : decode cX11_init 192 = .ok (.bipush 6, 2) := by decide +kernel
theorem dX11_init_194 : decode cX11_init 194 = .ok (.newarray .int, 2) := by decide +kernel
theorem dX11_init_196 : decode cX11_init 196 = .ok (.putfield 80, 3) := by decide +kernel
theorem dX11_init_199 : decode cX11_init 199 = .ok (.aload_n 0, 1) := by decide +kernel
theorem dX11_init_200 : decode cX11_init 200 = .ok (.bipush 6, 2) := by decide +kernel
theorem dX11_init_202 : decode cX11_init 202 = .ok (.newarray .int, 2) := by decide +kernel
theorem dX11_init_204 : decode cX11_init 204 = .ok (.putfield 83, 3) := by decide +kernel
theorem dX11_init_207 : decode cX11_init 207 = .ok (.aload_n 0, 1) := by decide +kernel
theorem dX11_init_208 : decode cX11_init 208 = .ok (.bipush 40, 2) := by decide +kernel
theorem dX11_init_210 : decode cX11_init 210 = .ok (.newarray .int, 2) := by decide +kernel
theorem dX11_init_212 : decode cX11_init 212 = .ok (.putfield 86, 3) := by decide +kernel
theorem dX11_init_215 : decode cX11_init 215 = .ok (.iconst 0, 1) := by decide +kernel
theorem dX11_init_216 : decode cX11_init 216 = .ok (.istore_n 1, 1) := by decide +kernel
theorem dX11_init_217 : decode cX11_init 217 = .ok (.iload_n 1, 1) := by decide +kernel
theorem dX11_init_218 : decode cX11_init 218 = .ok (.bipush 8, 2) := by decide +kernel
theorem dX11_init_220 : decode cX11_init 220 = .ok (.if_icmp .ge 16, 3) := by decide +kernel
theorem dX11_init_223 : decode cX11_init 223 = .ok (.aload_n 0, 1) := by decide +kernel
theorem dX11_init_224 : decode cX11_init 224 = .ok (.getfield 7, 3) := by decide +kernel
theorem dX11_init_227 : decode cX11_init 227 = .ok (.iload_n 1, 1) := by decide +kernel
theorem dX11_init_228 : decode cX11_init 228 = .ok (.iconst (-1), 1) := by decide +kernel
theorem dX11_init_229 : decode cX11_init 229 = .ok (.iastore, 1) := by decide +kernel
theorem dX11_init_230 : decode cX11_init 230 = .ok (.iinc 1 1, 3) := by decide +kernel
theorem dX11_init_233 : decode cX11_init 233 = .ok (.goto (-16), 3) := by decide +kernel
theorem dX11_init_236 : decode cX11_init 236 = .ok (.aload_n 0, 1) := by decide +kernel
theorem dX11_init_237 : decode cX11_init 237 = .ok (.getfield 62, 3) := by decide +kernel
theorem dX11_init_240 : decode cX11_init 240 = .ok (.iconst 4, 1) := by decide +kernel
theorem dX11_init_241 : decode cX11_init 241 = .ok (.iconst (-1), 1) := by decide +kernel
theorem dX11_init_242 : decode cX11_init 242 = .ok (.iastore, 1) := by decide +kernel
theorem dX11_init_243 : decode cX11_init 243 = .ok (.aload_n 0, 1) := by decide +kernel
theorem dX11_init_244 : decode cX11_init 244 = .ok (.getfield 62, 3) := by decide +kernel
theorem dX11_init_247 : decode cX11_init 247 = .ok (.bipush 8, 2) := by decide +kernel
theorem dX11_init_249 : decode cX11_init 249 = .ok (.iconst 1, 1) := by decide +kernel
theorem dX11_init_250 : decode cX11_init 250 = .ok (.iastore, 1) := by decide +kernel
theorem dX11_init_251 : decode cX11_init 251 = .ok (.return_, 1) := by decide +kernel
theorem dX11_no_0 : decode cX11_no 0 = .ok (.aload_n 0, 1) := by decide +kernel
theorem dX11_no_1 : decode cX11_no 1 = .ok (.getfield 68, 3) := by decide +kernel
theorem dX11_no_4 : decode cX11_no 4 = .ok (.iload_n 1, 1) := by decide +kernel
theorem dX11_no_5 : decode cX11_no 5 = .ok (.ineg, 1) := by decide +kernel
theorem dX11_no_6 : decode cX11_no 6 = .ok (.dup2, 1) := by decide +kernel
theorem dX11_no_7 : decode cX11_no 7 = .ok (.iaload, 1) := by decide +kernel
theorem dX11_no_8 : decode cX11_no 8 = .ok (.iconst 1, 1) := by decide +kernel
theorem dX11_no_9 : decode cX11_no 9 = .ok (.iadd, 1) := by decide +kernel
theorem dX11_no_10 : decode cX11_no 10 = .ok (.iastore, 1) := by decide +kernel
theorem dX11_no_11 : decode cX11_no 11 = .ok (.iload_n 1, 1) := by decide +kernel
theorem dX11_no_12 : decode cX11_no 12 = .ok (.ireturn, 1) := by decide +kernel
theorem dX11_isShelf_0 : decode cX11_isShelf 0 = .ok (.iload_n 1, 1) := by decide +kernel
theorem dX11_isShelf_1 : decode cX11_isShelf 1 = .ok (.ifCond .lt 13, 3) := by decide +kernel
theorem dX11_isShelf_4 : decode cX11_isShelf 4 = .ok (.iload_n 1, 1) := by decide +kernel
theorem dX11_isShelf_5 : decode cX11_isShelf 5 = .ok (.bipush 8, 2) := by decide +kernel
theorem dX11_isShelf_7 : decode cX11_isShelf 7 = .ok (.if_icmp .ge 7, 3) := by decide +kernel
theorem dX11_isShelf_10 : decode cX11_isShelf 10 = .ok (.iconst 1, 1) := by decide +kernel
theorem dX11_isShelf_11 : decode cX11_isShelf 11 = .ok (.goto 4, 3) := by decide +kernel
theorem dX11_isShelf_14 : decode cX11_isShelf 14 = .ok (.iconst 0, 1) := by decide +kernel
theorem dX11_isShelf_15 : decode cX11_isShelf 15 = .ok (.ireturn, 1) := by decide +kernel
theorem dX11_isRow_0 : decode cX11_isRow 0 = .ok (.aload_n 0, 1) := by decide +kernel
theorem dX11_isRow_1 : decode cX11_isRow 1 = .ok (.getfield 7, 3) := by decide +kernel
theorem dX11_isRow_4 : decode cX11_isRow 4 = .ok (.iload_n 1, 1) := by decide +kernel
theorem dX11_isRow_5 : decode cX11_isRow 5 = .ok (.iaload, 1) := by decide +kernel
theorem dX11_isRow_6 : decode cX11_isRow 6 = .ok (.bipush 100, 2) := by decide +kernel
theorem dX11_isRow_8 : decode cX11_isRow 8 = .ok (.if_icmp .lt 7, 3) := by decide +kernel
theorem dX11_isRow_11 : decode cX11_isRow 11 = .ok (.iconst 1, 1) := by decide +kernel
theorem dX11_isRow_12 : decode cX11_isRow 12 = .ok (.goto 4, 3) := by decide +kernel
theorem dX11_isRow_15 : decode cX11_isRow 15 = .ok (.iconst 0, 1) := by decide +kernel
theorem dX11_isRow_16 : decode cX11_isRow 16 = .ok (.ireturn, 1) := by decide +kernel
theorem dX11_holdsJetty_0 : decode cX11_holdsJetty 0 = .ok (.aload_n 0, 1) := by decide +kernel
theorem dX11_holdsJetty_1 : decode cX11_holdsJetty 1 = .ok (.getfield 7, 3) := by decide +kernel
theorem dX11_holdsJetty_4 : decode cX11_holdsJetty 4 = .ok (.iload_n 1, 1) := by decide +kernel
theorem dX11_holdsJetty_5 : decode cX11_holdsJetty 5 = .ok (.iaload, 1) := by decide +kernel
theorem dX11_holdsJetty_6 : decode cX11_holdsJetty 6 = .ok (.ifCond .lt 18, 3) := by decide +kernel
theorem dX11_holdsJetty_9 : decode cX11_holdsJetty 9 = .ok (.aload_n 0, 1) := by decide +kernel
theorem dX11_holdsJetty_10 : decode cX11_holdsJetty 10 = .ok (.getfield 7, 3) := by decide +kernel
theorem dX11_holdsJetty_13 : decode cX11_holdsJetty 13 = .ok (.iload_n 1, 1) := by decide +kernel
theorem dX11_holdsJetty_14 : decode cX11_holdsJetty 14 = .ok (.iaload, 1) := by decide +kernel
theorem dX11_holdsJetty_15 : decode cX11_holdsJetty 15 = .ok (.bipush 100, 2) := by decide +kernel
theorem dX11_holdsJetty_17 : decode cX11_holdsJetty 17 = .ok (.if_icmp .ge 7, 3) := by decide +kernel
theorem dX11_holdsJetty_20 : decode cX11_holdsJetty 20 = .ok (.iconst 1, 1) := by decide +kernel
theorem dX11_holdsJetty_21 : decode cX11_holdsJetty 21 = .ok (.goto 4, 3) := by decide +kernel
theorem dX11_holdsJetty_24 : decode cX11_holdsJetty 24 = .ok (.iconst 0, 1) := by decide +kernel
theorem dX11_holdsJetty_25 : decode cX11_holdsJetty 25 = .ok (.ireturn, 1) := by decide +kernel
theorem dX11_isJetty_0 : decode cX11_isJetty 0 = .ok (.iload_n 1, 1) := by decide +kernel
theorem dX11_isJetty_1 : decode cX11_isJetty 1 = .ok (.ifCond .lt 17, 3) := by decide +kernel
theorem dX11_isJetty_4 : decode cX11_isJetty 4 = .ok (.iload_n 1, 1) := by decide +kernel
theorem dX11_isJetty_5 : decode cX11_isJetty 5 = .ok (.aload_n 0, 1) := by decide +kernel
theorem dX11_isJetty_6 : decode cX11_isJetty 6 = .ok (.getfield 62, 3) := by decide +kernel
theorem dX11_isJetty_9 : decode cX11_isJetty 9 = .ok (.iconst 0, 1) := by decide +kernel
theorem dX11_isJetty_10 : decode cX11_isJetty 10 = .ok (.iaload, 1) := by decide +kernel
theorem dX11_isJetty_11 : decode cX11_isJetty 11 = .ok (.if_icmp .ge 7, 3) := by decide +kernel
theorem dX11_isJetty_14 : decode cX11_isJetty 14 = .ok (.iconst 1, 1) := by decide +kernel
theorem dX11_isJetty_15 : decode cX11_isJetty 15 = .ok (.goto 4, 3) := by decide +kernel
theorem dX11_isJetty_18 : decode cX11_isJetty 18 = .ok (.iconst 0, 1) := by decide +kernel
theorem dX11_isJetty_19 : decode cX11_isJetty 19 = .ok (.ireturn, 1) := by decide +kernel
theorem dX11_isLaw_0 : decode cX11_isLaw 0 = .ok (.iload_n 1, 1) := by decide +kernel
theorem dX11_isLaw_1 : decode cX11_isLaw 1 = .ok (.ifCond .lt 17, 3) := by decide +kernel
theorem dX11_isLaw_4 : decode cX11_isLaw 4 = .ok (.iload_n 1, 1) := by decide +kernel
theorem dX11_isLaw_5 : decode cX11_isLaw 5 = .ok (.aload_n 0, 1) := by decide +kernel
theorem dX11_isLaw_6 : decode cX11_isLaw 6 = .ok (.getfield 62, 3) := by decide +kernel
theorem dX11_isLaw_9 : decode cX11_isLaw 9 = .ok (.iconst 1, 1) := by decide +kernel
theorem dX11_isLaw_10 : decode cX11_isLaw 10 = .ok (.iaload, 1) := by decide +kernel
theorem dX11_isLaw_11 : decode cX11_isLaw 11 = .ok (.if_icmp .ge 7, 3) := by decide +kernel
theorem dX11_isLaw_14 : decode cX11_isLaw 14 = .ok (.iconst 1, 1) := by decide +kernel
theorem dX11_isLaw_15 : decode cX11_isLaw 15 = .ok (.goto 4, 3) := by decide +kernel
theorem dX11_isLaw_18 : decode cX11_isLaw 18 = .ok (.iconst 0, 1) := by decide +kernel
theorem dX11_isLaw_19 : decode cX11_isLaw 19 = .ok (.ireturn, 1) := by decide +kernel
theorem dX11_isLeaper_0 : decode cX11_isLeaper 0 = .ok (.iload_n 1, 1) := by decide +kernel
theorem dX11_isLeaper_1 : decode cX11_isLeaper 1 = .ok (.ifCond .lt 17, 3) := by decide +kernel
theorem dX11_isLeaper_4 : decode cX11_isLeaper 4 = .ok (.iload_n 1, 1) := by decide +kernel
theorem dX11_isLeaper_5 : decode cX11_isLeaper 5 = .ok (.aload_n 0, 1) := by decide +kernel
theorem dX11_isLeaper_6 : decode cX11_isLeaper 6 = .ok (.getfield 62, 3) := by decide +kernel
theorem dX11_isLeaper_9 : decode cX11_isLeaper 9 = .ok (.iconst 2, 1) := by decide +kernel
theorem dX11_isLeaper_10 : decode cX11_isLeaper 10 = .ok (.iaload, 1) := by decide +kernel
theorem dX11_isLeaper_11 : decode cX11_isLeaper 11 = .ok (.if_icmp .ge 7, 3) := by decide +kernel
theorem dX11_isLeaper_14 : decode cX11_isLeaper 14 = .ok (.iconst 1, 1) := by decide +kernel
theorem dX11_isLeaper_15 : decode cX11_isLeaper 15 = .ok (.goto 4, 3) := by decide +kernel
theorem dX11_isLeaper_18 : decode cX11_isLeaper 18 = .ok (.iconst 0, 1) := by decide +kernel
theorem dX11_isLeaper_19 : decode cX11_isLeaper 19 = .ok (.ireturn, 1) := by decide +kernel
theorem dX11_isSpot_0 : decode cX11_isSpot 0 = .ok (.iload_n 1, 1) := by decide +kernel
theorem dX11_isSpot_1 : decode cX11_isSpot 1 = .ok (.ifCond .lt 14, 3) := by decide +kernel
theorem dX11_isSpot_4 : decode cX11_isSpot 4 = .ok (.iload_n 1, 1) := by decide +kernel
theorem dX11_isSpot_5 : decode cX11_isSpot 5 = .ok (.sipush 256, 3) := by decide +kernel
theorem dX11_isSpot_8 : decode cX11_isSpot 8 = .ok (.if_icmp .ge 7, 3) := by decide +kernel
theorem dX11_isSpot_11 : decode cX11_isSpot 11 = .ok (.iconst 1, 1) := by decide +kernel
theorem dX11_isSpot_12 : decode cX11_isSpot 12 = .ok (.goto 4, 3) := by decide +kernel
theorem dX11_isSpot_15 : decode cX11_isSpot 15 = .ok (.iconst 0, 1) := by decide +kernel
theorem dX11_isSpot_16 : decode cX11_isSpot 16 = .ok (.ireturn, 1) := by decide +kernel
theorem dX11_isHour_0 : decode cX11_isHour 0 = .ok (.iload_n 1, 1) := by decide +kernel
theorem dX11_isHour_1 : decode cX11_isHour 1 = .ok (.ifCond .lt 13, 3) := by decide +kernel
theorem dX11_isHour_4 : decode cX11_isHour 4 = .ok (.iload_n 1, 1) := by decide +kernel
theorem dX11_isHour_5 : decode cX11_isHour 5 = .ok (.bipush 12, 2) := by decide +kernel
theorem dX11_isHour_7 : decode cX11_isHour 7 = .ok (.if_icmp .ge 7, 3) := by decide +kernel
theorem dX11_isHour_10 : decode cX11_isHour 10 = .ok (.iconst 1, 1) := by decide +kernel
theorem dX11_isHour_11 : decode cX11_isHour 11 = .ok (.goto 4, 3) := by decide +kernel
theorem dX11_isHour_14 : decode cX11_isHour 14 = .ok (.iconst 0, 1) := by decide +kernel
theorem dX11_isHour_15 : decode cX11_isHour 15 = .ok (.ireturn, 1) := by decide +kernel
theorem dX11_isFall_0 : decode cX11_isFall 0 = .ok (.iload_n 1, 1) := by decide +kernel
theorem dX11_isFall_1 : decode cX11_isFall 1 = .ok (.iconst 1, 1) := by decide +kernel
theorem dX11_isFall_2 : decode cX11_isFall 2 = .ok (.if_icmp .lt 13, 3) := by decide +kernel
theorem dX11_isFall_5 : decode cX11_isFall 5 = .ok (.iload_n 1, 1) := by decide +kernel
theorem dX11_isFall_6 : decode cX11_isFall 6 = .ok (.bipush 20, 2) := by decide +kernel
theorem dX11_isFall_8 : decode cX11_isFall 8 = .ok (.if_icmp .gt 7, 3) := by decide +kernel
theorem dX11_isFall_11 : decode cX11_isFall 11 = .ok (.iconst 1, 1) := by decide +kernel
theorem dX11_isFall_12 : decode cX11_isFall 12 = .ok (.goto 4, 3) := by decide +kernel
theorem dX11_isFall_15 : decode cX11_isFall 15 = .ok (.iconst 0, 1) := by decide +kernel
theorem dX11_isFall_16 : decode cX11_isFall 16 = .ok (.ireturn, 1) := by decide +kernel
theorem dX11_row_0 : decode cX11_row 0 = .ok (.aload_n 0, 1) := by decide +kernel
theorem dX11_row_1 : decode cX11_row 1 = .ok (.iload_n 1, 1) := by decide +kernel
theorem dX11_row_2 : decode cX11_row 2 = .ok (.invokevirtual 89, 3) := by decide +kernel
theorem dX11_row_5 : decode cX11_row 5 = .ok (.ifCond .eq 22, 3) := by decide +kernel
theorem dX11_row_8 : decode cX11_row 8 = .ok (.iload_n 2, 1) := by decide +kernel
theorem dX11_row_9 : decode cX11_row 9 = .ok (.ifCond .lt 18, 3) := by decide +kernel
theorem dX11_row_12 : decode cX11_row 12 = .ok (.iload_n 2, 1) := by decide +kernel
theorem dX11_row_13 : decode cX11_row 13 = .ok (.iconst 4, 1) := by decide +kernel
theorem dX11_row_14 : decode cX11_row 14 = .ok (.if_icmp .gt 13, 3) := by decide +kernel
theorem dX11_row_17 : decode cX11_row 17 = .ok (.iload_n 3, 1) := by decide +kernel
theorem dX11_row_18 : decode cX11_row 18 = .ok (.ifCond .lt 9, 3) := by decide +kernel
theorem dX11_row_21 : decode cX11_row 21 = .ok (.iload_n 3, 1) := by decide +kernel
theorem dX11_row_22 : decode cX11_row 22 = .ok (.bipush 40, 2) := by decide +kernel
theorem dX11_row_24 : decode cX11_row 24 = .ok (.if_icmp .le 10, 3) := by decide +kernel
theorem dX11_row_27 : decode cX11_row 27 = .ok (.aload_n 0, 1) := by decide +kernel
theorem dX11_row_28 : decode cX11_row 28 = .ok (.bipush (-2), 2) := by decide +kernel
theorem dX11_row_30 : decode cX11_row 30 = .ok (.invokevirtual 93, 3) := by decide +kernel
theorem dX11_row_33 : decode cX11_row 33 = .ok (.ireturn, 1) := by decide +kernel
theorem dX11_row_34 : decode cX11_row 34 = .ok (.aload_n 0, 1) := by decide +kernel
theorem dX11_row_35 : decode cX11_row 35 = .ok (.getfield 7, 3) := by decide +kernel
theorem dX11_row_38 : decode cX11_row 38 = .ok (.iload_n 1, 1) := by decide +kernel
theorem dX11_row_39 : decode cX11_row 39 = .ok (.bipush 100, 2) := by decide +kernel
theorem dX11_row_41 : decode cX11_row 41 = .ok (.iload_n 2, 1) := by decide +kernel
theorem dX11_row_42 : decode cX11_row 42 = .ok (.iadd, 1) := by decide +kernel
theorem dX11_row_43 : decode cX11_row 43 = .ok (.iastore, 1) := by decide +kernel
theorem dX11_row_44 : decode cX11_row 44 = .ok (.aload_n 0, 1) := by decide +kernel
theorem dX11_row_45 : decode cX11_row 45 = .ok (.getfield 13, 3) := by decide +kernel
theorem dX11_row_48 : decode cX11_row 48 = .ok (.iload_n 1, 1) := by decide +kernel
theorem dX11_row_49 : decode cX11_row 49 = .ok (.iload_n 3, 1) := by decide +kernel
theorem dX11_row_50 : decode cX11_row 50 = .ok (.iastore, 1) := by decide +kernel
theorem dX11_row_51 : decode cX11_row 51 = .ok (.iconst 0, 1) := by decide +kernel
theorem dX11_row_52 : decode cX11_row 52 = .ok (.istore 4, 2) := by decide +kernel
theorem dX11_row_54 : decode cX11_row 54 = .ok (.iload 4, 2) := by decide +kernel
theorem dX11_row_56 : decode cX11_row 56 = .ok (.bipush 40, 2) := by decide +kernel
theorem dX11_row_58 : decode cX11_row 58 = .ok (.if_icmp .ge 22, 3) := by decide +kernel
theorem dX11_row_61 : decode cX11_row 61 = .ok (.aload_n 0, 1) := by decide +kernel
theorem dX11_row_62 : decode cX11_row 62 = .ok (.getfield 16, 3) := by decide +kernel
theorem dX11_row_65 : decode cX11_row 65 = .ok (.bipush 40, 2) := by decide +kernel
theorem dX11_row_67 : decode cX11_row 67 = .ok (.iload_n 1, 1) := by decide +kernel
theorem dX11_row_68 : decode cX11_row 68 = .ok (.imul, 1) := by decide +kernel
theorem dX11_row_69 : decode cX11_row 69 = .ok (.iload 4, 2) := by decide +kernel
theorem dX11_row_71 : decode cX11_row 71 = .ok (.iadd, 1) := by decide +kernel
theorem dX11_row_72 : decode cX11_row 72 = .ok (.lconst 0, 1) := by decide +kernel
theorem dX11_row_73 : decode cX11_row 73 = .ok (.lastore, 1) := by decide +kernel
theorem dX11_row_74 : decode cX11_row 74 = .ok (.iinc 4 1, 3) := by decide +kernel
theorem dX11_row_77 : decode cX11_row 77 = .ok (.goto (-23), 3) := by decide +kernel
theorem dX11_row_80 : decode cX11_row 80 = .ok (.iconst 1, 1) := by decide +kernel
theorem dX11_row_81 : decode cX11_row 81 = .ok (.ireturn, 1) := by decide +kernel
theorem dX11_noRow_0 : decode cX11_noRow 0 = .ok (.aload_n 0, 1) := by decide +kernel
theorem dX11_noRow_1 : decode cX11_noRow 1 = .ok (.iload_n 1, 1) := by decide +kernel
theorem dX11_noRow_2 : decode cX11_noRow 2 = .ok (.invokevirtual 89, 3) := by decide +kernel
theorem dX11_noRow_5 : decode cX11_noRow 5 = .ok (.ifCond .ne 6, 3) := by decide +kernel
theorem dX11_noRow_8 : decode cX11_noRow 8 = .ok (.bipush (-2), 2) := by decide +kernel
theorem dX11_noRow_10 : decode cX11_noRow 10 = .ok (.ireturn, 1) := by decide +kernel
theorem dX11_noRow_11 : decode cX11_noRow 11 = .ok (.aload_n 0, 1) := by decide +kernel
theorem dX11_noRow_12 : decode cX11_noRow 12 = .ok (.iload_n 1, 1) := by decide +kernel
theorem dX11_noRow_13 : decode cX11_noRow 13 = .ok (.invokevirtual 97, 3) := by decide +kernel
theorem dX11_noRow_16 : decode cX11_noRow 16 = .ok (.ifCond .eq 6, 3) := by decide +kernel
theorem dX11_noRow_19 : decode cX11_noRow 19 = .ok (.bipush (-3), 2) := by decide +kernel
theorem dX11_noRow_21 : decode cX11_noRow 21 = .ok (.ireturn, 1) := by decide +kernel
theorem dX11_noRow_22 : decode cX11_noRow 22 = .ok (.aload_n 0, 1) := by decide +kernel
theorem dX11_noRow_23 : decode cX11_noRow 23 = .ok (.getfield 7, 3) := by decide +kernel
theorem dX11_noRow_26 : decode cX11_noRow 26 = .ok (.iload_n 1, 1) := by decide +kernel
theorem dX11_noRow_27 : decode cX11_noRow 27 = .ok (.iaload, 1) := by decide +kernel
theorem dX11_noRow_28 : decode cX11_noRow 28 = .ok (.ifCond .ge 8, 3) := by decide +kernel
theorem dX11_noRow_31 : decode cX11_noRow 31 = .ok (.bipush (-4), 2) := by decide +kernel
theorem dX11_noRow_33 : decode cX11_noRow 33 = .ok (.goto 4, 3) := by decide +kernel
theorem dX11_noRow_36 : decode cX11_noRow 36 = .ok (.iconst 0, 1) := by decide +kernel
theorem dX11_noRow_37 : decode cX11_noRow 37 = .ok (.ireturn, 1) := by decide +kernel
theorem dX11_set_0 : decode cX11_set 0 = .ok (.aload_n 0, 1) := by decide +kernel
theorem dX11_set_1 : decode cX11_set 1 = .ok (.iload_n 1, 1) := by decide +kernel
theorem dX11_set_2 : decode cX11_set 2 = .ok (.invokevirtual 100, 3) := by decide +kernel
theorem dX11_set_5 : decode cX11_set 5 = .ok (.istore 5, 2) := by decide +kernel
theorem dX11_set_7 : decode cX11_set 7 = .ok (.iload 5, 2) := by decide +kernel
theorem dX11_set_9 : decode cX11_set 9 = .ok (.ifCond .ge 10, 3) := by decide +kernel
theorem dX11_set_12 : decode cX11_set 12 = .ok (.aload_n 0, 1) := by decide +kernel
theorem dX11_set_13 : decode cX11_set 13 = .ok (.iload 5, 2) := by decide +kernel
theorem dX11_set_15 : decode cX11_set 15 = .ok (.invokevirtual 93, 3) := by decide +kernel
theorem dX11_set_18 : decode cX11_set 18 = .ok (.ireturn, 1) := by decide +kernel
theorem dX11_set_19 : decode cX11_set 19 = .ok (.iload_n 2, 1) := by decide +kernel
theorem dX11_set_20 : decode cX11_set 20 = .ok (.ifCond .lt 13, 3) := by decide +kernel
theorem dX11_set_23 : decode cX11_set 23 = .ok (.iload_n 2, 1) := by decide +kernel
theorem dX11_set_24 : decode cX11_set 24 = .ok (.aload_n 0, 1) := by decide +kernel
theorem dX11_set_25 : decode cX11_set 25 = .ok (.getfield 13, 3) := by decide +kernel
theorem dX11_set_28 : decode cX11_set 28 = .ok (.iload_n 1, 1) := by decide +kernel
theorem dX11_set_29 : decode cX11_set 29 = .ok (.iaload, 1) := by decide +kernel
theorem dX11_set_30 : decode cX11_set 30 = .ok (.if_icmp .lt 10, 3) := by decide +kernel
theorem dX11_set_33 : decode cX11_set 33 = .ok (.aload_n 0, 1) := by decide +kernel
theorem dX11_set_34 : decode cX11_set 34 = .ok (.bipush (-2), 2) := by decide +kernel
theorem dX11_set_36 : decode cX11_set 36 = .ok (.invokevirtual 93, 3) := by decide +kernel
theorem dX11_set_39 : decode cX11_set 39 = .ok (.ireturn, 1) := by decide +kernel
theorem dX11_set_40 : decode cX11_set 40 = .ok (.aload_n 0, 1) := by decide +kernel
theorem dX11_set_41 : decode cX11_set 41 = .ok (.getfield 7, 3) := by decide +kernel
theorem dX11_set_44 : decode cX11_set 44 = .ok (.iload_n 1, 1) := by decide +kernel
theorem dX11_set_45 : decode cX11_set 45 = .ok (.iaload, 1) := by decide +kernel
theorem dX11_set_46 : decode cX11_set 46 = .ok (.bipush 100, 2) := by decide +kernel
theorem dX11_set_48 : decode cX11_set 48 = .ok (.isub, 1) := by decide +kernel
theorem dX11_set_49 : decode cX11_set 49 = .ok (.istore 6, 2) := by decide +kernel
theorem dX11_set_51 : decode cX11_set 51 = .ok (.lload_n 3, 1) := by decide +kernel
theorem dX11_set_52 : decode cX11_set 52 = .ok (.lstore 7, 2) := by decide +kernel
theorem dX11_set_54 : decode cX11_set 54 = .ok (.iload 6, 2) := by decide +kernel
theorem dX11_set_56 : decode cX11_set 56 = .ok (.ifCond .ne 9, 3) := by decide +kernel
theorem dX11_set_59 : decode cX11_set 59 = .ok (.lload_n 3, 1) := by decide +kernel
theorem dX11_set_60 : decode cX11_set 60 = .ok (.l2i, 1) := by decide +kernel
theorem dX11_set_61 : decode cX11_set 61 = .ok (.i2b, 1) := by decide +kernel
theorem dX11_set_62 : decode cX11_set 62 = .ok (.i2l, 1) := by decide +kernel
theorem dX11_set_63 : decode cX11_set 63 = .ok (.lstore 7, 2) := by decide +kernel
theorem dX11_set_65 : decode cX11_set 65 = .ok (.iload 6, 2) := by decide +kernel
theorem dX11_set_67 : decode cX11_set 67 = .ok (.iconst 1, 1) := by decide +kernel
theorem dX11_set_68 : decode cX11_set 68 = .ok (.if_icmp .ne 9, 3) := by decide +kernel
theorem dX11_set_71 : decode cX11_set 71 = .ok (.lload_n 3, 1) := by decide +kernel
theorem dX11_set_72 : decode cX11_set 72 = .ok (.l2i, 1) := by decide +kernel
theorem dX11_set_73 : decode cX11_set 73 = .ok (.i2s, 1) := by decide +kernel
theorem dX11_set_74 : decode cX11_set 74 = .ok (.i2l, 1) := by decide +kernel
theorem dX11_set_75 : decode cX11_set 75 = .ok (.lstore 7, 2) := by decide +kernel
theorem dX11_set_77 : decode cX11_set 77 = .ok (.iload 6, 2) := by decide +kernel
theorem dX11_set_79 : decode cX11_set 79 = .ok (.iconst 2, 1) := by decide +kernel
theorem dX11_set_80 : decode cX11_set 80 = .ok (.if_icmp .ne 8, 3) := by decide +kernel
theorem dX11_set_83 : decode cX11_set 83 = .ok (.lload_n 3, 1) := by decide +kernel
theorem dX11_set_84 : decode cX11_set 84 = .ok (.l2i, 1) := by decide +kernel
theorem dX11_set_85 : decode cX11_set 85 = .ok (.i2l, 1) := by decide +kernel
theorem dX11_set_86 : decode cX11_set 86 = .ok (.lstore 7, 2) := by decide +kernel
theorem dX11_set_88 : decode cX11_set 88 = .ok (.iload 6, 2) := by decide +kernel
theorem dX11_set_90 : decode cX11_set 90 = .ok (.iconst 4, 1) := by decide +kernel
theorem dX11_set_91 : decode cX11_set 91 = .ok (.if_icmp .ne 16, 3) := by decide +kernel
theorem dX11_set_94 : decode cX11_set 94 = .ok (.lload_n 3, 1) := by decide +kernel
theorem dX11_set_95 : decode cX11_set 95 = .ok (.lconst 0, 1) := by decide +kernel
theorem dX11_set_96 : decode cX11_set 96 = .ok (.lcmp, 1) := by decide +kernel
theorem dX11_set_97 : decode cX11_set 97 = .ok (.ifCond .eq 7, 3) := by decide +kernel
theorem dX11_set_100 : decode cX11_set 100 = .ok (.lconst 1, 1) := by decide +kernel
theorem dX11_set_101 : decode cX11_set 101 = .ok (.goto 4, 3) := by decide +kernel
theorem dX11_set_104 : decode cX11_set 104 = .ok (.lconst 0, 1) := by decide +kernel
theorem dX11_set_105 : decode cX11_set 105 = .ok (.lstore 7, 2) := by decide +kernel
theorem dX11_set_107 : decode cX11_set 107 = .ok (.aload_n 0, 1) := by decide +kernel
theorem dX11_set_108 : decode cX11_set 108 = .ok (.getfield 16, 3) := by decide +kernel
theorem dX11_set_111 : decode cX11_set 111 = .ok (.bipush 40, 2) := by decide +kernel
theorem dX11_set_113 : decode cX11_set 113 = .ok (.iload_n 1, 1) := by decide +kernel
theorem dX11_set_114 : decode cX11_set 114 = .ok (.imul, 1) := by decide +kernel
theorem dX11_set_115 : decode cX11_set 115 = .ok (.iload_n 2, 1) := by decide +kernel
theorem dX11_set_116 : decode cX11_set 116 = .ok (.iadd, 1) := by decide +kernel
theorem dX11_set_117 : decode cX11_set 117 = .ok (.lload 7, 2) := by decide +kernel
theorem dX11_set_119 : decode cX11_set 119 = .ok (.lastore, 1) := by decide +kernel
theorem dX11_set_120 : decode cX11_set 120 = .ok (.iconst 1, 1) := by decide +kernel
theorem dX11_set_121 : decode cX11_set 121 = .ok (.ireturn, 1) := by decide +kernel
theorem dX11_copy_0 : decode cX11_copy 0 = .ok (.aload_n 0, 1) := by decide +kernel
theorem dX11_copy_1 : decode cX11_copy 1 = .ok (.iload_n 1, 1) := by decide +kernel
theorem dX11_copy_2 : decode cX11_copy 2 = .ok (.invokevirtual 89, 3) := by decide +kernel
theorem dX11_copy_5 : decode cX11_copy 5 = .ok (.ifCond .eq 11, 3) := by decide +kernel
theorem dX11_copy_8 : decode cX11_copy 8 = .ok (.aload_n 0, 1) := by decide +kernel
theorem dX11_copy_9 : decode cX11_copy 9 = .ok (.iload_n 2, 1) := by decide +kernel
theorem dX11_copy_10 : decode cX11_copy 10 = .ok (.invokevirtual 89, 3) := by decide +kernel
theorem dX11_copy_13 : decode cX11_copy 13 = .ok (.ifCond .ne 10, 3) := by decide +kernel
theorem dX11_copy_16 : decode cX11_copy 16 = .ok (.aload_n 0, 1) := by decide +kernel
theorem dX11_copy_17 : decode cX11_copy 17 = .ok (.bipush (-2), 2) := by decide +kernel
theorem dX11_copy_19 : decode cX11_copy 19 = .ok (.invokevirtual 93, 3) := by decide +kernel
theorem dX11_copy_22 : decode cX11_copy 22 = .ok (.ireturn, 1) := by decide +kernel
theorem dX11_copy_23 : decode cX11_copy 23 = .ok (.aload_n 0, 1) := by decide +kernel
theorem dX11_copy_24 : decode cX11_copy 24 = .ok (.iload_n 1, 1) := by decide +kernel
theorem dX11_copy_25 : decode cX11_copy 25 = .ok (.invokevirtual 97, 3) := by decide +kernel
theorem dX11_copy_28 : decode cX11_copy 28 = .ok (.ifCond .ne 42, 3) := by decide +kernel
theorem dX11_copy_31 : decode cX11_copy 31 = .ok (.aload_n 0, 1) := by decide +kernel
theorem dX11_copy_32 : decode cX11_copy 32 = .ok (.iload_n 2, 1) := by decide +kernel
theorem dX11_copy_33 : decode cX11_copy 33 = .ok (.invokevirtual 97, 3) := by decide +kernel
theorem dX11_copy_36 : decode cX11_copy 36 = .ok (.ifCond .ne 34, 3) := by decide +kernel
theorem dX11_copy_39 : decode cX11_copy 39 = .ok (.aload_n 0, 1) := by decide +kernel
theorem dX11_copy_40 : decode cX11_copy 40 = .ok (.iload_n 1, 1) := by decide +kernel
theorem dX11_copy_41 : decode cX11_copy 41 = .ok (.invokevirtual 103, 3) := by decide +kernel
theorem dX11_copy_44 : decode cX11_copy 44 = .ok (.ifCond .eq 33, 3) := by decide +kernel
theorem dX11_copy_47 : decode cX11_copy 47 = .ok (.aload_n 0, 1) := by decide +kernel
theorem dX11_copy_48 : decode cX11_copy 48 = .ok (.iload_n 2, 1) := by decide +kernel
theorem dX11_copy_49 : decode cX11_copy 49 = .ok (.invokevirtual 103, 3) := by decide +kernel
theorem dX11_copy_52 : decode cX11_copy 52 = .ok (.ifCond .eq 25, 3) := by decide +kernel
theorem dX11_copy_55 : decode cX11_copy 55 = .ok (.aload_n 0, 1) := by decide +kernel
theorem dX11_copy_56 : decode cX11_copy 56 = .ok (.getfield 7, 3) := by decide +kernel
theorem dX11_copy_59 : decode cX11_copy 59 = .ok (.iload_n 1, 1) := by decide +kernel
theorem dX11_copy_60 : decode cX11_copy 60 = .ok (.iaload, 1) := by decide +kernel
theorem dX11_copy_61 : decode cX11_copy 61 = .ok (.aload_n 0, 1) := by decide +kernel
theorem dX11_copy_62 : decode cX11_copy 62 = .ok (.getfield 7, 3) := by decide +kernel
theorem dX11_copy_65 : decode cX11_copy 65 = .ok (.iload_n 2, 1) := by decide +kernel
theorem dX11_copy_66 : decode cX11_copy 66 = .ok (.iaload, 1) := by decide +kernel
theorem dX11_copy_67 : decode cX11_copy 67 = .ok (.if_icmp .eq 10, 3) := by decide +kernel
theorem dX11_copy_70 : decode cX11_copy 70 = .ok (.aload_n 0, 1) := by decide +kernel
theorem dX11_copy_71 : decode cX11_copy 71 = .ok (.bipush (-3), 2) := by decide +kernel
theorem dX11_copy_73 : decode cX11_copy 73 = .ok (.invokevirtual 93, 3) := by decide +kernel
theorem dX11_copy_76 : decode cX11_copy 76 = .ok (.ireturn, 1) := by decide +kernel
theorem dX11_copy_77 : decode cX11_copy 77 = .ok (.aload_n 0, 1) := by decide +kernel
theorem dX11_copy_78 : decode cX11_copy 78 = .ok (.getfield 7, 3) := by decide +kernel
theorem dX11_copy_81 : decode cX11_copy 81 = .ok (.iload_n 1, 1) := by decide +kernel
theorem dX11_copy_82 : decode cX11_copy 82 = .ok (.iaload, 1) := by decide +kernel
theorem dX11_copy_83 : decode cX11_copy 83 = .ok (.ifCond .lt 12, 3) := by decide +kernel
theorem dX11_copy_86 : decode cX11_copy 86 = .ok (.aload_n 0, 1) := by decide +kernel
theorem dX11_copy_87 : decode cX11_copy 87 = .ok (.getfield 7, 3) := by decide +kernel
theorem dX11_copy_90 : decode cX11_copy 90 = .ok (.iload_n 2, 1) := by decide +kernel
theorem dX11_copy_91 : decode cX11_copy 91 = .ok (.iaload, 1) := by decide +kernel
theorem dX11_copy_92 : decode cX11_copy 92 = .ok (.ifCond .ge 10, 3) := by decide +kernel
theorem dX11_copy_95 : decode cX11_copy 95 = .ok (.aload_n 0, 1) := by decide +kernel
theorem dX11_copy_96 : decode cX11_copy 96 = .ok (.bipush (-4), 2) := by decide +kernel
theorem dX11_copy_98 : decode cX11_copy 98 = .ok (.invokevirtual 93, 3) := by decide +kernel
theorem dX11_copy_101 : decode cX11_copy 101 = .ok (.ireturn, 1) := by decide +kernel
theorem dX11_copy_102 : decode cX11_copy 102 = .ok (.iload 5, 2) := by decide +kernel
theorem dX11_copy_104 : decode cX11_copy 104 = .ok (.ifCond .lt 47, 3) := by decide +kernel
theorem dX11_copy_107 : decode cX11_copy 107 = .ok (.iload_n 3, 1) := by decide +kernel
theorem dX11_copy_108 : decode cX11_copy 108 = .ok (.ifCond .lt 43, 3) := by decide +kernel
theorem dX11_copy_111 : decode cX11_copy 111 = .ok (.iload 4, 2) := by decide +kernel
theorem dX11_copy_113 : decode cX11_copy 113 = .ok (.ifCond .lt 38, 3) := by decide +kernel
theorem dX11_copy_116 : decode cX11_copy 116 = .ok (.iload_n 3, 1) := by decide +kernel
theorem dX11_copy_117 : decode cX11_copy 117 = .ok (.i2l, 1) := by decide +kernel
theorem dX11_copy_118 : decode cX11_copy 118 = .ok (.iload 5, 2) := by decide +kernel
theorem dX11_copy_120 : decode cX11_copy 120 = .ok (.i2l, 1) := by decide +kernel
theorem dX11_copy_121 : decode cX11_copy 121 = .ok (.ladd, 1) := by decide +kernel
theorem dX11_copy_122 : decode cX11_copy 122 = .ok (.aload_n 0, 1) := by decide +kernel
theorem dX11_copy_123 : decode cX11_copy 123 = .ok (.getfield 13, 3) := by decide +kernel
theorem dX11_copy_126 : decode cX11_copy 126 = .ok (.iload_n 1, 1) := by decide +kernel
theorem dX11_copy_127 : decode cX11_copy 127 = .ok (.iaload, 1) := by decide +kernel
theorem dX11_copy_128 : decode cX11_copy 128 = .ok (.i2l, 1) := by decide +kernel
theorem dX11_copy_129 : decode cX11_copy 129 = .ok (.lcmp, 1) := by decide +kernel
theorem dX11_copy_130 : decode cX11_copy 130 = .ok (.ifCond .gt 21, 3) := by decide +kernel
theorem dX11_copy_133 : decode cX11_copy 133 = .ok (.iload 4, 2) := by decide +kernel
theorem dX11_copy_135 : decode cX11_copy 135 = .ok (.i2l, 1) := by decide +kernel
theorem dX11_copy_136 : decode cX11_copy 136 = .ok (.iload 5, 2) := by decide +kernel
theorem dX11_copy_138 : decode cX11_copy 138 = .ok (.i2l, 1) := by decide +kernel
theorem dX11_copy_139 : decode cX11_copy 139 = .ok (.ladd, 1) := by decide +kernel
theorem dX11_copy_140 : decode cX11_copy 140 = .ok (.aload_n 0, 1) := by decide +kernel
theorem dX11_copy_141 : decode cX11_copy 141 = .ok (.getfield 13, 3) := by decide +kernel
theorem dX11_copy_144 : decode cX11_copy 144 = .ok (.iload_n 2, 1) := by decide +kernel
theorem dX11_copy_145 : decode cX11_copy 145 = .ok (.iaload, 1) := by decide +kernel
theorem dX11_copy_146 : decode cX11_copy 146 = .ok (.i2l, 1) := by decide +kernel
theorem dX11_copy_147 : decode cX11_copy 147 = .ok (.lcmp, 1) := by decide +kernel
theorem dX11_copy_148 : decode cX11_copy 148 = .ok (.ifCond .le 10, 3) := by decide +kernel
theorem dX11_copy_151 : decode cX11_copy 151 = .ok (.aload_n 0, 1) := by decide +kernel
theorem dX11_copy_152 : decode cX11_copy 152 = .ok (.bipush (-2), 2) := by decide +kernel
theorem dX11_copy_154 : decode cX11_copy 154 = .ok (.invokevirtual 93, 3) := by decide +kernel
theorem dX11_copy_157 : decode cX11_copy 157 = .ok (.ireturn, 1) := by decide +kernel
theorem dX11_copy_158 : decode cX11_copy 158 = .ok (.iload_n 1, 1) := by decide +kernel
theorem dX11_copy_159 : decode cX11_copy 159 = .ok (.iload_n 2, 1) := by decide +kernel
theorem dX11_copy_160 : decode cX11_copy 160 = .ok (.if_icmp .ne 58, 3) := by decide +kernel
theorem dX11_copy_163 : decode cX11_copy 163 = .ok (.iload_n 3, 1) := by decide +kernel
theorem dX11_copy_164 : decode cX11_copy 164 = .ok (.iload 4, 2) := by decide +kernel
theorem dX11_copy_166 : decode cX11_copy 166 = .ok (.if_icmp .ge 52, 3) := by decide +kernel
theorem dX11_copy_169 : decode cX11_copy 169 = .ok (.iload 5, 2) := by decide +kernel
theorem dX11_copy_171 : decode cX11_copy 171 = .ok (.iconst 1, 1) := by decide +kernel
theorem dX11_copy_172 : decode cX11_copy 172 = .ok (.isub, 1) := by decide +kernel
theorem dX11_copy_173 : decode cX11_copy 173 = .ok (.istore 6, 2) := by decide +kernel
theorem dX11_copy_175 : decode cX11_copy 175 = .ok (.iload 6, 2) := by decide +kernel
theorem dX11_copy_177 : decode cX11_copy 177 = .ok (.ifCond .lt 38, 3) := by decide +kernel
theorem dX11_copy_180 : decode cX11_copy 180 = .ok (.aload_n 0, 1) := by decide +kernel
theorem dX11_copy_181 : decode cX11_copy 181 = .ok (.getfield 16, 3) := by decide +kernel
theorem dX11_copy_184 : decode cX11_copy 184 = .ok (.bipush 40, 2) := by decide +kernel
theorem dX11_copy_186 : decode cX11_copy 186 = .ok (.iload_n 2, 1) := by decide +kernel
theorem dX11_copy_187 : decode cX11_copy 187 = .ok (.imul, 1) := by decide +kernel
theorem dX11_copy_188 : decode cX11_copy 188 = .ok (.iload 4, 2) := by decide +kernel
theorem dX11_copy_190 : decode cX11_copy 190 = .ok (.iadd, 1) := by decide +kernel
theorem dX11_copy_191 : decode cX11_copy 191 = .ok (.iload 6, 2) := by decide +kernel
theorem dX11_copy_193 : decode cX11_copy 193 = .ok (.iadd, 1) := by decide +kernel
theorem dX11_copy_194 : decode cX11_copy 194 = .ok (.aload_n 0, 1) := by decide +kernel
theorem dX11_copy_195 : decode cX11_copy 195 = .ok (.getfield 16, 3) := by decide +kernel
theorem dX11_copy_198 : decode cX11_copy 198 = .ok (.bipush 40, 2) := by decide +kernel
theorem dX11_copy_200 : decode cX11_copy 200 = .ok (.iload_n 1, 1) := by decide +kernel
theorem dX11_copy_201 : decode cX11_copy 201 = .ok (.imul, 1) := by decide +kernel
theorem dX11_copy_202 : decode cX11_copy 202 = .ok (.iload_n 3, 1) := by decide +kernel
theorem dX11_copy_203 : decode cX11_copy 203 = .ok (.iadd, 1) := by decide +kernel
theorem dX11_copy_204 : decode cX11_copy 204 = .ok (.iload 6, 2) := by decide +kernel
theorem dX11_copy_206 : decode cX11_copy 206 = .ok (.iadd, 1) := by decide +kernel
theorem dX11_copy_207 : decode cX11_copy 207 = .ok (.laload, 1) := by decide +kernel
theorem dX11_copy_208 : decode cX11_copy 208 = .ok (.lastore, 1) := by decide +kernel
theorem dX11_copy_209 : decode cX11_copy 209 = .ok (.iinc 6 (-1), 3) := by decide +kernel
theorem dX11_copy_212 : decode cX11_copy 212 = .ok (.goto (-37), 3) := by decide +kernel
theorem dX11_copy_215 : decode cX11_copy 215 = .ok (.goto 48, 3) := by decide +kernel
theorem dX11_copy_218 : decode cX11_copy 218 = .ok (.iconst 0, 1) := by decide +kernel
theorem dX11_copy_219 : decode cX11_copy 219 = .ok (.istore 6, 2) := by decide +kernel
theorem dX11_copy_221 : decode cX11_copy 221 = .ok (.iload 6, 2) := by decide +kernel
theorem dX11_copy_223 : decode cX11_copy 223 = .ok (.iload 5, 2) := by decide +kernel
theorem dX11_copy_225 : decode cX11_copy 225 = .ok (.if_icmp .ge 38, 3) := by decide +kernel
theorem dX11_copy_228 : decode cX11_copy 228 = .ok (.aload_n 0, 1) := by decide +kernel
theorem dX11_copy_229 : decode cX11_copy 229 = .ok (.getfield 16, 3) := by decide +kernel
theorem dX11_copy_232 : decode cX11_copy 232 = .ok (.bipush 40, 2) := by decide +kernel
theorem dX11_copy_234 : decode cX11_copy 234 = .ok (.iload_n 2, 1) := by decide +kernel
theorem dX11_copy_235 : decode cX11_copy 235 = .ok (.imul, 1) := by decide +kernel
theorem dX11_copy_236 : decode cX11_copy 236 = .ok (.iload 4, 2) := by decide +kernel
theorem dX11_copy_238 : decode cX11_copy 238 = .ok (.iadd, 1) := by decide +kernel
theorem dX11_copy_239 : decode cX11_copy 239 = .ok (.iload 6, 2) := by decide +kernel
theorem dX11_copy_241 : decode cX11_copy 241 = .ok (.iadd, 1) := by decide +kernel
theorem dX11_copy_242 : decode cX11_copy 242 = .ok (.aload_n 0, 1) := by decide +kernel
theorem dX11_copy_243 : decode cX11_copy 243 = .ok (.getfield 16, 3) := by decide +kernel
theorem dX11_copy_246 : decode cX11_copy 246 = .ok (.bipush 40, 2) := by decide +kernel
theorem dX11_copy_248 : decode cX11_copy 248 = .ok (.iload_n 1, 1) := by decide +kernel
theorem dX11_copy_249 : decode cX11_copy 249 = .ok (.imul, 1) := by decide +kernel
theorem dX11_copy_250 : decode cX11_copy 250 = .ok (.iload_n 3, 1) := by decide +kernel
theorem dX11_copy_251 : decode cX11_copy 251 = .ok (.iadd, 1) := by decide +kernel
theorem dX11_copy_252 : decode cX11_copy 252 = .ok (.iload 6, 2) := by decide +kernel
theorem dX11_copy_254 : decode cX11_copy 254 = .ok (.iadd, 1) := by decide +kernel
theorem dX11_copy_255 : decode cX11_copy 255 = .ok (.laload, 1) := by decide +kernel
theorem dX11_copy_256 : decode cX11_copy 256 = .ok (.lastore, 1) := by decide +kernel
theorem dX11_copy_257 : decode cX11_copy 257 = .ok (.iinc 6 1, 3) := by decide +kernel
theorem dX11_copy_260 : decode cX11_copy 260 = .ok (.goto (-39), 3) := by decide +kernel
theorem dX11_copy_263 : decode cX11_copy 263 = .ok (.iload 5, 2) := by decide +kernel
theorem dX11_copy_265 : decode cX11_copy 265 = .ok (.ireturn, 1) := by decide +kernel
theorem dX11_element_0 : decode cX11_element 0 = .ok (.aload_n 0, 1) := by decide +kernel
theorem dX11_element_1 : decode cX11_element 1 = .ok (.iload_n 1, 1) := by decide +kernel
theorem dX11_element_2 : decode cX11_element 2 = .ok (.invokevirtual 89, 3) := by decide +kernel
theorem dX11_element_5 : decode cX11_element 5 = .ok (.ifCond .eq 25, 3) := by decide +kernel
theorem dX11_element_8 : decode cX11_element 8 = .ok (.aload_n 0, 1) := by decide +kernel
theorem dX11_element_9 : decode cX11_element 9 = .ok (.iload_n 1, 1) := by decide +kernel
theorem dX11_element_10 : decode cX11_element 10 = .ok (.invokevirtual 103, 3) := by decide +kernel
theorem dX11_element_13 : decode cX11_element 13 = .ok (.ifCond .eq 17, 3) := by decide +kernel
theorem dX11_element_16 : decode cX11_element 16 = .ok (.iload_n 2, 1) := by decide +kernel
theorem dX11_element_17 : decode cX11_element 17 = .ok (.ifCond .lt 13, 3) := by decide +kernel
theorem dX11_element_20 : decode cX11_element 20 = .ok (.iload_n 2, 1) := by decide +kernel
theorem dX11_element_21 : decode cX11_element 21 = .ok (.aload_n 0, 1) := by decide +kernel
theorem dX11_element_22 : decode cX11_element 22 = .ok (.getfield 13, 3) := by decide +kernel
theorem dX11_element_25 : decode cX11_element 25 = .ok (.iload_n 1, 1) := by decide +kernel
theorem dX11_element_26 : decode cX11_element 26 = .ok (.iaload, 1) := by decide +kernel
theorem dX11_element_27 : decode cX11_element 27 = .ok (.if_icmp .lt 5, 3) := by decide +kernel
theorem dX11_element_30 : decode cX11_element 30 = .ok (.lconst 0, 1) := by decide +kernel
theorem dX11_element_31 : decode cX11_element 31 = .ok (.lreturn, 1) := by decide +kernel
theorem dX11_element_32 : decode cX11_element 32 = .ok (.aload_n 0, 1) := by decide +kernel
theorem dX11_element_33 : decode cX11_element 33 = .ok (.getfield 16, 3) := by decide +kernel
theorem dX11_element_36 : decode cX11_element 36 = .ok (.bipush 40, 2) := by decide +kernel
theorem dX11_element_38 : decode cX11_element 38 = .ok (.iload_n 1, 1) := by decide +kernel
theorem dX11_element_39 : decode cX11_element 39 = .ok (.imul, 1) := by decide +kernel
theorem dX11_element_40 : decode cX11_element 40 = .ok (.iload_n 2, 1) := by decide +kernel
theorem dX11_element_41 : decode cX11_element 41 = .ok (.iadd, 1) := by decide +kernel
theorem dX11_element_42 : decode cX11_element 42 = .ok (.laload, 1) := by decide +kernel
theorem dX11_element_43 : decode cX11_element 43 = .ok (.lreturn, 1) := by decide +kernel
theorem dX11_holds_0 : decode cX11_holds 0 = .ok (.aload_n 0, 1) := by decide +kernel
theorem dX11_holds_1 : decode cX11_holds 1 = .ok (.iload_n 1, 1) := by decide +kernel
theorem dX11_holds_2 : decode cX11_holds 2 = .ok (.invokevirtual 89, 3) := by decide +kernel
theorem dX11_holds_5 : decode cX11_holds 5 = .ok (.ifCond .eq 12, 3) := by decide +kernel
theorem dX11_holds_8 : decode cX11_holds 8 = .ok (.aload_n 0, 1) := by decide +kernel
theorem dX11_holds_9 : decode cX11_holds 9 = .ok (.getfield 7, 3) := by decide +kernel
theorem dX11_holds_12 : decode cX11_holds 12 = .ok (.iload_n 1, 1) := by decide +kernel
theorem dX11_holds_13 : decode cX11_holds 13 = .ok (.iaload, 1) := by decide +kernel
theorem dX11_holds_14 : decode cX11_holds 14 = .ok (.ifCond .ge 5, 3) := by decide +kernel
theorem dX11_holds_17 : decode cX11_holds 17 = .ok (.iconst (-1), 1) := by decide +kernel
theorem dX11_holds_18 : decode cX11_holds 18 = .ok (.ireturn, 1) := by decide +kernel
theorem dX11_holds_19 : decode cX11_holds 19 = .ok (.aload_n 0, 1) := by decide +kernel
theorem dX11_holds_20 : decode cX11_holds 20 = .ok (.iload_n 1, 1) := by decide +kernel
theorem dX11_holds_21 : decode cX11_holds 21 = .ok (.invokevirtual 103, 3) := by decide +kernel
theorem dX11_holds_24 : decode cX11_holds 24 = .ok (.ifCond .eq 15, 3) := by decide +kernel
theorem dX11_holds_27 : decode cX11_holds 27 = .ok (.aload_n 0, 1) := by decide +kernel
theorem dX11_holds_28 : decode cX11_holds 28 = .ok (.getfield 7, 3) := by decide +kernel
theorem dX11_holds_31 : decode cX11_holds 31 = .ok (.iload_n 1, 1) := by decide +kernel
theorem dX11_holds_32 : decode cX11_holds 32 = .ok (.iaload, 1) := by decide +kernel
theorem dX11_holds_33 : decode cX11_holds 33 = .ok (.bipush 100, 2) := by decide +kernel
theorem dX11_holds_35 : decode cX11_holds 35 = .ok (.isub, 1) := by decide +kernel
theorem dX11_holds_36 : decode cX11_holds 36 = .ok (.goto 12, 3) := by decide +kernel
theorem dX11_holds_39 : decode cX11_holds 39 = .ok (.bipush 10, 2) := by decide +kernel
theorem dX11_holds_41 : decode cX11_holds 41 = .ok (.aload_n 0, 1) := by decide +kernel
theorem dX11_holds_42 : decode cX11_holds 42 = .ok (.getfield 7, 3) := by decide +kernel
theorem dX11_holds_45 : decode cX11_holds 45 = .ok (.iload_n 1, 1) := by decide +kernel
theorem dX11_holds_46 : decode cX11_holds 46 = .ok (.iaload, 1) := by decide +kernel
theorem dX11_holds_47 : decode cX11_holds 47 = .ok (.iadd, 1) := by decide +kernel
theorem dX11_holds_48 : decode cX11_holds 48 = .ok (.ireturn, 1) := by decide +kernel
theorem dX11_show_0 : decode cX11_show 0 = .ok (.aload_n 0, 1) := by decide +kernel
theorem dX11_show_1 : decode cX11_show 1 = .ok (.iload_n 1, 1) := by decide +kernel
theorem dX11_show_2 : decode cX11_show 2 = .ok (.invokevirtual 89, 3) := by decide +kernel
theorem dX11_show_5 : decode cX11_show 5 = .ok (.ifCond .eq 16, 3) := by decide +kernel
theorem dX11_show_8 : decode cX11_show 8 = .ok (.iload_n 2, 1) := by decide +kernel
theorem dX11_show_9 : decode cX11_show 9 = .ok (.iconst (-1), 1) := by decide +kernel
theorem dX11_show_10 : decode cX11_show 10 = .ok (.if_icmp .eq 18, 3) := by decide +kernel
theorem dX11_show_13 : decode cX11_show 13 = .ok (.aload_n 0, 1) := by decide +kernel
theorem dX11_show_14 : decode cX11_show 14 = .ok (.iload_n 2, 1) := by decide +kernel
theorem dX11_show_15 : decode cX11_show 15 = .ok (.invokevirtual 106, 3) := by decide +kernel
theorem dX11_show_18 : decode cX11_show 18 = .ok (.ifCond .ne 10, 3) := by decide +kernel
theorem dX11_show_21 : decode cX11_show 21 = .ok (.aload_n 0, 1) := by decide +kernel
theorem dX11_show_22 : decode cX11_show 22 = .ok (.bipush (-2), 2) := by decide +kernel
theorem dX11_show_24 : decode cX11_show 24 = .ok (.invokevirtual 93, 3) := by decide +kernel
theorem dX11_show_27 : decode cX11_show 27 = .ok (.ireturn, 1) := by decide +kernel
theorem dX11_show_28 : decode cX11_show 28 = .ok (.aload_n 0, 1) := by decide +kernel
theorem dX11_show_29 : decode cX11_show 29 = .ok (.getfield 7, 3) := by decide +kernel
theorem dX11_show_32 : decode cX11_show 32 = .ok (.iload_n 1, 1) := by decide +kernel
theorem dX11_show_33 : decode cX11_show 33 = .ok (.iload_n 2, 1) := by decide +kernel
theorem dX11_show_34 : decode cX11_show 34 = .ok (.iastore, 1) := by decide +kernel
theorem dX11_show_35 : decode cX11_show 35 = .ok (.iconst 1, 1) := by decide +kernel
theorem dX11_show_36 : decode cX11_show 36 = .ok (.ireturn, 1) := by decide +kernel
theorem dX11_isUnder_0 : decode cX11_isUnder 0 = .ok (.iload_n 2, 1) := by decide +kernel
theorem dX11_isUnder_1 : decode cX11_isUnder 1 = .ok (.ifCond .eq 8, 3) := by decide +kernel
theorem dX11_isUnder_4 : decode cX11_isUnder 4 = .ok (.iload_n 1, 1) := by decide +kernel
theorem dX11_isUnder_5 : decode cX11_isUnder 5 = .ok (.iload_n 2, 1) := by decide +kernel
theorem dX11_isUnder_6 : decode cX11_isUnder 6 = .ok (.if_icmp .ne 5, 3) := by decide +kernel
theorem dX11_isUnder_9 : decode cX11_isUnder 9 = .ok (.iconst 1, 1) := by decide +kernel
theorem dX11_isUnder_10 : decode cX11_isUnder 10 = .ok (.ireturn, 1) := by decide +kernel
theorem dX11_isUnder_11 : decode cX11_isUnder 11 = .ok (.iload_n 2, 1) := by decide +kernel
theorem dX11_isUnder_12 : decode cX11_isUnder 12 = .ok (.iconst 1, 1) := by decide +kernel
theorem dX11_isUnder_13 : decode cX11_isUnder 13 = .ok (.if_icmp .ne 8, 3) := by decide +kernel
theorem dX11_isUnder_16 : decode cX11_isUnder 16 = .ok (.iload_n 1, 1) := by decide +kernel
theorem dX11_isUnder_17 : decode cX11_isUnder 17 = .ok (.iconst 2, 1) := by decide +kernel
theorem dX11_isUnder_18 : decode cX11_isUnder 18 = .ok (.if_icmp .eq 13, 3) := by decide +kernel
theorem dX11_isUnder_21 : decode cX11_isUnder 21 = .ok (.iload_n 2, 1) := by decide +kernel
theorem dX11_isUnder_22 : decode cX11_isUnder 22 = .ok (.iconst 3, 1) := by decide +kernel
theorem dX11_isUnder_23 : decode cX11_isUnder 23 = .ok (.if_icmp .ne 12, 3) := by decide +kernel
theorem dX11_isUnder_26 : decode cX11_isUnder 26 = .ok (.iload_n 1, 1) := by decide +kernel
theorem dX11_isUnder_27 : decode cX11_isUnder 27 = .ok (.iconst 4, 1) := by decide +kernel
theorem dX11_isUnder_28 : decode cX11_isUnder 28 = .ok (.if_icmp .ne 7, 3) := by decide +kernel
theorem dX11_isUnder_31 : decode cX11_isUnder 31 = .ok (.iconst 1, 1) := by decide +kernel
theorem dX11_isUnder_32 : decode cX11_isUnder 32 = .ok (.goto 4, 3) := by decide +kernel
theorem dX11_isUnder_35 : decode cX11_isUnder 35 = .ok (.iconst 0, 1) := by decide +kernel
theorem dX11_isUnder_36 : decode cX11_isUnder 36 = .ok (.ireturn, 1) := by decide +kernel
theorem dX11_says_0 : decode cX11_says 0 = .ok (.aload_n 0, 1) := by decide +kernel
theorem dX11_says_1 : decode cX11_says 1 = .ok (.iload_n 1, 1) := by decide +kernel
theorem dX11_says_2 : decode cX11_says 2 = .ok (.invokevirtual 89, 3) := by decide +kernel
theorem dX11_says_5 : decode cX11_says 5 = .ok (.ifCond .eq 12, 3) := by decide +kernel
theorem dX11_says_8 : decode cX11_says 8 = .ok (.iload_n 2, 1) := by decide +kernel
theorem dX11_says_9 : decode cX11_says 9 = .ok (.ifCond .lt 8, 3) := by decide +kernel
theorem dX11_says_12 : decode cX11_says 12 = .ok (.iload_n 2, 1) := by decide +kernel
theorem dX11_says_13 : decode cX11_says 13 = .ok (.iconst 5, 1) := by decide +kernel
theorem dX11_says_14 : decode cX11_says 14 = .ok (.if_icmp .le 10, 3) := by decide +kernel
theorem dX11_says_17 : decode cX11_says 17 = .ok (.aload_n 0, 1) := by decide +kernel
theorem dX11_says_18 : decode cX11_says 18 = .ok (.bipush (-2), 2) := by decide +kernel
theorem dX11_says_20 : decode cX11_says 20 = .ok (.invokevirtual 93, 3) := by decide +kernel
theorem dX11_says_23 : decode cX11_says 23 = .ok (.ireturn, 1) := by decide +kernel
theorem dX11_says_24 : decode cX11_says 24 = .ok (.aload_n 0, 1) := by decide +kernel
theorem dX11_says_25 : decode cX11_says 25 = .ok (.iload_n 1, 1) := by decide +kernel
theorem dX11_says_26 : decode cX11_says 26 = .ok (.invokevirtual 103, 3) := by decide +kernel
theorem dX11_says_29 : decode cX11_says 29 = .ok (.ifCond .eq 10, 3) := by decide +kernel
theorem dX11_says_32 : decode cX11_says 32 = .ok (.aload_n 0, 1) := by decide +kernel
theorem dX11_says_33 : decode cX11_says 33 = .ok (.bipush (-3), 2) := by decide +kernel
theorem dX11_says_35 : decode cX11_says 35 = .ok (.invokevirtual 93, 3) := by decide +kernel
theorem dX11_says_38 : decode cX11_says 38 = .ok (.ireturn, 1) := by decide +kernel
theorem dX11_says_39 : decode cX11_says 39 = .ok (.aload_n 0, 1) := by decide +kernel
theorem dX11_says_40 : decode cX11_says 40 = .ok (.getfield 7, 3) := by decide +kernel
theorem dX11_says_43 : decode cX11_says 43 = .ok (.iload_n 1, 1) := by decide +kernel
theorem dX11_says_44 : decode cX11_says 44 = .ok (.iaload, 1) := by decide +kernel
theorem dX11_says_45 : decode cX11_says 45 = .ok (.ifCond .ge 10, 3) := by decide +kernel
theorem dX11_says_48 : decode cX11_says 48 = .ok (.aload_n 0, 1) := by decide +kernel
theorem dX11_says_49 : decode cX11_says 49 = .ok (.bipush (-4), 2) := by decide +kernel
theorem dX11_says_51 : decode cX11_says 51 = .ok (.invokevirtual 93, 3) := by decide +kernel
theorem dX11_says_54 : decode cX11_says 54 = .ok (.ireturn, 1) := by decide +kernel
theorem dX11_says_55 : decode cX11_says 55 = .ok (.aload_n 0, 1) := by decide +kernel
theorem dX11_says_56 : decode cX11_says 56 = .ok (.getfield 7, 3) := by decide +kernel
theorem dX11_says_59 : decode cX11_says 59 = .ok (.iload_n 1, 1) := by decide +kernel
theorem dX11_says_60 : decode cX11_says 60 = .ok (.iaload, 1) := by decide +kernel
theorem dX11_says_61 : decode cX11_says 61 = .ok (.istore_n 3, 1) := by decide +kernel
theorem dX11_says_62 : decode cX11_says 62 = .ok (.aload_n 0, 1) := by decide +kernel
theorem dX11_says_63 : decode cX11_says 63 = .ok (.aload_n 0, 1) := by decide +kernel
theorem dX11_says_64 : decode cX11_says 64 = .ok (.getfield 20, 3) := by decide +kernel
theorem dX11_says_67 : decode cX11_says 67 = .ok (.iload_n 3, 1) := by decide +kernel
theorem dX11_says_68 : decode cX11_says 68 = .ok (.iaload, 1) := by decide +kernel
theorem dX11_says_69 : decode cX11_says 69 = .ok (.iload_n 2, 1) := by decide +kernel
theorem dX11_says_70 : decode cX11_says 70 = .ok (.invokevirtual 109, 3) := by decide +kernel
theorem dX11_says_73 : decode cX11_says 73 = .ok (.ifCond .ne 10, 3) := by decide +kernel
theorem dX11_says_76 : decode cX11_says 76 = .ok (.aload_n 0, 1) := by decide +kernel
theorem dX11_says_77 : decode cX11_says 77 = .ok (.bipush (-3), 2) := by decide +kernel
theorem dX11_says_79 : decode cX11_says 79 = .ok (.invokevirtual 93, 3) := by decide +kernel
theorem dX11_says_82 : decode cX11_says 82 = .ok (.ireturn, 1) := by decide +kernel
theorem dX11_says_83 : decode cX11_says 83 = .ok (.iload_n 2, 1) := by decide +kernel
theorem dX11_says_84 : decode cX11_says 84 = .ok (.ifCond .ne 10, 3) := by decide +kernel
theorem dX11_says_87 : decode cX11_says 87 = .ok (.aload_n 0, 1) := by decide +kernel
theorem dX11_says_88 : decode cX11_says 88 = .ok (.getfield 23, 3) := by decide +kernel
theorem dX11_says_91 : decode cX11_says 91 = .ok (.iload_n 3, 1) := by decide +kernel
theorem dX11_says_92 : decode cX11_says 92 = .ok (.iaload, 1) := by decide +kernel
theorem dX11_says_93 : decode cX11_says 93 = .ok (.ireturn, 1) := by decide +kernel
theorem dX11_says_94 : decode cX11_says 94 = .ok (.iload_n 2, 1) := by decide +kernel
theorem dX11_says_95 : decode cX11_says 95 = .ok (.iconst 3, 1) := by decide +kernel
theorem dX11_says_96 : decode cX11_says 96 = .ok (.if_icmp .ge 9, 3) := by decide +kernel
theorem dX11_says_99 : decode cX11_says 99 = .ok (.aload_n 0, 1) := by decide +kernel
theorem dX11_says_100 : decode cX11_says 100 = .ok (.iload_n 3, 1) := by decide +kernel
theorem dX11_says_101 : decode cX11_says 101 = .ok (.invokevirtual 113, 3) := by decide +kernel
theorem dX11_says_104 : decode cX11_says 104 = .ok (.ireturn, 1) := by decide +kernel
theorem dX11_says_105 : decode cX11_says 105 = .ok (.iload_n 2, 1) := by decide +kernel
theorem dX11_says_106 : decode cX11_says 106 = .ok (.iconst 5, 1) := by decide +kernel
theorem dX11_says_107 : decode cX11_says 107 = .ok (.if_icmp .ge 17, 3) := by decide +kernel
theorem dX11_says_110 : decode cX11_says 110 = .ok (.aload_n 0, 1) := by decide +kernel
theorem dX11_says_111 : decode cX11_says 111 = .ok (.iload_n 3, 1) := by decide +kernel
theorem dX11_says_112 : decode cX11_says 112 = .ok (.aload_n 0, 1) := by decide +kernel
theorem dX11_says_113 : decode cX11_says 113 = .ok (.getfield 62, 3) := by decide +kernel
theorem dX11_says_116 : decode cX11_says 116 = .ok (.iconst 5, 1) := by decide +kernel
theorem dX11_says_117 : decode cX11_says 117 = .ok (.iaload, 1) := by decide +kernel
theorem dX11_says_118 : decode cX11_says 118 = .ok (.invokevirtual 116, 3) := by decide +kernel
theorem dX11_says_121 : decode cX11_says 121 = .ok (.goto 9, 3) := by decide +kernel
theorem dX11_says_124 : decode cX11_says 124 = .ok (.aload_n 0, 1) := by decide +kernel
theorem dX11_says_125 : decode cX11_says 125 = .ok (.getfield 32, 3) := by decide +kernel
theorem dX11_says_128 : decode cX11_says 128 = .ok (.iload_n 3, 1) := by decide +kernel
theorem dX11_says_129 : decode cX11_says 129 = .ok (.iaload, 1) := by decide +kernel
theorem dX11_says_130 : decode cX11_says 130 = .ok (.ireturn, 1) := by decide +kernel
theorem dX11_paces_0 : decode cX11_paces 0 = .ok (.aload_n 0, 1) := by decide +kernel
theorem dX11_paces_1 : decode cX11_paces 1 = .ok (.getfield 20, 3) := by decide +kernel
theorem dX11_paces_4 : decode cX11_paces 4 = .ok (.iload_n 1, 1) := by decide +kernel
theorem dX11_paces_5 : decode cX11_paces 5 = .ok (.iaload, 1) := by decide +kernel
theorem dX11_paces_6 : decode cX11_paces 6 = .ok (.istore_n 2, 1) := by decide +kernel
theorem dX11_paces_7 : decode cX11_paces 7 = .ok (.aload_n 0, 1) := by decide +kernel
theorem dX11_paces_8 : decode cX11_paces 8 = .ok (.getfield 26, 3) := by decide +kernel
theorem dX11_paces_11 : decode cX11_paces 11 = .ok (.iload_n 1, 1) := by decide +kernel
theorem dX11_paces_12 : decode cX11_paces 12 = .ok (.iaload, 1) := by decide +kernel
theorem dX11_paces_13 : decode cX11_paces 13 = .ok (.istore_n 3, 1) := by decide +kernel
theorem dX11_paces_14 : decode cX11_paces 14 = .ok (.iload_n 2, 1) := by decide +kernel
theorem dX11_paces_15 : decode cX11_paces 15 = .ok (.ifCond .eq 8, 3) := by decide +kernel
theorem dX11_paces_18 : decode cX11_paces 18 = .ok (.iload_n 2, 1) := by decide +kernel
theorem dX11_paces_19 : decode cX11_paces 19 = .ok (.iconst 3, 1) := by decide +kernel
theorem dX11_paces_20 : decode cX11_paces 20 = .ok (.if_icmp .ne 5, 3) := by decide +kernel
theorem dX11_paces_23 : decode cX11_paces 23 = .ok (.iload_n 3, 1) := by decide +kernel
theorem dX11_paces_24 : decode cX11_paces 24 = .ok (.ireturn, 1) := by decide +kernel
theorem dX11_paces_25 : decode cX11_paces 25 = .ok (.iload_n 2, 1) := by decide +kernel
theorem dX11_paces_26 : decode cX11_paces 26 = .ok (.iconst 1, 1) := by decide +kernel
theorem dX11_paces_27 : decode cX11_paces 27 = .ok (.if_icmp .ne 7, 3) := by decide +kernel
theorem dX11_paces_30 : decode cX11_paces 30 = .ok (.iconst 2, 1) := by decide +kernel
theorem dX11_paces_31 : decode cX11_paces 31 = .ok (.iload_n 3, 1) := by decide +kernel
theorem dX11_paces_32 : decode cX11_paces 32 = .ok (.imul, 1) := by decide +kernel
theorem dX11_paces_33 : decode cX11_paces 33 = .ok (.ireturn, 1) := by decide +kernel
theorem dX11_paces_34 : decode cX11_paces 34 = .ok (.iload_n 2, 1) := by decide +kernel
theorem dX11_paces_35 : decode cX11_paces 35 = .ok (.iconst 2, 1) := by decide +kernel
theorem dX11_paces_36 : decode cX11_paces 36 = .ok (.if_icmp .ne 9, 3) := by decide +kernel
theorem dX11_paces_39 : decode cX11_paces 39 = .ok (.iconst 2, 1) := by decide +kernel
theorem dX11_paces_40 : decode cX11_paces 40 = .ok (.iload_n 3, 1) := by decide +kernel
theorem dX11_paces_41 : decode cX11_paces 41 = .ok (.imul, 1) := by decide +kernel
theorem dX11_paces_42 : decode cX11_paces 42 = .ok (.iconst 4, 1) := by decide +kernel
theorem dX11_paces_43 : decode cX11_paces 43 = .ok (.iadd, 1) := by decide +kernel
theorem dX11_paces_44 : decode cX11_paces 44 = .ok (.ireturn, 1) := by decide +kernel
theorem dX11_paces_45 : decode cX11_paces 45 = .ok (.iload_n 2, 1) := by decide +kernel
theorem dX11_paces_46 : decode cX11_paces 46 = .ok (.iconst 4, 1) := by decide +kernel
theorem dX11_paces_47 : decode cX11_paces 47 = .ok (.if_icmp .ne 9, 3) := by decide +kernel
theorem dX11_paces_50 : decode cX11_paces 50 = .ok (.iload_n 3, 1) := by decide +kernel
theorem dX11_paces_51 : decode cX11_paces 51 = .ok (.iconst 2, 1) := by decide +kernel
theorem dX11_paces_52 : decode cX11_paces 52 = .ok (.iadd, 1) := by decide +kernel
theorem dX11_paces_53 : decode cX11_paces 53 = .ok (.goto 4, 3) := by decide +kernel
theorem dX11_paces_56 : decode cX11_paces 56 = .ok (.iconst 1, 1) := by decide +kernel
theorem dX11_paces_57 : decode cX11_paces 57 = .ok (.ireturn, 1) := by decide +kernel
theorem dX11_riseAt_0 : decode cX11_riseAt 0 = .ok (.aload_n 0, 1) := by decide +kernel
theorem dX11_riseAt_1 : decode cX11_riseAt 1 = .ok (.getfield 20, 3) := by decide +kernel
theorem dX11_riseAt_4 : decode cX11_riseAt 4 = .ok (.iload_n 1, 1) := by decide +kernel
theorem dX11_riseAt_5 : decode cX11_riseAt 5 = .ok (.iaload, 1) := by decide +kernel
theorem dX11_riseAt_6 : decode cX11_riseAt 6 = .ok (.istore_n 3, 1) := by decide +kernel
theorem dX11_riseAt_7 : decode cX11_riseAt 7 = .ok (.aload_n 0, 1) := by decide +kernel
theorem dX11_riseAt_8 : decode cX11_riseAt 8 = .ok (.getfield 29, 3) := by decide +kernel
theorem dX11_riseAt_11 : decode cX11_riseAt 11 = .ok (.iload_n 1, 1) := by decide +kernel
theorem dX11_riseAt_12 : decode cX11_riseAt 12 = .ok (.iaload, 1) := by decide +kernel
theorem dX11_riseAt_13 : decode cX11_riseAt 13 = .ok (.istore 4, 2) := by decide +kernel
theorem dX11_riseAt_15 : decode cX11_riseAt 15 = .ok (.iload_n 3, 1) := by decide +kernel
theorem dX11_riseAt_16 : decode cX11_riseAt 16 = .ok (.iconst 3, 1) := by decide +kernel
theorem dX11_riseAt_17 : decode cX11_riseAt 17 = .ok (.if_icmp .ne 6, 3) := by decide +kernel
theorem dX11_riseAt_20 : decode cX11_riseAt 20 = .ok (.iload 4, 2) := by decide +kernel
theorem dX11_riseAt_22 : decode cX11_riseAt 22 = .ok (.ireturn, 1) := by decide +kernel
theorem dX11_riseAt_23 : decode cX11_riseAt 23 = .ok (.iload_n 3, 1) := by decide +kernel
theorem dX11_riseAt_24 : decode cX11_riseAt 24 = .ok (.iconst 4, 1) := by decide +kernel
theorem dX11_riseAt_25 : decode cX11_riseAt 25 = .ok (.if_icmp .ne 8, 3) := by decide +kernel
theorem dX11_riseAt_28 : decode cX11_riseAt 28 = .ok (.iload 4, 2) := by decide +kernel
theorem dX11_riseAt_30 : decode cX11_riseAt 30 = .ok (.iconst 2, 1) := by decide +kernel
theorem dX11_riseAt_31 : decode cX11_riseAt 31 = .ok (.idiv, 1) := by decide +kernel
theorem dX11_riseAt_32 : decode cX11_riseAt 32 = .ok (.ireturn, 1) := by decide +kernel
theorem dX11_riseAt_33 : decode cX11_riseAt 33 = .ok (.iload_n 3, 1) := by decide +kernel
theorem dX11_riseAt_34 : decode cX11_riseAt 34 = .ok (.ifCond .eq 8, 3) := by decide +kernel
theorem dX11_riseAt_37 : decode cX11_riseAt 37 = .ok (.iload_n 3, 1) := by decide +kernel
theorem dX11_riseAt_38 : decode cX11_riseAt 38 = .ok (.iconst 5, 1) := by decide +kernel
theorem dX11_riseAt_39 : decode cX11_riseAt 39 = .ok (.if_icmp .ne 8, 3) := by decide +kernel
theorem dX11_riseAt_42 : decode cX11_riseAt 42 = .ok (.iload 4, 2) := by decide +kernel
theorem dX11_riseAt_44 : decode cX11_riseAt 44 = .ok (.iload_n 2, 1) := by decide +kernel
theorem dX11_riseAt_45 : decode cX11_riseAt 45 = .ok (.isub, 1) := by decide +kernel
theorem dX11_riseAt_46 : decode cX11_riseAt 46 = .ok (.ireturn, 1) := by decide +kernel
theorem dX11_riseAt_47 : decode cX11_riseAt 47 = .ok (.iload 4, 2) := by decide +kernel
theorem dX11_riseAt_49 : decode cX11_riseAt 49 = .ok (.iload_n 2, 1) := by decide +kernel
theorem dX11_riseAt_50 : decode cX11_riseAt 50 = .ok (.isub, 1) := by decide +kernel
theorem dX11_riseAt_51 : decode cX11_riseAt 51 = .ok (.bipush 10, 2) := by decide +kernel
theorem dX11_riseAt_53 : decode cX11_riseAt 53 = .ok (.isub, 1) := by decide +kernel
theorem dX11_riseAt_54 : decode cX11_riseAt 54 = .ok (.istore 5, 2) := by decide +kernel
theorem dX11_riseAt_56 : decode cX11_riseAt 56 = .ok (.iload_n 3, 1) := by decide +kernel
theorem dX11_riseAt_57 : decode cX11_riseAt 57 = .ok (.iconst 2, 1) := by decide +kernel
theorem dX11_riseAt_58 : decode cX11_riseAt 58 = .ok (.if_icmp .ne 12, 3) := by decide +kernel
theorem dX11_riseAt_61 : decode cX11_riseAt 61 = .ok (.iload 5, 2) := by decide +kernel
theorem dX11_riseAt_63 : decode cX11_riseAt 63 = .ok (.ifCond .ge 7, 3) := by decide +kernel
theorem dX11_riseAt_66 : decode cX11_riseAt 66 = .ok (.iconst 0, 1) := by decide +kernel
theorem dX11_riseAt_67 : decode cX11_riseAt 67 = .ok (.goto 5, 3) := by decide +kernel
theorem dX11_riseAt_70 : decode cX11_riseAt 70 = .ok (.iload 5, 2) := by decide +kernel
theorem dX11_riseAt_72 : decode cX11_riseAt 72 = .ok (.ireturn, 1) := by decide +kernel
theorem dX11_deck_0 : decode cX11_deck 0 = .ok (.bipush 20, 2) := by decide +kernel
theorem dX11_deck_2 : decode cX11_deck 2 = .ok (.aload_n 0, 1) := by decide +kernel
theorem dX11_deck_3 : decode cX11_deck 3 = .ok (.getfield 62, 3) := by decide +kernel
theorem dX11_deck_6 : decode cX11_deck 6 = .ok (.bipush 6, 2) := by decide +kernel
theorem dX11_deck_8 : decode cX11_deck 8 = .ok (.iaload, 1) := by decide +kernel
theorem dX11_deck_9 : decode cX11_deck 9 = .ok (.iconst 4, 1) := by decide +kernel
theorem dX11_deck_10 : decode cX11_deck 10 = .ok (.idiv, 1) := by decide +kernel
theorem dX11_deck_11 : decode cX11_deck 11 = .ok (.isub, 1) := by decide +kernel
theorem dX11_deck_12 : decode cX11_deck 12 = .ok (.ireturn, 1) := by decide +kernel
theorem dX11_isOut_0 : decode cX11_isOut 0 = .ok (.aload_n 0, 1) := by decide +kernel
theorem dX11_isOut_1 : decode cX11_isOut 1 = .ok (.iload_n 1, 1) := by decide +kernel
theorem dX11_isOut_2 : decode cX11_isOut 2 = .ok (.iload_n 2, 1) := by decide +kernel
theorem dX11_isOut_3 : decode cX11_isOut 3 = .ok (.invokevirtual 116, 3) := by decide +kernel
theorem dX11_isOut_6 : decode cX11_isOut 6 = .ok (.aload_n 0, 1) := by decide +kernel
theorem dX11_isOut_7 : decode cX11_isOut 7 = .ok (.invokevirtual 120, 3) := by decide +kernel
theorem dX11_isOut_10 : decode cX11_isOut 10 = .ok (.isub, 1) := by decide +kernel
theorem dX11_isOut_11 : decode cX11_isOut 11 = .ok (.istore_n 3, 1) := by decide +kernel
theorem dX11_isOut_12 : decode cX11_isOut 12 = .ok (.iload_n 3, 1) := by decide +kernel
theorem dX11_isOut_13 : decode cX11_isOut 13 = .ok (.bipush 60, 2) := by decide +kernel
theorem dX11_isOut_15 : decode cX11_isOut 15 = .ok (.if_icmp .gt 9, 3) := by decide +kernel
theorem dX11_isOut_18 : decode cX11_isOut 18 = .ok (.iload_n 3, 1) := by decide +kernel
theorem dX11_isOut_19 : decode cX11_isOut 19 = .ok (.bipush (-60), 2) := by decide +kernel
theorem dX11_isOut_21 : decode cX11_isOut 21 = .ok (.if_icmp .ge 7, 3) := by decide +kernel
theorem dX11_isOut_24 : decode cX11_isOut 24 = .ok (.iconst 1, 1) := by decide +kernel
theorem dX11_isOut_25 : decode cX11_isOut 25 = .ok (.goto 4, 3) := by decide +kernel
theorem dX11_isOut_28 : decode cX11_isOut 28 = .ok (.iconst 0, 1) := by decide +kernel
theorem dX11_isOut_29 : decode cX11_isOut 29 = .ok (.ireturn, 1) := by decide +kernel
theorem dX11_says__0 : decode cX11_says_ 0 = .ok (.aload_n 0, 1) := by decide +kernel
theorem dX11_says__1 : decode cX11_says_ 1 = .ok (.getfield 62, 3) := by decide +kernel
theorem dX11_says__4 : decode cX11_says_ 4 = .ok (.iconst 4, 1) := by decide +kernel
theorem dX11_says__5 : decode cX11_says_ 5 = .ok (.iaload, 1) := by decide +kernel
theorem dX11_says__6 : decode cX11_says_ 6 = .ok (.ifCond .lt 20, 3) := by decide +kernel
theorem dX11_says__9 : decode cX11_says_ 9 = .ok (.aload_n 0, 1) := by decide +kernel
theorem dX11_says__10 : decode cX11_says_ 10 = .ok (.getfield 38, 3) := by decide +kernel
theorem dX11_says__13 : decode cX11_says_ 13 = .ok (.bipush 9, 2) := by decide +kernel
theorem dX11_says__15 : decode cX11_says_ 15 = .ok (.aload_n 0, 1) := by decide +kernel
theorem dX11_says__16 : decode cX11_says_ 16 = .ok (.getfield 62, 3) := by decide +kernel
theorem dX11_says__19 : decode cX11_says_ 19 = .ok (.iconst 4, 1) := by decide +kernel
theorem dX11_says__20 : decode cX11_says_ 20 = .ok (.iaload, 1) := by decide +kernel
theorem dX11_says__21 : decode cX11_says_ 21 = .ok (.imul, 1) := by decide +kernel
theorem dX11_says__22 : decode cX11_says_ 22 = .ok (.iload_n 1, 1) := by decide +kernel
theorem dX11_says__23 : decode cX11_says_ 23 = .ok (.iadd, 1) := by decide +kernel
theorem dX11_says__24 : decode cX11_says_ 24 = .ok (.iaload, 1) := by decide +kernel
theorem dX11_says__25 : decode cX11_says_ 25 = .ok (.ireturn, 1) := by decide +kernel
theorem dX11_says__26 : decode cX11_says_ 26 = .ok (.aload_n 0, 1) := by decide +kernel
theorem dX11_says__27 : decode cX11_says_ 27 = .ok (.iload_n 1, 1) := by decide +kernel
theorem dX11_says__28 : decode cX11_says_ 28 = .ok (.invokevirtual 124, 3) := by decide +kernel
theorem dX11_says__31 : decode cX11_says_ 31 = .ok (.ireturn, 1) := by decide +kernel
theorem dX11_first_0 : decode cX11_first 0 = .ok (.iload_n 1, 1) := by decide +kernel
theorem dX11_first_1 : decode cX11_first 1 = .ok (.ifCond .ne 6, 3) := by decide +kernel
theorem dX11_first_4 : decode cX11_first 4 = .ok (.bipush 40, 2) := by decide +kernel
theorem dX11_first_6 : decode cX11_first 6 = .ok (.ireturn, 1) := by decide +kernel
theorem dX11_first_7 : decode cX11_first 7 = .ok (.iload_n 1, 1) := by decide +kernel
theorem dX11_first_8 : decode cX11_first 8 = .ok (.iconst 1, 1) := by decide +kernel
theorem dX11_first_9 : decode cX11_first 9 = .ok (.if_icmp .eq 9, 3) := by decide +kernel
theorem dX11_first_12 : decode cX11_first 12 = .ok (.iload_n 1, 1) := by decide +kernel
theorem dX11_first_13 : decode cX11_first 13 = .ok (.bipush 7, 2) := by decide +kernel
theorem dX11_first_15 : decode cX11_first 15 = .ok (.if_icmp .ne 5, 3) := by decide +kernel
theorem dX11_first_18 : decode cX11_first 18 = .ok (.iconst 4, 1) := by decide +kernel
theorem dX11_first_19 : decode cX11_first 19 = .ok (.ireturn, 1) := by decide +kernel
theorem dX11_first_20 : decode cX11_first 20 = .ok (.iload_n 1, 1) := by decide +kernel
theorem dX11_first_21 : decode cX11_first 21 = .ok (.iconst 2, 1) := by decide +kernel
theorem dX11_first_22 : decode cX11_first 22 = .ok (.if_icmp .ne 5, 3) := by decide +kernel
theorem dX11_first_25 : decode cX11_first 25 = .ok (.iconst 5, 1) := by decide +kernel
theorem dX11_first_26 : decode cX11_first 26 = .ok (.ireturn, 1) := by decide +kernel
theorem dX11_first_27 : decode cX11_first 27 = .ok (.iload_n 1, 1) := by decide +kernel
theorem dX11_first_28 : decode cX11_first 28 = .ok (.iconst 3, 1) := by decide +kernel
theorem dX11_first_29 : decode cX11_first 29 = .ok (.if_icmp .eq 8, 3) := by decide +kernel
theorem dX11_first_32 : decode cX11_first 32 = .ok (.iload_n 1, 1) := by decide +kernel
theorem dX11_first_33 : decode cX11_first 33 = .ok (.iconst 4, 1) := by decide +kernel
theorem dX11_first_34 : decode cX11_first 34 = .ok (.if_icmp .ne 5, 3) := by decide +kernel
theorem dX11_first_37 : decode cX11_first 37 = .ok (.iconst 3, 1) := by decide +kernel
theorem dX11_first_38 : decode cX11_first 38 = .ok (.ireturn, 1) := by decide +kernel
theorem dX11_first_39 : decode cX11_first 39 = .ok (.iload_n 1, 1) := by decide +kernel
theorem dX11_first_40 : decode cX11_first 40 = .ok (.iconst 5, 1) := by decide +kernel
theorem dX11_first_41 : decode cX11_first 41 = .ok (.if_icmp .ne 6, 3) := by decide +kernel
theorem dX11_first_44 : decode cX11_first 44 = .ok (.bipush 40, 2) := by decide +kernel
theorem dX11_first_46 : decode cX11_first 46 = .ok (.ireturn, 1) := by decide +kernel
theorem dX11_first_47 : decode cX11_first 47 = .ok (.iload_n 1, 1) := by decide +kernel
theorem dX11_first_48 : decode cX11_first 48 = .ok (.bipush 6, 2) := by decide +kernel
theorem dX11_first_50 : decode cX11_first 50 = .ok (.if_icmp .ne 8, 3) := by decide +kernel
theorem dX11_first_53 : decode cX11_first 53 = .ok (.bipush 20, 2) := by decide +kernel
theorem dX11_first_55 : decode cX11_first 55 = .ok (.goto 4, 3) := by decide +kernel
theorem dX11_first_58 : decode cX11_first 58 = .ok (.iconst 2, 1) := by decide +kernel
theorem dX11_first_59 : decode cX11_first 59 = .ok (.ireturn, 1) := by decide +kernel
theorem dX11_isTime_0 : decode cX11_isTime 0 = .ok (.aload_n 0, 1) := by decide +kernel
theorem dX11_isTime_1 : decode cX11_isTime 1 = .ok (.iload_n 1, 1) := by decide +kernel
theorem dX11_isTime_2 : decode cX11_isTime 2 = .ok (.aload_n 0, 1) := by decide +kernel
theorem dX11_isTime_3 : decode cX11_isTime 3 = .ok (.iconst 1, 1) := by decide +kernel
theorem dX11_isTime_4 : decode cX11_isTime 4 = .ok (.invokevirtual 127, 3) := by decide +kernel
theorem dX11_isTime_7 : decode cX11_isTime 7 = .ok (.invokevirtual 130, 3) := by decide +kernel
theorem dX11_isTime_10 : decode cX11_isTime 10 = .ok (.ireturn, 1) := by decide +kernel
theorem dX11_isTimeAt_0 : decode cX11_isTimeAt 0 = .ok (.aload_n 0, 1) := by decide +kernel
theorem dX11_isTimeAt_1 : decode cX11_isTimeAt 1 = .ok (.iconst 2, 1) := by decide +kernel
theorem dX11_isTimeAt_2 : decode cX11_isTimeAt 2 = .ok (.invokevirtual 127, 3) := by decide +kernel
theorem dX11_isTimeAt_5 : decode cX11_isTimeAt 5 = .ok (.istore_n 3, 1) := by decide +kernel
theorem dX11_isTimeAt_6 : decode cX11_isTimeAt 6 = .ok (.iconst 2, 1) := by decide +kernel
theorem dX11_isTimeAt_7 : decode cX11_isTimeAt 7 = .ok (.aload_n 0, 1) := by decide +kernel
theorem dX11_isTimeAt_8 : decode cX11_isTimeAt 8 = .ok (.iload_n 1, 1) := by decide +kernel
theorem dX11_isTimeAt_9 : decode cX11_isTimeAt 9 = .ok (.invokevirtual 113, 3) := by decide +kernel
theorem dX11_isTimeAt_12 : decode cX11_isTimeAt 12 = .ok (.imul, 1) := by decide +kernel
theorem dX11_isTimeAt_13 : decode cX11_isTimeAt 13 = .ok (.iload_n 3, 1) := by decide +kernel
theorem dX11_isTimeAt_14 : decode cX11_isTimeAt 14 = .ok (.iadd, 1) := by decide +kernel
theorem dX11_isTimeAt_15 : decode cX11_isTimeAt 15 = .ok (.iconst 1, 1) := by decide +kernel
theorem dX11_isTimeAt_16 : decode cX11_isTimeAt 16 = .ok (.isub, 1) := by decide +kernel
theorem dX11_isTimeAt_17 : decode cX11_isTimeAt 17 = .ok (.iload_n 3, 1) := by decide +kernel
theorem dX11_isTimeAt_18 : decode cX11_isTimeAt 18 = .ok (.idiv, 1) := by decide +kernel
theorem dX11_isTimeAt_19 : decode cX11_isTimeAt 19 = .ok (.aload_n 0, 1) := by decide +kernel
theorem dX11_isTimeAt_20 : decode cX11_isTimeAt 20 = .ok (.iconst 3, 1) := by decide +kernel
theorem dX11_isTimeAt_21 : decode cX11_isTimeAt 21 = .ok (.invokevirtual 127, 3) := by decide +kernel
theorem dX11_isTimeAt_24 : decode cX11_isTimeAt 24 = .ok (.iadd, 1) := by decide +kernel
theorem dX11_isTimeAt_25 : decode cX11_isTimeAt 25 = .ok (.aload_n 0, 1) := by decide +kernel
theorem dX11_isTimeAt_26 : decode cX11_isTimeAt 26 = .ok (.iconst 0, 1) := by decide +kernel
theorem dX11_isTimeAt_27 : decode cX11_isTimeAt 27 = .ok (.invokevirtual 127, 3) := by decide +kernel
theorem dX11_isTimeAt_30 : decode cX11_isTimeAt 30 = .ok (.iload_n 2, 1) := by decide +kernel
theorem dX11_isTimeAt_31 : decode cX11_isTimeAt 31 = .ok (.idiv, 1) := by decide +kernel
theorem dX11_isTimeAt_32 : decode cX11_isTimeAt 32 = .ok (.if_icmp .gt 7, 3) := by decide +kernel
theorem dX11_isTimeAt_35 : decode cX11_isTimeAt 35 = .ok (.iconst 1, 1) := by decide +kernel
theorem dX11_isTimeAt_36 : decode cX11_isTimeAt 36 = .ok (.goto 4, 3) := by decide +kernel
theorem dX11_isTimeAt_39 : decode cX11_isTimeAt 39 = .ok (.iconst 0, 1) := by decide +kernel
theorem dX11_isTimeAt_40 : decode cX11_isTimeAt 40 = .ok (.ireturn, 1) := by decide +kernel
theorem dX11_jetty_0 : decode cX11_jetty 0 = .ok (.iload_n 1, 1) := by decide +kernel
theorem dX11_jetty_1 : decode cX11_jetty 1 = .ok (.ifCond .lt 39, 3) := by decide +kernel
theorem dX11_jetty_4 : decode cX11_jetty 4 = .ok (.iload_n 1, 1) := by decide +kernel
theorem dX11_jetty_5 : decode cX11_jetty 5 = .ok (.iconst 5, 1) := by decide +kernel
theorem dX11_jetty_6 : decode cX11_jetty 6 = .ok (.if_icmp .gt 34, 3) := by decide +kernel
theorem dX11_jetty_9 : decode cX11_jetty 9 = .ok (.aload_n 0, 1) := by decide +kernel
theorem dX11_jetty_10 : decode cX11_jetty 10 = .ok (.iload_n 2, 1) := by decide +kernel
theorem dX11_jetty_11 : decode cX11_jetty 11 = .ok (.invokevirtual 133, 3) := by decide +kernel
theorem dX11_jetty_14 : decode cX11_jetty 14 = .ok (.ifCond .eq 26, 3) := by decide +kernel
theorem dX11_jetty_17 : decode cX11_jetty 17 = .ok (.iload_n 3, 1) := by decide +kernel
theorem dX11_jetty_18 : decode cX11_jetty 18 = .ok (.iconst 1, 1) := by decide +kernel
theorem dX11_jetty_19 : decode cX11_jetty 19 = .ok (.if_icmp .lt 21, 3) := by decide +kernel
theorem dX11_jetty_22 : decode cX11_jetty 22 = .ok (.iload_n 3, 1) := by decide +kernel
theorem dX11_jetty_23 : decode cX11_jetty 23 = .ok (.bipush 30, 2) := by decide +kernel
theorem dX11_jetty_25 : decode cX11_jetty 25 = .ok (.if_icmp .gt 15, 3) := by decide +kernel
theorem dX11_jetty_28 : decode cX11_jetty 28 = .ok (.iload 4, 2) := by decide +kernel
theorem dX11_jetty_30 : decode cX11_jetty 30 = .ok (.ifCond .lt 10, 3) := by decide +kernel
theorem dX11_jetty_33 : decode cX11_jetty 33 = .ok (.iload 4, 2) := by decide +kernel
theorem dX11_jetty_35 : decode cX11_jetty 35 = .ok (.bipush 99, 2) := by decide +kernel
theorem dX11_jetty_37 : decode cX11_jetty 37 = .ok (.if_icmp .le 10, 3) := by decide +kernel
theorem dX11_jetty_40 : decode cX11_jetty 40 = .ok (.aload_n 0, 1) := by decide +kernel
theorem dX11_jetty_41 : decode cX11_jetty 41 = .ok (.bipush (-2), 2) := by decide +kernel
theorem dX11_jetty_43 : decode cX11_jetty 43 = .ok (.invokevirtual 93, 3) := by decide +kernel
theorem dX11_jetty_46 : decode cX11_jetty 46 = .ok (.ireturn, 1) := by decide +kernel
theorem dX11_jetty_47 : decode cX11_jetty 47 = .ok (.aload_n 0, 1) := by decide +kernel
theorem dX11_jetty_48 : decode cX11_jetty 48 = .ok (.getfield 62, 3) := by decide +kernel
theorem dX11_jetty_51 : decode cX11_jetty 51 = .ok (.iconst 0, 1) := by decide +kernel
theorem dX11_jetty_52 : decode cX11_jetty 52 = .ok (.iaload, 1) := by decide +kernel
theorem dX11_jetty_53 : decode cX11_jetty 53 = .ok (.bipush 20, 2) := by decide +kernel
theorem dX11_jetty_55 : decode cX11_jetty 55 = .ok (.if_icmp .ne 10, 3) := by decide +kernel
theorem dX11_jetty_58 : decode cX11_jetty 58 = .ok (.aload_n 0, 1) := by decide +kernel
theorem dX11_jetty_59 : decode cX11_jetty 59 = .ok (.bipush (-6), 2) := by decide +kernel
theorem dX11_jetty_61 : decode cX11_jetty 61 = .ok (.invokevirtual 93, 3) := by decide +kernel
theorem dX11_jetty_64 : decode cX11_jetty 64 = .ok (.ireturn, 1) := by decide +kernel
theorem dX11_jetty_65 : decode cX11_jetty 65 = .ok (.aload_n 0, 1) := by decide +kernel
theorem dX11_jetty_66 : decode cX11_jetty 66 = .ok (.getfield 62, 3) := by decide +kernel
theorem dX11_jetty_69 : decode cX11_jetty 69 = .ok (.iconst 0, 1) := by decide +kernel
theorem dX11_jetty_70 : decode cX11_jetty 70 = .ok (.dup2, 1) := by decide +kernel
theorem dX11_jetty_71 : decode cX11_jetty 71 = .ok (.iaload, 1) := by decide +kernel
theorem dX11_jetty_72 : decode cX11_jetty 72 = .ok (.dup_x2, 1) := by decide +kernel
theorem dX11_jetty_73 : decode cX11_jetty 73 = .ok (.iconst 1, 1) := by decide +kernel
theorem dX11_jetty_74 : decode cX11_jetty 74 = .ok (.iadd, 1) := by decide +kernel
theorem dX11_jetty_75 : decode cX11_jetty 75 = .ok (.iastore, 1) := by decide +kernel
theorem dX11_jetty_76 : decode cX11_jetty 76 = .ok (.istore 5, 2) := by decide +kernel
theorem dX11_jetty_78 : decode cX11_jetty 78 = .ok (.aload_n 0, 1) := by decide +kernel
theorem dX11_jetty_79 : decode cX11_jetty 79 = .ok (.getfield 20, 3) := by decide +kernel
theorem dX11_jetty_82 : decode cX11_jetty 82 = .ok (.iload 5, 2) := by decide +kernel
theorem dX11_jetty_84 : decode cX11_jetty 84 = .ok (.iload_n 1, 1) := by decide +kernel
theorem dX11_jetty_85 : decode cX11_jetty 85 = .ok (.iastore, 1) := by decide +kernel
theorem dX11_jetty_86 : decode cX11_jetty 86 = .ok (.aload_n 0, 1) := by decide +kernel
theorem dX11_jetty_87 : decode cX11_jetty 87 = .ok (.getfield 23, 3) := by decide +kernel
theorem dX11_jetty_90 : decode cX11_jetty 90 = .ok (.iload 5, 2) := by decide +kernel
theorem dX11_jetty_92 : decode cX11_jetty 92 = .ok (.iload_n 2, 1) := by decide +kernel
theorem dX11_jetty_93 : decode cX11_jetty 93 = .ok (.iastore, 1) := by decide +kernel
theorem dX11_jetty_94 : decode cX11_jetty 94 = .ok (.aload_n 0, 1) := by decide +kernel
theorem dX11_jetty_95 : decode cX11_jetty 95 = .ok (.getfield 26, 3) := by decide +kernel
theorem dX11_jetty_98 : decode cX11_jetty 98 = .ok (.iload 5, 2) := by decide +kernel
theorem dX11_jetty_100 : decode cX11_jetty 100 = .ok (.iload_n 3, 1) := by decide +kernel
theorem dX11_jetty_101 : decode cX11_jetty 101 = .ok (.iastore, 1) := by decide +kernel
theorem dX11_jetty_102 : decode cX11_jetty 102 = .ok (.aload_n 0, 1) := by decide +kernel
theorem dX11_jetty_103 : decode cX11_jetty 103 = .ok (.getfield 29, 3) := by decide +kernel
theorem dX11_jetty_106 : decode cX11_jetty 106 = .ok (.iload 5, 2) := by decide +kernel
theorem dX11_jetty_108 : decode cX11_jetty 108 = .ok (.iload 4, 2) := by decide +kernel
theorem dX11_jetty_110 : decode cX11_jetty 110 = .ok (.iastore, 1) := by decide +kernel
theorem dX11_jetty_111 : decode cX11_jetty 111 = .ok (.aload_n 0, 1) := by decide +kernel
theorem dX11_jetty_112 : decode cX11_jetty 112 = .ok (.getfield 32, 3) := by decide +kernel
theorem dX11_jetty_115 : decode cX11_jetty 115 = .ok (.iload 5, 2) := by decide +kernel
theorem dX11_jetty_117 : decode cX11_jetty 117 = .ok (.iconst 0, 1) := by decide +kernel
theorem dX11_jetty_118 : decode cX11_jetty 118 = .ok (.iastore, 1) := by decide +kernel
theorem dX11_jetty_119 : decode cX11_jetty 119 = .ok (.iload 5, 2) := by decide +kernel
theorem dX11_jetty_121 : decode cX11_jetty 121 = .ok (.ireturn, 1) := by decide +kernel
theorem dX11_jettyOf_0 : decode cX11_jettyOf 0 = .ok (.aload_n 0, 1) := by decide +kernel
theorem dX11_jettyOf_1 : decode cX11_jettyOf 1 = .ok (.iload_n 1, 1) := by decide +kernel
theorem dX11_jettyOf_2 : decode cX11_jettyOf 2 = .ok (.invokevirtual 106, 3) := by decide +kernel
theorem dX11_jettyOf_5 : decode cX11_jettyOf 5 = .ok (.ifCond .eq 13, 3) := by decide +kernel
theorem dX11_jettyOf_8 : decode cX11_jettyOf 8 = .ok (.iload_n 2, 1) := by decide +kernel
theorem dX11_jettyOf_9 : decode cX11_jettyOf 9 = .ok (.ifCond .lt 9, 3) := by decide +kernel
theorem dX11_jettyOf_12 : decode cX11_jettyOf 12 = .ok (.iload_n 2, 1) := by decide +kernel
theorem dX11_jettyOf_13 : decode cX11_jettyOf 13 = .ok (.bipush 7, 2) := by decide +kernel
theorem dX11_jettyOf_15 : decode cX11_jettyOf 15 = .ok (.if_icmp .le 10, 3) := by decide +kernel
theorem dX11_jettyOf_18 : decode cX11_jettyOf 18 = .ok (.aload_n 0, 1) := by decide +kernel
theorem dX11_jettyOf_19 : decode cX11_jettyOf 19 = .ok (.bipush (-2), 2) := by decide +kernel
theorem dX11_jettyOf_21 : decode cX11_jettyOf 21 = .ok (.invokevirtual 93, 3) := by decide +kernel
theorem dX11_jettyOf_24 : decode cX11_jettyOf 24 = .ok (.ireturn, 1) := by decide +kernel
theorem dX11_jettyOf_25 : decode cX11_jettyOf 25 = .ok (.iload_n 2, 1) := by decide +kernel
theorem dX11_jettyOf_26 : decode cX11_jettyOf 26 = .ok (.ifCond .ne 10, 3) := by decide +kernel
theorem dX11_jettyOf_29 : decode cX11_jettyOf 29 = .ok (.aload_n 0, 1) := by decide +kernel
theorem dX11_jettyOf_30 : decode cX11_jettyOf 30 = .ok (.getfield 20, 3) := by decide +kernel
theorem dX11_jettyOf_33 : decode cX11_jettyOf 33 = .ok (.iload_n 1, 1) := by decide +kernel
theorem dX11_jettyOf_34 : decode cX11_jettyOf 34 = .ok (.iaload, 1) := by decide +kernel
theorem dX11_jettyOf_35 : decode cX11_jettyOf 35 = .ok (.ireturn, 1) := by decide +kernel
theorem dX11_jettyOf_36 : decode cX11_jettyOf 36 = .ok (.iload_n 2, 1) := by decide +kernel
theorem dX11_jettyOf_37 : decode cX11_jettyOf 37 = .ok (.iconst 1, 1) := by decide +kernel
theorem dX11_jettyOf_38 : decode cX11_jettyOf 38 = .ok (.if_icmp .ne 10, 3) := by decide +kernel
theorem dX11_jettyOf_41 : decode cX11_jettyOf 41 = .ok (.aload_n 0, 1) := by decide +kernel
theorem dX11_jettyOf_42 : decode cX11_jettyOf 42 = .ok (.getfield 23, 3) := by decide +kernel
theorem dX11_jettyOf_45 : decode cX11_jettyOf 45 = .ok (.iload_n 1, 1) := by decide +kernel
theorem dX11_jettyOf_46 : decode cX11_jettyOf 46 = .ok (.iaload, 1) := by decide +kernel
theorem dX11_jettyOf_47 : decode cX11_jettyOf 47 = .ok (.ireturn, 1) := by decide +kernel
theorem dX11_jettyOf_48 : decode cX11_jettyOf 48 = .ok (.iload_n 2, 1) := by decide +kernel
theorem dX11_jettyOf_49 : decode cX11_jettyOf 49 = .ok (.iconst 2, 1) := by decide +kernel
theorem dX11_jettyOf_50 : decode cX11_jettyOf 50 = .ok (.if_icmp .ne 10, 3) := by decide +kernel
theorem dX11_jettyOf_53 : decode cX11_jettyOf 53 = .ok (.aload_n 0, 1) := by decide +kernel
theorem dX11_jettyOf_54 : decode cX11_jettyOf 54 = .ok (.getfield 26, 3) := by decide +kernel
theorem dX11_jettyOf_57 : decode cX11_jettyOf 57 = .ok (.iload_n 1, 1) := by decide +kernel
theorem dX11_jettyOf_58 : decode cX11_jettyOf 58 = .ok (.iaload, 1) := by decide +kernel
theorem dX11_jettyOf_59 : decode cX11_jettyOf 59 = .ok (.ireturn, 1) := by decide +kernel
theorem dX11_jettyOf_60 : decode cX11_jettyOf 60 = .ok (.iload_n 2, 1) := by decide +kernel
theorem dX11_jettyOf_61 : decode cX11_jettyOf 61 = .ok (.iconst 3, 1) := by decide +kernel
theorem dX11_jettyOf_62 : decode cX11_jettyOf 62 = .ok (.if_icmp .ne 10, 3) := by decide +kernel
theorem dX11_jettyOf_65 : decode cX11_jettyOf 65 = .ok (.aload_n 0, 1) := by decide +kernel
theorem dX11_jettyOf_66 : decode cX11_jettyOf 66 = .ok (.getfield 29, 3) := by decide +kernel
theorem dX11_jettyOf_69 : decode cX11_jettyOf 69 = .ok (.iload_n 1, 1) := by decide +kernel
theorem dX11_jettyOf_70 : decode cX11_jettyOf 70 = .ok (.iaload, 1) := by decide +kernel
theorem dX11_jettyOf_71 : decode cX11_jettyOf 71 = .ok (.ireturn, 1) := by decide +kernel
theorem dX11_jettyOf_72 : decode cX11_jettyOf 72 = .ok (.iload_n 2, 1) := by decide +kernel
theorem dX11_jettyOf_73 : decode cX11_jettyOf 73 = .ok (.iconst 4, 1) := by decide +kernel
theorem dX11_jettyOf_74 : decode cX11_jettyOf 74 = .ok (.if_icmp .ne 9, 3) := by decide +kernel
theorem dX11_jettyOf_77 : decode cX11_jettyOf 77 = .ok (.aload_n 0, 1) := by decide +kernel
theorem dX11_jettyOf_78 : decode cX11_jettyOf 78 = .ok (.iload_n 1, 1) := by decide +kernel
theorem dX11_jettyOf_79 : decode cX11_jettyOf 79 = .ok (.invokevirtual 113, 3) := by decide +kernel
theorem dX11_jettyOf_82 : decode cX11_jettyOf 82 = .ok (.ireturn, 1) := by decide +kernel
theorem dX11_jettyOf_83 : decode cX11_jettyOf 83 = .ok (.iload_n 2, 1) := by decide +kernel
theorem dX11_jettyOf_84 : decode cX11_jettyOf 84 = .ok (.iconst 5, 1) := by decide +kernel
theorem dX11_jettyOf_85 : decode cX11_jettyOf 85 = .ok (.if_icmp .ne 10, 3) := by decide +kernel
theorem dX11_jettyOf_88 : decode cX11_jettyOf 88 = .ok (.aload_n 0, 1) := by decide +kernel
theorem dX11_jettyOf_89 : decode cX11_jettyOf 89 = .ok (.getfield 32, 3) := by decide +kernel
theorem dX11_jettyOf_92 : decode cX11_jettyOf 92 = .ok (.iload_n 1, 1) := by decide +kernel
theorem dX11_jettyOf_93 : decode cX11_jettyOf 93 = .ok (.iaload, 1) := by decide +kernel
theorem dX11_jettyOf_94 : decode cX11_jettyOf 94 = .ok (.ireturn, 1) := by decide +kernel
theorem dX11_jettyOf_95 : decode cX11_jettyOf 95 = .ok (.iload_n 2, 1) := by decide +kernel
theorem dX11_jettyOf_96 : decode cX11_jettyOf 96 = .ok (.bipush 6, 2) := by decide +kernel
theorem dX11_jettyOf_98 : decode cX11_jettyOf 98 = .ok (.if_icmp .ne 23, 3) := by decide +kernel
theorem dX11_jettyOf_101 : decode cX11_jettyOf 101 = .ok (.aload_n 0, 1) := by decide +kernel
theorem dX11_jettyOf_102 : decode cX11_jettyOf 102 = .ok (.iload_n 1, 1) := by decide +kernel
theorem dX11_jettyOf_103 : decode cX11_jettyOf 103 = .ok (.aload_n 0, 1) := by decide +kernel
theorem dX11_jettyOf_104 : decode cX11_jettyOf 104 = .ok (.getfield 62, 3) := by decide +kernel
theorem dX11_jettyOf_107 : decode cX11_jettyOf 107 = .ok (.iconst 5, 1) := by decide +kernel
theorem dX11_jettyOf_108 : decode cX11_jettyOf 108 = .ok (.iaload, 1) := by decide +kernel
theorem dX11_jettyOf_109 : decode cX11_jettyOf 109 = .ok (.invokevirtual 136, 3) := by decide +kernel
theorem dX11_jettyOf_112 : decode cX11_jettyOf 112 = .ok (.ifCond .eq 7, 3) := by decide +kernel
theorem dX11_jettyOf_115 : decode cX11_jettyOf 115 = .ok (.iconst 1, 1) := by decide +kernel
theorem dX11_jettyOf_116 : decode cX11_jettyOf 116 = .ok (.goto 4, 3) := by decide +kernel
theorem dX11_jettyOf_119 : decode cX11_jettyOf 119 = .ok (.iconst 0, 1) := by decide +kernel
theorem dX11_jettyOf_120 : decode cX11_jettyOf 120 = .ok (.ireturn, 1) := by decide +kernel
theorem dX11_jettyOf_121 : decode cX11_jettyOf 121 = .ok (.aload_n 0, 1) := by decide +kernel
theorem dX11_jettyOf_122 : decode cX11_jettyOf 122 = .ok (.iload_n 1, 1) := by decide +kernel
theorem dX11_jettyOf_123 : decode cX11_jettyOf 123 = .ok (.invokevirtual 139, 3) := by decide +kernel
theorem dX11_jettyOf_126 : decode cX11_jettyOf 126 = .ok (.ifCond .eq 7, 3) := by decide +kernel
theorem dX11_jettyOf_129 : decode cX11_jettyOf 129 = .ok (.iconst 1, 1) := by decide +kernel
theorem dX11_jettyOf_130 : decode cX11_jettyOf 130 = .ok (.goto 4, 3) := by decide +kernel
theorem dX11_jettyOf_133 : decode cX11_jettyOf 133 = .ok (.iconst 0, 1) := by decide +kernel
theorem dX11_jettyOf_134 : decode cX11_jettyOf 134 = .ok (.ireturn, 1) := by decide +kernel
theorem dX11_wet_0 : decode cX11_wet 0 = .ok (.aload_n 0, 1) := by decide +kernel
theorem dX11_wet_1 : decode cX11_wet 1 = .ok (.iload_n 1, 1) := by decide +kernel
theorem dX11_wet_2 : decode cX11_wet 2 = .ok (.invokevirtual 106, 3) := by decide +kernel
theorem dX11_wet_5 : decode cX11_wet 5 = .ok (.ifCond .ne 10, 3) := by decide +kernel
theorem dX11_wet_8 : decode cX11_wet 8 = .ok (.aload_n 0, 1) := by decide +kernel
theorem dX11_wet_9 : decode cX11_wet 9 = .ok (.bipush (-2), 2) := by decide +kernel
theorem dX11_wet_11 : decode cX11_wet 11 = .ok (.invokevirtual 93, 3) := by decide +kernel
theorem dX11_wet_14 : decode cX11_wet 14 = .ok (.ireturn, 1) := by decide +kernel
theorem dX11_wet_15 : decode cX11_wet 15 = .ok (.aload_n 0, 1) := by decide +kernel
theorem dX11_wet_16 : decode cX11_wet 16 = .ok (.getfield 32, 3) := by decide +kernel
theorem dX11_wet_19 : decode cX11_wet 19 = .ok (.iload_n 1, 1) := by decide +kernel
theorem dX11_wet_20 : decode cX11_wet 20 = .ok (.iaload, 1) := by decide +kernel
theorem dX11_wet_21 : decode cX11_wet 21 = .ok (.istore_n 3, 1) := by decide +kernel
theorem dX11_wet_22 : decode cX11_wet 22 = .ok (.aload_n 0, 1) := by decide +kernel
theorem dX11_wet_23 : decode cX11_wet 23 = .ok (.getfield 32, 3) := by decide +kernel
theorem dX11_wet_26 : decode cX11_wet 26 = .ok (.iload_n 1, 1) := by decide +kernel
theorem dX11_wet_27 : decode cX11_wet 27 = .ok (.iload_n 2, 1) := by decide +kernel
theorem dX11_wet_28 : decode cX11_wet 28 = .ok (.ifCond .eq 7, 3) := by decide +kernel
theorem dX11_wet_31 : decode cX11_wet 31 = .ok (.iconst 1, 1) := by decide +kernel
theorem dX11_wet_32 : decode cX11_wet 32 = .ok (.goto 4, 3) := by decide +kernel
theorem dX11_wet_35 : decode cX11_wet 35 = .ok (.iconst 0, 1) := by decide +kernel
theorem dX11_wet_36 : decode cX11_wet 36 = .ok (.iastore, 1) := by decide +kernel
theorem dX11_wet_37 : decode cX11_wet 37 = .ok (.iload_n 3, 1) := by decide +kernel
theorem dX11_wet_38 : decode cX11_wet 38 = .ok (.ireturn, 1) := by decide +kernel
theorem dX11_isLevel_0 : decode cX11_isLevel 0 = .ok (.iload_n 1, 1) := by decide +kernel
theorem dX11_isLevel_1 : decode cX11_isLevel 1 = .ok (.bipush (-50), 2) := by decide +kernel
theorem dX11_isLevel_3 : decode cX11_isLevel 3 = .ok (.if_icmp .lt 13, 3) := by decide +kernel
theorem dX11_isLevel_6 : decode cX11_isLevel 6 = .ok (.iload_n 1, 1) := by decide +kernel
theorem dX11_isLevel_7 : decode cX11_isLevel 7 = .ok (.bipush 50, 2) := by decide +kernel
theorem dX11_isLevel_9 : decode cX11_isLevel 9 = .ok (.if_icmp .gt 7, 3) := by decide +kernel
theorem dX11_isLevel_12 : decode cX11_isLevel 12 = .ok (.iconst 1, 1) := by decide +kernel
theorem dX11_isLevel_13 : decode cX11_isLevel 13 = .ok (.goto 4, 3) := by decide +kernel
theorem dX11_isLevel_16 : decode cX11_isLevel 16 = .ok (.iconst 0, 1) := by decide +kernel
theorem dX11_isLevel_17 : decode cX11_isLevel 17 = .ok (.ireturn, 1) := by decide +kernel
theorem dX11_rise_0 : decode cX11_rise 0 = .ok (.aload_n 0, 1) := by decide +kernel
theorem dX11_rise_1 : decode cX11_rise 1 = .ok (.iload_n 1, 1) := by decide +kernel
theorem dX11_rise_2 : decode cX11_rise 2 = .ok (.invokevirtual 106, 3) := by decide +kernel
theorem dX11_rise_5 : decode cX11_rise 5 = .ok (.ifCond .eq 11, 3) := by decide +kernel
theorem dX11_rise_8 : decode cX11_rise 8 = .ok (.aload_n 0, 1) := by decide +kernel
theorem dX11_rise_9 : decode cX11_rise 9 = .ok (.iload_n 2, 1) := by decide +kernel
theorem dX11_rise_10 : decode cX11_rise 10 = .ok (.invokevirtual 142, 3) := by decide +kernel
theorem dX11_rise_13 : decode cX11_rise 13 = .ok (.ifCond .ne 14, 3) := by decide +kernel
theorem dX11_rise_16 : decode cX11_rise 16 = .ok (.aload_n 0, 1) := by decide +kernel
theorem dX11_rise_17 : decode cX11_rise 17 = .ok (.bipush (-2), 2) := by decide +kernel
theorem dX11_rise_19 : decode cX11_rise 19 = .ok (.invokevirtual 93, 3) := by decide +kernel
theorem dX11_rise_22 : decode cX11_rise 22 = .ok (.pop, 1) := by decide +kernel
theorem dX11_rise_23 : decode cX11_rise 23 = .ok (.sipush (-1002), 3) := by decide +kernel
theorem dX11_rise_26 : decode cX11_rise 26 = .ok (.ireturn, 1) := by decide +kernel
theorem dX11_rise_27 : decode cX11_rise 27 = .ok (.aload_n 0, 1) := by decide +kernel
theorem dX11_rise_28 : decode cX11_rise 28 = .ok (.iload_n 1, 1) := by decide +kernel
theorem dX11_rise_29 : decode cX11_rise 29 = .ok (.iload_n 2, 1) := by decide +kernel
theorem dX11_rise_30 : decode cX11_rise 30 = .ok (.invokevirtual 116, 3) := by decide +kernel
theorem dX11_rise_33 : decode cX11_rise 33 = .ok (.ireturn, 1) := by decide +kernel
theorem dX11_lake_0 : decode cX11_lake 0 = .ok (.iload_n 1, 1) := by decide +kernel
theorem dX11_lake_1 : decode cX11_lake 1 = .ok (.ifCond .lt 8, 3) := by decide +kernel
theorem dX11_lake_4 : decode cX11_lake 4 = .ok (.iload_n 1, 1) := by decide +kernel
theorem dX11_lake_5 : decode cX11_lake 5 = .ok (.iconst 2, 1) := by decide +kernel
theorem dX11_lake_6 : decode cX11_lake 6 = .ok (.if_icmp .le 10, 3) := by decide +kernel
theorem dX11_lake_9 : decode cX11_lake 9 = .ok (.aload_n 0, 1) := by decide +kernel
theorem dX11_lake_10 : decode cX11_lake 10 = .ok (.bipush (-2), 2) := by decide +kernel
theorem dX11_lake_12 : decode cX11_lake 12 = .ok (.invokevirtual 93, 3) := by decide +kernel
theorem dX11_lake_15 : decode cX11_lake 15 = .ok (.ireturn, 1) := by decide +kernel
theorem dX11_lake_16 : decode cX11_lake 16 = .ok (.iload_n 1, 1) := by decide +kernel
theorem dX11_lake_17 : decode cX11_lake 17 = .ok (.ifCond .ne 11, 3) := by decide +kernel
theorem dX11_lake_20 : decode cX11_lake 20 = .ok (.aload_n 0, 1) := by decide +kernel
theorem dX11_lake_21 : decode cX11_lake 21 = .ok (.iload_n 2, 1) := by decide +kernel
theorem dX11_lake_22 : decode cX11_lake 22 = .ok (.invokevirtual 142, 3) := by decide +kernel
theorem dX11_lake_25 : decode cX11_lake 25 = .ok (.ifCond .eq 31, 3) := by decide +kernel
theorem dX11_lake_28 : decode cX11_lake 28 = .ok (.iload_n 1, 1) := by decide +kernel
theorem dX11_lake_29 : decode cX11_lake 29 = .ok (.iconst 1, 1) := by decide +kernel
theorem dX11_lake_30 : decode cX11_lake 30 = .ok (.if_icmp .ne 13, 3) := by decide +kernel
theorem dX11_lake_33 : decode cX11_lake 33 = .ok (.iload_n 2, 1) := by decide +kernel
theorem dX11_lake_34 : decode cX11_lake 34 = .ok (.ifCond .lt 22, 3) := by decide +kernel
theorem dX11_lake_37 : decode cX11_lake 37 = .ok (.iload_n 2, 1) := by decide +kernel
theorem dX11_lake_38 : decode cX11_lake 38 = .ok (.bipush 60, 2) := by decide +kernel
theorem dX11_lake_40 : decode cX11_lake 40 = .ok (.if_icmp .gt 16, 3) := by decide +kernel
theorem dX11_lake_43 : decode cX11_lake 43 = .ok (.iload_n 1, 1) := by decide +kernel
theorem dX11_lake_44 : decode cX11_lake 44 = .ok (.iconst 2, 1) := by decide +kernel
theorem dX11_lake_45 : decode cX11_lake 45 = .ok (.if_icmp .ne 18, 3) := by decide +kernel
theorem dX11_lake_48 : decode cX11_lake 48 = .ok (.aload_n 0, 1) := by decide +kernel
theorem dX11_lake_49 : decode cX11_lake 49 = .ok (.iload_n 2, 1) := by decide +kernel
theorem dX11_lake_50 : decode cX11_lake 50 = .ok (.invokevirtual 133, 3) := by decide +kernel
theorem dX11_lake_53 : decode cX11_lake 53 = .ok (.ifCond .ne 10, 3) := by decide +kernel
theorem dX11_lake_56 : decode cX11_lake 56 = .ok (.aload_n 0, 1) := by decide +kernel
theorem dX11_lake_57 : decode cX11_lake 57 = .ok (.bipush (-2), 2) := by decide +kernel
theorem dX11_lake_59 : decode cX11_lake 59 = .ok (.invokevirtual 93, 3) := by decide +kernel
theorem dX11_lake_62 : decode cX11_lake 62 = .ok (.ireturn, 1) := by decide +kernel
theorem dX11_lake_63 : decode cX11_lake 63 = .ok (.aload_n 0, 1) := by decide +kernel
theorem dX11_lake_64 : decode cX11_lake 64 = .ok (.getfield 62, 3) := by decide +kernel
theorem dX11_lake_67 : decode cX11_lake 67 = .ok (.iconst 5, 1) := by decide +kernel
theorem dX11_lake_68 : decode cX11_lake 68 = .ok (.iload_n 1, 1) := by decide +kernel
theorem dX11_lake_69 : decode cX11_lake 69 = .ok (.iadd, 1) := by decide +kernel
theorem dX11_lake_70 : decode cX11_lake 70 = .ok (.iaload, 1) := by decide +kernel
theorem dX11_lake_71 : decode cX11_lake 71 = .ok (.istore_n 3, 1) := by decide +kernel
theorem dX11_lake_72 : decode cX11_lake 72 = .ok (.aload_n 0, 1) := by decide +kernel
theorem dX11_lake_73 : decode cX11_lake 73 = .ok (.getfield 62, 3) := by decide +kernel
theorem dX11_lake_76 : decode cX11_lake 76 = .ok (.iconst 5, 1) := by decide +kernel
theorem dX11_lake_77 : decode cX11_lake 77 = .ok (.iload_n 1, 1) := by decide +kernel
theorem dX11_lake_78 : decode cX11_lake 78 = .ok (.iadd, 1) := by decide +kernel
theorem dX11_lake_79 : decode cX11_lake 79 = .ok (.iload_n 2, 1) := by decide +kernel
theorem dX11_lake_80 : decode cX11_lake 80 = .ok (.iastore, 1) := by decide +kernel
theorem dX11_lake_81 : decode cX11_lake 81 = .ok (.iload_n 3, 1) := by decide +kernel
theorem dX11_lake_82 : decode cX11_lake 82 = .ok (.iload_n 2, 1) := by decide +kernel
theorem dX11_lake_83 : decode cX11_lake 83 = .ok (.if_icmp .eq 7, 3) := by decide +kernel
theorem dX11_lake_86 : decode cX11_lake 86 = .ok (.iconst 1, 1) := by decide +kernel
theorem dX11_lake_87 : decode cX11_lake 87 = .ok (.goto 4, 3) := by decide +kernel
theorem dX11_lake_90 : decode cX11_lake 90 = .ok (.iconst 0, 1) := by decide +kernel
theorem dX11_lake_91 : decode cX11_lake 91 = .ok (.ireturn, 1) := by decide +kernel
theorem dX11_wind_0 : decode cX11_wind 0 = .ok (.aload_n 0, 1) := by decide +kernel
theorem dX11_wind_1 : decode cX11_wind 1 = .ok (.iload_n 1, 1) := by decide +kernel
theorem dX11_wind_2 : decode cX11_wind 2 = .ok (.invokevirtual 145, 3) := by decide +kernel
theorem dX11_wind_5 : decode cX11_wind 5 = .ok (.ifCond .eq 13, 3) := by decide +kernel
theorem dX11_wind_8 : decode cX11_wind 8 = .ok (.iload_n 2, 1) := by decide +kernel
theorem dX11_wind_9 : decode cX11_wind 9 = .ok (.ifCond .lt 9, 3) := by decide +kernel
theorem dX11_wind_12 : decode cX11_wind 12 = .ok (.iload_n 2, 1) := by decide +kernel
theorem dX11_wind_13 : decode cX11_wind 13 = .ok (.bipush 9, 2) := by decide +kernel
theorem dX11_wind_15 : decode cX11_wind 15 = .ok (.if_icmp .le 10, 3) := by decide +kernel
theorem dX11_wind_18 : decode cX11_wind 18 = .ok (.aload_n 0, 1) := by decide +kernel
theorem dX11_wind_19 : decode cX11_wind 19 = .ok (.bipush (-2), 2) := by decide +kernel
theorem dX11_wind_21 : decode cX11_wind 21 = .ok (.invokevirtual 93, 3) := by decide +kernel
theorem dX11_wind_24 : decode cX11_wind 24 = .ok (.ireturn, 1) := by decide +kernel
theorem dX11_wind_25 : decode cX11_wind 25 = .ok (.aload_n 0, 1) := by decide +kernel
theorem dX11_wind_26 : decode cX11_wind 26 = .ok (.getfield 59, 3) := by decide +kernel
theorem dX11_wind_29 : decode cX11_wind 29 = .ok (.iload_n 1, 1) := by decide +kernel
theorem dX11_wind_30 : decode cX11_wind 30 = .ok (.iaload, 1) := by decide +kernel
theorem dX11_wind_31 : decode cX11_wind 31 = .ok (.istore_n 3, 1) := by decide +kernel
theorem dX11_wind_32 : decode cX11_wind 32 = .ok (.aload_n 0, 1) := by decide +kernel
theorem dX11_wind_33 : decode cX11_wind 33 = .ok (.getfield 59, 3) := by decide +kernel
theorem dX11_wind_36 : decode cX11_wind 36 = .ok (.iload_n 1, 1) := by decide +kernel
theorem dX11_wind_37 : decode cX11_wind 37 = .ok (.iload_n 2, 1) := by decide +kernel
theorem dX11_wind_38 : decode cX11_wind 38 = .ok (.iastore, 1) := by decide +kernel
theorem dX11_wind_39 : decode cX11_wind 39 = .ok (.iload_n 3, 1) := by decide +kernel
theorem dX11_wind_40 : decode cX11_wind 40 = .ok (.ireturn, 1) := by decide +kernel
theorem dX11_winds_0 : decode cX11_winds 0 = .ok (.aload_n 0, 1) := by decide +kernel
theorem dX11_winds_1 : decode cX11_winds 1 = .ok (.iload_n 1, 1) := by decide +kernel
theorem dX11_winds_2 : decode cX11_winds 2 = .ok (.invokevirtual 100, 3) := by decide +kernel
theorem dX11_winds_5 : decode cX11_winds 5 = .ok (.istore_n 2, 1) := by decide +kernel
theorem dX11_winds_6 : decode cX11_winds 6 = .ok (.iload_n 2, 1) := by decide +kernel
theorem dX11_winds_7 : decode cX11_winds 7 = .ok (.ifCond .ge 9, 3) := by decide +kernel
theorem dX11_winds_10 : decode cX11_winds 10 = .ok (.aload_n 0, 1) := by decide +kernel
theorem dX11_winds_11 : decode cX11_winds 11 = .ok (.iload_n 2, 1) := by decide +kernel
theorem dX11_winds_12 : decode cX11_winds 12 = .ok (.invokevirtual 93, 3) := by decide +kernel
theorem dX11_winds_15 : decode cX11_winds 15 = .ok (.ireturn, 1) := by decide +kernel
theorem dX11_winds_16 : decode cX11_winds 16 = .ok (.iconst 0, 1) := by decide +kernel
theorem dX11_winds_17 : decode cX11_winds 17 = .ok (.istore_n 3, 1) := by decide +kernel
theorem dX11_winds_18 : decode cX11_winds 18 = .ok (.iload_n 3, 1) := by decide +kernel
theorem dX11_winds_19 : decode cX11_winds 19 = .ok (.bipush 12, 2) := by decide +kernel
theorem dX11_winds_21 : decode cX11_winds 21 = .ok (.if_icmp .ge 60, 3) := by decide +kernel
theorem dX11_winds_24 : decode cX11_winds 24 = .ok (.iload_n 3, 1) := by decide +kernel
theorem dX11_winds_25 : decode cX11_winds 25 = .ok (.aload_n 0, 1) := by decide +kernel
theorem dX11_winds_26 : decode cX11_winds 26 = .ok (.getfield 13, 3) := by decide +kernel
theorem dX11_winds_29 : decode cX11_winds 29 = .ok (.iload_n 1, 1) := by decide +kernel
theorem dX11_winds_30 : decode cX11_winds 30 = .ok (.iaload, 1) := by decide +kernel
theorem dX11_winds_31 : decode cX11_winds 31 = .ok (.if_icmp .ge 50, 3) := by decide +kernel
theorem dX11_winds_34 : decode cX11_winds 34 = .ok (.aload_n 0, 1) := by decide +kernel
theorem dX11_winds_35 : decode cX11_winds 35 = .ok (.getfield 16, 3) := by decide +kernel
theorem dX11_winds_38 : decode cX11_winds 38 = .ok (.bipush 40, 2) := by decide +kernel
theorem dX11_winds_40 : decode cX11_winds 40 = .ok (.iload_n 1, 1) := by decide +kernel
theorem dX11_winds_41 : decode cX11_winds 41 = .ok (.imul, 1) := by decide +kernel
theorem dX11_winds_42 : decode cX11_winds 42 = .ok (.iload_n 3, 1) := by decide +kernel
theorem dX11_winds_43 : decode cX11_winds 43 = .ok (.iadd, 1) := by decide +kernel
theorem dX11_winds_44 : decode cX11_winds 44 = .ok (.laload, 1) := by decide +kernel
theorem dX11_winds_45 : decode cX11_winds 45 = .ok (.lstore 4, 2) := by decide +kernel
theorem dX11_winds_47 : decode cX11_winds 47 = .ok (.lload 4, 2) := by decide +kernel
theorem dX11_winds_49 : decode cX11_winds 49 = .ok (.lconst 0, 1) := by decide +kernel
theorem dX11_winds_50 : decode cX11_winds 50 = .ok (.lcmp, 1) := by decide +kernel
theorem dX11_winds_51 : decode cX11_winds 51 = .ok (.ifCond .lt 30, 3) := by decide +kernel
theorem dX11_winds_54 : decode cX11_winds 54 = .ok (.lload 4, 2) := by decide +kernel
theorem dX11_winds_56 : decode cX11_winds 56 = .ok (.ldc2_w 148, 3) := by decide +kernel
theorem dX11_winds_59 : decode cX11_winds 59 = .ok (.lcmp, 1) := by decide +kernel
theorem dX11_winds_60 : decode cX11_winds 60 = .ok (.ifCond .le 6, 3) := by decide +kernel
theorem dX11_winds_63 : decode cX11_winds 63 = .ok (.goto 18, 3) := by decide +kernel
theorem dX11_winds_66 : decode cX11_winds 66 = .ok (.aload_n 0, 1) := by decide +kernel
theorem dX11_winds_67 : decode cX11_winds 67 = .ok (.getfield 59, 3) := by decide +kernel
theorem dX11_winds_70 : decode cX11_winds 70 = .ok (.iload_n 3, 1) := by decide +kernel
theorem dX11_winds_71 : decode cX11_winds 71 = .ok (.iinc 3 1, 3) := by decide +kernel
theorem dX11_winds_74 : decode cX11_winds 74 = .ok (.lload 4, 2) := by decide +kernel
theorem dX11_winds_76 : decode cX11_winds 76 = .ok (.l2i, 1) := by decide +kernel
theorem dX11_winds_77 : decode cX11_winds 77 = .ok (.iastore, 1) := by decide +kernel
theorem dX11_winds_78 : decode cX11_winds 78 = .ok (.goto (-60), 3) := by decide +kernel
theorem dX11_winds_81 : decode cX11_winds 81 = .ok (.iload_n 3, 1) := by decide +kernel
theorem dX11_winds_82 : decode cX11_winds 82 = .ok (.ireturn, 1) := by decide +kernel
theorem dX11_feed_0 : decode cX11_feed 0 = .ok (.iload_n 2, 1) := by decide +kernel
theorem dX11_feed_1 : decode cX11_feed 1 = .ok (.iconst 1, 1) := by decide +kernel
theorem dX11_feed_2 : decode cX11_feed 2 = .ok (.if_icmp .lt 8, 3) := by decide +kernel
theorem dX11_feed_5 : decode cX11_feed 5 = .ok (.iload_n 2, 1) := by decide +kernel
theorem dX11_feed_6 : decode cX11_feed 6 = .ok (.iconst 4, 1) := by decide +kernel
theorem dX11_feed_7 : decode cX11_feed 7 = .ok (.if_icmp .le 10, 3) := by decide +kernel
theorem dX11_feed_10 : decode cX11_feed 10 = .ok (.aload_n 0, 1) := by decide +kernel
theorem dX11_feed_11 : decode cX11_feed 11 = .ok (.bipush (-2), 2) := by decide +kernel
theorem dX11_feed_13 : decode cX11_feed 13 = .ok (.invokevirtual 93, 3) := by decide +kernel
theorem dX11_feed_16 : decode cX11_feed 16 = .ok (.ireturn, 1) := by decide +kernel
theorem dX11_feed_17 : decode cX11_feed 17 = .ok (.aload_n 0, 1) := by decide +kernel
theorem dX11_feed_18 : decode cX11_feed 18 = .ok (.getfield 150, 3) := by decide +kernel
theorem dX11_feed_21 : decode cX11_feed 21 = .ok (.iload_n 2, 1) := by decide +kernel
theorem dX11_feed_22 : decode cX11_feed 22 = .ok (.iadd, 1) := by decide +kernel
theorem dX11_feed_23 : decode cX11_feed 23 = .ok (.sipush 160, 3) := by decide +kernel
theorem dX11_feed_26 : decode cX11_feed 26 = .ok (.if_icmp .le 10, 3) := by decide +kernel
theorem dX11_feed_29 : decode cX11_feed 29 = .ok (.aload_n 0, 1) := by decide +kernel
theorem dX11_feed_30 : decode cX11_feed 30 = .ok (.bipush (-6), 2) := by decide +kernel
theorem dX11_feed_32 : decode cX11_feed 32 = .ok (.invokevirtual 93, 3) := by decide +kernel
theorem dX11_feed_35 : decode cX11_feed 35 = .ok (.ireturn, 1) := by decide +kernel
theorem dX11_feed_36 : decode cX11_feed 36 = .ok (.iload_n 2, 1) := by decide +kernel
theorem dX11_feed_37 : decode cX11_feed 37 = .ok (.iconst 1, 1) := by decide +kernel
theorem dX11_feed_38 : decode cX11_feed 38 = .ok (.isub, 1) := by decide +kernel
theorem dX11_feed_39 : decode cX11_feed 39 = .ok (.istore_n 3, 1) := by decide +kernel
theorem dX11_feed_40 : decode cX11_feed 40 = .ok (.iload_n 3, 1) := by decide +kernel
theorem dX11_feed_41 : decode cX11_feed 41 = .ok (.ifCond .lt 35, 3) := by decide +kernel
theorem dX11_feed_44 : decode cX11_feed 44 = .ok (.aload_n 0, 1) := by decide +kernel
theorem dX11_feed_45 : decode cX11_feed 45 = .ok (.getfield 35, 3) := by decide +kernel
theorem dX11_feed_48 : decode cX11_feed 48 = .ok (.aload_n 0, 1) := by decide +kernel
theorem dX11_feed_49 : decode cX11_feed 49 = .ok (.dup, 1) := by decide +kernel
theorem dX11_feed_50 : decode cX11_feed 50 = .ok (.getfield 150, 3) := by decide +kernel
theorem dX11_feed_53 : decode cX11_feed 53 = .ok (.dup_x1, 1) := by decide +kernel
theorem dX11_feed_54 : decode cX11_feed 54 = .ok (.iconst 1, 1) := by decide +kernel
theorem dX11_feed_55 : decode cX11_feed 55 = .ok (.iadd, 1) := by decide +kernel
theorem dX11_feed_56 : decode cX11_feed 56 = .ok (.putfield 150, 3) := by decide +kernel
theorem dX11_feed_59 : decode cX11_feed 59 = .ok (.iload_n 1, 1) := by decide +kernel
theorem dX11_feed_60 : decode cX11_feed 60 = .ok (.bipush 8, 2) := by decide +kernel
theorem dX11_feed_62 : decode cX11_feed 62 = .ok (.iload_n 3, 1) := by decide +kernel
theorem dX11_feed_63 : decode cX11_feed 63 = .ok (.imul, 1) := by decide +kernel
theorem dX11_feed_64 : decode cX11_feed 64 = .ok (.ishr, 1) := by decide +kernel
theorem dX11_feed_65 : decode cX11_feed 65 = .ok (.sipush 255, 3) := by decide +kernel
theorem dX11_feed_68 : decode cX11_feed 68 = .ok (.iand, 1) := by decide +kernel
theorem dX11_feed_69 : decode cX11_feed 69 = .ok (.iastore, 1) := by decide +kernel
theorem dX11_feed_70 : decode cX11_feed 70 = .ok (.iinc 3 (-1), 3) := by decide +kernel
theorem dX11_feed_73 : decode cX11_feed 73 = .ok (.goto (-33), 3) := by decide +kernel
theorem dX11_feed_76 : decode cX11_feed 76 = .ok (.aload_n 0, 1) := by decide +kernel
theorem dX11_feed_77 : decode cX11_feed 77 = .ok (.getfield 150, 3) := by decide +kernel
theorem dX11_feed_80 : decode cX11_feed 80 = .ok (.ireturn, 1) := by decide +kernel
theorem dX11_wipe_0 : decode cX11_wipe 0 = .ok (.aload_n 0, 1) := by decide +kernel
theorem dX11_wipe_1 : decode cX11_wipe 1 = .ok (.getfield 150, 3) := by decide +kernel
theorem dX11_wipe_4 : decode cX11_wipe 4 = .ok (.istore_n 1, 1) := by decide +kernel
theorem dX11_wipe_5 : decode cX11_wipe 5 = .ok (.aload_n 0, 1) := by decide +kernel
theorem dX11_wipe_6 : decode cX11_wipe 6 = .ok (.iconst 0, 1) := by decide +kernel
theorem dX11_wipe_7 : decode cX11_wipe 7 = .ok (.putfield 150, 3) := by decide +kernel
theorem dX11_wipe_10 : decode cX11_wipe 10 = .ok (.iload_n 1, 1) := by decide +kernel
theorem dX11_wipe_11 : decode cX11_wipe 11 = .ok (.ireturn, 1) := by decide +kernel
theorem dX11_is_0 : decode cX11_is 0 = .ok (.iload_n 2, 1) := by decide +kernel
theorem dX11_is_1 : decode cX11_is 1 = .ok (.iload_n 1, 1) := by decide +kernel
theorem dX11_is_2 : decode cX11_is 2 = .ok (.isub, 1) := by decide +kernel
theorem dX11_is_3 : decode cX11_is 3 = .ok (.aload_n 3, 1) := by decide +kernel
theorem dX11_is_4 : decode cX11_is 4 = .ok (.invokevirtual 154, 3) := by decide +kernel
theorem dX11_is_7 : decode cX11_is 7 = .ok (.if_icmp .eq 5, 3) := by decide +kernel
theorem dX11_is_10 : decode cX11_is 10 = .ok (.iconst 0, 1) := by decide +kernel
theorem dX11_is_11 : decode cX11_is 11 = .ok (.ireturn, 1) := by decide +kernel
theorem dX11_is_12 : decode cX11_is 12 = .ok (.iconst 0, 1) := by decide +kernel
theorem dX11_is_13 : decode cX11_is 13 = .ok (.istore 4, 2) := by decide +kernel
theorem dX11_is_15 : decode cX11_is 15 = .ok (.iload 4, 2) := by decide +kernel
theorem dX11_is_17 : decode cX11_is 17 = .ok (.aload_n 3, 1) := by decide +kernel
theorem dX11_is_18 : decode cX11_is 18 = .ok (.invokevirtual 154, 3) := by decide +kernel
theorem dX11_is_21 : decode cX11_is 21 = .ok (.if_icmp .ge 29, 3) := by decide +kernel
theorem dX11_is_24 : decode cX11_is 24 = .ok (.aload_n 0, 1) := by decide +kernel
theorem dX11_is_25 : decode cX11_is 25 = .ok (.getfield 35, 3) := by decide +kernel
theorem dX11_is_28 : decode cX11_is 28 = .ok (.iload_n 1, 1) := by decide +kernel
theorem dX11_is_29 : decode cX11_is 29 = .ok (.iload 4, 2) := by decide +kernel
theorem dX11_is_31 : decode cX11_is 31 = .ok (.iadd, 1) := by decide +kernel
theorem dX11_is_32 : decode cX11_is 32 = .ok (.iaload, 1) := by decide +kernel
theorem dX11_is_33 : decode cX11_is 33 = .ok (.aload_n 3, 1) := by decide +kernel
theorem dX11_is_34 : decode cX11_is 34 = .ok (.iload 4, 2) := by decide +kernel
theorem dX11_is_36 : decode cX11_is 36 = .ok (.invokevirtual 159, 3) := by decide +kernel
theorem dX11_is_39 : decode cX11_is 39 = .ok (.if_icmp .eq 5, 3) := by decide +kernel
theorem dX11_is_42 : decode cX11_is 42 = .ok (.iconst 0, 1) := by decide +kernel
theorem dX11_is_43 : decode cX11_is 43 = .ok (.ireturn, 1) := by decide +kernel
theorem dX11_is_44 : decode cX11_is 44 = .ok (.iinc 4 1, 3) := by decide +kernel
theorem dX11_is_47 : decode cX11_is 47 = .ok (.goto (-32), 3) := by decide +kernel
theorem dX11_is_50 : decode cX11_is 50 = .ok (.iconst 1, 1) := by decide +kernel
theorem dX11_is_51 : decode cX11_is 51 = .ok (.ireturn, 1) := by decide +kernel
theorem dX11_wordAt_0 : decode cX11_wordAt 0 = .ok (.aload_n 0, 1) := by decide +kernel
theorem dX11_wordAt_1 : decode cX11_wordAt 1 = .ok (.iload_n 1, 1) := by decide +kernel
theorem dX11_wordAt_2 : decode cX11_wordAt 2 = .ok (.iload_n 2, 1) := by decide +kernel
theorem dX11_wordAt_3 : decode cX11_wordAt 3 = .ok (.ldc 163, 2) := by decide +kernel
theorem dX11_wordAt_5 : decode cX11_wordAt 5 = .ok (.invokevirtual 165, 3) := by decide +kernel
theorem dX11_wordAt_8 : decode cX11_wordAt 8 = .ok (.ifCond .eq 5, 3) := by decide +kernel
theorem dX11_wordAt_11 : decode cX11_wordAt 11 = .ok (.iconst 0, 1) := by decide +kernel
theorem dX11_wordAt_12 : decode cX11_wordAt 12 = .ok (.ireturn, 1) := by decide +kernel
theorem dX11_wordAt_13 : decode cX11_wordAt 13 = .ok (.aload_n 0, 1) := by decide +kernel
theorem dX11_wordAt_14 : decode cX11_wordAt 14 = .ok (.iload_n 1, 1) := by decide +kernel
theorem dX11_wordAt_15 : decode cX11_wordAt 15 = .ok (.iload_n 2, 1) := by decide +kernel
theorem dX11_wordAt_16 : decode cX11_wordAt 16 = .ok (.ldc 169, 2) := by decide +kernel
theorem dX11_wordAt_18 : decode cX11_wordAt 18 = .ok (.invokevirtual 165, 3) := by decide +kernel
theorem dX11_wordAt_21 : decode cX11_wordAt 21 = .ok (.ifCond .eq 5, 3) := by decide +kernel
theorem dX11_wordAt_24 : decode cX11_wordAt 24 = .ok (.iconst 1, 1) := by decide +kernel
theorem dX11_wordAt_25 : decode cX11_wordAt 25 = .ok (.ireturn, 1) := by decide +kernel
theorem dX11_wordAt_26 : decode cX11_wordAt 26 = .ok (.aload_n 0, 1) := by decide +kernel
theorem dX11_wordAt_27 : decode cX11_wordAt 27 = .ok (.iload_n 1, 1) := by decide +kernel
theorem dX11_wordAt_28 : decode cX11_wordAt 28 = .ok (.iload_n 2, 1) := by decide +kernel
theorem dX11_wordAt_29 : decode cX11_wordAt 29 = .ok (.ldc 171, 2) := by decide +kernel
theorem dX11_wordAt_31 : decode cX11_wordAt 31 = .ok (.invokevirtual 165, 3) := by decide +kernel
theorem dX11_wordAt_34 : decode cX11_wordAt 34 = .ok (.ifCond .eq 5, 3) := by decide +kernel
theorem dX11_wordAt_37 : decode cX11_wordAt 37 = .ok (.iconst 2, 1) := by decide +kernel
theorem dX11_wordAt_38 : decode cX11_wordAt 38 = .ok (.ireturn, 1) := by decide +kernel
theorem dX11_wordAt_39 : decode cX11_wordAt 39 = .ok (.aload_n 0, 1) := by decide +kernel
theorem dX11_wordAt_40 : decode cX11_wordAt 40 = .ok (.iload_n 1, 1) := by decide +kernel
theorem dX11_wordAt_41 : decode cX11_wordAt 41 = .ok (.iload_n 2, 1) := by decide +kernel
theorem dX11_wordAt_42 : decode cX11_wordAt 42 = .ok (.ldc 173, 2) := by decide +kernel
theorem dX11_wordAt_44 : decode cX11_wordAt 44 = .ok (.invokevirtual 165, 3) := by decide +kernel
theorem dX11_wordAt_47 : decode cX11_wordAt 47 = .ok (.ifCond .eq 5, 3) := by decide +kernel
theorem dX11_wordAt_50 : decode cX11_wordAt 50 = .ok (.iconst 3, 1) := by decide +kernel
theorem dX11_wordAt_51 : decode cX11_wordAt 51 = .ok (.ireturn, 1) := by decide +kernel
theorem dX11_wordAt_52 : decode cX11_wordAt 52 = .ok (.aload_n 0, 1) := by decide +kernel
theorem dX11_wordAt_53 : decode cX11_wordAt 53 = .ok (.iload_n 1, 1) := by decide +kernel
theorem dX11_wordAt_54 : decode cX11_wordAt 54 = .ok (.iload_n 2, 1) := by decide +kernel
theorem dX11_wordAt_55 : decode cX11_wordAt 55 = .ok (.ldc 175, 2) := by decide +kernel
theorem dX11_wordAt_57 : decode cX11_wordAt 57 = .ok (.invokevirtual 165, 3) := by decide +kernel
theorem dX11_wordAt_60 : decode cX11_wordAt 60 = .ok (.ifCond .eq 5, 3) := by decide +kernel
theorem dX11_wordAt_63 : decode cX11_wordAt 63 = .ok (.iconst 4, 1) := by decide +kernel
theorem dX11_wordAt_64 : decode cX11_wordAt 64 = .ok (.ireturn, 1) := by decide +kernel
theorem dX11_wordAt_65 : decode cX11_wordAt 65 = .ok (.aload_n 0, 1) := by decide +kernel
theorem dX11_wordAt_66 : decode cX11_wordAt 66 = .ok (.iload_n 1, 1) := by decide +kernel
theorem dX11_wordAt_67 : decode cX11_wordAt 67 = .ok (.iload_n 2, 1) := by decide +kernel
theorem dX11_wordAt_68 : decode cX11_wordAt 68 = .ok (.ldc 177, 2) := by decide +kernel
theorem dX11_wordAt_70 : decode cX11_wordAt 70 = .ok (.invokevirtual 165, 3) := by decide +kernel
theorem dX11_wordAt_73 : decode cX11_wordAt 73 = .ok (.ifCond .eq 5, 3) := by decide +kernel
theorem dX11_wordAt_76 : decode cX11_wordAt 76 = .ok (.iconst 5, 1) := by decide +kernel
theorem dX11_wordAt_77 : decode cX11_wordAt 77 = .ok (.ireturn, 1) := by decide +kernel
theorem dX11_wordAt_78 : decode cX11_wordAt 78 = .ok (.aload_n 0, 1) := by decide +kernel
theorem dX11_wordAt_79 : decode cX11_wordAt 79 = .ok (.iload_n 1, 1) := by decide +kernel
theorem dX11_wordAt_80 : decode cX11_wordAt 80 = .ok (.iload_n 2, 1) := by decide +kernel
theorem dX11_wordAt_81 : decode cX11_wordAt 81 = .ok (.ldc 179, 2) := by decide +kernel
theorem dX11_wordAt_83 : decode cX11_wordAt 83 = .ok (.invokevirtual 165, 3) := by decide +kernel
theorem dX11_wordAt_86 : decode cX11_wordAt 86 = .ok (.ifCond .eq 6, 3) := by decide +kernel
theorem dX11_wordAt_89 : decode cX11_wordAt 89 = .ok (.bipush 6, 2) := by decide +kernel
theorem dX11_wordAt_91 : decode cX11_wordAt 91 = .ok (.ireturn, 1) := by decide +kernel
theorem dX11_wordAt_92 : decode cX11_wordAt 92 = .ok (.aload_n 0, 1) := by decide +kernel
theorem dX11_wordAt_93 : decode cX11_wordAt 93 = .ok (.iload_n 1, 1) := by decide +kernel
theorem dX11_wordAt_94 : decode cX11_wordAt 94 = .ok (.iload_n 2, 1) := by decide +kernel
theorem dX11_wordAt_95 : decode cX11_wordAt 95 = .ok (.ldc 181, 2) := by decide +kernel
theorem dX11_wordAt_97 : decode cX11_wordAt 97 = .ok (.invokevirtual 165, 3) := by decide +kernel
theorem dX11_wordAt_100 : decode cX11_wordAt 100 = .ok (.ifCond .eq 6, 3) := by decide +kernel
theorem dX11_wordAt_103 : decode cX11_wordAt 103 = .ok (.bipush 7, 2) := by decide +kernel
theorem dX11_wordAt_105 : decode cX11_wordAt 105 = .ok (.ireturn, 1) := by decide +kernel
theorem dX11_wordAt_106 : decode cX11_wordAt 106 = .ok (.aload_n 0, 1) := by decide +kernel
theorem dX11_wordAt_107 : decode cX11_wordAt 107 = .ok (.iload_n 1, 1) := by decide +kernel
theorem dX11_wordAt_108 : decode cX11_wordAt 108 = .ok (.iload_n 2, 1) := by decide +kernel
theorem dX11_wordAt_109 : decode cX11_wordAt 109 = .ok (.ldc 183, 2) := by decide +kernel
theorem dX11_wordAt_111 : decode cX11_wordAt 111 = .ok (.invokevirtual 165, 3) := by decide +kernel
theorem dX11_wordAt_114 : decode cX11_wordAt 114 = .ok (.ifCond .eq 8, 3) := by decide +kernel
theorem dX11_wordAt_117 : decode cX11_wordAt 117 = .ok (.bipush 8, 2) := by decide +kernel
theorem dX11_wordAt_119 : decode cX11_wordAt 119 = .ok (.goto 4, 3) := by decide +kernel
theorem dX11_wordAt_122 : decode cX11_wordAt 122 = .ok (.iconst (-1), 1) := by decide +kernel
theorem dX11_wordAt_123 : decode cX11_wordAt 123 = .ok (.ireturn, 1) := by decide +kernel
theorem dX11_mayBe_0 : decode cX11_mayBe 0 = .ok (.iload_n 1, 1) := by decide +kernel
theorem dX11_mayBe_1 : decode cX11_mayBe 1 = .ok (.ifCond .ne 14, 3) := by decide +kernel
theorem dX11_mayBe_4 : decode cX11_mayBe 4 = .ok (.iload_n 2, 1) := by decide +kernel
theorem dX11_mayBe_5 : decode cX11_mayBe 5 = .ok (.iconst 1, 1) := by decide +kernel
theorem dX11_mayBe_6 : decode cX11_mayBe 6 = .ok (.if_icmp .lt 7, 3) := by decide +kernel
theorem dX11_mayBe_9 : decode cX11_mayBe 9 = .ok (.iconst 1, 1) := by decide +kernel
theorem dX11_mayBe_10 : decode cX11_mayBe 10 = .ok (.goto 4, 3) := by decide +kernel
theorem dX11_mayBe_13 : decode cX11_mayBe 13 = .ok (.iconst 0, 1) := by decide +kernel
theorem dX11_mayBe_14 : decode cX11_mayBe 14 = .ok (.ireturn, 1) := by decide +kernel
theorem dX11_mayBe_15 : decode cX11_mayBe 15 = .ok (.iload_n 1, 1) := by decide +kernel
theorem dX11_mayBe_16 : decode cX11_mayBe 16 = .ok (.iconst 1, 1) := by decide +kernel
theorem dX11_mayBe_17 : decode cX11_mayBe 17 = .ok (.if_icmp .eq 14, 3) := by decide +kernel
theorem dX11_mayBe_20 : decode cX11_mayBe 20 = .ok (.iload_n 1, 1) := by decide +kernel
theorem dX11_mayBe_21 : decode cX11_mayBe 21 = .ok (.iconst 2, 1) := by decide +kernel
theorem dX11_mayBe_22 : decode cX11_mayBe 22 = .ok (.if_icmp .eq 9, 3) := by decide +kernel
theorem dX11_mayBe_25 : decode cX11_mayBe 25 = .ok (.iload_n 1, 1) := by decide +kernel
theorem dX11_mayBe_26 : decode cX11_mayBe 26 = .ok (.bipush 8, 2) := by decide +kernel
theorem dX11_mayBe_28 : decode cX11_mayBe 28 = .ok (.if_icmp .ne 20, 3) := by decide +kernel
theorem dX11_mayBe_31 : decode cX11_mayBe 31 = .ok (.iload_n 2, 1) := by decide +kernel
theorem dX11_mayBe_32 : decode cX11_mayBe 32 = .ok (.iconst 1, 1) := by decide +kernel
theorem dX11_mayBe_33 : decode cX11_mayBe 33 = .ok (.if_icmp .lt 13, 3) := by decide +kernel
theorem dX11_mayBe_36 : decode cX11_mayBe 36 = .ok (.iload_n 2, 1) := by decide +kernel
theorem dX11_mayBe_37 : decode cX11_mayBe 37 = .ok (.bipush 9, 2) := by decide +kernel
theorem dX11_mayBe_39 : decode cX11_mayBe 39 = .ok (.if_icmp .gt 7, 3) := by decide +kernel
theorem dX11_mayBe_42 : decode cX11_mayBe 42 = .ok (.iconst 1, 1) := by decide +kernel
theorem dX11_mayBe_43 : decode cX11_mayBe 43 = .ok (.goto 4, 3) := by decide +kernel
theorem dX11_mayBe_46 : decode cX11_mayBe 46 = .ok (.iconst 0, 1) := by decide +kernel
theorem dX11_mayBe_47 : decode cX11_mayBe 47 = .ok (.ireturn, 1) := by decide +kernel
theorem dX11_mayBe_48 : decode cX11_mayBe 48 = .ok (.iload_n 1, 1) := by decide +kernel
theorem dX11_mayBe_49 : decode cX11_mayBe 49 = .ok (.iconst 4, 1) := by decide +kernel
theorem dX11_mayBe_50 : decode cX11_mayBe 50 = .ok (.if_icmp .eq 9, 3) := by decide +kernel
theorem dX11_mayBe_53 : decode cX11_mayBe 53 = .ok (.iload_n 1, 1) := by decide +kernel
theorem dX11_mayBe_54 : decode cX11_mayBe 54 = .ok (.bipush 7, 2) := by decide +kernel
theorem dX11_mayBe_56 : decode cX11_mayBe 56 = .ok (.if_icmp .ne 9, 3) := by decide +kernel
theorem dX11_mayBe_59 : decode cX11_mayBe 59 = .ok (.iload_n 2, 1) := by decide +kernel
theorem dX11_mayBe_60 : decode cX11_mayBe 60 = .ok (.bipush 9, 2) := by decide +kernel
theorem dX11_mayBe_62 : decode cX11_mayBe 62 = .ok (.if_icmp .gt 7, 3) := by decide +kernel
theorem dX11_mayBe_65 : decode cX11_mayBe 65 = .ok (.iconst 1, 1) := by decide +kernel
theorem dX11_mayBe_66 : decode cX11_mayBe 66 = .ok (.goto 4, 3) := by decide +kernel
theorem dX11_mayBe_69 : decode cX11_mayBe 69 = .ok (.iconst 0, 1) := by decide +kernel
theorem dX11_mayBe_70 : decode cX11_mayBe 70 = .ok (.ireturn, 1) := by decide +kernel
theorem dX11_read_0 : decode cX11_read 0 = .ok (.iconst 0, 1) := by decide +kernel
theorem dX11_read_1 : decode cX11_read 1 = .ok (.istore_n 2, 1) := by decide +kernel
theorem dX11_read_2 : decode cX11_read 2 = .ok (.iload_n 2, 1) := by decide +kernel
theorem dX11_read_3 : decode cX11_read 3 = .ok (.bipush 9, 2) := by decide +kernel
theorem dX11_read_5 : decode cX11_read 5 = .ok (.if_icmp .ge 22, 3) := by decide +kernel
theorem dX11_read_8 : decode cX11_read 8 = .ok (.aload_n 0, 1) := by decide +kernel
theorem dX11_read_9 : decode cX11_read 9 = .ok (.getfield 38, 3) := by decide +kernel
theorem dX11_read_12 : decode cX11_read 12 = .ok (.iload_n 1, 1) := by decide +kernel
theorem dX11_read_13 : decode cX11_read 13 = .ok (.iload_n 2, 1) := by decide +kernel
theorem dX11_read_14 : decode cX11_read 14 = .ok (.iadd, 1) := by decide +kernel
theorem dX11_read_15 : decode cX11_read 15 = .ok (.aload_n 0, 1) := by decide +kernel
theorem dX11_read_16 : decode cX11_read 16 = .ok (.iload_n 2, 1) := by decide +kernel
theorem dX11_read_17 : decode cX11_read 17 = .ok (.invokevirtual 124, 3) := by decide +kernel
theorem dX11_read_20 : decode cX11_read 20 = .ok (.iastore, 1) := by decide +kernel
theorem dX11_read_21 : decode cX11_read 21 = .ok (.iinc 2 1, 3) := by decide +kernel
theorem dX11_read_24 : decode cX11_read 24 = .ok (.goto (-22), 3) := by decide +kernel
theorem dX11_read_27 : decode cX11_read 27 = .ok (.iconst 0, 1) := by decide +kernel
theorem dX11_read_28 : decode cX11_read 28 = .ok (.istore_n 2, 1) := by decide +kernel
theorem dX11_read_29 : decode cX11_read 29 = .ok (.iconst 0, 1) := by decide +kernel
theorem dX11_read_30 : decode cX11_read 30 = .ok (.istore_n 3, 1) := by decide +kernel
theorem dX11_read_31 : decode cX11_read 31 = .ok (.iconst 0, 1) := by decide +kernel
theorem dX11_read_32 : decode cX11_read 32 = .ok (.istore 4, 2) := by decide +kernel
theorem dX11_read_34 : decode cX11_read 34 = .ok (.iload_n 2, 1) := by decide +kernel
theorem dX11_read_35 : decode cX11_read 35 = .ok (.aload_n 0, 1) := by decide +kernel
theorem dX11_read_36 : decode cX11_read 36 = .ok (.getfield 150, 3) := by decide +kernel
theorem dX11_read_39 : decode cX11_read 39 = .ok (.if_icmp .ge 20, 3) := by decide +kernel
theorem dX11_read_42 : decode cX11_read 42 = .ok (.aload_n 0, 1) := by decide +kernel
theorem dX11_read_43 : decode cX11_read 43 = .ok (.getfield 35, 3) := by decide +kernel
theorem dX11_read_46 : decode cX11_read 46 = .ok (.iload_n 2, 1) := by decide +kernel
theorem dX11_read_47 : decode cX11_read 47 = .ok (.iaload, 1) := by decide +kernel
theorem dX11_read_48 : decode cX11_read 48 = .ok (.bipush 32, 2) := by decide +kernel
theorem dX11_read_50 : decode cX11_read 50 = .ok (.if_icmp .ne 9, 3) := by decide +kernel
theorem dX11_read_53 : decode cX11_read 53 = .ok (.iinc 2 1, 3) := by decide +kernel
theorem dX11_read_56 : decode cX11_read 56 = .ok (.goto (-22), 3) := by decide +kernel
theorem dX11_read_59 : decode cX11_read 59 = .ok (.iload_n 2, 1) := by decide +kernel
theorem dX11_read_60 : decode cX11_read 60 = .ok (.aload_n 0, 1) := by decide +kernel
theorem dX11_read_61 : decode cX11_read 61 = .ok (.getfield 150, 3) := by decide +kernel
theorem dX11_read_64 : decode cX11_read 64 = .ok (.if_icmp .ne 17, 3) := by decide +kernel
theorem dX11_read_67 : decode cX11_read 67 = .ok (.iload_n 3, 1) := by decide +kernel
theorem dX11_read_68 : decode cX11_read 68 = .ok (.iconst 2, 1) := by decide +kernel
theorem dX11_read_69 : decode cX11_read 69 = .ok (.if_icmp .ne 7, 3) := by decide +kernel
theorem dX11_read_72 : decode cX11_read 72 = .ok (.iconst (-1), 1) := by decide +kernel
theorem dX11_read_73 : decode cX11_read 73 = .ok (.goto 7, 3) := by decide +kernel
theorem dX11_read_76 : decode cX11_read 76 = .ok (.aload_n 0, 1) := by decide +kernel
theorem dX11_read_77 : decode cX11_read 77 = .ok (.getfield 150, 3) := by decide +kernel
theorem dX11_read_80 : decode cX11_read 80 = .ok (.ireturn, 1) := by decide +kernel
theorem dX11_read_81 : decode cX11_read 81 = .ok (.iload_n 2, 1) := by decide +kernel
theorem dX11_read_82 : decode cX11_read 82 = .ok (.istore 5, 2) := by decide +kernel
theorem dX11_read_84 : decode cX11_read 84 = .ok (.iload_n 3, 1) := by decide +kernel
theorem dX11_read_85 : decode cX11_read 85 = .ok (.ifCond .ne 63, 3) := by decide +kernel
theorem dX11_read_88 : decode cX11_read 88 = .ok (.iload 5, 2) := by decide +kernel
theorem dX11_read_90 : decode cX11_read 90 = .ok (.aload_n 0, 1) := by decide +kernel
theorem dX11_read_91 : decode cX11_read 91 = .ok (.getfield 150, 3) := by decide +kernel
theorem dX11_read_94 : decode cX11_read 94 = .ok (.if_icmp .ge 33, 3) := by decide +kernel
theorem dX11_read_97 : decode cX11_read 97 = .ok (.aload_n 0, 1) := by decide +kernel
theorem dX11_read_98 : decode cX11_read 98 = .ok (.getfield 35, 3) := by decide +kernel
theorem dX11_read_101 : decode cX11_read 101 = .ok (.iload 5, 2) := by decide +kernel
theorem dX11_read_103 : decode cX11_read 103 = .ok (.iaload, 1) := by decide +kernel
theorem dX11_read_104 : decode cX11_read 104 = .ok (.bipush 97, 2) := by decide +kernel
theorem dX11_read_106 : decode cX11_read 106 = .ok (.if_icmp .lt 21, 3) := by decide +kernel
theorem dX11_read_109 : decode cX11_read 109 = .ok (.aload_n 0, 1) := by decide +kernel
theorem dX11_read_110 : decode cX11_read 110 = .ok (.getfield 35, 3) := by decide +kernel
theorem dX11_read_113 : decode cX11_read 113 = .ok (.iload 5, 2) := by decide +kernel
theorem dX11_read_115 : decode cX11_read 115 = .ok (.iaload, 1) := by decide +kernel
theorem dX11_read_116 : decode cX11_read 116 = .ok (.bipush 122, 2) := by decide +kernel
theorem dX11_read_118 : decode cX11_read 118 = .ok (.if_icmp .gt 9, 3) := by decide +kernel
theorem dX11_read_121 : decode cX11_read 121 = .ok (.iinc 5 1, 3) := by decide +kernel
theorem dX11_read_124 : decode cX11_read 124 = .ok (.goto (-36), 3) := by decide +kernel
theorem dX11_read_127 : decode cX11_read 127 = .ok (.aload_n 0, 1) := by decide +kernel
theorem dX11_read_128 : decode cX11_read 128 = .ok (.iload_n 2, 1) := by decide +kernel
theorem dX11_read_129 : decode cX11_read 129 = .ok (.iload 5, 2) := by decide +kernel
theorem dX11_read_131 : decode cX11_read 131 = .ok (.invokevirtual 185, 3) := by decide +kernel
theorem dX11_read_134 : decode cX11_read 134 = .ok (.istore 4, 2) := by decide +kernel
theorem dX11_read_136 : decode cX11_read 136 = .ok (.iload 4, 2) := by decide +kernel
theorem dX11_read_138 : decode cX11_read 138 = .ok (.ifCond .ge 5, 3) := by decide +kernel
theorem dX11_read_141 : decode cX11_read 141 = .ok (.iload_n 2, 1) := by decide +kernel
theorem dX11_read_142 : decode cX11_read 142 = .ok (.ireturn, 1) := by decide +kernel
theorem dX11_read_143 : decode cX11_read 143 = .ok (.iconst 1, 1) := by decide +kernel
theorem dX11_read_144 : decode cX11_read 144 = .ok (.istore_n 3, 1) := by decide +kernel
theorem dX11_read_145 : decode cX11_read 145 = .ok (.goto 139, 3) := by decide +kernel
theorem dX11_read_148 : decode cX11_read 148 = .ok (.iload_n 3, 1) := by decide +kernel
theorem dX11_read_149 : decode cX11_read 149 = .ok (.iconst 1, 1) := by decide +kernel
theorem dX11_read_150 : decode cX11_read 150 = .ok (.if_icmp .ne 114, 3) := by decide +kernel
theorem dX11_read_153 : decode cX11_read 153 = .ok (.iconst 0, 1) := by decide +kernel
theorem dX11_read_154 : decode cX11_read 154 = .ok (.istore 6, 2) := by decide +kernel
theorem dX11_read_156 : decode cX11_read 156 = .ok (.iload 5, 2) := by decide +kernel
theorem dX11_read_158 : decode cX11_read 158 = .ok (.aload_n 0, 1) := by decide +kernel
theorem dX11_read_159 : decode cX11_read 159 = .ok (.getfield 150, 3) := by decide +kernel
theorem dX11_read_162 : decode cX11_read 162 = .ok (.if_icmp .ge 59, 3) := by decide +kernel
theorem dX11_read_165 : decode cX11_read 165 = .ok (.aload_n 0, 1) := by decide +kernel
theorem dX11_read_166 : decode cX11_read 166 = .ok (.getfield 35, 3) := by decide +kernel
theorem dX11_read_169 : decode cX11_read 169 = .ok (.iload 5, 2) := by decide +kernel
theorem dX11_read_171 : decode cX11_read 171 = .ok (.iaload, 1) := by decide +kernel
theorem dX11_read_172 : decode cX11_read 172 = .ok (.bipush 48, 2) := by decide +kernel
theorem dX11_read_174 : decode cX11_read 174 = .ok (.if_icmp .lt 47, 3) := by decide +kernel
theorem dX11_read_177 : decode cX11_read 177 = .ok (.aload_n 0, 1) := by decide +kernel
theorem dX11_read_178 : decode cX11_read 178 = .ok (.getfield 35, 3) := by decide +kernel
theorem dX11_read_181 : decode cX11_read 181 = .ok (.iload 5, 2) := by decide +kernel
theorem dX11_read_183 : decode cX11_read 183 = .ok (.iaload, 1) := by decide +kernel
theorem dX11_read_184 : decode cX11_read 184 = .ok (.bipush 57, 2) := by decide +kernel
theorem dX11_read_186 : decode cX11_read 186 = .ok (.if_icmp .gt 35, 3) := by decide +kernel
theorem dX11_read_189 : decode cX11_read 189 = .ok (.iload 5, 2) := by decide +kernel
theorem dX11_read_191 : decode cX11_read 191 = .ok (.iload_n 2, 1) := by decide +kernel
theorem dX11_read_192 : decode cX11_read 192 = .ok (.isub, 1) := by decide +kernel
theorem dX11_read_193 : decode cX11_read 193 = .ok (.iconst 2, 1) := by decide +kernel
theorem dX11_read_194 : decode cX11_read 194 = .ok (.if_icmp .ge 21, 3) := by decide +kernel
theorem dX11_read_197 : decode cX11_read 197 = .ok (.bipush 10, 2) := by decide +kernel
theorem dX11_read_199 : decode cX11_read 199 = .ok (.iload 6, 2) := by decide +kernel
theorem dX11_read_201 : decode cX11_read 201 = .ok (.imul, 1) := by decide +kernel
theorem dX11_read_202 : decode cX11_read 202 = .ok (.aload_n 0, 1) := by decide +kernel
theorem dX11_read_203 : decode cX11_read 203 = .ok (.getfield 35, 3) := by decide +kernel
theorem dX11_read_206 : decode cX11_read 206 = .ok (.iload 5, 2) := by decide +kernel
theorem dX11_read_208 : decode cX11_read 208 = .ok (.iaload, 1) := by decide +kernel
theorem dX11_read_209 : decode cX11_read 209 = .ok (.iadd, 1) := by decide +kernel
theorem dX11_read_210 : decode cX11_read 210 = .ok (.bipush 48, 2) := by decide +kernel
theorem dX11_read_212 : decode cX11_read 212 = .ok (.isub, 1) := by decide +kernel
theorem dX11_read_213 : decode cX11_read 213 = .ok (.istore 6, 2) := by decide +kernel
theorem dX11_read_215 : decode cX11_read 215 = .ok (.iinc 5 1, 3) := by decide +kernel
theorem dX11_read_218 : decode cX11_read 218 = .ok (.goto (-62), 3) := by decide +kernel
theorem dX11_read_221 : decode cX11_read 221 = .ok (.iload 5, 2) := by decide +kernel
theorem dX11_read_223 : decode cX11_read 223 = .ok (.iload_n 2, 1) := by decide +kernel
theorem dX11_read_224 : decode cX11_read 224 = .ok (.if_icmp .eq 22, 3) := by decide +kernel
theorem dX11_read_227 : decode cX11_read 227 = .ok (.iload 5, 2) := by decide +kernel
theorem dX11_read_229 : decode cX11_read 229 = .ok (.iload_n 2, 1) := by decide +kernel
theorem dX11_read_230 : decode cX11_read 230 = .ok (.isub, 1) := by decide +kernel
theorem dX11_read_231 : decode cX11_read 231 = .ok (.iconst 2, 1) := by decide +kernel
theorem dX11_read_232 : decode cX11_read 232 = .ok (.if_icmp .gt 14, 3) := by decide +kernel
theorem dX11_read_235 : decode cX11_read 235 = .ok (.aload_n 0, 1) := by decide +kernel
theorem dX11_read_236 : decode cX11_read 236 = .ok (.iload 4, 2) := by decide +kernel
theorem dX11_read_238 : decode cX11_read 238 = .ok (.iload 6, 2) := by decide +kernel
theorem dX11_read_240 : decode cX11_read 240 = .ok (.invokevirtual 188, 3) := by decide +kernel
theorem dX11_read_243 : decode cX11_read 243 = .ok (.ifCond .ne 5, 3) := by decide +kernel
theorem dX11_read_246 : decode cX11_read 246 = .ok (.iload_n 2, 1) := by decide +kernel
theorem dX11_read_247 : decode cX11_read 247 = .ok (.ireturn, 1) := by decide +kernel
theorem dX11_read_248 : decode cX11_read 248 = .ok (.aload_n 0, 1) := by decide +kernel
theorem dX11_read_249 : decode cX11_read 249 = .ok (.getfield 38, 3) := by decide +kernel
theorem dX11_read_252 : decode cX11_read 252 = .ok (.iload_n 1, 1) := by decide +kernel
theorem dX11_read_253 : decode cX11_read 253 = .ok (.iload 4, 2) := by decide +kernel
theorem dX11_read_255 : decode cX11_read 255 = .ok (.iadd, 1) := by decide +kernel
theorem dX11_read_256 : decode cX11_read 256 = .ok (.iload 6, 2) := by decide +kernel
theorem dX11_read_258 : decode cX11_read 258 = .ok (.iastore, 1) := by decide +kernel
theorem dX11_read_259 : decode cX11_read 259 = .ok (.iconst 2, 1) := by decide +kernel
theorem dX11_read_260 : decode cX11_read 260 = .ok (.istore_n 3, 1) := by decide +kernel
theorem dX11_read_261 : decode cX11_read 261 = .ok (.goto 23, 3) := by decide +kernel
theorem dX11_read_264 : decode cX11_read 264 = .ok (.aload_n 0, 1) := by decide +kernel
theorem dX11_read_265 : decode cX11_read 265 = .ok (.getfield 35, 3) := by decide +kernel
theorem dX11_read_268 : decode cX11_read 268 = .ok (.iload_n 2, 1) := by decide +kernel
theorem dX11_read_269 : decode cX11_read 269 = .ok (.iaload, 1) := by decide +kernel
theorem dX11_read_270 : decode cX11_read 270 = .ok (.bipush 59, 2) := by decide +kernel
theorem dX11_read_272 : decode cX11_read 272 = .ok (.if_icmp .eq 5, 3) := by decide +kernel
theorem dX11_read_275 : decode cX11_read 275 = .ok (.iload_n 2, 1) := by decide +kernel
theorem dX11_read_276 : decode cX11_read 276 = .ok (.ireturn, 1) := by decide +kernel
theorem dX11_read_277 : decode cX11_read 277 = .ok (.iload_n 2, 1) := by decide +kernel
theorem dX11_read_278 : decode cX11_read 278 = .ok (.iconst 1, 1) := by decide +kernel
theorem dX11_read_279 : decode cX11_read 279 = .ok (.iadd, 1) := by decide +kernel
theorem dX11_read_280 : decode cX11_read 280 = .ok (.istore 5, 2) := by decide +kernel
theorem dX11_read_282 : decode cX11_read 282 = .ok (.iconst 0, 1) := by decide +kernel
theorem dX11_read_283 : decode cX11_read 283 = .ok (.istore_n 3, 1) := by decide +kernel
theorem dX11_read_284 : decode cX11_read 284 = .ok (.iload 5, 2) := by decide +kernel
theorem dX11_read_286 : decode cX11_read 286 = .ok (.istore_n 2, 1) := by decide +kernel
theorem dX11_read_287 : decode cX11_read 287 = .ok (.goto (-253), 3) := by decide +kernel
theorem dX11_law_0 : decode cX11_law 0 = .ok (.aload_n 0, 1) := by decide +kernel
theorem dX11_law_1 : decode cX11_law 1 = .ok (.getfield 62, 3) := by decide +kernel
theorem dX11_law_4 : decode cX11_law 4 = .ok (.iconst 1, 1) := by decide +kernel
theorem dX11_law_5 : decode cX11_law 5 = .ok (.iaload, 1) := by decide +kernel
theorem dX11_law_6 : decode cX11_law 6 = .ok (.bipush 6, 2) := by decide +kernel
theorem dX11_law_8 : decode cX11_law 8 = .ok (.if_icmp .ne 10, 3) := by decide +kernel
theorem dX11_law_11 : decode cX11_law 11 = .ok (.aload_n 0, 1) := by decide +kernel
theorem dX11_law_12 : decode cX11_law 12 = .ok (.bipush (-6), 2) := by decide +kernel
theorem dX11_law_14 : decode cX11_law 14 = .ok (.invokevirtual 93, 3) := by decide +kernel
theorem dX11_law_17 : decode cX11_law 17 = .ok (.ireturn, 1) := by decide +kernel
theorem dX11_law_18 : decode cX11_law 18 = .ok (.aload_n 0, 1) := by decide +kernel
theorem dX11_law_19 : decode cX11_law 19 = .ok (.bipush 9, 2) := by decide +kernel
theorem dX11_law_21 : decode cX11_law 21 = .ok (.aload_n 0, 1) := by decide +kernel
theorem dX11_law_22 : decode cX11_law 22 = .ok (.getfield 62, 3) := by decide +kernel
theorem dX11_law_25 : decode cX11_law 25 = .ok (.iconst 1, 1) := by decide +kernel
theorem dX11_law_26 : decode cX11_law 26 = .ok (.iaload, 1) := by decide +kernel
theorem dX11_law_27 : decode cX11_law 27 = .ok (.imul, 1) := by decide +kernel
theorem dX11_law_28 : decode cX11_law 28 = .ok (.invokevirtual 191, 3) := by decide +kernel
theorem dX11_law_31 : decode cX11_law 31 = .ok (.istore_n 1, 1) := by decide +kernel
theorem dX11_law_32 : decode cX11_law 32 = .ok (.aload_n 0, 1) := by decide +kernel
theorem dX11_law_33 : decode cX11_law 33 = .ok (.iconst 0, 1) := by decide +kernel
theorem dX11_law_34 : decode cX11_law 34 = .ok (.putfield 150, 3) := by decide +kernel
theorem dX11_law_37 : decode cX11_law 37 = .ok (.iload_n 1, 1) := by decide +kernel
theorem dX11_law_38 : decode cX11_law 38 = .ok (.ifCond .lt 15, 3) := by decide +kernel
theorem dX11_law_41 : decode cX11_law 41 = .ok (.aload_n 0, 1) := by decide +kernel
theorem dX11_law_42 : decode cX11_law 42 = .ok (.bipush (-2), 2) := by decide +kernel
theorem dX11_law_44 : decode cX11_law 44 = .ok (.invokevirtual 93, 3) := by decide +kernel
theorem dX11_law_47 : decode cX11_law 47 = .ok (.pop, 1) := by decide +kernel
theorem dX11_law_48 : decode cX11_law 48 = .ok (.bipush (-20), 2) := by decide +kernel
theorem dX11_law_50 : decode cX11_law 50 = .ok (.iload_n 1, 1) := by decide +kernel
theorem dX11_law_51 : decode cX11_law 51 = .ok (.isub, 1) := by decide +kernel
theorem dX11_law_52 : decode cX11_law 52 = .ok (.ireturn, 1) := by decide +kernel
theorem dX11_law_53 : decode cX11_law 53 = .ok (.aload_n 0, 1) := by decide +kernel
theorem dX11_law_54 : decode cX11_law 54 = .ok (.getfield 62, 3) := by decide +kernel
theorem dX11_law_57 : decode cX11_law 57 = .ok (.iconst 1, 1) := by decide +kernel
theorem dX11_law_58 : decode cX11_law 58 = .ok (.dup2, 1) := by decide +kernel
theorem dX11_law_59 : decode cX11_law 59 = .ok (.iaload, 1) := by decide +kernel
theorem dX11_law_60 : decode cX11_law 60 = .ok (.dup_x2, 1) := by decide +kernel
theorem dX11_law_61 : decode cX11_law 61 = .ok (.iconst 1, 1) := by decide +kernel
theorem dX11_law_62 : decode cX11_law 62 = .ok (.iadd, 1) := by decide +kernel
theorem dX11_law_63 : decode cX11_law 63 = .ok (.iastore, 1) := by decide +kernel
theorem dX11_law_64 : decode cX11_law 64 = .ok (.ireturn, 1) := by decide +kernel
theorem dX11_lawOf_0 : decode cX11_lawOf 0 = .ok (.aload_n 0, 1) := by decide +kernel
theorem dX11_lawOf_1 : decode cX11_lawOf 1 = .ok (.iload_n 1, 1) := by decide +kernel
theorem dX11_lawOf_2 : decode cX11_lawOf 2 = .ok (.invokevirtual 194, 3) := by decide +kernel
theorem dX11_lawOf_5 : decode cX11_lawOf 5 = .ok (.ifCond .eq 13, 3) := by decide +kernel
theorem dX11_lawOf_8 : decode cX11_lawOf 8 = .ok (.iload_n 2, 1) := by decide +kernel
theorem dX11_lawOf_9 : decode cX11_lawOf 9 = .ok (.ifCond .lt 9, 3) := by decide +kernel
theorem dX11_lawOf_12 : decode cX11_lawOf 12 = .ok (.iload_n 2, 1) := by decide +kernel
theorem dX11_lawOf_13 : decode cX11_lawOf 13 = .ok (.bipush 8, 2) := by decide +kernel
theorem dX11_lawOf_15 : decode cX11_lawOf 15 = .ok (.if_icmp .le 10, 3) := by decide +kernel
theorem dX11_lawOf_18 : decode cX11_lawOf 18 = .ok (.aload_n 0, 1) := by decide +kernel
theorem dX11_lawOf_19 : decode cX11_lawOf 19 = .ok (.bipush (-2), 2) := by decide +kernel
theorem dX11_lawOf_21 : decode cX11_lawOf 21 = .ok (.invokevirtual 93, 3) := by decide +kernel
theorem dX11_lawOf_24 : decode cX11_lawOf 24 = .ok (.ireturn, 1) := by decide +kernel
theorem dX11_lawOf_25 : decode cX11_lawOf 25 = .ok (.aload_n 0, 1) := by decide +kernel
theorem dX11_lawOf_26 : decode cX11_lawOf 26 = .ok (.getfield 38, 3) := by decide +kernel
theorem dX11_lawOf_29 : decode cX11_lawOf 29 = .ok (.bipush 9, 2) := by decide +kernel
theorem dX11_lawOf_31 : decode cX11_lawOf 31 = .ok (.iload_n 1, 1) := by decide +kernel
theorem dX11_lawOf_32 : decode cX11_lawOf 32 = .ok (.imul, 1) := by decide +kernel
theorem dX11_lawOf_33 : decode cX11_lawOf 33 = .ok (.iload_n 2, 1) := by decide +kernel
theorem dX11_lawOf_34 : decode cX11_lawOf 34 = .ok (.iadd, 1) := by decide +kernel
theorem dX11_lawOf_35 : decode cX11_lawOf 35 = .ok (.iaload, 1) := by decide +kernel
theorem dX11_lawOf_36 : decode cX11_lawOf 36 = .ok (.ireturn, 1) := by decide +kernel
theorem dX11_force_0 : decode cX11_force 0 = .ok (.iload_n 1, 1) := by decide +kernel
theorem dX11_force_1 : decode cX11_force 1 = .ok (.iconst (-1), 1) := by decide +kernel
theorem dX11_force_2 : decode cX11_force 2 = .ok (.if_icmp .eq 18, 3) := by decide +kernel
theorem dX11_force_5 : decode cX11_force 5 = .ok (.aload_n 0, 1) := by decide +kernel
theorem dX11_force_6 : decode cX11_force 6 = .ok (.iload_n 1, 1) := by decide +kernel
theorem dX11_force_7 : decode cX11_force 7 = .ok (.invokevirtual 194, 3) := by decide +kernel
theorem dX11_force_10 : decode cX11_force 10 = .ok (.ifCond .ne 10, 3) := by decide +kernel
theorem dX11_force_13 : decode cX11_force 13 = .ok (.aload_n 0, 1) := by decide +kernel
theorem dX11_force_14 : decode cX11_force 14 = .ok (.bipush (-2), 2) := by decide +kernel
theorem dX11_force_16 : decode cX11_force 16 = .ok (.invokevirtual 93, 3) := by decide +kernel
theorem dX11_force_19 : decode cX11_force 19 = .ok (.ireturn, 1) := by decide +kernel
theorem dX11_force_20 : decode cX11_force 20 = .ok (.aload_n 0, 1) := by decide +kernel
theorem dX11_force_21 : decode cX11_force 21 = .ok (.getfield 62, 3) := by decide +kernel
theorem dX11_force_24 : decode cX11_force 24 = .ok (.iconst 4, 1) := by decide +kernel
theorem dX11_force_25 : decode cX11_force 25 = .ok (.iaload, 1) := by decide +kernel
theorem dX11_force_26 : decode cX11_force 26 = .ok (.istore_n 2, 1) := by decide +kernel
theorem dX11_force_27 : decode cX11_force 27 = .ok (.aload_n 0, 1) := by decide +kernel
theorem dX11_force_28 : decode cX11_force 28 = .ok (.getfield 62, 3) := by decide +kernel
theorem dX11_force_31 : decode cX11_force 31 = .ok (.iconst 4, 1) := by decide +kernel
theorem dX11_force_32 : decode cX11_force 32 = .ok (.iload_n 1, 1) := by decide +kernel
theorem dX11_force_33 : decode cX11_force 33 = .ok (.iastore, 1) := by decide +kernel
theorem dX11_force_34 : decode cX11_force 34 = .ok (.iload_n 2, 1) := by decide +kernel
theorem dX11_force_35 : decode cX11_force 35 = .ok (.ireturn, 1) := by decide +kernel
theorem dX11_leaper_0 : decode cX11_leaper 0 = .ok (.iload_n 1, 1) := by decide +kernel
theorem dX11_leaper_1 : decode cX11_leaper 1 = .ok (.ifCond .lt 9, 3) := by decide +kernel
theorem dX11_leaper_4 : decode cX11_leaper 4 = .ok (.iload_n 1, 1) := by decide +kernel
theorem dX11_leaper_5 : decode cX11_leaper 5 = .ok (.bipush 99, 2) := by decide +kernel
theorem dX11_leaper_7 : decode cX11_leaper 7 = .ok (.if_icmp .le 10, 3) := by decide +kernel
theorem dX11_leaper_10 : decode cX11_leaper 10 = .ok (.aload_n 0, 1) := by decide +kernel
theorem dX11_leaper_11 : decode cX11_leaper 11 = .ok (.bipush (-2), 2) := by decide +kernel
theorem dX11_leaper_13 : decode cX11_leaper 13 = .ok (.invokevirtual 93, 3) := by decide +kernel
theorem dX11_leaper_16 : decode cX11_leaper 16 = .ok (.ireturn, 1) := by decide +kernel
theorem dX11_leaper_17 : decode cX11_leaper 17 = .ok (.aload_n 0, 1) := by decide +kernel
theorem dX11_leaper_18 : decode cX11_leaper 18 = .ok (.getfield 62, 3) := by decide +kernel
theorem dX11_leaper_21 : decode cX11_leaper 21 = .ok (.iconst 2, 1) := by decide +kernel
theorem dX11_leaper_22 : decode cX11_leaper 22 = .ok (.iaload, 1) := by decide +kernel
theorem dX11_leaper_23 : decode cX11_leaper 23 = .ok (.bipush 6, 2) := by decide +kernel
theorem dX11_leaper_25 : decode cX11_leaper 25 = .ok (.if_icmp .ne 10, 3) := by decide +kernel
theorem dX11_leaper_28 : decode cX11_leaper 28 = .ok (.aload_n 0, 1) := by decide +kernel
theorem dX11_leaper_29 : decode cX11_leaper 29 = .ok (.bipush (-6), 2) := by decide +kernel
theorem dX11_leaper_31 : decode cX11_leaper 31 = .ok (.invokevirtual 93, 3) := by decide +kernel
theorem dX11_leaper_34 : decode cX11_leaper 34 = .ok (.ireturn, 1) := by decide +kernel
theorem dX11_leaper_35 : decode cX11_leaper 35 = .ok (.aload_n 0, 1) := by decide +kernel
theorem dX11_leaper_36 : decode cX11_leaper 36 = .ok (.getfield 62, 3) := by decide +kernel
theorem dX11_leaper_39 : decode cX11_leaper 39 = .ok (.iconst 2, 1) := by decide +kernel
theorem dX11_leaper_40 : decode cX11_leaper 40 = .ok (.dup2, 1) := by decide +kernel
theorem dX11_leaper_41 : decode cX11_leaper 41 = .ok (.iaload, 1) := by decide +kernel
theorem dX11_leaper_42 : decode cX11_leaper 42 = .ok (.dup_x2, 1) := by decide +kernel
theorem dX11_leaper_43 : decode cX11_leaper 43 = .ok (.iconst 1, 1) := by decide +kernel
theorem dX11_leaper_44 : decode cX11_leaper 44 = .ok (.iadd, 1) := by decide +kernel
theorem dX11_leaper_45 : decode cX11_leaper 45 = .ok (.iastore, 1) := by decide +kernel
theorem dX11_leaper_46 : decode cX11_leaper 46 = .ok (.istore_n 2, 1) := by decide +kernel
theorem dX11_leaper_47 : decode cX11_leaper 47 = .ok (.aload_n 0, 1) := by decide +kernel
theorem dX11_leaper_48 : decode cX11_leaper 48 = .ok (.getfield 41, 3) := by decide +kernel
theorem dX11_leaper_51 : decode cX11_leaper 51 = .ok (.iload_n 2, 1) := by decide +kernel
theorem dX11_leaper_52 : decode cX11_leaper 52 = .ok (.iload_n 1, 1) := by decide +kernel
theorem dX11_leaper_53 : decode cX11_leaper 53 = .ok (.iastore, 1) := by decide +kernel
theorem dX11_leaper_54 : decode cX11_leaper 54 = .ok (.aload_n 0, 1) := by decide +kernel
theorem dX11_leaper_55 : decode cX11_leaper 55 = .ok (.getfield 44, 3) := by decide +kernel
theorem dX11_leaper_58 : decode cX11_leaper 58 = .ok (.iload_n 2, 1) := by decide +kernel
theorem dX11_leaper_59 : decode cX11_leaper 59 = .ok (.iconst 0, 1) := by decide +kernel
theorem dX11_leaper_60 : decode cX11_leaper 60 = .ok (.iastore, 1) := by decide +kernel
theorem dX11_leaper_61 : decode cX11_leaper 61 = .ok (.aload_n 0, 1) := by decide +kernel
theorem dX11_leaper_62 : decode cX11_leaper 62 = .ok (.getfield 47, 3) := by decide +kernel
theorem dX11_leaper_65 : decode cX11_leaper 65 = .ok (.iload_n 2, 1) := by decide +kernel
theorem dX11_leaper_66 : decode cX11_leaper 66 = .ok (.iconst 0, 1) := by decide +kernel
theorem dX11_leaper_67 : decode cX11_leaper 67 = .ok (.iastore, 1) := by decide +kernel
theorem dX11_leaper_68 : decode cX11_leaper 68 = .ok (.iload_n 2, 1) := by decide +kernel
theorem dX11_leaper_69 : decode cX11_leaper 69 = .ok (.ireturn, 1) := by decide +kernel
theorem dX11_leaperOf_0 : decode cX11_leaperOf 0 = .ok (.aload_n 0, 1) := by decide +kernel
theorem dX11_leaperOf_1 : decode cX11_leaperOf 1 = .ok (.iload_n 1, 1) := by decide +kernel
theorem dX11_leaperOf_2 : decode cX11_leaperOf 2 = .ok (.invokevirtual 197, 3) := by decide +kernel
theorem dX11_leaperOf_5 : decode cX11_leaperOf 5 = .ok (.ifCond .eq 12, 3) := by decide +kernel
theorem dX11_leaperOf_8 : decode cX11_leaperOf 8 = .ok (.iload_n 2, 1) := by decide +kernel
theorem dX11_leaperOf_9 : decode cX11_leaperOf 9 = .ok (.ifCond .lt 8, 3) := by decide +kernel
theorem dX11_leaperOf_12 : decode cX11_leaperOf 12 = .ok (.iload_n 2, 1) := by decide +kernel
theorem dX11_leaperOf_13 : decode cX11_leaperOf 13 = .ok (.iconst 2, 1) := by decide +kernel
theorem dX11_leaperOf_14 : decode cX11_leaperOf 14 = .ok (.if_icmp .le 10, 3) := by decide +kernel
theorem dX11_leaperOf_17 : decode cX11_leaperOf 17 = .ok (.aload_n 0, 1) := by decide +kernel
theorem dX11_leaperOf_18 : decode cX11_leaperOf 18 = .ok (.bipush (-2), 2) := by decide +kernel
theorem dX11_leaperOf_20 : decode cX11_leaperOf 20 = .ok (.invokevirtual 93, 3) := by decide +kernel
theorem dX11_leaperOf_23 : decode cX11_leaperOf 23 = .ok (.ireturn, 1) := by decide +kernel
theorem dX11_leaperOf_24 : decode cX11_leaperOf 24 = .ok (.iload_n 2, 1) := by decide +kernel
theorem dX11_leaperOf_25 : decode cX11_leaperOf 25 = .ok (.ifCond .ne 10, 3) := by decide +kernel
theorem dX11_leaperOf_28 : decode cX11_leaperOf 28 = .ok (.aload_n 0, 1) := by decide +kernel
theorem dX11_leaperOf_29 : decode cX11_leaperOf 29 = .ok (.getfield 41, 3) := by decide +kernel
theorem dX11_leaperOf_32 : decode cX11_leaperOf 32 = .ok (.iload_n 1, 1) := by decide +kernel
theorem dX11_leaperOf_33 : decode cX11_leaperOf 33 = .ok (.iaload, 1) := by decide +kernel
theorem dX11_leaperOf_34 : decode cX11_leaperOf 34 = .ok (.ireturn, 1) := by decide +kernel
theorem dX11_leaperOf_35 : decode cX11_leaperOf 35 = .ok (.iload_n 2, 1) := by decide +kernel
theorem dX11_leaperOf_36 : decode cX11_leaperOf 36 = .ok (.iconst 1, 1) := by decide +kernel
theorem dX11_leaperOf_37 : decode cX11_leaperOf 37 = .ok (.if_icmp .ne 12, 3) := by decide +kernel
theorem dX11_leaperOf_40 : decode cX11_leaperOf 40 = .ok (.aload_n 0, 1) := by decide +kernel
theorem dX11_leaperOf_41 : decode cX11_leaperOf 41 = .ok (.getfield 44, 3) := by decide +kernel
theorem dX11_leaperOf_44 : decode cX11_leaperOf 44 = .ok (.iload_n 1, 1) := by decide +kernel
theorem dX11_leaperOf_45 : decode cX11_leaperOf 45 = .ok (.iaload, 1) := by decide +kernel
theorem dX11_leaperOf_46 : decode cX11_leaperOf 46 = .ok (.goto 9, 3) := by decide +kernel
theorem dX11_leaperOf_49 : decode cX11_leaperOf 49 = .ok (.aload_n 0, 1) := by decide +kernel
theorem dX11_leaperOf_50 : decode cX11_leaperOf 50 = .ok (.getfield 47, 3) := by decide +kernel
theorem dX11_leaperOf_53 : decode cX11_leaperOf 53 = .ok (.iload_n 1, 1) := by decide +kernel
theorem dX11_leaperOf_54 : decode cX11_leaperOf 54 = .ok (.iaload, 1) := by decide +kernel
theorem dX11_leaperOf_55 : decode cX11_leaperOf 55 = .ok (.ireturn, 1) := by decide +kernel
theorem dX11_tried_0 : decode cX11_tried 0 = .ok (.aload_n 0, 1) := by decide +kernel
theorem dX11_tried_1 : decode cX11_tried 1 = .ok (.iload_n 1, 1) := by decide +kernel
theorem dX11_tried_2 : decode cX11_tried 2 = .ok (.invokevirtual 197, 3) := by decide +kernel
theorem dX11_tried_5 : decode cX11_tried 5 = .ok (.ifCond .eq 23, 3) := by decide +kernel
theorem dX11_tried_8 : decode cX11_tried 8 = .ok (.iload_n 2, 1) := by decide +kernel
theorem dX11_tried_9 : decode cX11_tried 9 = .ok (.iconst 1, 1) := by decide +kernel
theorem dX11_tried_10 : decode cX11_tried 10 = .ok (.if_icmp .lt 18, 3) := by decide +kernel
theorem dX11_tried_13 : decode cX11_tried 13 = .ok (.iload_n 2, 1) := by decide +kernel
theorem dX11_tried_14 : decode cX11_tried 14 = .ok (.bipush 99, 2) := by decide +kernel
theorem dX11_tried_16 : decode cX11_tried 16 = .ok (.if_icmp .gt 12, 3) := by decide +kernel
theorem dX11_tried_19 : decode cX11_tried 19 = .ok (.iload_n 3, 1) := by decide +kernel
theorem dX11_tried_20 : decode cX11_tried 20 = .ok (.ifCond .lt 8, 3) := by decide +kernel
theorem dX11_tried_23 : decode cX11_tried 23 = .ok (.iload_n 3, 1) := by decide +kernel
theorem dX11_tried_24 : decode cX11_tried 24 = .ok (.iload_n 2, 1) := by decide +kernel
theorem dX11_tried_25 : decode cX11_tried 25 = .ok (.if_icmp .le 10, 3) := by decide +kernel
theorem dX11_tried_28 : decode cX11_tried 28 = .ok (.aload_n 0, 1) := by decide +kernel
theorem dX11_tried_29 : decode cX11_tried 29 = .ok (.bipush (-2), 2) := by decide +kernel
theorem dX11_tried_31 : decode cX11_tried 31 = .ok (.invokevirtual 93, 3) := by decide +kernel
theorem dX11_tried_34 : decode cX11_tried 34 = .ok (.ireturn, 1) := by decide +kernel
theorem dX11_tried_35 : decode cX11_tried 35 = .ok (.aload_n 0, 1) := by decide +kernel
theorem dX11_tried_36 : decode cX11_tried 36 = .ok (.getfield 44, 3) := by decide +kernel
theorem dX11_tried_39 : decode cX11_tried 39 = .ok (.iload_n 1, 1) := by decide +kernel
theorem dX11_tried_40 : decode cX11_tried 40 = .ok (.dup2, 1) := by decide +kernel
theorem dX11_tried_41 : decode cX11_tried 41 = .ok (.iaload, 1) := by decide +kernel
theorem dX11_tried_42 : decode cX11_tried 42 = .ok (.iload_n 2, 1) := by decide +kernel
theorem dX11_tried_43 : decode cX11_tried 43 = .ok (.iadd, 1) := by decide +kernel
theorem dX11_tried_44 : decode cX11_tried 44 = .ok (.iastore, 1) := by decide +kernel
theorem dX11_tried_45 : decode cX11_tried 45 = .ok (.aload_n 0, 1) := by decide +kernel
theorem dX11_tried_46 : decode cX11_tried 46 = .ok (.getfield 47, 3) := by decide +kernel
theorem dX11_tried_49 : decode cX11_tried 49 = .ok (.iload_n 1, 1) := by decide +kernel
theorem dX11_tried_50 : decode cX11_tried 50 = .ok (.dup2, 1) := by decide +kernel
theorem dX11_tried_51 : decode cX11_tried 51 = .ok (.iaload, 1) := by decide +kernel
theorem dX11_tried_52 : decode cX11_tried 52 = .ok (.iload_n 3, 1) := by decide +kernel
theorem dX11_tried_53 : decode cX11_tried 53 = .ok (.iadd, 1) := by decide +kernel
theorem dX11_tried_54 : decode cX11_tried 54 = .ok (.iastore, 1) := by decide +kernel
theorem dX11_tried_55 : decode cX11_tried 55 = .ok (.aload_n 0, 1) := by decide +kernel
theorem dX11_tried_56 : decode cX11_tried 56 = .ok (.getfield 44, 3) := by decide +kernel
theorem dX11_tried_59 : decode cX11_tried 59 = .ok (.iload_n 1, 1) := by decide +kernel
theorem dX11_tried_60 : decode cX11_tried 60 = .ok (.iaload, 1) := by decide +kernel
theorem dX11_tried_61 : decode cX11_tried 61 = .ok (.ireturn, 1) := by decide +kernel
theorem dX11_learntBy_0 : decode cX11_learntBy 0 = .ok (.bipush 100, 2) := by decide +kernel
theorem dX11_learntBy_2 : decode cX11_learntBy 2 = .ok (.aload_n 0, 1) := by decide +kernel
theorem dX11_learntBy_3 : decode cX11_learntBy 3 = .ok (.getfield 44, 3) := by decide +kernel
theorem dX11_learntBy_6 : decode cX11_learntBy 6 = .ok (.iload_n 1, 1) := by decide +kernel
theorem dX11_learntBy_7 : decode cX11_learntBy 7 = .ok (.iaload, 1) := by decide +kernel
theorem dX11_learntBy_8 : decode cX11_learntBy 8 = .ok (.aload_n 0, 1) := by decide +kernel
theorem dX11_learntBy_9 : decode cX11_learntBy 9 = .ok (.getfield 47, 3) := by decide +kernel
theorem dX11_learntBy_12 : decode cX11_learntBy 12 = .ok (.iload_n 1, 1) := by decide +kernel
theorem dX11_learntBy_13 : decode cX11_learntBy 13 = .ok (.iaload, 1) := by decide +kernel
theorem dX11_learntBy_14 : decode cX11_learntBy 14 = .ok (.isub, 1) := by decide +kernel
theorem dX11_learntBy_15 : decode cX11_learntBy 15 = .ok (.imul, 1) := by decide +kernel
theorem dX11_learntBy_16 : decode cX11_learntBy 16 = .ok (.bipush 50, 2) := by decide +kernel
theorem dX11_learntBy_18 : decode cX11_learntBy 18 = .ok (.iadd, 1) := by decide +kernel
theorem dX11_learntBy_19 : decode cX11_learntBy 19 = .ok (.aload_n 0, 1) := by decide +kernel
theorem dX11_learntBy_20 : decode cX11_learntBy 20 = .ok (.getfield 44, 3) := by decide +kernel
theorem dX11_learntBy_23 : decode cX11_learntBy 23 = .ok (.iload_n 1, 1) := by decide +kernel
theorem dX11_learntBy_24 : decode cX11_learntBy 24 = .ok (.iaload, 1) := by decide +kernel
theorem dX11_learntBy_25 : decode cX11_learntBy 25 = .ok (.iconst 1, 1) := by decide +kernel
theorem dX11_learntBy_26 : decode cX11_learntBy 26 = .ok (.iadd, 1) := by decide +kernel
theorem dX11_learntBy_27 : decode cX11_learntBy 27 = .ok (.idiv, 1) := by decide +kernel
theorem dX11_learntBy_28 : decode cX11_learntBy 28 = .ok (.istore_n 2, 1) := by decide +kernel
theorem dX11_learntBy_29 : decode cX11_learntBy 29 = .ok (.iload_n 2, 1) := by decide +kernel
theorem dX11_learntBy_30 : decode cX11_learntBy 30 = .ok (.bipush 99, 2) := by decide +kernel
theorem dX11_learntBy_32 : decode cX11_learntBy 32 = .ok (.if_icmp .le 8, 3) := by decide +kernel
theorem dX11_learntBy_35 : decode cX11_learntBy 35 = .ok (.bipush 99, 2) := by decide +kernel
theorem dX11_learntBy_37 : decode cX11_learntBy 37 = .ok (.goto 4, 3) := by decide +kernel
theorem dX11_learntBy_40 : decode cX11_learntBy 40 = .ok (.iload_n 2, 1) := by decide +kernel
theorem dX11_learntBy_41 : decode cX11_learntBy 41 = .ok (.ireturn, 1) := by decide +kernel
theorem dX11_learnt_0 : decode cX11_learnt 0 = .ok (.aload_n 0, 1) := by decide +kernel
theorem dX11_learnt_1 : decode cX11_learnt 1 = .ok (.iload_n 1, 1) := by decide +kernel
theorem dX11_learnt_2 : decode cX11_learnt 2 = .ok (.invokevirtual 197, 3) := by decide +kernel
theorem dX11_learnt_5 : decode cX11_learnt 5 = .ok (.ifCond .ne 10, 3) := by decide +kernel
theorem dX11_learnt_8 : decode cX11_learnt 8 = .ok (.aload_n 0, 1) := by decide +kernel
theorem dX11_learnt_9 : decode cX11_learnt 9 = .ok (.bipush (-2), 2) := by decide +kernel
theorem dX11_learnt_11 : decode cX11_learnt 11 = .ok (.invokevirtual 93, 3) := by decide +kernel
theorem dX11_learnt_14 : decode cX11_learnt 14 = .ok (.ireturn, 1) := by decide +kernel
theorem dX11_learnt_15 : decode cX11_learnt 15 = .ok (.aload_n 0, 1) := by decide +kernel
theorem dX11_learnt_16 : decode cX11_learnt 16 = .ok (.iload_n 1, 1) := by decide +kernel
theorem dX11_learnt_17 : decode cX11_learnt 17 = .ok (.invokevirtual 200, 3) := by decide +kernel
theorem dX11_learnt_20 : decode cX11_learnt 20 = .ok (.ireturn, 1) := by decide +kernel
theorem dX11_learn_0 : decode cX11_learn 0 = .ok (.aload_n 0, 1) := by decide +kernel
theorem dX11_learn_1 : decode cX11_learn 1 = .ok (.iload_n 1, 1) := by decide +kernel
theorem dX11_learn_2 : decode cX11_learn 2 = .ok (.invokevirtual 197, 3) := by decide +kernel
theorem dX11_learn_5 : decode cX11_learn 5 = .ok (.ifCond .ne 10, 3) := by decide +kernel
theorem dX11_learn_8 : decode cX11_learn 8 = .ok (.aload_n 0, 1) := by decide +kernel
theorem dX11_learn_9 : decode cX11_learn 9 = .ok (.bipush (-2), 2) := by decide +kernel
theorem dX11_learn_11 : decode cX11_learn 11 = .ok (.invokevirtual 93, 3) := by decide +kernel
theorem dX11_learn_14 : decode cX11_learn 14 = .ok (.ireturn, 1) := by decide +kernel
theorem dX11_learn_15 : decode cX11_learn 15 = .ok (.aload_n 0, 1) := by decide +kernel
theorem dX11_learn_16 : decode cX11_learn 16 = .ok (.getfield 41, 3) := by decide +kernel
theorem dX11_learn_19 : decode cX11_learn 19 = .ok (.iload_n 1, 1) := by decide +kernel
theorem dX11_learn_20 : decode cX11_learn 20 = .ok (.iaload, 1) := by decide +kernel
theorem dX11_learn_21 : decode cX11_learn 21 = .ok (.istore_n 2, 1) := by decide +kernel
theorem dX11_learn_22 : decode cX11_learn 22 = .ok (.aload_n 0, 1) := by decide +kernel
theorem dX11_learn_23 : decode cX11_learn 23 = .ok (.getfield 41, 3) := by decide +kernel
theorem dX11_learn_26 : decode cX11_learn 26 = .ok (.iload_n 1, 1) := by decide +kernel
theorem dX11_learn_27 : decode cX11_learn 27 = .ok (.aload_n 0, 1) := by decide +kernel
theorem dX11_learn_28 : decode cX11_learn 28 = .ok (.iload_n 1, 1) := by decide +kernel
theorem dX11_learn_29 : decode cX11_learn 29 = .ok (.invokevirtual 200, 3) := by decide +kernel
theorem dX11_learn_32 : decode cX11_learn 32 = .ok (.iastore, 1) := by decide +kernel
theorem dX11_learn_33 : decode cX11_learn 33 = .ok (.iload_n 2, 1) := by decide +kernel
theorem dX11_learn_34 : decode cX11_learn 34 = .ok (.ireturn, 1) := by decide +kernel
theorem dX11_riskOf_0 : decode cX11_riskOf 0 = .ok (.aload_n 0, 1) := by decide +kernel
theorem dX11_riskOf_1 : decode cX11_riskOf 1 = .ok (.iload_n 2, 1) := by decide +kernel
theorem dX11_riskOf_2 : decode cX11_riskOf 2 = .ok (.aload_n 0, 1) := by decide +kernel
theorem dX11_riskOf_3 : decode cX11_riskOf 3 = .ok (.getfield 62, 3) := by decide +kernel
theorem dX11_riskOf_6 : decode cX11_riskOf 6 = .ok (.iconst 5, 1) := by decide +kernel
theorem dX11_riskOf_7 : decode cX11_riskOf 7 = .ok (.iaload, 1) := by decide +kernel
theorem dX11_riskOf_8 : decode cX11_riskOf 8 = .ok (.invokevirtual 136, 3) := by decide +kernel
theorem dX11_riskOf_11 : decode cX11_riskOf 11 = .ok (.ifCond .ne 11, 3) := by decide +kernel
theorem dX11_riskOf_14 : decode cX11_riskOf 14 = .ok (.aload_n 0, 1) := by decide +kernel
theorem dX11_riskOf_15 : decode cX11_riskOf 15 = .ok (.iload_n 2, 1) := by decide +kernel
theorem dX11_riskOf_16 : decode cX11_riskOf 16 = .ok (.invokevirtual 139, 3) := by decide +kernel
theorem dX11_riskOf_19 : decode cX11_riskOf 19 = .ok (.ifCond .ne 7, 3) := by decide +kernel
theorem dX11_riskOf_22 : decode cX11_riskOf 22 = .ok (.sipush 1000, 3) := by decide +kernel
theorem dX11_riskOf_25 : decode cX11_riskOf 25 = .ok (.ireturn, 1) := by decide +kernel
theorem dX11_riskOf_26 : decode cX11_riskOf 26 = .ok (.aload_n 0, 1) := by decide +kernel
theorem dX11_riskOf_27 : decode cX11_riskOf 27 = .ok (.iload_n 2, 1) := by decide +kernel
theorem dX11_riskOf_28 : decode cX11_riskOf 28 = .ok (.aload_n 0, 1) := by decide +kernel
theorem dX11_riskOf_29 : decode cX11_riskOf 29 = .ok (.getfield 62, 3) := by decide +kernel
theorem dX11_riskOf_32 : decode cX11_riskOf 32 = .ok (.iconst 5, 1) := by decide +kernel
theorem dX11_riskOf_33 : decode cX11_riskOf 33 = .ok (.iaload, 1) := by decide +kernel
theorem dX11_riskOf_34 : decode cX11_riskOf 34 = .ok (.invokevirtual 116, 3) := by decide +kernel
theorem dX11_riskOf_37 : decode cX11_riskOf 37 = .ok (.aload_n 0, 1) := by decide +kernel
theorem dX11_riskOf_38 : decode cX11_riskOf 38 = .ok (.invokevirtual 120, 3) := by decide +kernel
theorem dX11_riskOf_41 : decode cX11_riskOf 41 = .ok (.isub, 1) := by decide +kernel
theorem dX11_riskOf_42 : decode cX11_riskOf 42 = .ok (.istore 4, 2) := by decide +kernel
theorem dX11_riskOf_44 : decode cX11_riskOf 44 = .ok (.aload_n 0, 1) := by decide +kernel
theorem dX11_riskOf_45 : decode cX11_riskOf 45 = .ok (.iconst 4, 1) := by decide +kernel
theorem dX11_riskOf_46 : decode cX11_riskOf 46 = .ok (.invokevirtual 127, 3) := by decide +kernel
theorem dX11_riskOf_49 : decode cX11_riskOf 49 = .ok (.iload 4, 2) := by decide +kernel
theorem dX11_riskOf_51 : decode cX11_riskOf 51 = .ok (.ifCond .ge 9, 3) := by decide +kernel
theorem dX11_riskOf_54 : decode cX11_riskOf 54 = .ok (.iload 4, 2) := by decide +kernel
theorem dX11_riskOf_56 : decode cX11_riskOf 56 = .ok (.ineg, 1) := by decide +kernel
theorem dX11_riskOf_57 : decode cX11_riskOf 57 = .ok (.goto 5, 3) := by decide +kernel
theorem dX11_riskOf_60 : decode cX11_riskOf 60 = .ok (.iload 4, 2) := by decide +kernel
theorem dX11_riskOf_62 : decode cX11_riskOf 62 = .ok (.imul, 1) := by decide +kernel
theorem dX11_riskOf_63 : decode cX11_riskOf 63 = .ok (.aload_n 0, 1) := by decide +kernel
theorem dX11_riskOf_64 : decode cX11_riskOf 64 = .ok (.iconst 5, 1) := by decide +kernel
theorem dX11_riskOf_65 : decode cX11_riskOf 65 = .ok (.invokevirtual 127, 3) := by decide +kernel
theorem dX11_riskOf_68 : decode cX11_riskOf 68 = .ok (.aload_n 0, 1) := by decide +kernel
theorem dX11_riskOf_69 : decode cX11_riskOf 69 = .ok (.getfield 32, 3) := by decide +kernel
theorem dX11_riskOf_72 : decode cX11_riskOf 72 = .ok (.iload_n 2, 1) := by decide +kernel
theorem dX11_riskOf_73 : decode cX11_riskOf 73 = .ok (.iaload, 1) := by decide +kernel
theorem dX11_riskOf_74 : decode cX11_riskOf 74 = .ok (.imul, 1) := by decide +kernel
theorem dX11_riskOf_75 : decode cX11_riskOf 75 = .ok (.iadd, 1) := by decide +kernel
theorem dX11_riskOf_76 : decode cX11_riskOf 76 = .ok (.aload_n 0, 1) := by decide +kernel
theorem dX11_riskOf_77 : decode cX11_riskOf 77 = .ok (.bipush 6, 2) := by decide +kernel
theorem dX11_riskOf_79 : decode cX11_riskOf 79 = .ok (.invokevirtual 127, 3) := by decide +kernel
theorem dX11_riskOf_82 : decode cX11_riskOf 82 = .ok (.aload_n 0, 1) := by decide +kernel
theorem dX11_riskOf_83 : decode cX11_riskOf 83 = .ok (.getfield 59, 3) := by decide +kernel
theorem dX11_riskOf_86 : decode cX11_riskOf 86 = .ok (.iload_n 3, 1) := by decide +kernel
theorem dX11_riskOf_87 : decode cX11_riskOf 87 = .ok (.iaload, 1) := by decide +kernel
theorem dX11_riskOf_88 : decode cX11_riskOf 88 = .ok (.imul, 1) := by decide +kernel
theorem dX11_riskOf_89 : decode cX11_riskOf 89 = .ok (.iadd, 1) := by decide +kernel
theorem dX11_riskOf_90 : decode cX11_riskOf 90 = .ok (.aload_n 0, 1) := by decide +kernel
theorem dX11_riskOf_91 : decode cX11_riskOf 91 = .ok (.bipush 7, 2) := by decide +kernel
theorem dX11_riskOf_93 : decode cX11_riskOf 93 = .ok (.invokevirtual 127, 3) := by decide +kernel
theorem dX11_riskOf_96 : decode cX11_riskOf 96 = .ok (.aload_n 0, 1) := by decide +kernel
theorem dX11_riskOf_97 : decode cX11_riskOf 97 = .ok (.getfield 41, 3) := by decide +kernel
theorem dX11_riskOf_100 : decode cX11_riskOf 100 = .ok (.iload_n 1, 1) := by decide +kernel
theorem dX11_riskOf_101 : decode cX11_riskOf 101 = .ok (.iaload, 1) := by decide +kernel
theorem dX11_riskOf_102 : decode cX11_riskOf 102 = .ok (.imul, 1) := by decide +kernel
theorem dX11_riskOf_103 : decode cX11_riskOf 103 = .ok (.isub, 1) := by decide +kernel
theorem dX11_riskOf_104 : decode cX11_riskOf 104 = .ok (.istore 5, 2) := by decide +kernel
theorem dX11_riskOf_106 : decode cX11_riskOf 106 = .ok (.iload 5, 2) := by decide +kernel
theorem dX11_riskOf_108 : decode cX11_riskOf 108 = .ok (.ifCond .ge 5, 3) := by decide +kernel
theorem dX11_riskOf_111 : decode cX11_riskOf 111 = .ok (.iconst 0, 1) := by decide +kernel
theorem dX11_riskOf_112 : decode cX11_riskOf 112 = .ok (.ireturn, 1) := by decide +kernel
theorem dX11_riskOf_113 : decode cX11_riskOf 113 = .ok (.iload 5, 2) := by decide +kernel
theorem dX11_riskOf_115 : decode cX11_riskOf 115 = .ok (.sipush 1000, 3) := by decide +kernel
theorem dX11_riskOf_118 : decode cX11_riskOf 118 = .ok (.if_icmp .le 9, 3) := by decide +kernel
theorem dX11_riskOf_121 : decode cX11_riskOf 121 = .ok (.sipush 1000, 3) := by decide +kernel
theorem dX11_riskOf_124 : decode cX11_riskOf 124 = .ok (.goto 5, 3) := by decide +kernel
theorem dX11_riskOf_127 : decode cX11_riskOf 127 = .ok (.iload 5, 2) := by decide +kernel
theorem dX11_riskOf_129 : decode cX11_riskOf 129 = .ok (.ireturn, 1) := by decide +kernel
theorem dX11_risk_0 : decode cX11_risk 0 = .ok (.aload_n 0, 1) := by decide +kernel
theorem dX11_risk_1 : decode cX11_risk 1 = .ok (.iload_n 1, 1) := by decide +kernel
theorem dX11_risk_2 : decode cX11_risk 2 = .ok (.invokevirtual 197, 3) := by decide +kernel
theorem dX11_risk_5 : decode cX11_risk 5 = .ok (.ifCond .eq 19, 3) := by decide +kernel
theorem dX11_risk_8 : decode cX11_risk 8 = .ok (.aload_n 0, 1) := by decide +kernel
theorem dX11_risk_9 : decode cX11_risk 9 = .ok (.iload_n 2, 1) := by decide +kernel
theorem dX11_risk_10 : decode cX11_risk 10 = .ok (.invokevirtual 106, 3) := by decide +kernel
theorem dX11_risk_13 : decode cX11_risk 13 = .ok (.ifCond .eq 11, 3) := by decide +kernel
theorem dX11_risk_16 : decode cX11_risk 16 = .ok (.aload_n 0, 1) := by decide +kernel
theorem dX11_risk_17 : decode cX11_risk 17 = .ok (.iload_n 3, 1) := by decide +kernel
theorem dX11_risk_18 : decode cX11_risk 18 = .ok (.invokevirtual 145, 3) := by decide +kernel
theorem dX11_risk_21 : decode cX11_risk 21 = .ok (.ifCond .ne 10, 3) := by decide +kernel
theorem dX11_risk_24 : decode cX11_risk 24 = .ok (.aload_n 0, 1) := by decide +kernel
theorem dX11_risk_25 : decode cX11_risk 25 = .ok (.bipush (-2), 2) := by decide +kernel
theorem dX11_risk_27 : decode cX11_risk 27 = .ok (.invokevirtual 93, 3) := by decide +kernel
theorem dX11_risk_30 : decode cX11_risk 30 = .ok (.ireturn, 1) := by decide +kernel
theorem dX11_risk_31 : decode cX11_risk 31 = .ok (.aload_n 0, 1) := by decide +kernel
theorem dX11_risk_32 : decode cX11_risk 32 = .ok (.iload_n 1, 1) := by decide +kernel
theorem dX11_risk_33 : decode cX11_risk 33 = .ok (.iload_n 2, 1) := by decide +kernel
theorem dX11_risk_34 : decode cX11_risk 34 = .ok (.iload_n 3, 1) := by decide +kernel
theorem dX11_risk_35 : decode cX11_risk 35 = .ok (.invokevirtual 203, 3) := by decide +kernel
theorem dX11_risk_38 : decode cX11_risk 38 = .ok (.ireturn, 1) := by decide +kernel
theorem dX11_calm_0 : decode cX11_calm 0 = .ok (.aload_n 0, 1) := by decide +kernel
theorem dX11_calm_1 : decode cX11_calm 1 = .ok (.iload_n 1, 1) := by decide +kernel
theorem dX11_calm_2 : decode cX11_calm 2 = .ok (.invokevirtual 197, 3) := by decide +kernel
theorem dX11_calm_5 : decode cX11_calm 5 = .ok (.ifCond .eq 11, 3) := by decide +kernel
theorem dX11_calm_8 : decode cX11_calm 8 = .ok (.aload_n 0, 1) := by decide +kernel
theorem dX11_calm_9 : decode cX11_calm 9 = .ok (.iload_n 2, 1) := by decide +kernel
theorem dX11_calm_10 : decode cX11_calm 10 = .ok (.invokevirtual 106, 3) := by decide +kernel
theorem dX11_calm_13 : decode cX11_calm 13 = .ok (.ifCond .ne 10, 3) := by decide +kernel
theorem dX11_calm_16 : decode cX11_calm 16 = .ok (.aload_n 0, 1) := by decide +kernel
theorem dX11_calm_17 : decode cX11_calm 17 = .ok (.bipush (-2), 2) := by decide +kernel
theorem dX11_calm_19 : decode cX11_calm 19 = .ok (.invokevirtual 93, 3) := by decide +kernel
theorem dX11_calm_22 : decode cX11_calm 22 = .ok (.ireturn, 1) := by decide +kernel
theorem dX11_calm_23 : decode cX11_calm 23 = .ok (.iconst 0, 1) := by decide +kernel
theorem dX11_calm_24 : decode cX11_calm 24 = .ok (.istore_n 3, 1) := by decide +kernel
theorem dX11_calm_25 : decode cX11_calm 25 = .ok (.iconst 1, 1) := by decide +kernel
theorem dX11_calm_26 : decode cX11_calm 26 = .ok (.istore 4, 2) := by decide +kernel
theorem dX11_calm_28 : decode cX11_calm 28 = .ok (.iload 4, 2) := by decide +kernel
theorem dX11_calm_30 : decode cX11_calm 30 = .ok (.bipush 12, 2) := by decide +kernel
theorem dX11_calm_32 : decode cX11_calm 32 = .ok (.if_icmp .ge 30, 3) := by decide +kernel
theorem dX11_calm_35 : decode cX11_calm 35 = .ok (.aload_n 0, 1) := by decide +kernel
theorem dX11_calm_36 : decode cX11_calm 36 = .ok (.iload_n 1, 1) := by decide +kernel
theorem dX11_calm_37 : decode cX11_calm 37 = .ok (.iload_n 2, 1) := by decide +kernel
theorem dX11_calm_38 : decode cX11_calm 38 = .ok (.iload 4, 2) := by decide +kernel
theorem dX11_calm_40 : decode cX11_calm 40 = .ok (.invokevirtual 203, 3) := by decide +kernel
theorem dX11_calm_43 : decode cX11_calm 43 = .ok (.aload_n 0, 1) := by decide +kernel
theorem dX11_calm_44 : decode cX11_calm 44 = .ok (.iload_n 1, 1) := by decide +kernel
theorem dX11_calm_45 : decode cX11_calm 45 = .ok (.iload_n 2, 1) := by decide +kernel
theorem dX11_calm_46 : decode cX11_calm 46 = .ok (.iload_n 3, 1) := by decide +kernel
theorem dX11_calm_47 : decode cX11_calm 47 = .ok (.invokevirtual 203, 3) := by decide +kernel
theorem dX11_calm_50 : decode cX11_calm 50 = .ok (.if_icmp .ge 6, 3) := by decide +kernel
theorem dX11_calm_53 : decode cX11_calm 53 = .ok (.iload 4, 2) := by decide +kernel
theorem dX11_calm_55 : decode cX11_calm 55 = .ok (.istore_n 3, 1) := by decide +kernel
theorem dX11_calm_56 : decode cX11_calm 56 = .ok (.iinc 4 1, 3) := by decide +kernel
theorem dX11_calm_59 : decode cX11_calm 59 = .ok (.goto (-31), 3) := by decide +kernel
theorem dX11_calm_62 : decode cX11_calm 62 = .ok (.iload_n 3, 1) := by decide +kernel
theorem dX11_calm_63 : decode cX11_calm 63 = .ok (.ireturn, 1) := by decide +kernel
theorem dX11_legOf_0 : decode cX11_legOf 0 = .ok (.aload_n 0, 1) := by decide +kernel
theorem dX11_legOf_1 : decode cX11_legOf 1 = .ok (.iload_n 1, 1) := by decide +kernel
theorem dX11_legOf_2 : decode cX11_legOf 2 = .ok (.iload_n 2, 1) := by decide +kernel
theorem dX11_legOf_3 : decode cX11_legOf 3 = .ok (.aload_n 0, 1) := by decide +kernel
theorem dX11_legOf_4 : decode cX11_legOf 4 = .ok (.iconst 1, 1) := by decide +kernel
theorem dX11_legOf_5 : decode cX11_legOf 5 = .ok (.invokevirtual 127, 3) := by decide +kernel
theorem dX11_legOf_8 : decode cX11_legOf 8 = .ok (.invokevirtual 207, 3) := by decide +kernel
theorem dX11_legOf_11 : decode cX11_legOf 11 = .ok (.ireturn, 1) := by decide +kernel
theorem dX11_legAt_0 : decode cX11_legAt 0 = .ok (.iload_n 1, 1) := by decide +kernel
theorem dX11_legAt_1 : decode cX11_legAt 1 = .ok (.bipush 16, 2) := by decide +kernel
theorem dX11_legAt_3 : decode cX11_legAt 3 = .ok (.idiv, 1) := by decide +kernel
theorem dX11_legAt_4 : decode cX11_legAt 4 = .ok (.iload_n 2, 1) := by decide +kernel
theorem dX11_legAt_5 : decode cX11_legAt 5 = .ok (.bipush 16, 2) := by decide +kernel
theorem dX11_legAt_7 : decode cX11_legAt 7 = .ok (.idiv, 1) := by decide +kernel
theorem dX11_legAt_8 : decode cX11_legAt 8 = .ok (.isub, 1) := by decide +kernel
theorem dX11_legAt_9 : decode cX11_legAt 9 = .ok (.istore 4, 2) := by decide +kernel
theorem dX11_legAt_11 : decode cX11_legAt 11 = .ok (.iload_n 1, 1) := by decide +kernel
theorem dX11_legAt_12 : decode cX11_legAt 12 = .ok (.bipush 16, 2) := by decide +kernel
theorem dX11_legAt_14 : decode cX11_legAt 14 = .ok (.irem, 1) := by decide +kernel
theorem dX11_legAt_15 : decode cX11_legAt 15 = .ok (.iload_n 2, 1) := by decide +kernel
theorem dX11_legAt_16 : decode cX11_legAt 16 = .ok (.bipush 16, 2) := by decide +kernel
theorem dX11_legAt_18 : decode cX11_legAt 18 = .ok (.irem, 1) := by decide +kernel
theorem dX11_legAt_19 : decode cX11_legAt 19 = .ok (.isub, 1) := by decide +kernel
theorem dX11_legAt_20 : decode cX11_legAt 20 = .ok (.istore 5, 2) := by decide +kernel
theorem dX11_legAt_22 : decode cX11_legAt 22 = .ok (.iload 4, 2) := by decide +kernel
theorem dX11_legAt_24 : decode cX11_legAt 24 = .ok (.ifCond .ge 9, 3) := by decide +kernel
theorem dX11_legAt_27 : decode cX11_legAt 27 = .ok (.iload 4, 2) := by decide +kernel
theorem dX11_legAt_29 : decode cX11_legAt 29 = .ok (.ineg, 1) := by decide +kernel
theorem dX11_legAt_30 : decode cX11_legAt 30 = .ok (.goto 5, 3) := by decide +kernel
theorem dX11_legAt_33 : decode cX11_legAt 33 = .ok (.iload 4, 2) := by decide +kernel
theorem dX11_legAt_35 : decode cX11_legAt 35 = .ok (.iload 5, 2) := by decide +kernel
theorem dX11_legAt_37 : decode cX11_legAt 37 = .ok (.ifCond .ge 9, 3) := by decide +kernel
theorem dX11_legAt_40 : decode cX11_legAt 40 = .ok (.iload 5, 2) := by decide +kernel
theorem dX11_legAt_42 : decode cX11_legAt 42 = .ok (.ineg, 1) := by decide +kernel
theorem dX11_legAt_43 : decode cX11_legAt 43 = .ok (.goto 5, 3) := by decide +kernel
theorem dX11_legAt_46 : decode cX11_legAt 46 = .ok (.iload 5, 2) := by decide +kernel
theorem dX11_legAt_48 : decode cX11_legAt 48 = .ok (.iadd, 1) := by decide +kernel
theorem dX11_legAt_49 : decode cX11_legAt 49 = .ok (.istore 6, 2) := by decide +kernel
theorem dX11_legAt_51 : decode cX11_legAt 51 = .ok (.aload_n 0, 1) := by decide +kernel
theorem dX11_legAt_52 : decode cX11_legAt 52 = .ok (.bipush 8, 2) := by decide +kernel
theorem dX11_legAt_54 : decode cX11_legAt 54 = .ok (.invokevirtual 127, 3) := by decide +kernel
theorem dX11_legAt_57 : decode cX11_legAt 57 = .ok (.iload 6, 2) := by decide +kernel
theorem dX11_legAt_59 : decode cX11_legAt 59 = .ok (.imul, 1) := by decide +kernel
theorem dX11_legAt_60 : decode cX11_legAt 60 = .ok (.iload_n 3, 1) := by decide +kernel
theorem dX11_legAt_61 : decode cX11_legAt 61 = .ok (.iadd, 1) := by decide +kernel
theorem dX11_legAt_62 : decode cX11_legAt 62 = .ok (.iconst 1, 1) := by decide +kernel
theorem dX11_legAt_63 : decode cX11_legAt 63 = .ok (.isub, 1) := by decide +kernel
theorem dX11_legAt_64 : decode cX11_legAt 64 = .ok (.iload_n 3, 1) := by decide +kernel
theorem dX11_legAt_65 : decode cX11_legAt 65 = .ok (.idiv, 1) := by decide +kernel
theorem dX11_legAt_66 : decode cX11_legAt 66 = .ok (.ireturn, 1) := by decide +kernel
theorem dX11_leg_0 : decode cX11_leg 0 = .ok (.aload_n 0, 1) := by decide +kernel
theorem dX11_leg_1 : decode cX11_leg 1 = .ok (.iload_n 1, 1) := by decide +kernel
theorem dX11_leg_2 : decode cX11_leg 2 = .ok (.invokevirtual 133, 3) := by decide +kernel
theorem dX11_leg_5 : decode cX11_leg 5 = .ok (.ifCond .eq 11, 3) := by decide +kernel
theorem dX11_leg_8 : decode cX11_leg 8 = .ok (.aload_n 0, 1) := by decide +kernel
theorem dX11_leg_9 : decode cX11_leg 9 = .ok (.iload_n 2, 1) := by decide +kernel
theorem dX11_leg_10 : decode cX11_leg 10 = .ok (.invokevirtual 133, 3) := by decide +kernel
theorem dX11_leg_13 : decode cX11_leg 13 = .ok (.ifCond .ne 10, 3) := by decide +kernel
theorem dX11_leg_16 : decode cX11_leg 16 = .ok (.aload_n 0, 1) := by decide +kernel
theorem dX11_leg_17 : decode cX11_leg 17 = .ok (.bipush (-2), 2) := by decide +kernel
theorem dX11_leg_19 : decode cX11_leg 19 = .ok (.invokevirtual 93, 3) := by decide +kernel
theorem dX11_leg_22 : decode cX11_leg 22 = .ok (.ireturn, 1) := by decide +kernel
theorem dX11_leg_23 : decode cX11_leg 23 = .ok (.aload_n 0, 1) := by decide +kernel
theorem dX11_leg_24 : decode cX11_leg 24 = .ok (.iload_n 1, 1) := by decide +kernel
theorem dX11_leg_25 : decode cX11_leg 25 = .ok (.iload_n 2, 1) := by decide +kernel
theorem dX11_leg_26 : decode cX11_leg 26 = .ok (.invokevirtual 210, 3) := by decide +kernel
theorem dX11_leg_29 : decode cX11_leg 29 = .ok (.ireturn, 1) := by decide +kernel
theorem dX11_hourOf_0 : decode cX11_hourOf 0 = .ok (.iload_n 1, 1) := by decide +kernel
theorem dX11_hourOf_1 : decode cX11_hourOf 1 = .ok (.sipush 660, 3) := by decide +kernel
theorem dX11_hourOf_4 : decode cX11_hourOf 4 = .ok (.if_icmp .lt 8, 3) := by decide +kernel
theorem dX11_hourOf_7 : decode cX11_hourOf 7 = .ok (.bipush 11, 2) := by decide +kernel
theorem dX11_hourOf_9 : decode cX11_hourOf 9 = .ok (.goto 7, 3) := by decide +kernel
theorem dX11_hourOf_12 : decode cX11_hourOf 12 = .ok (.iload_n 1, 1) := by decide +kernel
theorem dX11_hourOf_13 : decode cX11_hourOf 13 = .ok (.bipush 60, 2) := by decide +kernel
theorem dX11_hourOf_15 : decode cX11_hourOf 15 = .ok (.idiv, 1) := by decide +kernel
theorem dX11_hourOf_16 : decode cX11_hourOf 16 = .ok (.ireturn, 1) := by decide +kernel
theorem dX11_take_0 : decode cX11_take 0 = .ok (.aload_n 0, 1) := by decide +kernel
theorem dX11_take_1 : decode cX11_take 1 = .ok (.iload_n 1, 1) := by decide +kernel
theorem dX11_take_2 : decode cX11_take 2 = .ok (.invokevirtual 100, 3) := by decide +kernel
theorem dX11_take_5 : decode cX11_take 5 = .ok (.istore_n 3, 1) := by decide +kernel
theorem dX11_take_6 : decode cX11_take 6 = .ok (.iload_n 3, 1) := by decide +kernel
theorem dX11_take_7 : decode cX11_take 7 = .ok (.ifCond .ge 5, 3) := by decide +kernel
theorem dX11_take_10 : decode cX11_take 10 = .ok (.iload_n 3, 1) := by decide +kernel
theorem dX11_take_11 : decode cX11_take 11 = .ok (.ireturn, 1) := by decide +kernel
theorem dX11_take_12 : decode cX11_take 12 = .ok (.iload_n 2, 1) := by decide +kernel
theorem dX11_take_13 : decode cX11_take 13 = .ok (.aload_n 0, 1) := by decide +kernel
theorem dX11_take_14 : decode cX11_take 14 = .ok (.getfield 13, 3) := by decide +kernel
theorem dX11_take_17 : decode cX11_take 17 = .ok (.iload_n 1, 1) := by decide +kernel
theorem dX11_take_18 : decode cX11_take 18 = .ok (.iaload, 1) := by decide +kernel
theorem dX11_take_19 : decode cX11_take 19 = .ok (.if_icmp .le 6, 3) := by decide +kernel
theorem dX11_take_22 : decode cX11_take 22 = .ok (.bipush (-2), 2) := by decide +kernel
theorem dX11_take_24 : decode cX11_take 24 = .ok (.ireturn, 1) := by decide +kernel
theorem dX11_take_25 : decode cX11_take 25 = .ok (.iconst 0, 1) := by decide +kernel
theorem dX11_take_26 : decode cX11_take 26 = .ok (.istore 4, 2) := by decide +kernel
theorem dX11_take_28 : decode cX11_take 28 = .ok (.iload 4, 2) := by decide +kernel
theorem dX11_take_30 : decode cX11_take 30 = .ok (.iload_n 2, 1) := by decide +kernel
theorem dX11_take_31 : decode cX11_take 31 = .ok (.if_icmp .ge 56, 3) := by decide +kernel
theorem dX11_take_34 : decode cX11_take 34 = .ok (.aload_n 0, 1) := by decide +kernel
theorem dX11_take_35 : decode cX11_take 35 = .ok (.getfield 16, 3) := by decide +kernel
theorem dX11_take_38 : decode cX11_take 38 = .ok (.bipush 40, 2) := by decide +kernel
theorem dX11_take_40 : decode cX11_take 40 = .ok (.iload_n 1, 1) := by decide +kernel
theorem dX11_take_41 : decode cX11_take 41 = .ok (.imul, 1) := by decide +kernel
theorem dX11_take_42 : decode cX11_take 42 = .ok (.iload 4, 2) := by decide +kernel
theorem dX11_take_44 : decode cX11_take 44 = .ok (.iadd, 1) := by decide +kernel
theorem dX11_take_45 : decode cX11_take 45 = .ok (.laload, 1) := by decide +kernel
theorem dX11_take_46 : decode cX11_take 46 = .ok (.lstore 5, 2) := by decide +kernel
theorem dX11_take_48 : decode cX11_take 48 = .ok (.lload 5, 2) := by decide +kernel
theorem dX11_take_50 : decode cX11_take 50 = .ok (.lconst 0, 1) := by decide +kernel
theorem dX11_take_51 : decode cX11_take 51 = .ok (.lcmp, 1) := by decide +kernel
theorem dX11_take_52 : decode cX11_take 52 = .ok (.ifCond .lt 16, 3) := by decide +kernel
theorem dX11_take_55 : decode cX11_take 55 = .ok (.lload 5, 2) := by decide +kernel
theorem dX11_take_57 : decode cX11_take 57 = .ok (.aload_n 0, 1) := by decide +kernel
theorem dX11_take_58 : decode cX11_take 58 = .ok (.getfield 62, 3) := by decide +kernel
theorem dX11_take_61 : decode cX11_take 61 = .ok (.iconst 0, 1) := by decide +kernel
theorem dX11_take_62 : decode cX11_take 62 = .ok (.iaload, 1) := by decide +kernel
theorem dX11_take_63 : decode cX11_take 63 = .ok (.i2l, 1) := by decide +kernel
theorem dX11_take_64 : decode cX11_take 64 = .ok (.lcmp, 1) := by decide +kernel
theorem dX11_take_65 : decode cX11_take 65 = .ok (.ifCond .lt 6, 3) := by decide +kernel
theorem dX11_take_68 : decode cX11_take 68 = .ok (.bipush (-2), 2) := by decide +kernel
theorem dX11_take_70 : decode cX11_take 70 = .ok (.ireturn, 1) := by decide +kernel
theorem dX11_take_71 : decode cX11_take 71 = .ok (.aload_n 0, 1) := by decide +kernel
theorem dX11_take_72 : decode cX11_take 72 = .ok (.getfield 74, 3) := by decide +kernel
theorem dX11_take_75 : decode cX11_take 75 = .ok (.iload 4, 2) := by decide +kernel
theorem dX11_take_77 : decode cX11_take 77 = .ok (.lload 5, 2) := by decide +kernel
theorem dX11_take_79 : decode cX11_take 79 = .ok (.l2i, 1) := by decide +kernel
theorem dX11_take_80 : decode cX11_take 80 = .ok (.iastore, 1) := by decide +kernel
theorem dX11_take_81 : decode cX11_take 81 = .ok (.iinc 4 1, 3) := by decide +kernel
theorem dX11_take_84 : decode cX11_take 84 = .ok (.goto (-56), 3) := by decide +kernel
theorem dX11_take_87 : decode cX11_take 87 = .ok (.iconst 0, 1) := by decide +kernel
theorem dX11_take_88 : decode cX11_take 88 = .ok (.ireturn, 1) := by decide +kernel
theorem dX11_riskOfTour_0 : decode cX11_riskOfTour 0 = .ok (.iconst 0, 1) := by decide +kernel
theorem dX11_riskOfTour_1 : decode cX11_riskOfTour 1 = .ok (.istore_n 3, 1) := by decide +kernel
theorem dX11_riskOfTour_2 : decode cX11_riskOfTour 2 = .ok (.iconst 0, 1) := by decide +kernel
theorem dX11_riskOfTour_3 : decode cX11_riskOfTour 3 = .ok (.istore 4, 2) := by decide +kernel
theorem dX11_riskOfTour_5 : decode cX11_riskOfTour 5 = .ok (.aload_n 0, 1) := by decide +kernel
theorem dX11_riskOfTour_6 : decode cX11_riskOfTour 6 = .ok (.getfield 62, 3) := by decide +kernel
theorem dX11_riskOfTour_9 : decode cX11_riskOfTour 9 = .ok (.bipush 7, 2) := by decide +kernel
theorem dX11_riskOfTour_11 : decode cX11_riskOfTour 11 = .ok (.iaload, 1) := by decide +kernel
theorem dX11_riskOfTour_12 : decode cX11_riskOfTour 12 = .ok (.istore 5, 2) := by decide +kernel
theorem dX11_riskOfTour_14 : decode cX11_riskOfTour 14 = .ok (.iconst 0, 1) := by decide +kernel
theorem dX11_riskOfTour_15 : decode cX11_riskOfTour 15 = .ok (.istore 6, 2) := by decide +kernel
theorem dX11_riskOfTour_17 : decode cX11_riskOfTour 17 = .ok (.iload 6, 2) := by decide +kernel
theorem dX11_riskOfTour_19 : decode cX11_riskOfTour 19 = .ok (.iload_n 2, 1) := by decide +kernel
theorem dX11_riskOfTour_20 : decode cX11_riskOfTour 20 = .ok (.if_icmp .ge 67, 3) := by decide +kernel
theorem dX11_riskOfTour_23 : decode cX11_riskOfTour 23 = .ok (.aload_n 0, 1) := by decide +kernel
theorem dX11_riskOfTour_24 : decode cX11_riskOfTour 24 = .ok (.getfield 74, 3) := by decide +kernel
theorem dX11_riskOfTour_27 : decode cX11_riskOfTour 27 = .ok (.iload 6, 2) := by decide +kernel
theorem dX11_riskOfTour_29 : decode cX11_riskOfTour 29 = .ok (.iaload, 1) := by decide +kernel
theorem dX11_riskOfTour_30 : decode cX11_riskOfTour 30 = .ok (.istore 7, 2) := by decide +kernel
theorem dX11_riskOfTour_32 : decode cX11_riskOfTour 32 = .ok (.iload 4, 2) := by decide +kernel
theorem dX11_riskOfTour_34 : decode cX11_riskOfTour 34 = .ok (.aload_n 0, 1) := by decide +kernel
theorem dX11_riskOfTour_35 : decode cX11_riskOfTour 35 = .ok (.iload 5, 2) := by decide +kernel
theorem dX11_riskOfTour_37 : decode cX11_riskOfTour 37 = .ok (.aload_n 0, 1) := by decide +kernel
theorem dX11_riskOfTour_38 : decode cX11_riskOfTour 38 = .ok (.getfield 23, 3) := by decide +kernel
theorem dX11_riskOfTour_41 : decode cX11_riskOfTour 41 = .ok (.iload 7, 2) := by decide +kernel
theorem dX11_riskOfTour_43 : decode cX11_riskOfTour 43 = .ok (.iaload, 1) := by decide +kernel
theorem dX11_riskOfTour_44 : decode cX11_riskOfTour 44 = .ok (.invokevirtual 210, 3) := by decide +kernel
theorem dX11_riskOfTour_47 : decode cX11_riskOfTour 47 = .ok (.iadd, 1) := by decide +kernel
theorem dX11_riskOfTour_48 : decode cX11_riskOfTour 48 = .ok (.istore 8, 2) := by decide +kernel
theorem dX11_riskOfTour_50 : decode cX11_riskOfTour 50 = .ok (.iload_n 3, 1) := by decide +kernel
theorem dX11_riskOfTour_51 : decode cX11_riskOfTour 51 = .ok (.aload_n 0, 1) := by decide +kernel
theorem dX11_riskOfTour_52 : decode cX11_riskOfTour 52 = .ok (.iload_n 1, 1) := by decide +kernel
theorem dX11_riskOfTour_53 : decode cX11_riskOfTour 53 = .ok (.iload 7, 2) := by decide +kernel
theorem dX11_riskOfTour_55 : decode cX11_riskOfTour 55 = .ok (.aload_n 0, 1) := by decide +kernel
theorem dX11_riskOfTour_56 : decode cX11_riskOfTour 56 = .ok (.iload 8, 2) := by decide +kernel
theorem dX11_riskOfTour_58 : decode cX11_riskOfTour 58 = .ok (.invokevirtual 213, 3) := by decide +kernel
theorem dX11_riskOfTour_61 : decode cX11_riskOfTour 61 = .ok (.invokevirtual 203, 3) := by decide +kernel
theorem dX11_riskOfTour_64 : decode cX11_riskOfTour 64 = .ok (.iadd, 1) := by decide +kernel
theorem dX11_riskOfTour_65 : decode cX11_riskOfTour 65 = .ok (.istore_n 3, 1) := by decide +kernel
theorem dX11_riskOfTour_66 : decode cX11_riskOfTour 66 = .ok (.iload 8, 2) := by decide +kernel
theorem dX11_riskOfTour_68 : decode cX11_riskOfTour 68 = .ok (.iconst 1, 1) := by decide +kernel
theorem dX11_riskOfTour_69 : decode cX11_riskOfTour 69 = .ok (.iadd, 1) := by decide +kernel
theorem dX11_riskOfTour_70 : decode cX11_riskOfTour 70 = .ok (.istore 4, 2) := by decide +kernel
theorem dX11_riskOfTour_72 : decode cX11_riskOfTour 72 = .ok (.aload_n 0, 1) := by decide +kernel
theorem dX11_riskOfTour_73 : decode cX11_riskOfTour 73 = .ok (.getfield 23, 3) := by decide +kernel
theorem dX11_riskOfTour_76 : decode cX11_riskOfTour 76 = .ok (.iload 7, 2) := by decide +kernel
theorem dX11_riskOfTour_78 : decode cX11_riskOfTour 78 = .ok (.iaload, 1) := by decide +kernel
theorem dX11_riskOfTour_79 : decode cX11_riskOfTour 79 = .ok (.istore 5, 2) := by decide +kernel
theorem dX11_riskOfTour_81 : decode cX11_riskOfTour 81 = .ok (.iinc 6 1, 3) := by decide +kernel
theorem dX11_riskOfTour_84 : decode cX11_riskOfTour 84 = .ok (.goto (-67), 3) := by decide +kernel
theorem dX11_riskOfTour_87 : decode cX11_riskOfTour 87 = .ok (.iload_n 3, 1) := by decide +kernel
theorem dX11_riskOfTour_88 : decode cX11_riskOfTour 88 = .ok (.ireturn, 1) := by decide +kernel
theorem dX11_endOfTour_0 : decode cX11_endOfTour 0 = .ok (.iconst 0, 1) := by decide +kernel
theorem dX11_endOfTour_1 : decode cX11_endOfTour 1 = .ok (.istore_n 2, 1) := by decide +kernel
theorem dX11_endOfTour_2 : decode cX11_endOfTour 2 = .ok (.aload_n 0, 1) := by decide +kernel
theorem dX11_endOfTour_3 : decode cX11_endOfTour 3 = .ok (.getfield 62, 3) := by decide +kernel
theorem dX11_endOfTour_6 : decode cX11_endOfTour 6 = .ok (.bipush 7, 2) := by decide +kernel
theorem dX11_endOfTour_8 : decode cX11_endOfTour 8 = .ok (.iaload, 1) := by decide +kernel
theorem dX11_endOfTour_9 : decode cX11_endOfTour 9 = .ok (.istore_n 3, 1) := by decide +kernel
theorem dX11_endOfTour_10 : decode cX11_endOfTour 10 = .ok (.iconst 0, 1) := by decide +kernel
theorem dX11_endOfTour_11 : decode cX11_endOfTour 11 = .ok (.istore 4, 2) := by decide +kernel
theorem dX11_endOfTour_13 : decode cX11_endOfTour 13 = .ok (.iload 4, 2) := by decide +kernel
theorem dX11_endOfTour_15 : decode cX11_endOfTour 15 = .ok (.iload_n 1, 1) := by decide +kernel
theorem dX11_endOfTour_16 : decode cX11_endOfTour 16 = .ok (.if_icmp .ge 53, 3) := by decide +kernel
theorem dX11_endOfTour_19 : decode cX11_endOfTour 19 = .ok (.iload_n 2, 1) := by decide +kernel
theorem dX11_endOfTour_20 : decode cX11_endOfTour 20 = .ok (.aload_n 0, 1) := by decide +kernel
theorem dX11_endOfTour_21 : decode cX11_endOfTour 21 = .ok (.iload_n 3, 1) := by decide +kernel
theorem dX11_endOfTour_22 : decode cX11_endOfTour 22 = .ok (.aload_n 0, 1) := by decide +kernel
theorem dX11_endOfTour_23 : decode cX11_endOfTour 23 = .ok (.getfield 23, 3) := by decide +kernel
theorem dX11_endOfTour_26 : decode cX11_endOfTour 26 = .ok (.aload_n 0, 1) := by decide +kernel
theorem dX11_endOfTour_27 : decode cX11_endOfTour 27 = .ok (.getfield 74, 3) := by decide +kernel
theorem dX11_endOfTour_30 : decode cX11_endOfTour 30 = .ok (.iload 4, 2) := by decide +kernel
theorem dX11_endOfTour_32 : decode cX11_endOfTour 32 = .ok (.iaload, 1) := by decide +kernel
theorem dX11_endOfTour_33 : decode cX11_endOfTour 33 = .ok (.iaload, 1) := by decide +kernel
theorem dX11_endOfTour_34 : decode cX11_endOfTour 34 = .ok (.invokevirtual 210, 3) := by decide +kernel
theorem dX11_endOfTour_37 : decode cX11_endOfTour 37 = .ok (.iload 4, 2) := by decide +kernel
theorem dX11_endOfTour_39 : decode cX11_endOfTour 39 = .ok (.ifCond .le 7, 3) := by decide +kernel
theorem dX11_endOfTour_42 : decode cX11_endOfTour 42 = .ok (.iconst 1, 1) := by decide +kernel
theorem dX11_endOfTour_43 : decode cX11_endOfTour 43 = .ok (.goto 4, 3) := by decide +kernel
theorem dX11_endOfTour_46 : decode cX11_endOfTour 46 = .ok (.iconst 0, 1) := by decide +kernel
theorem dX11_endOfTour_47 : decode cX11_endOfTour 47 = .ok (.iadd, 1) := by decide +kernel
theorem dX11_endOfTour_48 : decode cX11_endOfTour 48 = .ok (.iadd, 1) := by decide +kernel
theorem dX11_endOfTour_49 : decode cX11_endOfTour 49 = .ok (.istore_n 2, 1) := by decide +kernel
theorem dX11_endOfTour_50 : decode cX11_endOfTour 50 = .ok (.aload_n 0, 1) := by decide +kernel
theorem dX11_endOfTour_51 : decode cX11_endOfTour 51 = .ok (.getfield 23, 3) := by decide +kernel
theorem dX11_endOfTour_54 : decode cX11_endOfTour 54 = .ok (.aload_n 0, 1) := by decide +kernel
theorem dX11_endOfTour_55 : decode cX11_endOfTour 55 = .ok (.getfield 74, 3) := by decide +kernel
theorem dX11_endOfTour_58 : decode cX11_endOfTour 58 = .ok (.iload 4, 2) := by decide +kernel
theorem dX11_endOfTour_60 : decode cX11_endOfTour 60 = .ok (.iaload, 1) := by decide +kernel
theorem dX11_endOfTour_61 : decode cX11_endOfTour 61 = .ok (.iaload, 1) := by decide +kernel
theorem dX11_endOfTour_62 : decode cX11_endOfTour 62 = .ok (.istore_n 3, 1) := by decide +kernel
theorem dX11_endOfTour_63 : decode cX11_endOfTour 63 = .ok (.iinc 4 1, 3) := by decide +kernel
theorem dX11_endOfTour_66 : decode cX11_endOfTour 66 = .ok (.goto (-53), 3) := by decide +kernel
theorem dX11_endOfTour_69 : decode cX11_endOfTour 69 = .ok (.iload_n 2, 1) := by decide +kernel
theorem dX11_endOfTour_70 : decode cX11_endOfTour 70 = .ok (.ireturn, 1) := by decide +kernel
theorem dX11_round_0 : decode cX11_round 0 = .ok (.aload_n 0, 1) := by decide +kernel
theorem dX11_round_1 : decode cX11_round 1 = .ok (.iload_n 1, 1) := by decide +kernel
theorem dX11_round_2 : decode cX11_round 2 = .ok (.invokevirtual 197, 3) := by decide +kernel
theorem dX11_round_5 : decode cX11_round 5 = .ok (.ifCond .eq 32, 3) := by decide +kernel
theorem dX11_round_8 : decode cX11_round 8 = .ok (.aload_n 0, 1) := by decide +kernel
theorem dX11_round_9 : decode cX11_round 9 = .ok (.iload_n 2, 1) := by decide +kernel
theorem dX11_round_10 : decode cX11_round 10 = .ok (.invokevirtual 89, 3) := by decide +kernel
theorem dX11_round_13 : decode cX11_round 13 = .ok (.ifCond .eq 24, 3) := by decide +kernel
theorem dX11_round_16 : decode cX11_round 16 = .ok (.iload_n 3, 1) := by decide +kernel
theorem dX11_round_17 : decode cX11_round 17 = .ok (.ifCond .lt 20, 3) := by decide +kernel
theorem dX11_round_20 : decode cX11_round 20 = .ok (.iload_n 3, 1) := by decide +kernel
theorem dX11_round_21 : decode cX11_round 21 = .ok (.bipush 20, 2) := by decide +kernel
theorem dX11_round_23 : decode cX11_round 23 = .ok (.if_icmp .gt 14, 3) := by decide +kernel
theorem dX11_round_26 : decode cX11_round 26 = .ok (.iload 4, 2) := by decide +kernel
theorem dX11_round_28 : decode cX11_round 28 = .ok (.ifCond .lt 9, 3) := by decide +kernel
theorem dX11_round_31 : decode cX11_round 31 = .ok (.iload 4, 2) := by decide +kernel
theorem dX11_round_33 : decode cX11_round 33 = .ok (.iconst 2, 1) := by decide +kernel
theorem dX11_round_34 : decode cX11_round 34 = .ok (.if_icmp .le 10, 3) := by decide +kernel
theorem dX11_round_37 : decode cX11_round 37 = .ok (.aload_n 0, 1) := by decide +kernel
theorem dX11_round_38 : decode cX11_round 38 = .ok (.bipush (-2), 2) := by decide +kernel
theorem dX11_round_40 : decode cX11_round 40 = .ok (.invokevirtual 93, 3) := by decide +kernel
theorem dX11_round_43 : decode cX11_round 43 = .ok (.ireturn, 1) := by decide +kernel
theorem dX11_round_44 : decode cX11_round 44 = .ok (.aload_n 0, 1) := by decide +kernel
theorem dX11_round_45 : decode cX11_round 45 = .ok (.iload_n 2, 1) := by decide +kernel
theorem dX11_round_46 : decode cX11_round 46 = .ok (.iload_n 3, 1) := by decide +kernel
theorem dX11_round_47 : decode cX11_round 47 = .ok (.invokevirtual 216, 3) := by decide +kernel
theorem dX11_round_50 : decode cX11_round 50 = .ok (.istore 5, 2) := by decide +kernel
theorem dX11_round_52 : decode cX11_round 52 = .ok (.iload 5, 2) := by decide +kernel
theorem dX11_round_54 : decode cX11_round 54 = .ok (.ifCond .ge 10, 3) := by decide +kernel
theorem dX11_round_57 : decode cX11_round 57 = .ok (.aload_n 0, 1) := by decide +kernel
theorem dX11_round_58 : decode cX11_round 58 = .ok (.iload 5, 2) := by decide +kernel
theorem dX11_round_60 : decode cX11_round 60 = .ok (.invokevirtual 93, 3) := by decide +kernel
theorem dX11_round_63 : decode cX11_round 63 = .ok (.ireturn, 1) := by decide +kernel
theorem dX11_round_64 : decode cX11_round 64 = .ok (.iload 4, 2) := by decide +kernel
theorem dX11_round_66 : decode cX11_round 66 = .ok (.ifCond .ne 10, 3) := by decide +kernel
theorem dX11_round_69 : decode cX11_round 69 = .ok (.aload_n 0, 1) := by decide +kernel
theorem dX11_round_70 : decode cX11_round 70 = .ok (.iload_n 1, 1) := by decide +kernel
theorem dX11_round_71 : decode cX11_round 71 = .ok (.iload_n 3, 1) := by decide +kernel
theorem dX11_round_72 : decode cX11_round 72 = .ok (.invokevirtual 219, 3) := by decide +kernel
theorem dX11_round_75 : decode cX11_round 75 = .ok (.ireturn, 1) := by decide +kernel
theorem dX11_round_76 : decode cX11_round 76 = .ok (.iload 4, 2) := by decide +kernel
theorem dX11_round_78 : decode cX11_round 78 = .ok (.iconst 1, 1) := by decide +kernel
theorem dX11_round_79 : decode cX11_round 79 = .ok (.if_icmp .ne 9, 3) := by decide +kernel
theorem dX11_round_82 : decode cX11_round 82 = .ok (.aload_n 0, 1) := by decide +kernel
theorem dX11_round_83 : decode cX11_round 83 = .ok (.iload_n 3, 1) := by decide +kernel
theorem dX11_round_84 : decode cX11_round 84 = .ok (.invokevirtual 222, 3) := by decide +kernel
theorem dX11_round_87 : decode cX11_round 87 = .ok (.ireturn, 1) := by decide +kernel
theorem dX11_round_88 : decode cX11_round 88 = .ok (.iconst 0, 1) := by decide +kernel
theorem dX11_round_89 : decode cX11_round 89 = .ok (.istore 6, 2) := by decide +kernel
theorem dX11_round_91 : decode cX11_round 91 = .ok (.iconst 0, 1) := by decide +kernel
theorem dX11_round_92 : decode cX11_round 92 = .ok (.istore 7, 2) := by decide +kernel
theorem dX11_round_94 : decode cX11_round 94 = .ok (.iload 7, 2) := by decide +kernel
theorem dX11_round_96 : decode cX11_round 96 = .ok (.iload_n 3, 1) := by decide +kernel
theorem dX11_round_97 : decode cX11_round 97 = .ok (.if_icmp .ge 46, 3) := by decide +kernel
theorem dX11_round_100 : decode cX11_round 100 = .ok (.aload_n 0, 1) := by decide +kernel
theorem dX11_round_101 : decode cX11_round 101 = .ok (.aload_n 0, 1) := by decide +kernel
theorem dX11_round_102 : decode cX11_round 102 = .ok (.getfield 74, 3) := by decide +kernel
theorem dX11_round_105 : decode cX11_round 105 = .ok (.iload 7, 2) := by decide +kernel
theorem dX11_round_107 : decode cX11_round 107 = .ok (.iaload, 1) := by decide +kernel
theorem dX11_round_108 : decode cX11_round 108 = .ok (.aload_n 0, 1) := by decide +kernel
theorem dX11_round_109 : decode cX11_round 109 = .ok (.getfield 62, 3) := by decide +kernel
theorem dX11_round_112 : decode cX11_round 112 = .ok (.iconst 5, 1) := by decide +kernel
theorem dX11_round_113 : decode cX11_round 113 = .ok (.iaload, 1) := by decide +kernel
theorem dX11_round_114 : decode cX11_round 114 = .ok (.invokevirtual 136, 3) := by decide +kernel
theorem dX11_round_117 : decode cX11_round 117 = .ok (.ifCond .ne 17, 3) := by decide +kernel
theorem dX11_round_120 : decode cX11_round 120 = .ok (.aload_n 0, 1) := by decide +kernel
theorem dX11_round_121 : decode cX11_round 121 = .ok (.aload_n 0, 1) := by decide +kernel
theorem dX11_round_122 : decode cX11_round 122 = .ok (.getfield 74, 3) := by decide +kernel
theorem dX11_round_125 : decode cX11_round 125 = .ok (.iload 7, 2) := by decide +kernel
theorem dX11_round_127 : decode cX11_round 127 = .ok (.iaload, 1) := by decide +kernel
theorem dX11_round_128 : decode cX11_round 128 = .ok (.invokevirtual 139, 3) := by decide +kernel
theorem dX11_round_131 : decode cX11_round 131 = .ok (.ifCond .ne 6, 3) := by decide +kernel
theorem dX11_round_134 : decode cX11_round 134 = .ok (.iinc 6 1, 3) := by decide +kernel
theorem dX11_round_137 : decode cX11_round 137 = .ok (.iinc 7 1, 3) := by decide +kernel
theorem dX11_round_140 : decode cX11_round 140 = .ok (.goto (-46), 3) := by decide +kernel
theorem dX11_round_143 : decode cX11_round 143 = .ok (.iload 6, 2) := by decide +kernel
theorem dX11_round_145 : decode cX11_round 145 = .ok (.ireturn, 1) := by decide +kernel
theorem dX11_membersOf_0 : decode cX11_membersOf 0 = .ok (.iload_n 1, 1) := by decide +kernel
theorem dX11_membersOf_1 : decode cX11_membersOf 1 = .ok (.ifCond .lt 14, 3) := by decide +kernel
theorem dX11_membersOf_4 : decode cX11_membersOf 4 = .ok (.iload_n 1, 1) := by decide +kernel
theorem dX11_membersOf_5 : decode cX11_membersOf 5 = .ok (.aload_n 0, 1) := by decide +kernel
theorem dX11_membersOf_6 : decode cX11_membersOf 6 = .ok (.getfield 62, 3) := by decide +kernel
theorem dX11_membersOf_9 : decode cX11_membersOf 9 = .ok (.iconst 0, 1) := by decide +kernel
theorem dX11_membersOf_10 : decode cX11_membersOf 10 = .ok (.iaload, 1) := by decide +kernel
theorem dX11_membersOf_11 : decode cX11_membersOf 11 = .ok (.ishr, 1) := by decide +kernel
theorem dX11_membersOf_12 : decode cX11_membersOf 12 = .ok (.ifCond .eq 5, 3) := by decide +kernel
theorem dX11_membersOf_15 : decode cX11_membersOf 15 = .ok (.iconst (-1), 1) := by decide +kernel
theorem dX11_membersOf_16 : decode cX11_membersOf 16 = .ok (.ireturn, 1) := by decide +kernel
theorem dX11_membersOf_17 : decode cX11_membersOf 17 = .ok (.iconst 0, 1) := by decide +kernel
theorem dX11_membersOf_18 : decode cX11_membersOf 18 = .ok (.istore_n 2, 1) := by decide +kernel
theorem dX11_membersOf_19 : decode cX11_membersOf 19 = .ok (.iconst 0, 1) := by decide +kernel
theorem dX11_membersOf_20 : decode cX11_membersOf 20 = .ok (.istore_n 3, 1) := by decide +kernel
theorem dX11_membersOf_21 : decode cX11_membersOf 21 = .ok (.iload_n 3, 1) := by decide +kernel
theorem dX11_membersOf_22 : decode cX11_membersOf 22 = .ok (.aload_n 0, 1) := by decide +kernel
theorem dX11_membersOf_23 : decode cX11_membersOf 23 = .ok (.getfield 62, 3) := by decide +kernel
theorem dX11_membersOf_26 : decode cX11_membersOf 26 = .ok (.iconst 0, 1) := by decide +kernel
theorem dX11_membersOf_27 : decode cX11_membersOf 27 = .ok (.iaload, 1) := by decide +kernel
theorem dX11_membersOf_28 : decode cX11_membersOf 28 = .ok (.if_icmp .ge 38, 3) := by decide +kernel
theorem dX11_membersOf_31 : decode cX11_membersOf 31 = .ok (.iload_n 1, 1) := by decide +kernel
theorem dX11_membersOf_32 : decode cX11_membersOf 32 = .ok (.iload_n 3, 1) := by decide +kernel
theorem dX11_membersOf_33 : decode cX11_membersOf 33 = .ok (.ishr, 1) := by decide +kernel
theorem dX11_membersOf_34 : decode cX11_membersOf 34 = .ok (.iconst 1, 1) := by decide +kernel
theorem dX11_membersOf_35 : decode cX11_membersOf 35 = .ok (.iand, 1) := by decide +kernel
theorem dX11_membersOf_36 : decode cX11_membersOf 36 = .ok (.ifCond .ne 6, 3) := by decide +kernel
theorem dX11_membersOf_39 : decode cX11_membersOf 39 = .ok (.goto 21, 3) := by decide +kernel
theorem dX11_membersOf_42 : decode cX11_membersOf 42 = .ok (.iload_n 2, 1) := by decide +kernel
theorem dX11_membersOf_43 : decode cX11_membersOf 43 = .ok (.bipush 6, 2) := by decide +kernel
theorem dX11_membersOf_45 : decode cX11_membersOf 45 = .ok (.if_icmp .ne 5, 3) := by decide +kernel
theorem dX11_membersOf_48 : decode cX11_membersOf 48 = .ok (.iconst (-1), 1) := by decide +kernel
theorem dX11_membersOf_49 : decode cX11_membersOf 49 = .ok (.ireturn, 1) := by decide +kernel
theorem dX11_membersOf_50 : decode cX11_membersOf 50 = .ok (.aload_n 0, 1) := by decide +kernel
theorem dX11_membersOf_51 : decode cX11_membersOf 51 = .ok (.getfield 80, 3) := by decide +kernel
theorem dX11_membersOf_54 : decode cX11_membersOf 54 = .ok (.iload_n 2, 1) := by decide +kernel
theorem dX11_membersOf_55 : decode cX11_membersOf 55 = .ok (.iinc 2 1, 3) := by decide +kernel
theorem dX11_membersOf_58 : decode cX11_membersOf 58 = .ok (.iload_n 3, 1) := by decide +kernel
theorem dX11_membersOf_59 : decode cX11_membersOf 59 = .ok (.iastore, 1) := by decide +kernel
theorem dX11_membersOf_60 : decode cX11_membersOf 60 = .ok (.iinc 3 1, 3) := by decide +kernel
theorem dX11_membersOf_63 : decode cX11_membersOf 63 = .ok (.goto (-42), 3) := by decide +kernel
theorem dX11_membersOf_66 : decode cX11_membersOf 66 = .ok (.iload_n 2, 1) := by decide +kernel
theorem dX11_membersOf_67 : decode cX11_membersOf 67 = .ok (.ireturn, 1) := by decide +kernel
theorem dX11_nextOrder_0 : decode cX11_nextOrder 0 = .ok (.iload_n 1, 1) := by decide +kernel
theorem dX11_nextOrder_1 : decode cX11_nextOrder 1 = .ok (.iconst 2, 1) := by decide +kernel
theorem dX11_nextOrder_2 : decode cX11_nextOrder 2 = .ok (.isub, 1) := by decide +kernel
theorem dX11_nextOrder_3 : decode cX11_nextOrder 3 = .ok (.istore_n 2, 1) := by decide +kernel
theorem dX11_nextOrder_4 : decode cX11_nextOrder 4 = .ok (.iload_n 2, 1) := by decide +kernel
theorem dX11_nextOrder_5 : decode cX11_nextOrder 5 = .ok (.ifCond .lt 26, 3) := by decide +kernel
theorem dX11_nextOrder_8 : decode cX11_nextOrder 8 = .ok (.aload_n 0, 1) := by decide +kernel
theorem dX11_nextOrder_9 : decode cX11_nextOrder 9 = .ok (.getfield 77, 3) := by decide +kernel
theorem dX11_nextOrder_12 : decode cX11_nextOrder 12 = .ok (.iload_n 2, 1) := by decide +kernel
theorem dX11_nextOrder_13 : decode cX11_nextOrder 13 = .ok (.iaload, 1) := by decide +kernel
theorem dX11_nextOrder_14 : decode cX11_nextOrder 14 = .ok (.aload_n 0, 1) := by decide +kernel
theorem dX11_nextOrder_15 : decode cX11_nextOrder 15 = .ok (.getfield 77, 3) := by decide +kernel
theorem dX11_nextOrder_18 : decode cX11_nextOrder 18 = .ok (.iload_n 2, 1) := by decide +kernel
theorem dX11_nextOrder_19 : decode cX11_nextOrder 19 = .ok (.iconst 1, 1) := by decide +kernel
theorem dX11_nextOrder_20 : decode cX11_nextOrder 20 = .ok (.iadd, 1) := by decide +kernel
theorem dX11_nextOrder_21 : decode cX11_nextOrder 21 = .ok (.iaload, 1) := by decide +kernel
theorem dX11_nextOrder_22 : decode cX11_nextOrder 22 = .ok (.if_icmp .le 9, 3) := by decide +kernel
theorem dX11_nextOrder_25 : decode cX11_nextOrder 25 = .ok (.iinc 2 (-1), 3) := by decide +kernel
theorem dX11_nextOrder_28 : decode cX11_nextOrder 28 = .ok (.goto (-24), 3) := by decide +kernel
theorem dX11_nextOrder_31 : decode cX11_nextOrder 31 = .ok (.iload_n 2, 1) := by decide +kernel
theorem dX11_nextOrder_32 : decode cX11_nextOrder 32 = .ok (.ifCond .ge 5, 3) := by decide +kernel
theorem dX11_nextOrder_35 : decode cX11_nextOrder 35 = .ok (.iconst 0, 1) := by decide +kernel
theorem dX11_nextOrder_36 : decode cX11_nextOrder 36 = .ok (.ireturn, 1) := by decide +kernel
theorem dX11_nextOrder_37 : decode cX11_nextOrder 37 = .ok (.iload_n 1, 1) := by decide +kernel
theorem dX11_nextOrder_38 : decode cX11_nextOrder 38 = .ok (.iconst 1, 1) := by decide +kernel
theorem dX11_nextOrder_39 : decode cX11_nextOrder 39 = .ok (.isub, 1) := by decide +kernel
theorem dX11_nextOrder_40 : decode cX11_nextOrder 40 = .ok (.istore_n 3, 1) := by decide +kernel
theorem dX11_nextOrder_41 : decode cX11_nextOrder 41 = .ok (.aload_n 0, 1) := by decide +kernel
theorem dX11_nextOrder_42 : decode cX11_nextOrder 42 = .ok (.getfield 77, 3) := by decide +kernel
theorem dX11_nextOrder_45 : decode cX11_nextOrder 45 = .ok (.iload_n 3, 1) := by decide +kernel
theorem dX11_nextOrder_46 : decode cX11_nextOrder 46 = .ok (.iaload, 1) := by decide +kernel
theorem dX11_nextOrder_47 : decode cX11_nextOrder 47 = .ok (.aload_n 0, 1) := by decide +kernel
theorem dX11_nextOrder_48 : decode cX11_nextOrder 48 = .ok (.getfield 77, 3) := by decide +kernel
theorem dX11_nextOrder_51 : decode cX11_nextOrder 51 = .ok (.iload_n 2, 1) := by decide +kernel
theorem dX11_nextOrder_52 : decode cX11_nextOrder 52 = .ok (.iaload, 1) := by decide +kernel
theorem dX11_nextOrder_53 : decode cX11_nextOrder 53 = .ok (.if_icmp .ge 9, 3) := by decide +kernel
theorem dX11_nextOrder_56 : decode cX11_nextOrder 56 = .ok (.iinc 3 (-1), 3) := by decide +kernel
theorem dX11_nextOrder_59 : decode cX11_nextOrder 59 = .ok (.goto (-18), 3) := by decide +kernel
theorem dX11_nextOrder_62 : decode cX11_nextOrder 62 = .ok (.aload_n 0, 1) := by decide +kernel
theorem dX11_nextOrder_63 : decode cX11_nextOrder 63 = .ok (.getfield 77, 3) := by decide +kernel
theorem dX11_nextOrder_66 : decode cX11_nextOrder 66 = .ok (.iload_n 2, 1) := by decide +kernel
theorem dX11_nextOrder_67 : decode cX11_nextOrder 67 = .ok (.iaload, 1) := by decide +kernel
theorem dX11_nextOrder_68 : decode cX11_nextOrder 68 = .ok (.istore 4, 2) := by decide +kernel
theorem dX11_nextOrder_70 : decode cX11_nextOrder 70 = .ok (.aload_n 0, 1) := by decide +kernel
theorem dX11_nextOrder_71 : decode cX11_nextOrder 71 = .ok (.getfield 77, 3) := by decide +kernel
theorem dX11_nextOrder_74 : decode cX11_nextOrder 74 = .ok (.iload_n 2, 1) := by decide +kernel
theorem dX11_nextOrder_75 : decode cX11_nextOrder 75 = .ok (.aload_n 0, 1) := by decide +kernel
theorem dX11_nextOrder_76 : decode cX11_nextOrder 76 = .ok (.getfield 77, 3) := by decide +kernel
theorem dX11_nextOrder_79 : decode cX11_nextOrder 79 = .ok (.iload_n 3, 1) := by decide +kernel
theorem dX11_nextOrder_80 : decode cX11_nextOrder 80 = .ok (.iaload, 1) := by decide +kernel
theorem dX11_nextOrder_81 : decode cX11_nextOrder 81 = .ok (.iastore, 1) := by decide +kernel
theorem dX11_nextOrder_82 : decode cX11_nextOrder 82 = .ok (.aload_n 0, 1) := by decide +kernel
theorem dX11_nextOrder_83 : decode cX11_nextOrder 83 = .ok (.getfield 77, 3) := by decide +kernel
theorem dX11_nextOrder_86 : decode cX11_nextOrder 86 = .ok (.iload_n 3, 1) := by decide +kernel
theorem dX11_nextOrder_87 : decode cX11_nextOrder 87 = .ok (.iload 4, 2) := by decide +kernel
theorem dX11_nextOrder_89 : decode cX11_nextOrder 89 = .ok (.iastore, 1) := by decide +kernel
theorem dX11_nextOrder_90 : decode cX11_nextOrder 90 = .ok (.iload_n 2, 1) := by decide +kernel
theorem dX11_nextOrder_91 : decode cX11_nextOrder 91 = .ok (.iconst 1, 1) := by decide +kernel
theorem dX11_nextOrder_92 : decode cX11_nextOrder 92 = .ok (.iadd, 1) := by decide +kernel
theorem dX11_nextOrder_93 : decode cX11_nextOrder 93 = .ok (.istore 5, 2) := by decide +kernel
theorem dX11_nextOrder_95 : decode cX11_nextOrder 95 = .ok (.iload_n 1, 1) := by decide +kernel
theorem dX11_nextOrder_96 : decode cX11_nextOrder 96 = .ok (.iconst 1, 1) := by decide +kernel
theorem dX11_nextOrder_97 : decode cX11_nextOrder 97 = .ok (.isub, 1) := by decide +kernel
theorem dX11_nextOrder_98 : decode cX11_nextOrder 98 = .ok (.istore 6, 2) := by decide +kernel
theorem dX11_nextOrder_100 : decode cX11_nextOrder 100 = .ok (.iload 5, 2) := by decide +kernel
theorem dX11_nextOrder_102 : decode cX11_nextOrder 102 = .ok (.iload 6, 2) := by decide +kernel
theorem dX11_nextOrder_104 : decode cX11_nextOrder 104 = .ok (.if_icmp .ge 44, 3) := by decide +kernel
theorem dX11_nextOrder_107 : decode cX11_nextOrder 107 = .ok (.aload_n 0, 1) := by decide +kernel
theorem dX11_nextOrder_108 : decode cX11_nextOrder 108 = .ok (.getfield 77, 3) := by decide +kernel
theorem dX11_nextOrder_111 : decode cX11_nextOrder 111 = .ok (.iload 5, 2) := by decide +kernel
theorem dX11_nextOrder_113 : decode cX11_nextOrder 113 = .ok (.iaload, 1) := by decide +kernel
theorem dX11_nextOrder_114 : decode cX11_nextOrder 114 = .ok (.istore 4, 2) := by decide +kernel
theorem dX11_nextOrder_116 : decode cX11_nextOrder 116 = .ok (.aload_n 0, 1) := by decide +kernel
theorem dX11_nextOrder_117 : decode cX11_nextOrder 117 = .ok (.getfield 77, 3) := by decide +kernel
theorem dX11_nextOrder_120 : decode cX11_nextOrder 120 = .ok (.iload 5, 2) := by decide +kernel
theorem dX11_nextOrder_122 : decode cX11_nextOrder 122 = .ok (.aload_n 0, 1) := by decide +kernel
theorem dX11_nextOrder_123 : decode cX11_nextOrder 123 = .ok (.getfield 77, 3) := by decide +kernel
theorem dX11_nextOrder_126 : decode cX11_nextOrder 126 = .ok (.iload 6, 2) := by decide +kernel
theorem dX11_nextOrder_128 : decode cX11_nextOrder 128 = .ok (.iaload, 1) := by decide +kernel
theorem dX11_nextOrder_129 : decode cX11_nextOrder 129 = .ok (.iastore, 1) := by decide +kernel
theorem dX11_nextOrder_130 : decode cX11_nextOrder 130 = .ok (.aload_n 0, 1) := by decide +kernel
theorem dX11_nextOrder_131 : decode cX11_nextOrder 131 = .ok (.getfield 77, 3) := by decide +kernel
theorem dX11_nextOrder_134 : decode cX11_nextOrder 134 = .ok (.iload 6, 2) := by decide +kernel
theorem dX11_nextOrder_136 : decode cX11_nextOrder 136 = .ok (.iload 4, 2) := by decide +kernel
theorem dX11_nextOrder_138 : decode cX11_nextOrder 138 = .ok (.iastore, 1) := by decide +kernel
theorem dX11_nextOrder_139 : decode cX11_nextOrder 139 = .ok (.iinc 5 1, 3) := by decide +kernel
theorem dX11_nextOrder_142 : decode cX11_nextOrder 142 = .ok (.iinc 6 (-1), 3) := by decide +kernel
theorem dX11_nextOrder_145 : decode cX11_nextOrder 145 = .ok (.goto (-45), 3) := by decide +kernel
theorem dX11_nextOrder_148 : decode cX11_nextOrder 148 = .ok (.iconst 1, 1) := by decide +kernel
theorem dX11_nextOrder_149 : decode cX11_nextOrder 149 = .ok (.ireturn, 1) := by decide +kernel
theorem dX11_best_0 : decode cX11_best 0 = .ok (.aload_n 0, 1) := by decide +kernel
theorem dX11_best_1 : decode cX11_best 1 = .ok (.iload_n 2, 1) := by decide +kernel
theorem dX11_best_2 : decode cX11_best 2 = .ok (.invokevirtual 225, 3) := by decide +kernel
theorem dX11_best_5 : decode cX11_best 5 = .ok (.istore 5, 2) := by decide +kernel
theorem dX11_best_7 : decode cX11_best 7 = .ok (.aload_n 0, 1) := by decide +kernel
theorem dX11_best_8 : decode cX11_best 8 = .ok (.iload_n 1, 1) := by decide +kernel
theorem dX11_best_9 : decode cX11_best 9 = .ok (.invokevirtual 197, 3) := by decide +kernel
theorem dX11_best_12 : decode cX11_best 12 = .ok (.ifCond .eq 19, 3) := by decide +kernel
theorem dX11_best_15 : decode cX11_best 15 = .ok (.iload 5, 2) := by decide +kernel
theorem dX11_best_17 : decode cX11_best 17 = .ok (.ifCond .lt 14, 3) := by decide +kernel
theorem dX11_best_20 : decode cX11_best 20 = .ok (.iload_n 3, 1) := by decide +kernel
theorem dX11_best_21 : decode cX11_best 21 = .ok (.ifCond .lt 10, 3) := by decide +kernel
theorem dX11_best_24 : decode cX11_best 24 = .ok (.iload_n 3, 1) := by decide +kernel
theorem dX11_best_25 : decode cX11_best 25 = .ok (.sipush 999, 3) := by decide +kernel
theorem dX11_best_28 : decode cX11_best 28 = .ok (.if_icmp .le 10, 3) := by decide +kernel
theorem dX11_best_31 : decode cX11_best 31 = .ok (.aload_n 0, 1) := by decide +kernel
theorem dX11_best_32 : decode cX11_best 32 = .ok (.bipush (-2), 2) := by decide +kernel
theorem dX11_best_34 : decode cX11_best 34 = .ok (.invokevirtual 93, 3) := by decide +kernel
theorem dX11_best_37 : decode cX11_best 37 = .ok (.ireturn, 1) := by decide +kernel
theorem dX11_best_38 : decode cX11_best 38 = .ok (.iload 4, 2) := by decide +kernel
theorem dX11_best_40 : decode cX11_best 40 = .ok (.ifCond .eq 33, 3) := by decide +kernel
theorem dX11_best_43 : decode cX11_best 43 = .ok (.iload 4, 2) := by decide +kernel
theorem dX11_best_45 : decode cX11_best 45 = .ok (.iconst 1, 1) := by decide +kernel
theorem dX11_best_46 : decode cX11_best 46 = .ok (.if_icmp .eq 27, 3) := by decide +kernel
theorem dX11_best_49 : decode cX11_best 49 = .ok (.iload 4, 2) := by decide +kernel
theorem dX11_best_51 : decode cX11_best 51 = .ok (.bipush 10, 2) := by decide +kernel
theorem dX11_best_53 : decode cX11_best 53 = .ok (.if_icmp .lt 13, 3) := by decide +kernel
theorem dX11_best_56 : decode cX11_best 56 = .ok (.iload 4, 2) := by decide +kernel
theorem dX11_best_58 : decode cX11_best 58 = .ok (.bipush 10, 2) := by decide +kernel
theorem dX11_best_60 : decode cX11_best 60 = .ok (.iload 5, 2) := by decide +kernel
theorem dX11_best_62 : decode cX11_best 62 = .ok (.iadd, 1) := by decide +kernel
theorem dX11_best_63 : decode cX11_best 63 = .ok (.if_icmp .lt 10, 3) := by decide +kernel
theorem dX11_best_66 : decode cX11_best 66 = .ok (.aload_n 0, 1) := by decide +kernel
theorem dX11_best_67 : decode cX11_best 67 = .ok (.bipush (-2), 2) := by decide +kernel
theorem dX11_best_69 : decode cX11_best 69 = .ok (.invokevirtual 93, 3) := by decide +kernel
theorem dX11_best_72 : decode cX11_best 72 = .ok (.ireturn, 1) := by decide +kernel
theorem dX11_best_73 : decode cX11_best 73 = .ok (.iconst (-1), 1) := by decide +kernel
theorem dX11_best_74 : decode cX11_best 74 = .ok (.istore 6, 2) := by decide +kernel
theorem dX11_best_76 : decode cX11_best 76 = .ok (.iconst 0, 1) := by decide +kernel
theorem dX11_best_77 : decode cX11_best 77 = .ok (.istore 7, 2) := by decide +kernel
theorem dX11_best_79 : decode cX11_best 79 = .ok (.iconst 0, 1) := by decide +kernel
theorem dX11_best_80 : decode cX11_best 80 = .ok (.istore 8, 2) := by decide +kernel
theorem dX11_best_82 : decode cX11_best 82 = .ok (.iload 8, 2) := by decide +kernel
theorem dX11_best_84 : decode cX11_best 84 = .ok (.iload 5, 2) := by decide +kernel
theorem dX11_best_86 : decode cX11_best 86 = .ok (.if_icmp .ge 18, 3) := by decide +kernel
theorem dX11_best_89 : decode cX11_best 89 = .ok (.aload_n 0, 1) := by decide +kernel
theorem dX11_best_90 : decode cX11_best 90 = .ok (.getfield 77, 3) := by decide +kernel
theorem dX11_best_93 : decode cX11_best 93 = .ok (.iload 8, 2) := by decide +kernel
theorem dX11_best_95 : decode cX11_best 95 = .ok (.iload 8, 2) := by decide +kernel
theorem dX11_best_97 : decode cX11_best 97 = .ok (.iastore, 1) := by decide +kernel
theorem dX11_best_98 : decode cX11_best 98 = .ok (.iinc 8 1, 3) := by decide +kernel
theorem dX11_best_101 : decode cX11_best 101 = .ok (.goto (-19), 3) := by decide +kernel
theorem dX11_best_104 : decode cX11_best 104 = .ok (.iconst 1, 1) := by decide +kernel
theorem dX11_best_105 : decode cX11_best 105 = .ok (.istore 8, 2) := by decide +kernel
theorem dX11_best_107 : decode cX11_best 107 = .ok (.iload 8, 2) := by decide +kernel
theorem dX11_best_109 : decode cX11_best 109 = .ok (.ifCond .eq 136, 3) := by decide +kernel
theorem dX11_best_112 : decode cX11_best 112 = .ok (.iconst 0, 1) := by decide +kernel
theorem dX11_best_113 : decode cX11_best 113 = .ok (.istore 9, 2) := by decide +kernel
theorem dX11_best_115 : decode cX11_best 115 = .ok (.iload 9, 2) := by decide +kernel
theorem dX11_best_117 : decode cX11_best 117 = .ok (.iload 5, 2) := by decide +kernel
theorem dX11_best_119 : decode cX11_best 119 = .ok (.if_icmp .ge 28, 3) := by decide +kernel
theorem dX11_best_122 : decode cX11_best 122 = .ok (.aload_n 0, 1) := by decide +kernel
theorem dX11_best_123 : decode cX11_best 123 = .ok (.getfield 74, 3) := by decide +kernel
theorem dX11_best_126 : decode cX11_best 126 = .ok (.iload 9, 2) := by decide +kernel
theorem dX11_best_128 : decode cX11_best 128 = .ok (.aload_n 0, 1) := by decide +kernel
theorem dX11_best_129 : decode cX11_best 129 = .ok (.getfield 80, 3) := by decide +kernel
theorem dX11_best_132 : decode cX11_best 132 = .ok (.aload_n 0, 1) := by decide +kernel
theorem dX11_best_133 : decode cX11_best 133 = .ok (.getfield 77, 3) := by decide +kernel
theorem dX11_best_136 : decode cX11_best 136 = .ok (.iload 9, 2) := by decide +kernel
theorem dX11_best_138 : decode cX11_best 138 = .ok (.iaload, 1) := by decide +kernel
theorem dX11_best_139 : decode cX11_best 139 = .ok (.iaload, 1) := by decide +kernel
theorem dX11_best_140 : decode cX11_best 140 = .ok (.iastore, 1) := by decide +kernel
theorem dX11_best_141 : decode cX11_best 141 = .ok (.iinc 9 1, 3) := by decide +kernel
theorem dX11_best_144 : decode cX11_best 144 = .ok (.goto (-29), 3) := by decide +kernel
theorem dX11_best_147 : decode cX11_best 147 = .ok (.aload_n 0, 1) := by decide +kernel
theorem dX11_best_148 : decode cX11_best 148 = .ok (.iload 5, 2) := by decide +kernel
theorem dX11_best_150 : decode cX11_best 150 = .ok (.invokevirtual 222, 3) := by decide +kernel
theorem dX11_best_153 : decode cX11_best 153 = .ok (.istore 9, 2) := by decide +kernel
theorem dX11_best_155 : decode cX11_best 155 = .ok (.iload 9, 2) := by decide +kernel
theorem dX11_best_157 : decode cX11_best 157 = .ok (.iload_n 3, 1) := by decide +kernel
theorem dX11_best_158 : decode cX11_best 158 = .ok (.if_icmp .gt 76, 3) := by decide +kernel
theorem dX11_best_161 : decode cX11_best 161 = .ok (.aload_n 0, 1) := by decide +kernel
theorem dX11_best_162 : decode cX11_best 162 = .ok (.iload_n 1, 1) := by decide +kernel
theorem dX11_best_163 : decode cX11_best 163 = .ok (.iload 5, 2) := by decide +kernel
theorem dX11_best_165 : decode cX11_best 165 = .ok (.invokevirtual 219, 3) := by decide +kernel
theorem dX11_best_168 : decode cX11_best 168 = .ok (.istore 10, 2) := by decide +kernel
theorem dX11_best_170 : decode cX11_best 170 = .ok (.iload 6, 2) := by decide +kernel
theorem dX11_best_172 : decode cX11_best 172 = .ok (.ifCond .lt 24, 3) := by decide +kernel
theorem dX11_best_175 : decode cX11_best 175 = .ok (.iload 10, 2) := by decide +kernel
theorem dX11_best_177 : decode cX11_best 177 = .ok (.iload 6, 2) := by decide +kernel
theorem dX11_best_179 : decode cX11_best 179 = .ok (.if_icmp .lt 17, 3) := by decide +kernel
theorem dX11_best_182 : decode cX11_best 182 = .ok (.iload 10, 2) := by decide +kernel
theorem dX11_best_184 : decode cX11_best 184 = .ok (.iload 6, 2) := by decide +kernel
theorem dX11_best_186 : decode cX11_best 186 = .ok (.if_icmp .ne 48, 3) := by decide +kernel
theorem dX11_best_189 : decode cX11_best 189 = .ok (.iload 9, 2) := by decide +kernel
theorem dX11_best_191 : decode cX11_best 191 = .ok (.iload 7, 2) := by decide +kernel
theorem dX11_best_193 : decode cX11_best 193 = .ok (.if_icmp .ge 41, 3) := by decide +kernel
theorem dX11_best_196 : decode cX11_best 196 = .ok (.iload 10, 2) := by decide +kernel
theorem dX11_best_198 : decode cX11_best 198 = .ok (.istore 6, 2) := by decide +kernel
theorem dX11_best_200 : decode cX11_best 200 = .ok (.iload 9, 2) := by decide +kernel
theorem dX11_best_202 : decode cX11_best 202 = .ok (.istore 7, 2) := by decide +kernel
theorem dX11_best_204 : decode cX11_best 204 = .ok (.iconst 0, 1) := by decide +kernel
theorem dX11_best_205 : decode cX11_best 205 = .ok (.istore 11, 2) := by decide +kernel
theorem dX11_best_207 : decode cX11_best 207 = .ok (.iload 11, 2) := by decide +kernel
theorem dX11_best_209 : decode cX11_best 209 = .ok (.iload 5, 2) := by decide +kernel
theorem dX11_best_211 : decode cX11_best 211 = .ok (.if_icmp .ge 23, 3) := by decide +kernel
theorem dX11_best_214 : decode cX11_best 214 = .ok (.aload_n 0, 1) := by decide +kernel
theorem dX11_best_215 : decode cX11_best 215 = .ok (.getfield 83, 3) := by decide +kernel
theorem dX11_best_218 : decode cX11_best 218 = .ok (.iload 11, 2) := by decide +kernel
theorem dX11_best_220 : decode cX11_best 220 = .ok (.aload_n 0, 1) := by decide +kernel
theorem dX11_best_221 : decode cX11_best 221 = .ok (.getfield 74, 3) := by decide +kernel
theorem dX11_best_224 : decode cX11_best 224 = .ok (.iload 11, 2) := by decide +kernel
theorem dX11_best_226 : decode cX11_best 226 = .ok (.iaload, 1) := by decide +kernel
theorem dX11_best_227 : decode cX11_best 227 = .ok (.iastore, 1) := by decide +kernel
theorem dX11_best_228 : decode cX11_best 228 = .ok (.iinc 11 1, 3) := by decide +kernel
theorem dX11_best_231 : decode cX11_best 231 = .ok (.goto (-24), 3) := by decide +kernel
theorem dX11_best_234 : decode cX11_best 234 = .ok (.aload_n 0, 1) := by decide +kernel
theorem dX11_best_235 : decode cX11_best 235 = .ok (.iload 5, 2) := by decide +kernel
theorem dX11_best_237 : decode cX11_best 237 = .ok (.invokevirtual 228, 3) := by decide +kernel
theorem dX11_best_240 : decode cX11_best 240 = .ok (.istore 8, 2) := by decide +kernel
theorem dX11_best_242 : decode cX11_best 242 = .ok (.goto (-135), 3) := by decide +kernel
theorem dX11_best_245 : decode cX11_best 245 = .ok (.iload 6, 2) := by decide +kernel
theorem dX11_best_247 : decode cX11_best 247 = .ok (.ifCond .ge 10, 3) := by decide +kernel
theorem dX11_best_250 : decode cX11_best 250 = .ok (.aload_n 0, 1) := by decide +kernel
theorem dX11_best_251 : decode cX11_best 251 = .ok (.bipush (-5), 2) := by decide +kernel
theorem dX11_best_253 : decode cX11_best 253 = .ok (.invokevirtual 93, 3) := by decide +kernel
theorem dX11_best_256 : decode cX11_best 256 = .ok (.ireturn, 1) := by decide +kernel
theorem dX11_best_257 : decode cX11_best 257 = .ok (.iload 4, 2) := by decide +kernel
theorem dX11_best_259 : decode cX11_best 259 = .ok (.ifCond .ne 6, 3) := by decide +kernel
theorem dX11_best_262 : decode cX11_best 262 = .ok (.iload 6, 2) := by decide +kernel
theorem dX11_best_264 : decode cX11_best 264 = .ok (.ireturn, 1) := by decide +kernel
theorem dX11_best_265 : decode cX11_best 265 = .ok (.iload 4, 2) := by decide +kernel
theorem dX11_best_267 : decode cX11_best 267 = .ok (.iconst 1, 1) := by decide +kernel
theorem dX11_best_268 : decode cX11_best 268 = .ok (.if_icmp .ne 8, 3) := by decide +kernel
theorem dX11_best_271 : decode cX11_best 271 = .ok (.iload 7, 2) := by decide +kernel
theorem dX11_best_273 : decode cX11_best 273 = .ok (.goto 13, 3) := by decide +kernel
theorem dX11_best_276 : decode cX11_best 276 = .ok (.aload_n 0, 1) := by decide +kernel
theorem dX11_best_277 : decode cX11_best 277 = .ok (.getfield 83, 3) := by decide +kernel
theorem dX11_best_280 : decode cX11_best 280 = .ok (.iload 4, 2) := by decide +kernel
theorem dX11_best_282 : decode cX11_best 282 = .ok (.bipush 10, 2) := by decide +kernel
theorem dX11_best_284 : decode cX11_best 284 = .ok (.isub, 1) := by decide +kernel
theorem dX11_best_285 : decode cX11_best 285 = .ok (.iaload, 1) := by decide +kernel
theorem dX11_best_286 : decode cX11_best 286 = .ok (.ireturn, 1) := by decide +kernel
theorem dX11_team_0 : decode cX11_team 0 = .ok (.aload_n 0, 1) := by decide +kernel
theorem dX11_team_1 : decode cX11_team 1 = .ok (.iload_n 1, 1) := by decide +kernel
theorem dX11_team_2 : decode cX11_team 2 = .ok (.invokevirtual 225, 3) := by decide +kernel
theorem dX11_team_5 : decode cX11_team 5 = .ok (.istore 5, 2) := by decide +kernel
theorem dX11_team_7 : decode cX11_team 7 = .ok (.iload 5, 2) := by decide +kernel
theorem dX11_team_9 : decode cX11_team 9 = .ok (.ifCond .lt 22, 3) := by decide +kernel
theorem dX11_team_12 : decode cX11_team 12 = .ok (.iload_n 2, 1) := by decide +kernel
theorem dX11_team_13 : decode cX11_team 13 = .ok (.iconst 1, 1) := by decide +kernel
theorem dX11_team_14 : decode cX11_team 14 = .ok (.if_icmp .lt 17, 3) := by decide +kernel
theorem dX11_team_17 : decode cX11_team 17 = .ok (.iload_n 2, 1) := by decide +kernel
theorem dX11_team_18 : decode cX11_team 18 = .ok (.bipush 6, 2) := by decide +kernel
theorem dX11_team_20 : decode cX11_team 20 = .ok (.if_icmp .gt 11, 3) := by decide +kernel
theorem dX11_team_23 : decode cX11_team 23 = .ok (.aload_n 0, 1) := by decide +kernel
theorem dX11_team_24 : decode cX11_team 24 = .ok (.iload_n 3, 1) := by decide +kernel
theorem dX11_team_25 : decode cX11_team 25 = .ok (.invokevirtual 145, 3) := by decide +kernel
theorem dX11_team_28 : decode cX11_team 28 = .ok (.ifCond .ne 10, 3) := by decide +kernel
theorem dX11_team_31 : decode cX11_team 31 = .ok (.aload_n 0, 1) := by decide +kernel
theorem dX11_team_32 : decode cX11_team 32 = .ok (.bipush (-2), 2) := by decide +kernel
theorem dX11_team_34 : decode cX11_team 34 = .ok (.invokevirtual 93, 3) := by decide +kernel
theorem dX11_team_37 : decode cX11_team 37 = .ok (.ireturn, 1) := by decide +kernel
theorem dX11_team_38 : decode cX11_team 38 = .ok (.iload 4, 2) := by decide +kernel
theorem dX11_team_40 : decode cX11_team 40 = .ok (.iconst (-1), 1) := by decide +kernel
theorem dX11_team_41 : decode cX11_team 41 = .ok (.if_icmp .eq 28, 3) := by decide +kernel
theorem dX11_team_44 : decode cX11_team 44 = .ok (.aload_n 0, 1) := by decide +kernel
theorem dX11_team_45 : decode cX11_team 45 = .ok (.iload 4, 2) := by decide +kernel
theorem dX11_team_47 : decode cX11_team 47 = .ok (.invokevirtual 106, 3) := by decide +kernel
theorem dX11_team_50 : decode cX11_team 50 = .ok (.ifCond .eq 12, 3) := by decide +kernel
theorem dX11_team_53 : decode cX11_team 53 = .ok (.iload_n 1, 1) := by decide +kernel
theorem dX11_team_54 : decode cX11_team 54 = .ok (.iload 4, 2) := by decide +kernel
theorem dX11_team_56 : decode cX11_team 56 = .ok (.ishr, 1) := by decide +kernel
theorem dX11_team_57 : decode cX11_team 57 = .ok (.iconst 1, 1) := by decide +kernel
theorem dX11_team_58 : decode cX11_team 58 = .ok (.iand, 1) := by decide +kernel
theorem dX11_team_59 : decode cX11_team 59 = .ok (.ifCond .ne 10, 3) := by decide +kernel
theorem dX11_team_62 : decode cX11_team 62 = .ok (.aload_n 0, 1) := by decide +kernel
theorem dX11_team_63 : decode cX11_team 63 = .ok (.bipush (-2), 2) := by decide +kernel
theorem dX11_team_65 : decode cX11_team 65 = .ok (.invokevirtual 93, 3) := by decide +kernel
theorem dX11_team_68 : decode cX11_team 68 = .ok (.ireturn, 1) := by decide +kernel
theorem dX11_team_69 : decode cX11_team 69 = .ok (.aload_n 0, 1) := by decide +kernel
theorem dX11_team_70 : decode cX11_team 70 = .ok (.getfield 62, 3) := by decide +kernel
theorem dX11_team_73 : decode cX11_team 73 = .ok (.iconst 2, 1) := by decide +kernel
theorem dX11_team_74 : decode cX11_team 74 = .ok (.iaload, 1) := by decide +kernel
theorem dX11_team_75 : decode cX11_team 75 = .ok (.iload_n 2, 1) := by decide +kernel
theorem dX11_team_76 : decode cX11_team 76 = .ok (.imul, 1) := by decide +kernel
theorem dX11_team_77 : decode cX11_team 77 = .ok (.iload 5, 2) := by decide +kernel
theorem dX11_team_79 : decode cX11_team 79 = .ok (.if_icmp .ge 10, 3) := by decide +kernel
theorem dX11_team_82 : decode cX11_team 82 = .ok (.aload_n 0, 1) := by decide +kernel
theorem dX11_team_83 : decode cX11_team 83 = .ok (.bipush (-5), 2) := by decide +kernel
theorem dX11_team_85 : decode cX11_team 85 = .ok (.invokevirtual 93, 3) := by decide +kernel
theorem dX11_team_88 : decode cX11_team 88 = .ok (.ireturn, 1) := by decide +kernel
theorem dX11_team_89 : decode cX11_team 89 = .ok (.iconst 1, 1) := by decide +kernel
theorem dX11_team_90 : decode cX11_team 90 = .ok (.istore 6, 2) := by decide +kernel
theorem dX11_team_92 : decode cX11_team 92 = .ok (.iconst 0, 1) := by decide +kernel
theorem dX11_team_93 : decode cX11_team 93 = .ok (.istore 7, 2) := by decide +kernel
theorem dX11_team_95 : decode cX11_team 95 = .ok (.iload 7, 2) := by decide +kernel
theorem dX11_team_97 : decode cX11_team 97 = .ok (.iload 5, 2) := by decide +kernel
theorem dX11_team_99 : decode cX11_team 99 = .ok (.if_icmp .ge 20, 3) := by decide +kernel
theorem dX11_team_102 : decode cX11_team 102 = .ok (.iload 6, 2) := by decide +kernel
theorem dX11_team_104 : decode cX11_team 104 = .ok (.aload_n 0, 1) := by decide +kernel
theorem dX11_team_105 : decode cX11_team 105 = .ok (.getfield 62, 3) := by decide +kernel
theorem dX11_team_108 : decode cX11_team 108 = .ok (.iconst 2, 1) := by decide +kernel
theorem dX11_team_109 : decode cX11_team 109 = .ok (.iaload, 1) := by decide +kernel
theorem dX11_team_110 : decode cX11_team 110 = .ok (.imul, 1) := by decide +kernel
theorem dX11_team_111 : decode cX11_team 111 = .ok (.istore 6, 2) := by decide +kernel
theorem dX11_team_113 : decode cX11_team 113 = .ok (.iinc 7 1, 3) := by decide +kernel
theorem dX11_team_116 : decode cX11_team 116 = .ok (.goto (-21), 3) := by decide +kernel
theorem dX11_team_119 : decode cX11_team 119 = .ok (.iconst (-1), 1) := by decide +kernel
theorem dX11_team_120 : decode cX11_team 120 = .ok (.istore 7, 2) := by decide +kernel
theorem dX11_team_122 : decode cX11_team 122 = .ok (.iconst 0, 1) := by decide +kernel
theorem dX11_team_123 : decode cX11_team 123 = .ok (.istore 8, 2) := by decide +kernel
theorem dX11_team_125 : decode cX11_team 125 = .ok (.iload 8, 2) := by decide +kernel
theorem dX11_team_127 : decode cX11_team 127 = .ok (.iload 6, 2) := by decide +kernel
theorem dX11_team_129 : decode cX11_team 129 = .ok (.if_icmp .ge 203, 3) := by decide +kernel
theorem dX11_team_132 : decode cX11_team 132 = .ok (.iload 8, 2) := by decide +kernel
theorem dX11_team_134 : decode cX11_team 134 = .ok (.istore 9, 2) := by decide +kernel
theorem dX11_team_136 : decode cX11_team 136 = .ok (.lconst 0, 1) := by decide +kernel
theorem dX11_team_137 : decode cX11_team 137 = .ok (.lstore 10, 2) := by decide +kernel
theorem dX11_team_139 : decode cX11_team 139 = .ok (.iconst 0, 1) := by decide +kernel
theorem dX11_team_140 : decode cX11_team 140 = .ok (.istore 12, 2) := by decide +kernel
theorem dX11_team_142 : decode cX11_team 142 = .ok (.iload 5, 2) := by decide +kernel
theorem dX11_team_144 : decode cX11_team 144 = .ok (.iconst 1, 1) := by decide +kernel
theorem dX11_team_145 : decode cX11_team 145 = .ok (.isub, 1) := by decide +kernel
theorem dX11_team_146 : decode cX11_team 146 = .ok (.istore 13, 2) := by decide +kernel
theorem dX11_team_148 : decode cX11_team 148 = .ok (.iload 13, 2) := by decide +kernel
theorem dX11_team_150 : decode cX11_team 150 = .ok (.ifCond .lt 70, 3) := by decide +kernel
theorem dX11_team_153 : decode cX11_team 153 = .ok (.iload 9, 2) := by decide +kernel
theorem dX11_team_155 : decode cX11_team 155 = .ok (.aload_n 0, 1) := by decide +kernel
theorem dX11_team_156 : decode cX11_team 156 = .ok (.getfield 62, 3) := by decide +kernel
theorem dX11_team_159 : decode cX11_team 159 = .ok (.iconst 2, 1) := by decide +kernel
theorem dX11_team_160 : decode cX11_team 160 = .ok (.iaload, 1) := by decide +kernel
theorem dX11_team_161 : decode cX11_team 161 = .ok (.irem, 1) := by decide +kernel
theorem dX11_team_162 : decode cX11_team 162 = .ok (.istore 14, 2) := by decide +kernel
theorem dX11_team_164 : decode cX11_team 164 = .ok (.iload 9, 2) := by decide +kernel
theorem dX11_team_166 : decode cX11_team 166 = .ok (.aload_n 0, 1) := by decide +kernel
theorem dX11_team_167 : decode cX11_team 167 = .ok (.getfield 62, 3) := by decide +kernel
theorem dX11_team_170 : decode cX11_team 170 = .ok (.iconst 2, 1) := by decide +kernel
theorem dX11_team_171 : decode cX11_team 171 = .ok (.iaload, 1) := by decide +kernel
theorem dX11_team_172 : decode cX11_team 172 = .ok (.idiv, 1) := by decide +kernel
theorem dX11_team_173 : decode cX11_team 173 = .ok (.istore 9, 2) := by decide +kernel
theorem dX11_team_175 : decode cX11_team 175 = .ok (.aload_n 0, 1) := by decide +kernel
theorem dX11_team_176 : decode cX11_team 176 = .ok (.getfield 77, 3) := by decide +kernel
theorem dX11_team_179 : decode cX11_team 179 = .ok (.iload 13, 2) := by decide +kernel
theorem dX11_team_181 : decode cX11_team 181 = .ok (.iload 14, 2) := by decide +kernel
theorem dX11_team_183 : decode cX11_team 183 = .ok (.iastore, 1) := by decide +kernel
theorem dX11_team_184 : decode cX11_team 184 = .ok (.lload 10, 2) := by decide +kernel
theorem dX11_team_186 : decode cX11_team 186 = .ok (.lconst 1, 1) := by decide +kernel
theorem dX11_team_187 : decode cX11_team 187 = .ok (.iconst 4, 1) := by decide +kernel
theorem dX11_team_188 : decode cX11_team 188 = .ok (.iload 14, 2) := by decide +kernel
theorem dX11_team_190 : decode cX11_team 190 = .ok (.imul, 1) := by decide +kernel
theorem dX11_team_191 : decode cX11_team 191 = .ok (.lshl, 1) := by decide +kernel
theorem dX11_team_192 : decode cX11_team 192 = .ok (.ladd, 1) := by decide +kernel
theorem dX11_team_193 : decode cX11_team 193 = .ok (.lstore 10, 2) := by decide +kernel
theorem dX11_team_195 : decode cX11_team 195 = .ok (.iload 12, 2) := by decide +kernel
theorem dX11_team_197 : decode cX11_team 197 = .ok (.aload_n 0, 1) := by decide +kernel
theorem dX11_team_198 : decode cX11_team 198 = .ok (.iload 14, 2) := by decide +kernel
theorem dX11_team_200 : decode cX11_team 200 = .ok (.aload_n 0, 1) := by decide +kernel
theorem dX11_team_201 : decode cX11_team 201 = .ok (.getfield 80, 3) := by decide +kernel
theorem dX11_team_204 : decode cX11_team 204 = .ok (.iload 13, 2) := by decide +kernel
theorem dX11_team_206 : decode cX11_team 206 = .ok (.iaload, 1) := by decide +kernel
theorem dX11_team_207 : decode cX11_team 207 = .ok (.iload_n 3, 1) := by decide +kernel
theorem dX11_team_208 : decode cX11_team 208 = .ok (.invokevirtual 203, 3) := by decide +kernel
theorem dX11_team_211 : decode cX11_team 211 = .ok (.iadd, 1) := by decide +kernel
theorem dX11_team_212 : decode cX11_team 212 = .ok (.istore 12, 2) := by decide +kernel
theorem dX11_team_214 : decode cX11_team 214 = .ok (.iinc 13 (-1), 3) := by decide +kernel
theorem dX11_team_217 : decode cX11_team 217 = .ok (.goto (-69), 3) := by decide +kernel
theorem dX11_team_220 : decode cX11_team 220 = .ok (.iload 7, 2) := by decide +kernel
theorem dX11_team_222 : decode cX11_team 222 = .ok (.ifCond .lt 10, 3) := by decide +kernel
theorem dX11_team_225 : decode cX11_team 225 = .ok (.iload 12, 2) := by decide +kernel
theorem dX11_team_227 : decode cX11_team 227 = .ok (.iload 7, 2) := by decide +kernel
theorem dX11_team_229 : decode cX11_team 229 = .ok (.if_icmp .ge 7, 3) := by decide +kernel
theorem dX11_team_232 : decode cX11_team 232 = .ok (.iconst 1, 1) := by decide +kernel
theorem dX11_team_233 : decode cX11_team 233 = .ok (.goto 4, 3) := by decide +kernel
theorem dX11_team_236 : decode cX11_team 236 = .ok (.iconst 0, 1) := by decide +kernel
theorem dX11_team_237 : decode cX11_team 237 = .ok (.istore 13, 2) := by decide +kernel
theorem dX11_team_239 : decode cX11_team 239 = .ok (.iconst 0, 1) := by decide +kernel
theorem dX11_team_240 : decode cX11_team 240 = .ok (.istore 14, 2) := by decide +kernel
theorem dX11_team_242 : decode cX11_team 242 = .ok (.iload 14, 2) := by decide +kernel
theorem dX11_team_244 : decode cX11_team 244 = .ok (.aload_n 0, 1) := by decide +kernel
theorem dX11_team_245 : decode cX11_team 245 = .ok (.getfield 62, 3) := by decide +kernel
theorem dX11_team_248 : decode cX11_team 248 = .ok (.iconst 2, 1) := by decide +kernel
theorem dX11_team_249 : decode cX11_team 249 = .ok (.iaload, 1) := by decide +kernel
theorem dX11_team_250 : decode cX11_team 250 = .ok (.if_icmp .ge 34, 3) := by decide +kernel
theorem dX11_team_253 : decode cX11_team 253 = .ok (.iload 13, 2) := by decide +kernel
theorem dX11_team_255 : decode cX11_team 255 = .ok (.ifCond .eq 29, 3) := by decide +kernel
theorem dX11_team_258 : decode cX11_team 258 = .ok (.lload 10, 2) := by decide +kernel
theorem dX11_team_260 : decode cX11_team 260 = .ok (.iconst 4, 1) := by decide +kernel
theorem dX11_team_261 : decode cX11_team 261 = .ok (.iload 14, 2) := by decide +kernel
theorem dX11_team_263 : decode cX11_team 263 = .ok (.imul, 1) := by decide +kernel
theorem dX11_team_264 : decode cX11_team 264 = .ok (.lshr, 1) := by decide +kernel
theorem dX11_team_265 : decode cX11_team 265 = .ok (.ldc2_w 231, 3) := by decide +kernel
theorem dX11_team_268 : decode cX11_team 268 = .ok (.land, 1) := by decide +kernel
theorem dX11_team_269 : decode cX11_team 269 = .ok (.iload_n 2, 1) := by decide +kernel
theorem dX11_team_270 : decode cX11_team 270 = .ok (.i2l, 1) := by decide +kernel
theorem dX11_team_271 : decode cX11_team 271 = .ok (.lcmp, 1) := by decide +kernel
theorem dX11_team_272 : decode cX11_team 272 = .ok (.ifCond .le 6, 3) := by decide +kernel
theorem dX11_team_275 : decode cX11_team 275 = .ok (.iconst 0, 1) := by decide +kernel
theorem dX11_team_276 : decode cX11_team 276 = .ok (.istore 13, 2) := by decide +kernel
theorem dX11_team_278 : decode cX11_team 278 = .ok (.iinc 14 1, 3) := by decide +kernel
theorem dX11_team_281 : decode cX11_team 281 = .ok (.goto (-39), 3) := by decide +kernel
theorem dX11_team_284 : decode cX11_team 284 = .ok (.iload 13, 2) := by decide +kernel
theorem dX11_team_286 : decode cX11_team 286 = .ok (.ifCond .ne 6, 3) := by decide +kernel
theorem dX11_team_289 : decode cX11_team 289 = .ok (.goto 37, 3) := by decide +kernel
theorem dX11_team_292 : decode cX11_team 292 = .ok (.iload 12, 2) := by decide +kernel
theorem dX11_team_294 : decode cX11_team 294 = .ok (.istore 7, 2) := by decide +kernel
theorem dX11_team_296 : decode cX11_team 296 = .ok (.iconst 0, 1) := by decide +kernel
theorem dX11_team_297 : decode cX11_team 297 = .ok (.istore 14, 2) := by decide +kernel
theorem dX11_team_299 : decode cX11_team 299 = .ok (.iload 14, 2) := by decide +kernel
theorem dX11_team_301 : decode cX11_team 301 = .ok (.iload 5, 2) := by decide +kernel
theorem dX11_team_303 : decode cX11_team 303 = .ok (.if_icmp .ge 23, 3) := by decide +kernel
theorem dX11_team_306 : decode cX11_team 306 = .ok (.aload_n 0, 1) := by decide +kernel
theorem dX11_team_307 : decode cX11_team 307 = .ok (.getfield 83, 3) := by decide +kernel
theorem dX11_team_310 : decode cX11_team 310 = .ok (.iload 14, 2) := by decide +kernel
theorem dX11_team_312 : decode cX11_team 312 = .ok (.aload_n 0, 1) := by decide +kernel
theorem dX11_team_313 : decode cX11_team 313 = .ok (.getfield 77, 3) := by decide +kernel
theorem dX11_team_316 : decode cX11_team 316 = .ok (.iload 14, 2) := by decide +kernel
theorem dX11_team_318 : decode cX11_team 318 = .ok (.iaload, 1) := by decide +kernel
theorem dX11_team_319 : decode cX11_team 319 = .ok (.iastore, 1) := by decide +kernel
theorem dX11_team_320 : decode cX11_team 320 = .ok (.iinc 14 1, 3) := by decide +kernel
theorem dX11_team_323 : decode cX11_team 323 = .ok (.goto (-24), 3) := by decide +kernel
theorem dX11_team_326 : decode cX11_team 326 = .ok (.iinc 8 1, 3) := by decide +kernel
theorem dX11_team_329 : decode cX11_team 329 = .ok (.goto (-204), 3) := by decide +kernel
theorem dX11_team_332 : decode cX11_team 332 = .ok (.iload 4, 2) := by decide +kernel
theorem dX11_team_334 : decode cX11_team 334 = .ok (.ifCond .ge 6, 3) := by decide +kernel
theorem dX11_team_337 : decode cX11_team 337 = .ok (.iload 7, 2) := by decide +kernel
theorem dX11_team_339 : decode cX11_team 339 = .ok (.ireturn, 1) := by decide +kernel
theorem dX11_team_340 : decode cX11_team 340 = .ok (.iconst (-1), 1) := by decide +kernel
theorem dX11_team_341 : decode cX11_team 341 = .ok (.istore 8, 2) := by decide +kernel
theorem dX11_team_343 : decode cX11_team 343 = .ok (.iconst 0, 1) := by decide +kernel
theorem dX11_team_344 : decode cX11_team 344 = .ok (.istore 9, 2) := by decide +kernel
theorem dX11_team_346 : decode cX11_team 346 = .ok (.iload 9, 2) := by decide +kernel
theorem dX11_team_348 : decode cX11_team 348 = .ok (.iload 5, 2) := by decide +kernel
theorem dX11_team_350 : decode cX11_team 350 = .ok (.if_icmp .ge 30, 3) := by decide +kernel
theorem dX11_team_353 : decode cX11_team 353 = .ok (.aload_n 0, 1) := by decide +kernel
theorem dX11_team_354 : decode cX11_team 354 = .ok (.getfield 80, 3) := by decide +kernel
theorem dX11_team_357 : decode cX11_team 357 = .ok (.iload 9, 2) := by decide +kernel
theorem dX11_team_359 : decode cX11_team 359 = .ok (.iaload, 1) := by decide +kernel
theorem dX11_team_360 : decode cX11_team 360 = .ok (.iload 4, 2) := by decide +kernel
theorem dX11_team_362 : decode cX11_team 362 = .ok (.if_icmp .ne 12, 3) := by decide +kernel
theorem dX11_team_365 : decode cX11_team 365 = .ok (.aload_n 0, 1) := by decide +kernel
theorem dX11_team_366 : decode cX11_team 366 = .ok (.getfield 83, 3) := by decide +kernel
theorem dX11_team_369 : decode cX11_team 369 = .ok (.iload 9, 2) := by decide +kernel
theorem dX11_team_371 : decode cX11_team 371 = .ok (.iaload, 1) := by decide +kernel
theorem dX11_team_372 : decode cX11_team 372 = .ok (.istore 8, 2) := by decide +kernel
theorem dX11_team_374 : decode cX11_team 374 = .ok (.iinc 9 1, 3) := by decide +kernel
theorem dX11_team_377 : decode cX11_team 377 = .ok (.goto (-31), 3) := by decide +kernel
theorem dX11_team_380 : decode cX11_team 380 = .ok (.iload 8, 2) := by decide +kernel
theorem dX11_team_382 : decode cX11_team 382 = .ok (.ireturn, 1) := by decide +kernel
theorem dX11_safest_0 : decode cX11_safest 0 = .ok (.aload_n 0, 1) := by decide +kernel
theorem dX11_safest_1 : decode cX11_safest 1 = .ok (.iload_n 1, 1) := by decide +kernel
theorem dX11_safest_2 : decode cX11_safest 2 = .ok (.invokevirtual 106, 3) := by decide +kernel
theorem dX11_safest_5 : decode cX11_safest 5 = .ok (.ifCond .eq 11, 3) := by decide +kernel
theorem dX11_safest_8 : decode cX11_safest 8 = .ok (.aload_n 0, 1) := by decide +kernel
theorem dX11_safest_9 : decode cX11_safest 9 = .ok (.iload_n 2, 1) := by decide +kernel
theorem dX11_safest_10 : decode cX11_safest 10 = .ok (.invokevirtual 145, 3) := by decide +kernel
theorem dX11_safest_13 : decode cX11_safest 13 = .ok (.ifCond .ne 10, 3) := by decide +kernel
theorem dX11_safest_16 : decode cX11_safest 16 = .ok (.aload_n 0, 1) := by decide +kernel
theorem dX11_safest_17 : decode cX11_safest 17 = .ok (.bipush (-2), 2) := by decide +kernel
theorem dX11_safest_19 : decode cX11_safest 19 = .ok (.invokevirtual 93, 3) := by decide +kernel
theorem dX11_safest_22 : decode cX11_safest 22 = .ok (.ireturn, 1) := by decide +kernel
theorem dX11_safest_23 : decode cX11_safest 23 = .ok (.aload_n 0, 1) := by decide +kernel
theorem dX11_safest_24 : decode cX11_safest 24 = .ok (.getfield 62, 3) := by decide +kernel
theorem dX11_safest_27 : decode cX11_safest 27 = .ok (.iconst 2, 1) := by decide +kernel
theorem dX11_safest_28 : decode cX11_safest 28 = .ok (.iaload, 1) := by decide +kernel
theorem dX11_safest_29 : decode cX11_safest 29 = .ok (.ifCond .ne 10, 3) := by decide +kernel
theorem dX11_safest_32 : decode cX11_safest 32 = .ok (.aload_n 0, 1) := by decide +kernel
theorem dX11_safest_33 : decode cX11_safest 33 = .ok (.bipush (-5), 2) := by decide +kernel
theorem dX11_safest_35 : decode cX11_safest 35 = .ok (.invokevirtual 93, 3) := by decide +kernel
theorem dX11_safest_38 : decode cX11_safest 38 = .ok (.ireturn, 1) := by decide +kernel
theorem dX11_safest_39 : decode cX11_safest 39 = .ok (.iconst 0, 1) := by decide +kernel
theorem dX11_safest_40 : decode cX11_safest 40 = .ok (.istore_n 3, 1) := by decide +kernel
theorem dX11_safest_41 : decode cX11_safest 41 = .ok (.iconst 1, 1) := by decide +kernel
theorem dX11_safest_42 : decode cX11_safest 42 = .ok (.istore 4, 2) := by decide +kernel
theorem dX11_safest_44 : decode cX11_safest 44 = .ok (.iload 4, 2) := by decide +kernel
theorem dX11_safest_46 : decode cX11_safest 46 = .ok (.aload_n 0, 1) := by decide +kernel
theorem dX11_safest_47 : decode cX11_safest 47 = .ok (.getfield 62, 3) := by decide +kernel
theorem dX11_safest_50 : decode cX11_safest 50 = .ok (.iconst 2, 1) := by decide +kernel
theorem dX11_safest_51 : decode cX11_safest 51 = .ok (.iaload, 1) := by decide +kernel
theorem dX11_safest_52 : decode cX11_safest 52 = .ok (.if_icmp .ge 30, 3) := by decide +kernel
theorem dX11_safest_55 : decode cX11_safest 55 = .ok (.aload_n 0, 1) := by decide +kernel
theorem dX11_safest_56 : decode cX11_safest 56 = .ok (.iload 4, 2) := by decide +kernel
theorem dX11_safest_58 : decode cX11_safest 58 = .ok (.iload_n 1, 1) := by decide +kernel
theorem dX11_safest_59 : decode cX11_safest 59 = .ok (.iload_n 2, 1) := by decide +kernel
theorem dX11_safest_60 : decode cX11_safest 60 = .ok (.invokevirtual 203, 3) := by decide +kernel
theorem dX11_safest_63 : decode cX11_safest 63 = .ok (.aload_n 0, 1) := by decide +kernel
theorem dX11_safest_64 : decode cX11_safest 64 = .ok (.iload_n 3, 1) := by decide +kernel
theorem dX11_safest_65 : decode cX11_safest 65 = .ok (.iload_n 1, 1) := by decide +kernel
theorem dX11_safest_66 : decode cX11_safest 66 = .ok (.iload_n 2, 1) := by decide +kernel
theorem dX11_safest_67 : decode cX11_safest 67 = .ok (.invokevirtual 203, 3) := by decide +kernel
theorem dX11_safest_70 : decode cX11_safest 70 = .ok (.if_icmp .ge 6, 3) := by decide +kernel
theorem dX11_safest_73 : decode cX11_safest 73 = .ok (.iload 4, 2) := by decide +kernel
theorem dX11_safest_75 : decode cX11_safest 75 = .ok (.istore_n 3, 1) := by decide +kernel
theorem dX11_safest_76 : decode cX11_safest 76 = .ok (.iinc 4 1, 3) := by decide +kernel
theorem dX11_safest_79 : decode cX11_safest 79 = .ok (.goto (-35), 3) := by decide +kernel
theorem dX11_safest_82 : decode cX11_safest 82 = .ok (.iload_n 3, 1) := by decide +kernel
theorem dX11_safest_83 : decode cX11_safest 83 = .ok (.ireturn, 1) := by decide +kernel
theorem dX11_missed_0 : decode cX11_missed 0 = .ok (.aload_n 0, 1) := by decide +kernel
theorem dX11_missed_1 : decode cX11_missed 1 = .ok (.iload_n 1, 1) := by decide +kernel
theorem dX11_missed_2 : decode cX11_missed 2 = .ok (.invokevirtual 197, 3) := by decide +kernel
theorem dX11_missed_5 : decode cX11_missed 5 = .ok (.ifCond .eq 43, 3) := by decide +kernel
theorem dX11_missed_8 : decode cX11_missed 8 = .ok (.aload_n 0, 1) := by decide +kernel
theorem dX11_missed_9 : decode cX11_missed 9 = .ok (.iload_n 2, 1) := by decide +kernel
theorem dX11_missed_10 : decode cX11_missed 10 = .ok (.invokevirtual 89, 3) := by decide +kernel
theorem dX11_missed_13 : decode cX11_missed 13 = .ok (.ifCond .eq 35, 3) := by decide +kernel
theorem dX11_missed_16 : decode cX11_missed 16 = .ok (.iload_n 3, 1) := by decide +kernel
theorem dX11_missed_17 : decode cX11_missed 17 = .ok (.ifCond .lt 31, 3) := by decide +kernel
theorem dX11_missed_20 : decode cX11_missed 20 = .ok (.iload_n 3, 1) := by decide +kernel
theorem dX11_missed_21 : decode cX11_missed 21 = .ok (.bipush 20, 2) := by decide +kernel
theorem dX11_missed_23 : decode cX11_missed 23 = .ok (.if_icmp .gt 25, 3) := by decide +kernel
theorem dX11_missed_26 : decode cX11_missed 26 = .ok (.iload 4, 2) := by decide +kernel
theorem dX11_missed_28 : decode cX11_missed 28 = .ok (.ifCond .lt 20, 3) := by decide +kernel
theorem dX11_missed_31 : decode cX11_missed 31 = .ok (.iload 4, 2) := by decide +kernel
theorem dX11_missed_33 : decode cX11_missed 33 = .ok (.iload_n 3, 1) := by decide +kernel
theorem dX11_missed_34 : decode cX11_missed 34 = .ok (.if_icmp .ge 14, 3) := by decide +kernel
theorem dX11_missed_37 : decode cX11_missed 37 = .ok (.iload 5, 2) := by decide +kernel
theorem dX11_missed_39 : decode cX11_missed 39 = .ok (.ifCond .lt 9, 3) := by decide +kernel
theorem dX11_missed_42 : decode cX11_missed 42 = .ok (.iload 5, 2) := by decide +kernel
theorem dX11_missed_44 : decode cX11_missed 44 = .ok (.iconst 2, 1) := by decide +kernel
theorem dX11_missed_45 : decode cX11_missed 45 = .ok (.if_icmp .le 10, 3) := by decide +kernel
theorem dX11_missed_48 : decode cX11_missed 48 = .ok (.aload_n 0, 1) := by decide +kernel
theorem dX11_missed_49 : decode cX11_missed 49 = .ok (.bipush (-2), 2) := by decide +kernel
theorem dX11_missed_51 : decode cX11_missed 51 = .ok (.invokevirtual 93, 3) := by decide +kernel
theorem dX11_missed_54 : decode cX11_missed 54 = .ok (.ireturn, 1) := by decide +kernel
theorem dX11_missed_55 : decode cX11_missed 55 = .ok (.aload_n 0, 1) := by decide +kernel
theorem dX11_missed_56 : decode cX11_missed 56 = .ok (.iload_n 2, 1) := by decide +kernel
theorem dX11_missed_57 : decode cX11_missed 57 = .ok (.iload_n 3, 1) := by decide +kernel
theorem dX11_missed_58 : decode cX11_missed 58 = .ok (.invokevirtual 216, 3) := by decide +kernel
theorem dX11_missed_61 : decode cX11_missed 61 = .ok (.istore 6, 2) := by decide +kernel
theorem dX11_missed_63 : decode cX11_missed 63 = .ok (.iload 6, 2) := by decide +kernel
theorem dX11_missed_65 : decode cX11_missed 65 = .ok (.ifCond .ge 10, 3) := by decide +kernel
theorem dX11_missed_68 : decode cX11_missed 68 = .ok (.aload_n 0, 1) := by decide +kernel
theorem dX11_missed_69 : decode cX11_missed 69 = .ok (.iload 6, 2) := by decide +kernel
theorem dX11_missed_71 : decode cX11_missed 71 = .ok (.invokevirtual 93, 3) := by decide +kernel
theorem dX11_missed_74 : decode cX11_missed 74 = .ok (.ireturn, 1) := by decide +kernel
theorem dX11_missed_75 : decode cX11_missed 75 = .ok (.iconst 0, 1) := by decide +kernel
theorem dX11_missed_76 : decode cX11_missed 76 = .ok (.istore 7, 2) := by decide +kernel
theorem dX11_missed_78 : decode cX11_missed 78 = .ok (.iconst 0, 1) := by decide +kernel
theorem dX11_missed_79 : decode cX11_missed 79 = .ok (.istore 8, 2) := by decide +kernel
theorem dX11_missed_81 : decode cX11_missed 81 = .ok (.iconst 0, 1) := by decide +kernel
theorem dX11_missed_82 : decode cX11_missed 82 = .ok (.istore 9, 2) := by decide +kernel
theorem dX11_missed_84 : decode cX11_missed 84 = .ok (.iconst 0, 1) := by decide +kernel
theorem dX11_missed_85 : decode cX11_missed 85 = .ok (.istore 10, 2) := by decide +kernel
theorem dX11_missed_87 : decode cX11_missed 87 = .ok (.aload_n 0, 1) := by decide +kernel
theorem dX11_missed_88 : decode cX11_missed 88 = .ok (.getfield 62, 3) := by decide +kernel
theorem dX11_missed_91 : decode cX11_missed 91 = .ok (.bipush 7, 2) := by decide +kernel
theorem dX11_missed_93 : decode cX11_missed 93 = .ok (.iaload, 1) := by decide +kernel
theorem dX11_missed_94 : decode cX11_missed 94 = .ok (.istore 11, 2) := by decide +kernel
theorem dX11_missed_96 : decode cX11_missed 96 = .ok (.iconst 0, 1) := by decide +kernel
theorem dX11_missed_97 : decode cX11_missed 97 = .ok (.istore 12, 2) := by decide +kernel
theorem dX11_missed_99 : decode cX11_missed 99 = .ok (.iload 12, 2) := by decide +kernel
theorem dX11_missed_101 : decode cX11_missed 101 = .ok (.iload_n 3, 1) := by decide +kernel
theorem dX11_missed_102 : decode cX11_missed 102 = .ok (.if_icmp .ge 125, 3) := by decide +kernel
theorem dX11_missed_105 : decode cX11_missed 105 = .ok (.iload 7, 2) := by decide +kernel
theorem dX11_missed_107 : decode cX11_missed 107 = .ok (.aload_n 0, 1) := by decide +kernel
theorem dX11_missed_108 : decode cX11_missed 108 = .ok (.iload 11, 2) := by decide +kernel
theorem dX11_missed_110 : decode cX11_missed 110 = .ok (.aload_n 0, 1) := by decide +kernel
theorem dX11_missed_111 : decode cX11_missed 111 = .ok (.getfield 23, 3) := by decide +kernel
theorem dX11_missed_114 : decode cX11_missed 114 = .ok (.aload_n 0, 1) := by decide +kernel
theorem dX11_missed_115 : decode cX11_missed 115 = .ok (.getfield 74, 3) := by decide +kernel
theorem dX11_missed_118 : decode cX11_missed 118 = .ok (.iload 12, 2) := by decide +kernel
theorem dX11_missed_120 : decode cX11_missed 120 = .ok (.iaload, 1) := by decide +kernel
theorem dX11_missed_121 : decode cX11_missed 121 = .ok (.iaload, 1) := by decide +kernel
theorem dX11_missed_122 : decode cX11_missed 122 = .ok (.invokevirtual 210, 3) := by decide +kernel
theorem dX11_missed_125 : decode cX11_missed 125 = .ok (.iload 12, 2) := by decide +kernel
theorem dX11_missed_127 : decode cX11_missed 127 = .ok (.ifCond .le 7, 3) := by decide +kernel
theorem dX11_missed_130 : decode cX11_missed 130 = .ok (.iconst 1, 1) := by decide +kernel
theorem dX11_missed_131 : decode cX11_missed 131 = .ok (.goto 4, 3) := by decide +kernel
theorem dX11_missed_134 : decode cX11_missed 134 = .ok (.iconst 0, 1) := by decide +kernel
theorem dX11_missed_135 : decode cX11_missed 135 = .ok (.iadd, 1) := by decide +kernel
theorem dX11_missed_136 : decode cX11_missed 136 = .ok (.iadd, 1) := by decide +kernel
theorem dX11_missed_137 : decode cX11_missed 137 = .ok (.istore 7, 2) := by decide +kernel
theorem dX11_missed_139 : decode cX11_missed 139 = .ok (.aload_n 0, 1) := by decide +kernel
theorem dX11_missed_140 : decode cX11_missed 140 = .ok (.getfield 23, 3) := by decide +kernel
theorem dX11_missed_143 : decode cX11_missed 143 = .ok (.aload_n 0, 1) := by decide +kernel
theorem dX11_missed_144 : decode cX11_missed 144 = .ok (.getfield 74, 3) := by decide +kernel
theorem dX11_missed_147 : decode cX11_missed 147 = .ok (.iload 12, 2) := by decide +kernel
theorem dX11_missed_149 : decode cX11_missed 149 = .ok (.iaload, 1) := by decide +kernel
theorem dX11_missed_150 : decode cX11_missed 150 = .ok (.iaload, 1) := by decide +kernel
theorem dX11_missed_151 : decode cX11_missed 151 = .ok (.istore 11, 2) := by decide +kernel
theorem dX11_missed_153 : decode cX11_missed 153 = .ok (.aload_n 0, 1) := by decide +kernel
theorem dX11_missed_154 : decode cX11_missed 154 = .ok (.iload 7, 2) := by decide +kernel
theorem dX11_missed_156 : decode cX11_missed 156 = .ok (.iload 8, 2) := by decide +kernel
theorem dX11_missed_158 : decode cX11_missed 158 = .ok (.iadd, 1) := by decide +kernel
theorem dX11_missed_159 : decode cX11_missed 159 = .ok (.invokevirtual 213, 3) := by decide +kernel
theorem dX11_missed_162 : decode cX11_missed 162 = .ok (.istore 13, 2) := by decide +kernel
theorem dX11_missed_164 : decode cX11_missed 164 = .ok (.iload 9, 2) := by decide +kernel
theorem dX11_missed_166 : decode cX11_missed 166 = .ok (.aload_n 0, 1) := by decide +kernel
theorem dX11_missed_167 : decode cX11_missed 167 = .ok (.iload_n 1, 1) := by decide +kernel
theorem dX11_missed_168 : decode cX11_missed 168 = .ok (.aload_n 0, 1) := by decide +kernel
theorem dX11_missed_169 : decode cX11_missed 169 = .ok (.getfield 74, 3) := by decide +kernel
theorem dX11_missed_172 : decode cX11_missed 172 = .ok (.iload 12, 2) := by decide +kernel
theorem dX11_missed_174 : decode cX11_missed 174 = .ok (.iaload, 1) := by decide +kernel
theorem dX11_missed_175 : decode cX11_missed 175 = .ok (.iload 13, 2) := by decide +kernel
theorem dX11_missed_177 : decode cX11_missed 177 = .ok (.invokevirtual 203, 3) := by decide +kernel
theorem dX11_missed_180 : decode cX11_missed 180 = .ok (.iadd, 1) := by decide +kernel
theorem dX11_missed_181 : decode cX11_missed 181 = .ok (.istore 9, 2) := by decide +kernel
theorem dX11_missed_183 : decode cX11_missed 183 = .ok (.iload 13, 2) := by decide +kernel
theorem dX11_missed_185 : decode cX11_missed 185 = .ok (.aload_n 0, 1) := by decide +kernel
theorem dX11_missed_186 : decode cX11_missed 186 = .ok (.iload 7, 2) := by decide +kernel
theorem dX11_missed_188 : decode cX11_missed 188 = .ok (.invokevirtual 213, 3) := by decide +kernel
theorem dX11_missed_191 : decode cX11_missed 191 = .ok (.if_icmp .le 6, 3) := by decide +kernel
theorem dX11_missed_194 : decode cX11_missed 194 = .ok (.iinc 10 1, 3) := by decide +kernel
theorem dX11_missed_197 : decode cX11_missed 197 = .ok (.iload 12, 2) := by decide +kernel
theorem dX11_missed_199 : decode cX11_missed 199 = .ok (.iload 4, 2) := by decide +kernel
theorem dX11_missed_201 : decode cX11_missed 201 = .ok (.if_icmp .ne 20, 3) := by decide +kernel
theorem dX11_missed_204 : decode cX11_missed 204 = .ok (.iload 12, 2) := by decide +kernel
theorem dX11_missed_206 : decode cX11_missed 206 = .ok (.iload_n 3, 1) := by decide +kernel
theorem dX11_missed_207 : decode cX11_missed 207 = .ok (.iconst 1, 1) := by decide +kernel
theorem dX11_missed_208 : decode cX11_missed 208 = .ok (.isub, 1) := by decide +kernel
theorem dX11_missed_209 : decode cX11_missed 209 = .ok (.if_icmp .ge 12, 3) := by decide +kernel
theorem dX11_missed_212 : decode cX11_missed 212 = .ok (.iconst 3, 1) := by decide +kernel
theorem dX11_missed_213 : decode cX11_missed 213 = .ok (.aload_n 0, 1) := by decide +kernel
theorem dX11_missed_214 : decode cX11_missed 214 = .ok (.iconst 1, 1) := by decide +kernel
theorem dX11_missed_215 : decode cX11_missed 215 = .ok (.invokevirtual 127, 3) := by decide +kernel
theorem dX11_missed_218 : decode cX11_missed 218 = .ok (.imul, 1) := by decide +kernel
theorem dX11_missed_219 : decode cX11_missed 219 = .ok (.istore 8, 2) := by decide +kernel
theorem dX11_missed_221 : decode cX11_missed 221 = .ok (.iinc 12 1, 3) := by decide +kernel
theorem dX11_missed_224 : decode cX11_missed 224 = .ok (.goto (-125), 3) := by decide +kernel
theorem dX11_missed_227 : decode cX11_missed 227 = .ok (.iload 5, 2) := by decide +kernel
theorem dX11_missed_229 : decode cX11_missed 229 = .ok (.ifCond .ne 9, 3) := by decide +kernel
theorem dX11_missed_232 : decode cX11_missed 232 = .ok (.iload 7, 2) := by decide +kernel
theorem dX11_missed_234 : decode cX11_missed 234 = .ok (.iload 8, 2) := by decide +kernel
theorem dX11_missed_236 : decode cX11_missed 236 = .ok (.iadd, 1) := by decide +kernel
theorem dX11_missed_237 : decode cX11_missed 237 = .ok (.ireturn, 1) := by decide +kernel
theorem dX11_missed_238 : decode cX11_missed 238 = .ok (.iload 5, 2) := by decide +kernel
theorem dX11_missed_240 : decode cX11_missed 240 = .ok (.iconst 1, 1) := by decide +kernel
theorem dX11_missed_241 : decode cX11_missed 241 = .ok (.if_icmp .ne 8, 3) := by decide +kernel
theorem dX11_missed_244 : decode cX11_missed 244 = .ok (.iload 9, 2) := by decide +kernel
theorem dX11_missed_246 : decode cX11_missed 246 = .ok (.goto 5, 3) := by decide +kernel
theorem dX11_missed_249 : decode cX11_missed 249 = .ok (.iload 10, 2) := by decide +kernel
theorem dX11_missed_251 : decode cX11_missed 251 = .ok (.ireturn, 1) := by decide +kernel
theorem dX11_pilot_0 : decode cX11_pilot 0 = .ok (.aload_n 0, 1) := by decide +kernel
theorem dX11_pilot_1 : decode cX11_pilot 1 = .ok (.iload_n 1, 1) := by decide +kernel
theorem dX11_pilot_2 : decode cX11_pilot 2 = .ok (.invokevirtual 89, 3) := by decide +kernel
theorem dX11_pilot_5 : decode cX11_pilot 5 = .ok (.ifCond .eq 24, 3) := by decide +kernel
theorem dX11_pilot_8 : decode cX11_pilot 8 = .ok (.iload_n 2, 1) := by decide +kernel
theorem dX11_pilot_9 : decode cX11_pilot 9 = .ok (.ifCond .lt 20, 3) := by decide +kernel
theorem dX11_pilot_12 : decode cX11_pilot 12 = .ok (.iload_n 2, 1) := by decide +kernel
theorem dX11_pilot_13 : decode cX11_pilot 13 = .ok (.bipush 20, 2) := by decide +kernel
theorem dX11_pilot_15 : decode cX11_pilot 15 = .ok (.if_icmp .gt 14, 3) := by decide +kernel
theorem dX11_pilot_18 : decode cX11_pilot 18 = .ok (.iload_n 3, 1) := by decide +kernel
theorem dX11_pilot_19 : decode cX11_pilot 19 = .ok (.ifCond .lt 10, 3) := by decide +kernel
theorem dX11_pilot_22 : decode cX11_pilot 22 = .ok (.iload_n 3, 1) := by decide +kernel
theorem dX11_pilot_23 : decode cX11_pilot 23 = .ok (.sipush 999, 3) := by decide +kernel
theorem dX11_pilot_26 : decode cX11_pilot 26 = .ok (.if_icmp .le 10, 3) := by decide +kernel
theorem dX11_pilot_29 : decode cX11_pilot 29 = .ok (.aload_n 0, 1) := by decide +kernel
theorem dX11_pilot_30 : decode cX11_pilot 30 = .ok (.bipush (-2), 2) := by decide +kernel
theorem dX11_pilot_32 : decode cX11_pilot 32 = .ok (.invokevirtual 93, 3) := by decide +kernel
theorem dX11_pilot_35 : decode cX11_pilot 35 = .ok (.ireturn, 1) := by decide +kernel
theorem dX11_pilot_36 : decode cX11_pilot 36 = .ok (.aload_n 0, 1) := by decide +kernel
theorem dX11_pilot_37 : decode cX11_pilot 37 = .ok (.iload_n 1, 1) := by decide +kernel
theorem dX11_pilot_38 : decode cX11_pilot 38 = .ok (.iload_n 2, 1) := by decide +kernel
theorem dX11_pilot_39 : decode cX11_pilot 39 = .ok (.invokevirtual 216, 3) := by decide +kernel
theorem dX11_pilot_42 : decode cX11_pilot 42 = .ok (.istore 4, 2) := by decide +kernel
theorem dX11_pilot_44 : decode cX11_pilot 44 = .ok (.iload 4, 2) := by decide +kernel
theorem dX11_pilot_46 : decode cX11_pilot 46 = .ok (.ifCond .ge 10, 3) := by decide +kernel
theorem dX11_pilot_49 : decode cX11_pilot 49 = .ok (.aload_n 0, 1) := by decide +kernel
theorem dX11_pilot_50 : decode cX11_pilot 50 = .ok (.iload 4, 2) := by decide +kernel
theorem dX11_pilot_52 : decode cX11_pilot 52 = .ok (.invokevirtual 93, 3) := by decide +kernel
theorem dX11_pilot_55 : decode cX11_pilot 55 = .ok (.ireturn, 1) := by decide +kernel
theorem dX11_pilot_56 : decode cX11_pilot 56 = .ok (.iconst 1, 1) := by decide +kernel
theorem dX11_pilot_57 : decode cX11_pilot 57 = .ok (.istore 5, 2) := by decide +kernel
theorem dX11_pilot_59 : decode cX11_pilot 59 = .ok (.iload 5, 2) := by decide +kernel
theorem dX11_pilot_61 : decode cX11_pilot 61 = .ok (.bipush 10, 2) := by decide +kernel
theorem dX11_pilot_63 : decode cX11_pilot 63 = .ok (.if_icmp .ge 94, 3) := by decide +kernel
theorem dX11_pilot_66 : decode cX11_pilot 66 = .ok (.iload_n 2, 1) := by decide +kernel
theorem dX11_pilot_67 : decode cX11_pilot 67 = .ok (.ifCond .le 9, 3) := by decide +kernel
theorem dX11_pilot_70 : decode cX11_pilot 70 = .ok (.iload_n 2, 1) := by decide +kernel
theorem dX11_pilot_71 : decode cX11_pilot 71 = .ok (.iconst 1, 1) := by decide +kernel
theorem dX11_pilot_72 : decode cX11_pilot 72 = .ok (.isub, 1) := by decide +kernel
theorem dX11_pilot_73 : decode cX11_pilot 73 = .ok (.goto 4, 3) := by decide +kernel
theorem dX11_pilot_76 : decode cX11_pilot 76 = .ok (.iconst 0, 1) := by decide +kernel
theorem dX11_pilot_77 : decode cX11_pilot 77 = .ok (.istore 6, 2) := by decide +kernel
theorem dX11_pilot_79 : decode cX11_pilot 79 = .ok (.aload_n 0, 1) := by decide +kernel
theorem dX11_pilot_80 : decode cX11_pilot 80 = .ok (.getfield 62, 3) := by decide +kernel
theorem dX11_pilot_83 : decode cX11_pilot 83 = .ok (.bipush 7, 2) := by decide +kernel
theorem dX11_pilot_85 : decode cX11_pilot 85 = .ok (.iaload, 1) := by decide +kernel
theorem dX11_pilot_86 : decode cX11_pilot 86 = .ok (.istore 7, 2) := by decide +kernel
theorem dX11_pilot_88 : decode cX11_pilot 88 = .ok (.iconst 0, 1) := by decide +kernel
theorem dX11_pilot_89 : decode cX11_pilot 89 = .ok (.istore 8, 2) := by decide +kernel
theorem dX11_pilot_91 : decode cX11_pilot 91 = .ok (.iload 8, 2) := by decide +kernel
theorem dX11_pilot_93 : decode cX11_pilot 93 = .ok (.iload_n 2, 1) := by decide +kernel
theorem dX11_pilot_94 : decode cX11_pilot 94 = .ok (.if_icmp .ge 48, 3) := by decide +kernel
theorem dX11_pilot_97 : decode cX11_pilot 97 = .ok (.iload 6, 2) := by decide +kernel
theorem dX11_pilot_99 : decode cX11_pilot 99 = .ok (.aload_n 0, 1) := by decide +kernel
theorem dX11_pilot_100 : decode cX11_pilot 100 = .ok (.iload 7, 2) := by decide +kernel
theorem dX11_pilot_102 : decode cX11_pilot 102 = .ok (.aload_n 0, 1) := by decide +kernel
theorem dX11_pilot_103 : decode cX11_pilot 103 = .ok (.getfield 23, 3) := by decide +kernel
theorem dX11_pilot_106 : decode cX11_pilot 106 = .ok (.aload_n 0, 1) := by decide +kernel
theorem dX11_pilot_107 : decode cX11_pilot 107 = .ok (.getfield 74, 3) := by decide +kernel
theorem dX11_pilot_110 : decode cX11_pilot 110 = .ok (.iload 8, 2) := by decide +kernel
theorem dX11_pilot_112 : decode cX11_pilot 112 = .ok (.iaload, 1) := by decide +kernel
theorem dX11_pilot_113 : decode cX11_pilot 113 = .ok (.iaload, 1) := by decide +kernel
theorem dX11_pilot_114 : decode cX11_pilot 114 = .ok (.iload 5, 2) := by decide +kernel
theorem dX11_pilot_116 : decode cX11_pilot 116 = .ok (.invokevirtual 207, 3) := by decide +kernel
theorem dX11_pilot_119 : decode cX11_pilot 119 = .ok (.iadd, 1) := by decide +kernel
theorem dX11_pilot_120 : decode cX11_pilot 120 = .ok (.istore 6, 2) := by decide +kernel
theorem dX11_pilot_122 : decode cX11_pilot 122 = .ok (.aload_n 0, 1) := by decide +kernel
theorem dX11_pilot_123 : decode cX11_pilot 123 = .ok (.getfield 23, 3) := by decide +kernel
theorem dX11_pilot_126 : decode cX11_pilot 126 = .ok (.aload_n 0, 1) := by decide +kernel
theorem dX11_pilot_127 : decode cX11_pilot 127 = .ok (.getfield 74, 3) := by decide +kernel
theorem dX11_pilot_130 : decode cX11_pilot 130 = .ok (.iload 8, 2) := by decide +kernel
theorem dX11_pilot_132 : decode cX11_pilot 132 = .ok (.iaload, 1) := by decide +kernel
theorem dX11_pilot_133 : decode cX11_pilot 133 = .ok (.iaload, 1) := by decide +kernel
theorem dX11_pilot_134 : decode cX11_pilot 134 = .ok (.istore 7, 2) := by decide +kernel
theorem dX11_pilot_136 : decode cX11_pilot 136 = .ok (.iinc 8 1, 3) := by decide +kernel
theorem dX11_pilot_139 : decode cX11_pilot 139 = .ok (.goto (-48), 3) := by decide +kernel
theorem dX11_pilot_142 : decode cX11_pilot 142 = .ok (.iload 6, 2) := by decide +kernel
theorem dX11_pilot_144 : decode cX11_pilot 144 = .ok (.iload_n 3, 1) := by decide +kernel
theorem dX11_pilot_145 : decode cX11_pilot 145 = .ok (.if_icmp .gt 6, 3) := by decide +kernel
theorem dX11_pilot_148 : decode cX11_pilot 148 = .ok (.iload 5, 2) := by decide +kernel
theorem dX11_pilot_150 : decode cX11_pilot 150 = .ok (.ireturn, 1) := by decide +kernel
theorem dX11_pilot_151 : decode cX11_pilot 151 = .ok (.iinc 5 1, 3) := by decide +kernel
theorem dX11_pilot_154 : decode cX11_pilot 154 = .ok (.goto (-95), 3) := by decide +kernel
theorem dX11_pilot_157 : decode cX11_pilot 157 = .ok (.iconst (-1), 1) := by decide +kernel
theorem dX11_pilot_158 : decode cX11_pilot 158 = .ok (.ireturn, 1) := by decide +kernel
theorem dX11_still_0 : decode cX11_still 0 = .ok (.aload_n 0, 1) := by decide +kernel
theorem dX11_still_1 : decode cX11_still 1 = .ok (.iload_n 1, 1) := by decide +kernel
theorem dX11_still_2 : decode cX11_still 2 = .ok (.invokevirtual 89, 3) := by decide +kernel
theorem dX11_still_5 : decode cX11_still 5 = .ok (.ifCond .eq 13, 3) := by decide +kernel
theorem dX11_still_8 : decode cX11_still 8 = .ok (.iload_n 2, 1) := by decide +kernel
theorem dX11_still_9 : decode cX11_still 9 = .ok (.ifCond .lt 9, 3) := by decide +kernel
theorem dX11_still_12 : decode cX11_still 12 = .ok (.iload_n 2, 1) := by decide +kernel
theorem dX11_still_13 : decode cX11_still 13 = .ok (.bipush 20, 2) := by decide +kernel
theorem dX11_still_15 : decode cX11_still 15 = .ok (.if_icmp .le 10, 3) := by decide +kernel
theorem dX11_still_18 : decode cX11_still 18 = .ok (.aload_n 0, 1) := by decide +kernel
theorem dX11_still_19 : decode cX11_still 19 = .ok (.bipush (-2), 2) := by decide +kernel
theorem dX11_still_21 : decode cX11_still 21 = .ok (.invokevirtual 93, 3) := by decide +kernel
theorem dX11_still_24 : decode cX11_still 24 = .ok (.ireturn, 1) := by decide +kernel
theorem dX11_still_25 : decode cX11_still 25 = .ok (.aload_n 0, 1) := by decide +kernel
theorem dX11_still_26 : decode cX11_still 26 = .ok (.iload_n 1, 1) := by decide +kernel
theorem dX11_still_27 : decode cX11_still 27 = .ok (.iload_n 2, 1) := by decide +kernel
theorem dX11_still_28 : decode cX11_still 28 = .ok (.invokevirtual 216, 3) := by decide +kernel
theorem dX11_still_31 : decode cX11_still 31 = .ok (.istore_n 3, 1) := by decide +kernel
theorem dX11_still_32 : decode cX11_still 32 = .ok (.iload_n 3, 1) := by decide +kernel
theorem dX11_still_33 : decode cX11_still 33 = .ok (.ifCond .ge 9, 3) := by decide +kernel
theorem dX11_still_36 : decode cX11_still 36 = .ok (.aload_n 0, 1) := by decide +kernel
theorem dX11_still_37 : decode cX11_still 37 = .ok (.iload_n 3, 1) := by decide +kernel
theorem dX11_still_38 : decode cX11_still 38 = .ok (.invokevirtual 93, 3) := by decide +kernel
theorem dX11_still_41 : decode cX11_still 41 = .ok (.ireturn, 1) := by decide +kernel
theorem dX11_still_42 : decode cX11_still 42 = .ok (.bipush 9, 2) := by decide +kernel
theorem dX11_still_44 : decode cX11_still 44 = .ok (.istore 4, 2) := by decide +kernel
theorem dX11_still_46 : decode cX11_still 46 = .ok (.iload 4, 2) := by decide +kernel
theorem dX11_still_48 : decode cX11_still 48 = .ok (.ifCond .le 54, 3) := by decide +kernel
theorem dX11_still_51 : decode cX11_still 51 = .ok (.iconst 1, 1) := by decide +kernel
theorem dX11_still_52 : decode cX11_still 52 = .ok (.istore 5, 2) := by decide +kernel
theorem dX11_still_54 : decode cX11_still 54 = .ok (.iconst 0, 1) := by decide +kernel
theorem dX11_still_55 : decode cX11_still 55 = .ok (.istore 6, 2) := by decide +kernel
theorem dX11_still_57 : decode cX11_still 57 = .ok (.iload 6, 2) := by decide +kernel
theorem dX11_still_59 : decode cX11_still 59 = .ok (.iload_n 2, 1) := by decide +kernel
theorem dX11_still_60 : decode cX11_still 60 = .ok (.if_icmp .ge 28, 3) := by decide +kernel
theorem dX11_still_63 : decode cX11_still 63 = .ok (.aload_n 0, 1) := by decide +kernel
theorem dX11_still_64 : decode cX11_still 64 = .ok (.aload_n 0, 1) := by decide +kernel
theorem dX11_still_65 : decode cX11_still 65 = .ok (.getfield 74, 3) := by decide +kernel
theorem dX11_still_68 : decode cX11_still 68 = .ok (.iload 6, 2) := by decide +kernel
theorem dX11_still_70 : decode cX11_still 70 = .ok (.iaload, 1) := by decide +kernel
theorem dX11_still_71 : decode cX11_still 71 = .ok (.iload 4, 2) := by decide +kernel
theorem dX11_still_73 : decode cX11_still 73 = .ok (.invokevirtual 130, 3) := by decide +kernel
theorem dX11_still_76 : decode cX11_still 76 = .ok (.ifCond .ne 6, 3) := by decide +kernel
theorem dX11_still_79 : decode cX11_still 79 = .ok (.iconst 0, 1) := by decide +kernel
theorem dX11_still_80 : decode cX11_still 80 = .ok (.istore 5, 2) := by decide +kernel
theorem dX11_still_82 : decode cX11_still 82 = .ok (.iinc 6 1, 3) := by decide +kernel
theorem dX11_still_85 : decode cX11_still 85 = .ok (.goto (-28), 3) := by decide +kernel
theorem dX11_still_88 : decode cX11_still 88 = .ok (.iload 5, 2) := by decide +kernel
theorem dX11_still_90 : decode cX11_still 90 = .ok (.ifCond .eq 6, 3) := by decide +kernel
theorem dX11_still_93 : decode cX11_still 93 = .ok (.iload 4, 2) := by decide +kernel
theorem dX11_still_95 : decode cX11_still 95 = .ok (.ireturn, 1) := by decide +kernel
theorem dX11_still_96 : decode cX11_still 96 = .ok (.iinc 4 (-1), 3) := by decide +kernel
theorem dX11_still_99 : decode cX11_still 99 = .ok (.goto (-53), 3) := by decide +kernel
theorem dX11_still_102 : decode cX11_still 102 = .ok (.iconst (-1), 1) := by decide +kernel
theorem dX11_still_103 : decode cX11_still 103 = .ok (.ireturn, 1) := by decide +kernel
theorem dX11_firstOut_0 : decode cX11_firstOut 0 = .ok (.aload_n 0, 1) := by decide +kernel
theorem dX11_firstOut_1 : decode cX11_firstOut 1 = .ok (.iload_n 1, 1) := by decide +kernel
theorem dX11_firstOut_2 : decode cX11_firstOut 2 = .ok (.invokevirtual 233, 3) := by decide +kernel
theorem dX11_firstOut_5 : decode cX11_firstOut 5 = .ok (.ifCond .ne 10, 3) := by decide +kernel
theorem dX11_firstOut_8 : decode cX11_firstOut 8 = .ok (.aload_n 0, 1) := by decide +kernel
theorem dX11_firstOut_9 : decode cX11_firstOut 9 = .ok (.bipush (-2), 2) := by decide +kernel
theorem dX11_firstOut_11 : decode cX11_firstOut 11 = .ok (.invokevirtual 93, 3) := by decide +kernel
theorem dX11_firstOut_14 : decode cX11_firstOut 14 = .ok (.ireturn, 1) := by decide +kernel
theorem dX11_firstOut_15 : decode cX11_firstOut 15 = .ok (.iconst 0, 1) := by decide +kernel
theorem dX11_firstOut_16 : decode cX11_firstOut 16 = .ok (.istore_n 2, 1) := by decide +kernel
theorem dX11_firstOut_17 : decode cX11_firstOut 17 = .ok (.iload_n 2, 1) := by decide +kernel
theorem dX11_firstOut_18 : decode cX11_firstOut 18 = .ok (.bipush 20, 2) := by decide +kernel
theorem dX11_firstOut_20 : decode cX11_firstOut 20 = .ok (.if_icmp .gt 47, 3) := by decide +kernel
theorem dX11_firstOut_23 : decode cX11_firstOut 23 = .ok (.iconst 0, 1) := by decide +kernel
theorem dX11_firstOut_24 : decode cX11_firstOut 24 = .ok (.istore_n 3, 1) := by decide +kernel
theorem dX11_firstOut_25 : decode cX11_firstOut 25 = .ok (.iload_n 3, 1) := by decide +kernel
theorem dX11_firstOut_26 : decode cX11_firstOut 26 = .ok (.aload_n 0, 1) := by decide +kernel
theorem dX11_firstOut_27 : decode cX11_firstOut 27 = .ok (.getfield 62, 3) := by decide +kernel
theorem dX11_firstOut_30 : decode cX11_firstOut 30 = .ok (.iconst 0, 1) := by decide +kernel
theorem dX11_firstOut_31 : decode cX11_firstOut 31 = .ok (.iaload, 1) := by decide +kernel
theorem dX11_firstOut_32 : decode cX11_firstOut 32 = .ok (.if_icmp .ge 29, 3) := by decide +kernel
theorem dX11_firstOut_35 : decode cX11_firstOut 35 = .ok (.aload_n 0, 1) := by decide +kernel
theorem dX11_firstOut_36 : decode cX11_firstOut 36 = .ok (.iload_n 3, 1) := by decide +kernel
theorem dX11_firstOut_37 : decode cX11_firstOut 37 = .ok (.aload_n 0, 1) := by decide +kernel
theorem dX11_firstOut_38 : decode cX11_firstOut 38 = .ok (.getfield 62, 3) := by decide +kernel
theorem dX11_firstOut_41 : decode cX11_firstOut 41 = .ok (.iconst 5, 1) := by decide +kernel
theorem dX11_firstOut_42 : decode cX11_firstOut 42 = .ok (.iaload, 1) := by decide +kernel
theorem dX11_firstOut_43 : decode cX11_firstOut 43 = .ok (.iload_n 2, 1) := by decide +kernel
theorem dX11_firstOut_44 : decode cX11_firstOut 44 = .ok (.iload_n 1, 1) := by decide +kernel
theorem dX11_firstOut_45 : decode cX11_firstOut 45 = .ok (.imul, 1) := by decide +kernel
theorem dX11_firstOut_46 : decode cX11_firstOut 46 = .ok (.isub, 1) := by decide +kernel
theorem dX11_firstOut_47 : decode cX11_firstOut 47 = .ok (.invokevirtual 136, 3) := by decide +kernel
theorem dX11_firstOut_50 : decode cX11_firstOut 50 = .ok (.ifCond .eq 5, 3) := by decide +kernel
theorem dX11_firstOut_53 : decode cX11_firstOut 53 = .ok (.iload_n 3, 1) := by decide +kernel
theorem dX11_firstOut_54 : decode cX11_firstOut 54 = .ok (.ireturn, 1) := by decide +kernel
theorem dX11_firstOut_55 : decode cX11_firstOut 55 = .ok (.iinc 3 1, 3) := by decide +kernel
theorem dX11_firstOut_58 : decode cX11_firstOut 58 = .ok (.goto (-33), 3) := by decide +kernel
theorem dX11_firstOut_61 : decode cX11_firstOut 61 = .ok (.iinc 2 1, 3) := by decide +kernel
theorem dX11_firstOut_64 : decode cX11_firstOut 64 = .ok (.goto (-47), 3) := by decide +kernel
theorem dX11_firstOut_67 : decode cX11_firstOut 67 = .ok (.iconst (-1), 1) := by decide +kernel
theorem dX11_firstOut_68 : decode cX11_firstOut 68 = .ok (.ireturn, 1) := by decide +kernel
theorem dX11_lifts_0 : decode cX11_lifts 0 = .ok (.aload_n 0, 1) := by decide +kernel
theorem dX11_lifts_1 : decode cX11_lifts 1 = .ok (.iload_n 1, 1) := by decide +kernel
theorem dX11_lifts_2 : decode cX11_lifts 2 = .ok (.invokevirtual 89, 3) := by decide +kernel
theorem dX11_lifts_5 : decode cX11_lifts 5 = .ok (.ifCond .eq 33, 3) := by decide +kernel
theorem dX11_lifts_8 : decode cX11_lifts 8 = .ok (.aload_n 0, 1) := by decide +kernel
theorem dX11_lifts_9 : decode cX11_lifts 9 = .ok (.iload_n 3, 1) := by decide +kernel
theorem dX11_lifts_10 : decode cX11_lifts 10 = .ok (.invokevirtual 89, 3) := by decide +kernel
theorem dX11_lifts_13 : decode cX11_lifts 13 = .ok (.ifCond .eq 25, 3) := by decide +kernel
theorem dX11_lifts_16 : decode cX11_lifts 16 = .ok (.iload_n 2, 1) := by decide +kernel
theorem dX11_lifts_17 : decode cX11_lifts 17 = .ok (.ifCond .lt 21, 3) := by decide +kernel
theorem dX11_lifts_20 : decode cX11_lifts 20 = .ok (.iload_n 2, 1) := by decide +kernel
theorem dX11_lifts_21 : decode cX11_lifts 21 = .ok (.bipush 40, 2) := by decide +kernel
theorem dX11_lifts_23 : decode cX11_lifts 23 = .ok (.if_icmp .gt 15, 3) := by decide +kernel
theorem dX11_lifts_26 : decode cX11_lifts 26 = .ok (.iload 4, 2) := by decide +kernel
theorem dX11_lifts_28 : decode cX11_lifts 28 = .ok (.ifCond .lt 10, 3) := by decide +kernel
theorem dX11_lifts_31 : decode cX11_lifts 31 = .ok (.iload 4, 2) := by decide +kernel
theorem dX11_lifts_33 : decode cX11_lifts 33 = .ok (.bipush 20, 2) := by decide +kernel
theorem dX11_lifts_35 : decode cX11_lifts 35 = .ok (.if_icmp .le 10, 3) := by decide +kernel
theorem dX11_lifts_38 : decode cX11_lifts 38 = .ok (.aload_n 0, 1) := by decide +kernel
theorem dX11_lifts_39 : decode cX11_lifts 39 = .ok (.bipush (-2), 2) := by decide +kernel
theorem dX11_lifts_41 : decode cX11_lifts 41 = .ok (.invokevirtual 93, 3) := by decide +kernel
theorem dX11_lifts_44 : decode cX11_lifts 44 = .ok (.ireturn, 1) := by decide +kernel
theorem dX11_lifts_45 : decode cX11_lifts 45 = .ok (.aload_n 0, 1) := by decide +kernel
theorem dX11_lifts_46 : decode cX11_lifts 46 = .ok (.iload_n 1, 1) := by decide +kernel
theorem dX11_lifts_47 : decode cX11_lifts 47 = .ok (.invokevirtual 97, 3) := by decide +kernel
theorem dX11_lifts_50 : decode cX11_lifts 50 = .ok (.ifCond .ne 11, 3) := by decide +kernel
theorem dX11_lifts_53 : decode cX11_lifts 53 = .ok (.aload_n 0, 1) := by decide +kernel
theorem dX11_lifts_54 : decode cX11_lifts 54 = .ok (.iload_n 3, 1) := by decide +kernel
theorem dX11_lifts_55 : decode cX11_lifts 55 = .ok (.invokevirtual 97, 3) := by decide +kernel
theorem dX11_lifts_58 : decode cX11_lifts 58 = .ok (.ifCond .eq 10, 3) := by decide +kernel
theorem dX11_lifts_61 : decode cX11_lifts 61 = .ok (.aload_n 0, 1) := by decide +kernel
theorem dX11_lifts_62 : decode cX11_lifts 62 = .ok (.bipush (-3), 2) := by decide +kernel
theorem dX11_lifts_64 : decode cX11_lifts 64 = .ok (.invokevirtual 93, 3) := by decide +kernel
theorem dX11_lifts_67 : decode cX11_lifts 67 = .ok (.ireturn, 1) := by decide +kernel
theorem dX11_lifts_68 : decode cX11_lifts 68 = .ok (.aload_n 0, 1) := by decide +kernel
theorem dX11_lifts_69 : decode cX11_lifts 69 = .ok (.getfield 7, 3) := by decide +kernel
theorem dX11_lifts_72 : decode cX11_lifts 72 = .ok (.iload_n 1, 1) := by decide +kernel
theorem dX11_lifts_73 : decode cX11_lifts 73 = .ok (.iaload, 1) := by decide +kernel
theorem dX11_lifts_74 : decode cX11_lifts 74 = .ok (.ifCond .lt 12, 3) := by decide +kernel
theorem dX11_lifts_77 : decode cX11_lifts 77 = .ok (.aload_n 0, 1) := by decide +kernel
theorem dX11_lifts_78 : decode cX11_lifts 78 = .ok (.getfield 7, 3) := by decide +kernel
theorem dX11_lifts_81 : decode cX11_lifts 81 = .ok (.iload_n 3, 1) := by decide +kernel
theorem dX11_lifts_82 : decode cX11_lifts 82 = .ok (.iaload, 1) := by decide +kernel
theorem dX11_lifts_83 : decode cX11_lifts 83 = .ok (.ifCond .ge 10, 3) := by decide +kernel
theorem dX11_lifts_86 : decode cX11_lifts 86 = .ok (.aload_n 0, 1) := by decide +kernel
theorem dX11_lifts_87 : decode cX11_lifts 87 = .ok (.bipush (-4), 2) := by decide +kernel
theorem dX11_lifts_89 : decode cX11_lifts 89 = .ok (.invokevirtual 93, 3) := by decide +kernel
theorem dX11_lifts_92 : decode cX11_lifts 92 = .ok (.ireturn, 1) := by decide +kernel
theorem dX11_lifts_93 : decode cX11_lifts 93 = .ok (.iload_n 2, 1) := by decide +kernel
theorem dX11_lifts_94 : decode cX11_lifts 94 = .ok (.aload_n 0, 1) := by decide +kernel
theorem dX11_lifts_95 : decode cX11_lifts 95 = .ok (.getfield 13, 3) := by decide +kernel
theorem dX11_lifts_98 : decode cX11_lifts 98 = .ok (.iload_n 1, 1) := by decide +kernel
theorem dX11_lifts_99 : decode cX11_lifts 99 = .ok (.iaload, 1) := by decide +kernel
theorem dX11_lifts_100 : decode cX11_lifts 100 = .ok (.if_icmp .le 10, 3) := by decide +kernel
theorem dX11_lifts_103 : decode cX11_lifts 103 = .ok (.aload_n 0, 1) := by decide +kernel
theorem dX11_lifts_104 : decode cX11_lifts 104 = .ok (.bipush (-2), 2) := by decide +kernel
theorem dX11_lifts_106 : decode cX11_lifts 106 = .ok (.invokevirtual 93, 3) := by decide +kernel
theorem dX11_lifts_109 : decode cX11_lifts 109 = .ok (.ireturn, 1) := by decide +kernel
theorem dX11_lifts_110 : decode cX11_lifts 110 = .ok (.iconst 0, 1) := by decide +kernel
theorem dX11_lifts_111 : decode cX11_lifts 111 = .ok (.istore 5, 2) := by decide +kernel
theorem dX11_lifts_113 : decode cX11_lifts 113 = .ok (.iload 5, 2) := by decide +kernel
theorem dX11_lifts_115 : decode cX11_lifts 115 = .ok (.iload_n 2, 1) := by decide +kernel
theorem dX11_lifts_116 : decode cX11_lifts 116 = .ok (.if_icmp .ge 60, 3) := by decide +kernel
theorem dX11_lifts_119 : decode cX11_lifts 119 = .ok (.aload_n 0, 1) := by decide +kernel
theorem dX11_lifts_120 : decode cX11_lifts 120 = .ok (.getfield 16, 3) := by decide +kernel
theorem dX11_lifts_123 : decode cX11_lifts 123 = .ok (.bipush 40, 2) := by decide +kernel
theorem dX11_lifts_125 : decode cX11_lifts 125 = .ok (.iload_n 1, 1) := by decide +kernel
theorem dX11_lifts_126 : decode cX11_lifts 126 = .ok (.imul, 1) := by decide +kernel
theorem dX11_lifts_127 : decode cX11_lifts 127 = .ok (.iload 5, 2) := by decide +kernel
theorem dX11_lifts_129 : decode cX11_lifts 129 = .ok (.iadd, 1) := by decide +kernel
theorem dX11_lifts_130 : decode cX11_lifts 130 = .ok (.laload, 1) := by decide +kernel
theorem dX11_lifts_131 : decode cX11_lifts 131 = .ok (.lstore 6, 2) := by decide +kernel
theorem dX11_lifts_133 : decode cX11_lifts 133 = .ok (.lload 6, 2) := by decide +kernel
theorem dX11_lifts_135 : decode cX11_lifts 135 = .ok (.lconst 0, 1) := by decide +kernel
theorem dX11_lifts_136 : decode cX11_lifts 136 = .ok (.lcmp, 1) := by decide +kernel
theorem dX11_lifts_137 : decode cX11_lifts 137 = .ok (.ifCond .lt 16, 3) := by decide +kernel
theorem dX11_lifts_140 : decode cX11_lifts 140 = .ok (.lload 6, 2) := by decide +kernel
theorem dX11_lifts_142 : decode cX11_lifts 142 = .ok (.aload_n 0, 1) := by decide +kernel
theorem dX11_lifts_143 : decode cX11_lifts 143 = .ok (.getfield 62, 3) := by decide +kernel
theorem dX11_lifts_146 : decode cX11_lifts 146 = .ok (.iconst 0, 1) := by decide +kernel
theorem dX11_lifts_147 : decode cX11_lifts 147 = .ok (.iaload, 1) := by decide +kernel
theorem dX11_lifts_148 : decode cX11_lifts 148 = .ok (.i2l, 1) := by decide +kernel
theorem dX11_lifts_149 : decode cX11_lifts 149 = .ok (.lcmp, 1) := by decide +kernel
theorem dX11_lifts_150 : decode cX11_lifts 150 = .ok (.ifCond .lt 10, 3) := by decide +kernel
theorem dX11_lifts_153 : decode cX11_lifts 153 = .ok (.aload_n 0, 1) := by decide +kernel
theorem dX11_lifts_154 : decode cX11_lifts 154 = .ok (.bipush (-2), 2) := by decide +kernel
theorem dX11_lifts_156 : decode cX11_lifts 156 = .ok (.invokevirtual 93, 3) := by decide +kernel
theorem dX11_lifts_159 : decode cX11_lifts 159 = .ok (.ireturn, 1) := by decide +kernel
theorem dX11_lifts_160 : decode cX11_lifts 160 = .ok (.aload_n 0, 1) := by decide +kernel
theorem dX11_lifts_161 : decode cX11_lifts 161 = .ok (.getfield 86, 3) := by decide +kernel
theorem dX11_lifts_164 : decode cX11_lifts 164 = .ok (.iload 5, 2) := by decide +kernel
theorem dX11_lifts_166 : decode cX11_lifts 166 = .ok (.lload 6, 2) := by decide +kernel
theorem dX11_lifts_168 : decode cX11_lifts 168 = .ok (.l2i, 1) := by decide +kernel
theorem dX11_lifts_169 : decode cX11_lifts 169 = .ok (.iastore, 1) := by decide +kernel
theorem dX11_lifts_170 : decode cX11_lifts 170 = .ok (.iinc 5 1, 3) := by decide +kernel
theorem dX11_lifts_173 : decode cX11_lifts 173 = .ok (.goto (-60), 3) := by decide +kernel
theorem dX11_lifts_176 : decode cX11_lifts 176 = .ok (.aload_n 0, 1) := by decide +kernel
theorem dX11_lifts_177 : decode cX11_lifts 177 = .ok (.iload_n 3, 1) := by decide +kernel
theorem dX11_lifts_178 : decode cX11_lifts 178 = .ok (.iload 4, 2) := by decide +kernel
theorem dX11_lifts_180 : decode cX11_lifts 180 = .ok (.invokevirtual 216, 3) := by decide +kernel
theorem dX11_lifts_183 : decode cX11_lifts 183 = .ok (.istore 5, 2) := by decide +kernel
theorem dX11_lifts_185 : decode cX11_lifts 185 = .ok (.iload 5, 2) := by decide +kernel
theorem dX11_lifts_187 : decode cX11_lifts 187 = .ok (.ifCond .ge 10, 3) := by decide +kernel
theorem dX11_lifts_190 : decode cX11_lifts 190 = .ok (.aload_n 0, 1) := by decide +kernel
theorem dX11_lifts_191 : decode cX11_lifts 191 = .ok (.iload 5, 2) := by decide +kernel
theorem dX11_lifts_193 : decode cX11_lifts 193 = .ok (.invokevirtual 93, 3) := by decide +kernel
theorem dX11_lifts_196 : decode cX11_lifts 196 = .ok (.ireturn, 1) := by decide +kernel
theorem dX11_lifts_197 : decode cX11_lifts 197 = .ok (.iconst 0, 1) := by decide +kernel
theorem dX11_lifts_198 : decode cX11_lifts 198 = .ok (.istore 6, 2) := by decide +kernel
theorem dX11_lifts_200 : decode cX11_lifts 200 = .ok (.iload_n 2, 1) := by decide +kernel
theorem dX11_lifts_201 : decode cX11_lifts 201 = .ok (.istore 7, 2) := by decide +kernel
theorem dX11_lifts_203 : decode cX11_lifts 203 = .ok (.iconst 0, 1) := by decide +kernel
theorem dX11_lifts_204 : decode cX11_lifts 204 = .ok (.istore 8, 2) := by decide +kernel
theorem dX11_lifts_206 : decode cX11_lifts 206 = .ok (.iload 8, 2) := by decide +kernel
theorem dX11_lifts_208 : decode cX11_lifts 208 = .ok (.iload 4, 2) := by decide +kernel
theorem dX11_lifts_210 : decode cX11_lifts 210 = .ok (.if_icmp .ge 83, 3) := by decide +kernel
theorem dX11_lifts_213 : decode cX11_lifts 213 = .ok (.iconst 0, 1) := by decide +kernel
theorem dX11_lifts_214 : decode cX11_lifts 214 = .ok (.istore 9, 2) := by decide +kernel
theorem dX11_lifts_216 : decode cX11_lifts 216 = .ok (.iconst 0, 1) := by decide +kernel
theorem dX11_lifts_217 : decode cX11_lifts 217 = .ok (.istore 10, 2) := by decide +kernel
theorem dX11_lifts_219 : decode cX11_lifts 219 = .ok (.iconst 0, 1) := by decide +kernel
theorem dX11_lifts_220 : decode cX11_lifts 220 = .ok (.istore 11, 2) := by decide +kernel
theorem dX11_lifts_222 : decode cX11_lifts 222 = .ok (.iload 11, 2) := by decide +kernel
theorem dX11_lifts_224 : decode cX11_lifts 224 = .ok (.iload 7, 2) := by decide +kernel
theorem dX11_lifts_226 : decode cX11_lifts 226 = .ok (.if_icmp .ge 57, 3) := by decide +kernel
theorem dX11_lifts_229 : decode cX11_lifts 229 = .ok (.aload_n 0, 1) := by decide +kernel
theorem dX11_lifts_230 : decode cX11_lifts 230 = .ok (.getfield 86, 3) := by decide +kernel
theorem dX11_lifts_233 : decode cX11_lifts 233 = .ok (.iload 11, 2) := by decide +kernel
theorem dX11_lifts_235 : decode cX11_lifts 235 = .ok (.iaload, 1) := by decide +kernel
theorem dX11_lifts_236 : decode cX11_lifts 236 = .ok (.aload_n 0, 1) := by decide +kernel
theorem dX11_lifts_237 : decode cX11_lifts 237 = .ok (.getfield 74, 3) := by decide +kernel
theorem dX11_lifts_240 : decode cX11_lifts 240 = .ok (.iload 8, 2) := by decide +kernel
theorem dX11_lifts_242 : decode cX11_lifts 242 = .ok (.iaload, 1) := by decide +kernel
theorem dX11_lifts_243 : decode cX11_lifts 243 = .ok (.if_icmp .ne 9, 3) := by decide +kernel
theorem dX11_lifts_246 : decode cX11_lifts 246 = .ok (.iconst 1, 1) := by decide +kernel
theorem dX11_lifts_247 : decode cX11_lifts 247 = .ok (.istore 10, 2) := by decide +kernel
theorem dX11_lifts_249 : decode cX11_lifts 249 = .ok (.goto 28, 3) := by decide +kernel
theorem dX11_lifts_252 : decode cX11_lifts 252 = .ok (.iload 10, 2) := by decide +kernel
theorem dX11_lifts_254 : decode cX11_lifts 254 = .ok (.ifCond .eq 6, 3) := by decide +kernel
theorem dX11_lifts_257 : decode cX11_lifts 257 = .ok (.iinc 6 1, 3) := by decide +kernel
theorem dX11_lifts_260 : decode cX11_lifts 260 = .ok (.aload_n 0, 1) := by decide +kernel
theorem dX11_lifts_261 : decode cX11_lifts 261 = .ok (.getfield 86, 3) := by decide +kernel
theorem dX11_lifts_264 : decode cX11_lifts 264 = .ok (.iload 9, 2) := by decide +kernel
theorem dX11_lifts_266 : decode cX11_lifts 266 = .ok (.iinc 9 1, 3) := by decide +kernel
theorem dX11_lifts_269 : decode cX11_lifts 269 = .ok (.aload_n 0, 1) := by decide +kernel
theorem dX11_lifts_270 : decode cX11_lifts 270 = .ok (.getfield 86, 3) := by decide +kernel
theorem dX11_lifts_273 : decode cX11_lifts 273 = .ok (.iload 11, 2) := by decide +kernel
theorem dX11_lifts_275 : decode cX11_lifts 275 = .ok (.iaload, 1) := by decide +kernel
theorem dX11_lifts_276 : decode cX11_lifts 276 = .ok (.iastore, 1) := by decide +kernel
theorem dX11_lifts_277 : decode cX11_lifts 277 = .ok (.iinc 11 1, 3) := by decide +kernel
theorem dX11_lifts_280 : decode cX11_lifts 280 = .ok (.goto (-58), 3) := by decide +kernel
theorem dX11_lifts_283 : decode cX11_lifts 283 = .ok (.iload 9, 2) := by decide +kernel
theorem dX11_lifts_285 : decode cX11_lifts 285 = .ok (.istore 7, 2) := by decide +kernel
theorem dX11_lifts_287 : decode cX11_lifts 287 = .ok (.iinc 8 1, 3) := by decide +kernel
theorem dX11_lifts_290 : decode cX11_lifts 290 = .ok (.goto (-84), 3) := by decide +kernel
theorem dX11_lifts_293 : decode cX11_lifts 293 = .ok (.iload 6, 2) := by decide +kernel
theorem dX11_lifts_295 : decode cX11_lifts 295 = .ok (.ireturn, 1) := by decide +kernel
theorem dX11_parcel_0 : decode cX11_parcel 0 = .ok (.aload_n 0, 1) := by decide +kernel
theorem dX11_parcel_1 : decode cX11_parcel 1 = .ok (.iload_n 1, 1) := by decide +kernel
theorem dX11_parcel_2 : decode cX11_parcel 2 = .ok (.invokevirtual 106, 3) := by decide +kernel
theorem dX11_parcel_5 : decode cX11_parcel 5 = .ok (.ifCond .eq 25, 3) := by decide +kernel
theorem dX11_parcel_8 : decode cX11_parcel 8 = .ok (.iload_n 2, 1) := by decide +kernel
theorem dX11_parcel_9 : decode cX11_parcel 9 = .ok (.iconst 1, 1) := by decide +kernel
theorem dX11_parcel_10 : decode cX11_parcel 10 = .ok (.if_icmp .lt 20, 3) := by decide +kernel
theorem dX11_parcel_13 : decode cX11_parcel 13 = .ok (.iload_n 2, 1) := by decide +kernel
theorem dX11_parcel_14 : decode cX11_parcel 14 = .ok (.bipush 60, 2) := by decide +kernel
theorem dX11_parcel_16 : decode cX11_parcel 16 = .ok (.if_icmp .gt 14, 3) := by decide +kernel
theorem dX11_parcel_19 : decode cX11_parcel 19 = .ok (.iload_n 3, 1) := by decide +kernel
theorem dX11_parcel_20 : decode cX11_parcel 20 = .ok (.iconst 1, 1) := by decide +kernel
theorem dX11_parcel_21 : decode cX11_parcel 21 = .ok (.if_icmp .lt 9, 3) := by decide +kernel
theorem dX11_parcel_24 : decode cX11_parcel 24 = .ok (.iload_n 3, 1) := by decide +kernel
theorem dX11_parcel_25 : decode cX11_parcel 25 = .ok (.bipush 99, 2) := by decide +kernel
theorem dX11_parcel_27 : decode cX11_parcel 27 = .ok (.if_icmp .le 10, 3) := by decide +kernel
theorem dX11_parcel_30 : decode cX11_parcel 30 = .ok (.aload_n 0, 1) := by decide +kernel
theorem dX11_parcel_31 : decode cX11_parcel 31 = .ok (.bipush (-2), 2) := by decide +kernel
theorem dX11_parcel_33 : decode cX11_parcel 33 = .ok (.invokevirtual 93, 3) := by decide +kernel
theorem dX11_parcel_36 : decode cX11_parcel 36 = .ok (.ireturn, 1) := by decide +kernel
theorem dX11_parcel_37 : decode cX11_parcel 37 = .ok (.aload_n 0, 1) := by decide +kernel
theorem dX11_parcel_38 : decode cX11_parcel 38 = .ok (.getfield 62, 3) := by decide +kernel
theorem dX11_parcel_41 : decode cX11_parcel 41 = .ok (.iconst 3, 1) := by decide +kernel
theorem dX11_parcel_42 : decode cX11_parcel 42 = .ok (.iaload, 1) := by decide +kernel
theorem dX11_parcel_43 : decode cX11_parcel 43 = .ok (.bipush 10, 2) := by decide +kernel
theorem dX11_parcel_45 : decode cX11_parcel 45 = .ok (.if_icmp .ne 10, 3) := by decide +kernel
theorem dX11_parcel_48 : decode cX11_parcel 48 = .ok (.aload_n 0, 1) := by decide +kernel
theorem dX11_parcel_49 : decode cX11_parcel 49 = .ok (.bipush (-6), 2) := by decide +kernel
theorem dX11_parcel_51 : decode cX11_parcel 51 = .ok (.invokevirtual 93, 3) := by decide +kernel
theorem dX11_parcel_54 : decode cX11_parcel 54 = .ok (.ireturn, 1) := by decide +kernel
theorem dX11_parcel_55 : decode cX11_parcel 55 = .ok (.aload_n 0, 1) := by decide +kernel
theorem dX11_parcel_56 : decode cX11_parcel 56 = .ok (.getfield 62, 3) := by decide +kernel
theorem dX11_parcel_59 : decode cX11_parcel 59 = .ok (.iconst 3, 1) := by decide +kernel
theorem dX11_parcel_60 : decode cX11_parcel 60 = .ok (.dup2, 1) := by decide +kernel
theorem dX11_parcel_61 : decode cX11_parcel 61 = .ok (.iaload, 1) := by decide +kernel
theorem dX11_parcel_62 : decode cX11_parcel 62 = .ok (.dup_x2, 1) := by decide +kernel
theorem dX11_parcel_63 : decode cX11_parcel 63 = .ok (.iconst 1, 1) := by decide +kernel
theorem dX11_parcel_64 : decode cX11_parcel 64 = .ok (.iadd, 1) := by decide +kernel
theorem dX11_parcel_65 : decode cX11_parcel 65 = .ok (.iastore, 1) := by decide +kernel
theorem dX11_parcel_66 : decode cX11_parcel 66 = .ok (.istore 4, 2) := by decide +kernel
theorem dX11_parcel_68 : decode cX11_parcel 68 = .ok (.aload_n 0, 1) := by decide +kernel
theorem dX11_parcel_69 : decode cX11_parcel 69 = .ok (.getfield 50, 3) := by decide +kernel
theorem dX11_parcel_72 : decode cX11_parcel 72 = .ok (.iload 4, 2) := by decide +kernel
theorem dX11_parcel_74 : decode cX11_parcel 74 = .ok (.iload_n 1, 1) := by decide +kernel
theorem dX11_parcel_75 : decode cX11_parcel 75 = .ok (.iastore, 1) := by decide +kernel
theorem dX11_parcel_76 : decode cX11_parcel 76 = .ok (.aload_n 0, 1) := by decide +kernel
theorem dX11_parcel_77 : decode cX11_parcel 77 = .ok (.getfield 53, 3) := by decide +kernel
theorem dX11_parcel_80 : decode cX11_parcel 80 = .ok (.iload 4, 2) := by decide +kernel
theorem dX11_parcel_82 : decode cX11_parcel 82 = .ok (.iload_n 2, 1) := by decide +kernel
theorem dX11_parcel_83 : decode cX11_parcel 83 = .ok (.iastore, 1) := by decide +kernel
theorem dX11_parcel_84 : decode cX11_parcel 84 = .ok (.aload_n 0, 1) := by decide +kernel
theorem dX11_parcel_85 : decode cX11_parcel 85 = .ok (.getfield 56, 3) := by decide +kernel
theorem dX11_parcel_88 : decode cX11_parcel 88 = .ok (.iload 4, 2) := by decide +kernel
theorem dX11_parcel_90 : decode cX11_parcel 90 = .ok (.iload_n 3, 1) := by decide +kernel
theorem dX11_parcel_91 : decode cX11_parcel 91 = .ok (.iastore, 1) := by decide +kernel
theorem dX11_parcel_92 : decode cX11_parcel 92 = .ok (.iload 4, 2) := by decide +kernel
theorem dX11_parcel_94 : decode cX11_parcel 94 = .ok (.ireturn, 1) := by decide +kernel
theorem dX11_stops_0 : decode cX11_stops 0 = .ok (.iload_n 1, 1) := by decide +kernel
theorem dX11_stops_1 : decode cX11_stops 1 = .ok (.ifCond .lt 10, 3) := by decide +kernel
theorem dX11_stops_4 : decode cX11_stops 4 = .ok (.iload_n 1, 1) := by decide +kernel
theorem dX11_stops_5 : decode cX11_stops 5 = .ok (.sipush 600, 3) := by decide +kernel
theorem dX11_stops_8 : decode cX11_stops 8 = .ok (.if_icmp .le 10, 3) := by decide +kernel
theorem dX11_stops_11 : decode cX11_stops 11 = .ok (.aload_n 0, 1) := by decide +kernel
theorem dX11_stops_12 : decode cX11_stops 12 = .ok (.bipush (-2), 2) := by decide +kernel
theorem dX11_stops_14 : decode cX11_stops 14 = .ok (.invokevirtual 93, 3) := by decide +kernel
theorem dX11_stops_17 : decode cX11_stops 17 = .ok (.ireturn, 1) := by decide +kernel
theorem dX11_stops_18 : decode cX11_stops 18 = .ok (.iconst 0, 1) := by decide +kernel
theorem dX11_stops_19 : decode cX11_stops 19 = .ok (.istore_n 2, 1) := by decide +kernel
theorem dX11_stops_20 : decode cX11_stops 20 = .ok (.iconst 0, 1) := by decide +kernel
theorem dX11_stops_21 : decode cX11_stops 21 = .ok (.istore_n 3, 1) := by decide +kernel
theorem dX11_stops_22 : decode cX11_stops 22 = .ok (.iconst 1, 1) := by decide +kernel
theorem dX11_stops_23 : decode cX11_stops 23 = .ok (.istore 4, 2) := by decide +kernel
theorem dX11_stops_25 : decode cX11_stops 25 = .ok (.iload 4, 2) := by decide +kernel
theorem dX11_stops_27 : decode cX11_stops 27 = .ok (.iconst 1, 1) := by decide +kernel
theorem dX11_stops_28 : decode cX11_stops 28 = .ok (.aload_n 0, 1) := by decide +kernel
theorem dX11_stops_29 : decode cX11_stops 29 = .ok (.getfield 62, 3) := by decide +kernel
theorem dX11_stops_32 : decode cX11_stops 32 = .ok (.iconst 3, 1) := by decide +kernel
theorem dX11_stops_33 : decode cX11_stops 33 = .ok (.iaload, 1) := by decide +kernel
theorem dX11_stops_34 : decode cX11_stops 34 = .ok (.ishl, 1) := by decide +kernel
theorem dX11_stops_35 : decode cX11_stops 35 = .ok (.if_icmp .ge 90, 3) := by decide +kernel
theorem dX11_stops_38 : decode cX11_stops 38 = .ok (.iconst 0, 1) := by decide +kernel
theorem dX11_stops_39 : decode cX11_stops 39 = .ok (.istore 5, 2) := by decide +kernel
theorem dX11_stops_41 : decode cX11_stops 41 = .ok (.iconst 0, 1) := by decide +kernel
theorem dX11_stops_42 : decode cX11_stops 42 = .ok (.istore 6, 2) := by decide +kernel
theorem dX11_stops_44 : decode cX11_stops 44 = .ok (.iconst 0, 1) := by decide +kernel
theorem dX11_stops_45 : decode cX11_stops 45 = .ok (.istore 7, 2) := by decide +kernel
theorem dX11_stops_47 : decode cX11_stops 47 = .ok (.iload 7, 2) := by decide +kernel
theorem dX11_stops_49 : decode cX11_stops 49 = .ok (.aload_n 0, 1) := by decide +kernel
theorem dX11_stops_50 : decode cX11_stops 50 = .ok (.getfield 62, 3) := by decide +kernel
theorem dX11_stops_53 : decode cX11_stops 53 = .ok (.iconst 3, 1) := by decide +kernel
theorem dX11_stops_54 : decode cX11_stops 54 = .ok (.iaload, 1) := by decide +kernel
theorem dX11_stops_55 : decode cX11_stops 55 = .ok (.if_icmp .ge 46, 3) := by decide +kernel
theorem dX11_stops_58 : decode cX11_stops 58 = .ok (.iload 4, 2) := by decide +kernel
theorem dX11_stops_60 : decode cX11_stops 60 = .ok (.iload 7, 2) := by decide +kernel
theorem dX11_stops_62 : decode cX11_stops 62 = .ok (.ishr, 1) := by decide +kernel
theorem dX11_stops_63 : decode cX11_stops 63 = .ok (.iconst 1, 1) := by decide +kernel
theorem dX11_stops_64 : decode cX11_stops 64 = .ok (.iand, 1) := by decide +kernel
theorem dX11_stops_65 : decode cX11_stops 65 = .ok (.ifCond .ne 6, 3) := by decide +kernel
theorem dX11_stops_68 : decode cX11_stops 68 = .ok (.goto 27, 3) := by decide +kernel
theorem dX11_stops_71 : decode cX11_stops 71 = .ok (.iload 5, 2) := by decide +kernel
theorem dX11_stops_73 : decode cX11_stops 73 = .ok (.aload_n 0, 1) := by decide +kernel
theorem dX11_stops_74 : decode cX11_stops 74 = .ok (.getfield 53, 3) := by decide +kernel
theorem dX11_stops_77 : decode cX11_stops 77 = .ok (.iload 7, 2) := by decide +kernel
theorem dX11_stops_79 : decode cX11_stops 79 = .ok (.iaload, 1) := by decide +kernel
theorem dX11_stops_80 : decode cX11_stops 80 = .ok (.iadd, 1) := by decide +kernel
theorem dX11_stops_81 : decode cX11_stops 81 = .ok (.istore 5, 2) := by decide +kernel
theorem dX11_stops_83 : decode cX11_stops 83 = .ok (.iload 6, 2) := by decide +kernel
theorem dX11_stops_85 : decode cX11_stops 85 = .ok (.aload_n 0, 1) := by decide +kernel
theorem dX11_stops_86 : decode cX11_stops 86 = .ok (.getfield 56, 3) := by decide +kernel
theorem dX11_stops_89 : decode cX11_stops 89 = .ok (.iload 7, 2) := by decide +kernel
theorem dX11_stops_91 : decode cX11_stops 91 = .ok (.iaload, 1) := by decide +kernel
theorem dX11_stops_92 : decode cX11_stops 92 = .ok (.iadd, 1) := by decide +kernel
theorem dX11_stops_93 : decode cX11_stops 93 = .ok (.istore 6, 2) := by decide +kernel
theorem dX11_stops_95 : decode cX11_stops 95 = .ok (.iinc 7 1, 3) := by decide +kernel
theorem dX11_stops_98 : decode cX11_stops 98 = .ok (.goto (-51), 3) := by decide +kernel
theorem dX11_stops_101 : decode cX11_stops 101 = .ok (.iload 5, 2) := by decide +kernel
theorem dX11_stops_103 : decode cX11_stops 103 = .ok (.iload_n 1, 1) := by decide +kernel
theorem dX11_stops_104 : decode cX11_stops 104 = .ok (.if_icmp .gt 15, 3) := by decide +kernel
theorem dX11_stops_107 : decode cX11_stops 107 = .ok (.iload 6, 2) := by decide +kernel
theorem dX11_stops_109 : decode cX11_stops 109 = .ok (.iload_n 3, 1) := by decide +kernel
theorem dX11_stops_110 : decode cX11_stops 110 = .ok (.if_icmp .le 9, 3) := by decide +kernel
theorem dX11_stops_113 : decode cX11_stops 113 = .ok (.iload 6, 2) := by decide +kernel
theorem dX11_stops_115 : decode cX11_stops 115 = .ok (.istore_n 3, 1) := by decide +kernel
theorem dX11_stops_116 : decode cX11_stops 116 = .ok (.iload 4, 2) := by decide +kernel
theorem dX11_stops_118 : decode cX11_stops 118 = .ok (.istore_n 2, 1) := by decide +kernel
theorem dX11_stops_119 : decode cX11_stops 119 = .ok (.iinc 4 1, 3) := by decide +kernel
theorem dX11_stops_122 : decode cX11_stops 122 = .ok (.goto (-97), 3) := by decide +kernel
theorem dX11_stops_125 : decode cX11_stops 125 = .ok (.iload_n 2, 1) := by decide +kernel
theorem dX11_stops_126 : decode cX11_stops 126 = .ok (.ireturn, 1) := by decide +kernel
theorem dX11_week_0 : decode cX11_week 0 = .ok (.aload_n 0, 1) := by decide +kernel
theorem dX11_week_1 : decode cX11_week 1 = .ok (.iload_n 1, 1) := by decide +kernel
theorem dX11_week_2 : decode cX11_week 2 = .ok (.invokevirtual 106, 3) := by decide +kernel
theorem dX11_week_5 : decode cX11_week 5 = .ok (.ifCond .eq 11, 3) := by decide +kernel
theorem dX11_week_8 : decode cX11_week 8 = .ok (.aload_n 0, 1) := by decide +kernel
theorem dX11_week_9 : decode cX11_week 9 = .ok (.iload_n 2, 1) := by decide +kernel
theorem dX11_week_10 : decode cX11_week 10 = .ok (.invokevirtual 233, 3) := by decide +kernel
theorem dX11_week_13 : decode cX11_week 13 = .ok (.ifCond .ne 10, 3) := by decide +kernel
theorem dX11_week_16 : decode cX11_week 16 = .ok (.aload_n 0, 1) := by decide +kernel
theorem dX11_week_17 : decode cX11_week 17 = .ok (.bipush (-2), 2) := by decide +kernel
theorem dX11_week_19 : decode cX11_week 19 = .ok (.invokevirtual 93, 3) := by decide +kernel
theorem dX11_week_22 : decode cX11_week 22 = .ok (.ireturn, 1) := by decide +kernel
theorem dX11_week_23 : decode cX11_week 23 = .ok (.iconst 0, 1) := by decide +kernel
theorem dX11_week_24 : decode cX11_week 24 = .ok (.istore_n 3, 1) := by decide +kernel
theorem dX11_week_25 : decode cX11_week 25 = .ok (.iload_n 3, 1) := by decide +kernel
theorem dX11_week_26 : decode cX11_week 26 = .ok (.bipush 20, 2) := by decide +kernel
theorem dX11_week_28 : decode cX11_week 28 = .ok (.if_icmp .gt 29, 3) := by decide +kernel
theorem dX11_week_31 : decode cX11_week 31 = .ok (.aload_n 0, 1) := by decide +kernel
theorem dX11_week_32 : decode cX11_week 32 = .ok (.iload_n 1, 1) := by decide +kernel
theorem dX11_week_33 : decode cX11_week 33 = .ok (.aload_n 0, 1) := by decide +kernel
theorem dX11_week_34 : decode cX11_week 34 = .ok (.getfield 62, 3) := by decide +kernel
theorem dX11_week_37 : decode cX11_week 37 = .ok (.iconst 5, 1) := by decide +kernel
theorem dX11_week_38 : decode cX11_week 38 = .ok (.iaload, 1) := by decide +kernel
theorem dX11_week_39 : decode cX11_week 39 = .ok (.iload_n 3, 1) := by decide +kernel
theorem dX11_week_40 : decode cX11_week 40 = .ok (.iload_n 2, 1) := by decide +kernel
theorem dX11_week_41 : decode cX11_week 41 = .ok (.imul, 1) := by decide +kernel
theorem dX11_week_42 : decode cX11_week 42 = .ok (.isub, 1) := by decide +kernel
theorem dX11_week_43 : decode cX11_week 43 = .ok (.invokevirtual 136, 3) := by decide +kernel
theorem dX11_week_46 : decode cX11_week 46 = .ok (.ifCond .eq 5, 3) := by decide +kernel
theorem dX11_week_49 : decode cX11_week 49 = .ok (.iload_n 3, 1) := by decide +kernel
theorem dX11_week_50 : decode cX11_week 50 = .ok (.ireturn, 1) := by decide +kernel
theorem dX11_week_51 : decode cX11_week 51 = .ok (.iinc 3 1, 3) := by decide +kernel
theorem dX11_week_54 : decode cX11_week 54 = .ok (.goto (-29), 3) := by decide +kernel
theorem dX11_week_57 : decode cX11_week 57 = .ok (.iconst (-1), 1) := by decide +kernel
theorem dX11_week_58 : decode cX11_week 58 = .ok (.ireturn, 1) := by decide +kernel
theorem dX11_outs_0 : decode cX11_outs 0 = .ok (.iload_n 1, 1) := by decide +kernel
theorem dX11_outs_1 : decode cX11_outs 1 = .ok (.ifCond .lt 17, 3) := by decide +kernel
theorem dX11_outs_4 : decode cX11_outs 4 = .ok (.iload_n 1, 1) := by decide +kernel
theorem dX11_outs_5 : decode cX11_outs 5 = .ok (.bipush 20, 2) := by decide +kernel
theorem dX11_outs_7 : decode cX11_outs 7 = .ok (.if_icmp .gt 11, 3) := by decide +kernel
theorem dX11_outs_10 : decode cX11_outs 10 = .ok (.aload_n 0, 1) := by decide +kernel
theorem dX11_outs_11 : decode cX11_outs 11 = .ok (.iload_n 2, 1) := by decide +kernel
theorem dX11_outs_12 : decode cX11_outs 12 = .ok (.invokevirtual 233, 3) := by decide +kernel
theorem dX11_outs_15 : decode cX11_outs 15 = .ok (.ifCond .ne 10, 3) := by decide +kernel
theorem dX11_outs_18 : decode cX11_outs 18 = .ok (.aload_n 0, 1) := by decide +kernel
theorem dX11_outs_19 : decode cX11_outs 19 = .ok (.bipush (-2), 2) := by decide +kernel
theorem dX11_outs_21 : decode cX11_outs 21 = .ok (.invokevirtual 93, 3) := by decide +kernel
theorem dX11_outs_24 : decode cX11_outs 24 = .ok (.ireturn, 1) := by decide +kernel
theorem dX11_outs_25 : decode cX11_outs 25 = .ok (.iconst 0, 1) := by decide +kernel
theorem dX11_outs_26 : decode cX11_outs 26 = .ok (.istore_n 3, 1) := by decide +kernel
theorem dX11_outs_27 : decode cX11_outs 27 = .ok (.iconst 0, 1) := by decide +kernel
theorem dX11_outs_28 : decode cX11_outs 28 = .ok (.istore 4, 2) := by decide +kernel
theorem dX11_outs_30 : decode cX11_outs 30 = .ok (.iload 4, 2) := by decide +kernel
theorem dX11_outs_32 : decode cX11_outs 32 = .ok (.aload_n 0, 1) := by decide +kernel
theorem dX11_outs_33 : decode cX11_outs 33 = .ok (.getfield 62, 3) := by decide +kernel
theorem dX11_outs_36 : decode cX11_outs 36 = .ok (.iconst 0, 1) := by decide +kernel
theorem dX11_outs_37 : decode cX11_outs 37 = .ok (.iaload, 1) := by decide +kernel
theorem dX11_outs_38 : decode cX11_outs 38 = .ok (.if_icmp .ge 35, 3) := by decide +kernel
theorem dX11_outs_41 : decode cX11_outs 41 = .ok (.aload_n 0, 1) := by decide +kernel
theorem dX11_outs_42 : decode cX11_outs 42 = .ok (.iload 4, 2) := by decide +kernel
theorem dX11_outs_44 : decode cX11_outs 44 = .ok (.aload_n 0, 1) := by decide +kernel
theorem dX11_outs_45 : decode cX11_outs 45 = .ok (.getfield 62, 3) := by decide +kernel
theorem dX11_outs_48 : decode cX11_outs 48 = .ok (.iconst 5, 1) := by decide +kernel
theorem dX11_outs_49 : decode cX11_outs 49 = .ok (.iaload, 1) := by decide +kernel
theorem dX11_outs_50 : decode cX11_outs 50 = .ok (.iload_n 1, 1) := by decide +kernel
theorem dX11_outs_51 : decode cX11_outs 51 = .ok (.iload_n 2, 1) := by decide +kernel
theorem dX11_outs_52 : decode cX11_outs 52 = .ok (.imul, 1) := by decide +kernel
theorem dX11_outs_53 : decode cX11_outs 53 = .ok (.isub, 1) := by decide +kernel
theorem dX11_outs_54 : decode cX11_outs 54 = .ok (.invokevirtual 136, 3) := by decide +kernel
theorem dX11_outs_57 : decode cX11_outs 57 = .ok (.ifCond .eq 10, 3) := by decide +kernel
theorem dX11_outs_60 : decode cX11_outs 60 = .ok (.iload_n 3, 1) := by decide +kernel
theorem dX11_outs_61 : decode cX11_outs 61 = .ok (.iconst 1, 1) := by decide +kernel
theorem dX11_outs_62 : decode cX11_outs 62 = .ok (.iload 4, 2) := by decide +kernel
theorem dX11_outs_64 : decode cX11_outs 64 = .ok (.ishl, 1) := by decide +kernel
theorem dX11_outs_65 : decode cX11_outs 65 = .ok (.ior, 1) := by decide +kernel
theorem dX11_outs_66 : decode cX11_outs 66 = .ok (.istore_n 3, 1) := by decide +kernel
theorem dX11_outs_67 : decode cX11_outs 67 = .ok (.iinc 4 1, 3) := by decide +kernel
theorem dX11_outs_70 : decode cX11_outs 70 = .ok (.goto (-40), 3) := by decide +kernel
theorem dX11_outs_73 : decode cX11_outs 73 = .ok (.iload_n 3, 1) := by decide +kernel
theorem dX11_outs_74 : decode cX11_outs 74 = .ok (.ireturn, 1) := by decide +kernel
theorem dX11_seed_0 : decode cX11_seed 0 = .ok (.aload_n 0, 1) := by decide +kernel
theorem dX11_seed_1 : decode cX11_seed 1 = .ok (.getfield 62, 3) := by decide +kernel
theorem dX11_seed_4 : decode cX11_seed 4 = .ok (.bipush 8, 2) := by decide +kernel
theorem dX11_seed_6 : decode cX11_seed 6 = .ok (.iaload, 1) := by decide +kernel
theorem dX11_seed_7 : decode cX11_seed 7 = .ok (.istore_n 2, 1) := by decide +kernel
theorem dX11_seed_8 : decode cX11_seed 8 = .ok (.aload_n 0, 1) := by decide +kernel
theorem dX11_seed_9 : decode cX11_seed 9 = .ok (.getfield 62, 3) := by decide +kernel
theorem dX11_seed_12 : decode cX11_seed 12 = .ok (.bipush 8, 2) := by decide +kernel
theorem dX11_seed_14 : decode cX11_seed 14 = .ok (.iload_n 1, 1) := by decide +kernel
theorem dX11_seed_15 : decode cX11_seed 15 = .ok (.iastore, 1) := by decide +kernel
theorem dX11_seed_16 : decode cX11_seed 16 = .ok (.iload_n 2, 1) := by decide +kernel
theorem dX11_seed_17 : decode cX11_seed 17 = .ok (.ireturn, 1) := by decide +kernel
theorem dX11_draw_0 : decode cX11_draw 0 = .ok (.aload_n 0, 1) := by decide +kernel
theorem dX11_draw_1 : decode cX11_draw 1 = .ok (.getfield 62, 3) := by decide +kernel
theorem dX11_draw_4 : decode cX11_draw 4 = .ok (.bipush 8, 2) := by decide +kernel
theorem dX11_draw_6 : decode cX11_draw 6 = .ok (.aload_n 0, 1) := by decide +kernel
theorem dX11_draw_7 : decode cX11_draw 7 = .ok (.getfield 62, 3) := by decide +kernel
theorem dX11_draw_10 : decode cX11_draw 10 = .ok (.bipush 8, 2) := by decide +kernel
theorem dX11_draw_12 : decode cX11_draw 12 = .ok (.iaload, 1) := by decide +kernel
theorem dX11_draw_13 : decode cX11_draw 13 = .ok (.ldc 236, 2) := by decide +kernel
theorem dX11_draw_15 : decode cX11_draw 15 = .ok (.imul, 1) := by decide +kernel
theorem dX11_draw_16 : decode cX11_draw 16 = .ok (.sipush 12345, 3) := by decide +kernel
theorem dX11_draw_19 : decode cX11_draw 19 = .ok (.iadd, 1) := by decide +kernel
theorem dX11_draw_20 : decode cX11_draw 20 = .ok (.iastore, 1) := by decide +kernel
theorem dX11_draw_21 : decode cX11_draw 21 = .ok (.aload_n 0, 1) := by decide +kernel
theorem dX11_draw_22 : decode cX11_draw 22 = .ok (.getfield 62, 3) := by decide +kernel
theorem dX11_draw_25 : decode cX11_draw 25 = .ok (.bipush 8, 2) := by decide +kernel
theorem dX11_draw_27 : decode cX11_draw 27 = .ok (.iaload, 1) := by decide +kernel
theorem dX11_draw_28 : decode cX11_draw 28 = .ok (.bipush 16, 2) := by decide +kernel
theorem dX11_draw_30 : decode cX11_draw 30 = .ok (.iushr, 1) := by decide +kernel
theorem dX11_draw_31 : decode cX11_draw 31 = .ok (.iload_n 1, 1) := by decide +kernel
theorem dX11_draw_32 : decode cX11_draw 32 = .ok (.irem, 1) := by decide +kernel
theorem dX11_draw_33 : decode cX11_draw 33 = .ok (.ireturn, 1) := by decide +kernel
theorem dX11_begin_0 : decode cX11_begin 0 = .ok (.aload_n 0, 1) := by decide +kernel
theorem dX11_begin_1 : decode cX11_begin 1 = .ok (.iload_n 1, 1) := by decide +kernel
theorem dX11_begin_2 : decode cX11_begin 2 = .ok (.invokevirtual 197, 3) := by decide +kernel
theorem dX11_begin_5 : decode cX11_begin 5 = .ok (.ifCond .eq 21, 3) := by decide +kernel
theorem dX11_begin_8 : decode cX11_begin 8 = .ok (.aload_n 0, 1) := by decide +kernel
theorem dX11_begin_9 : decode cX11_begin 9 = .ok (.iload_n 2, 1) := by decide +kernel
theorem dX11_begin_10 : decode cX11_begin 10 = .ok (.invokevirtual 89, 3) := by decide +kernel
theorem dX11_begin_13 : decode cX11_begin 13 = .ok (.ifCond .eq 13, 3) := by decide +kernel
theorem dX11_begin_16 : decode cX11_begin 16 = .ok (.iload_n 3, 1) := by decide +kernel
theorem dX11_begin_17 : decode cX11_begin 17 = .ok (.ifCond .lt 9, 3) := by decide +kernel
theorem dX11_begin_20 : decode cX11_begin 20 = .ok (.iload_n 3, 1) := by decide +kernel
theorem dX11_begin_21 : decode cX11_begin 21 = .ok (.bipush 20, 2) := by decide +kernel
theorem dX11_begin_23 : decode cX11_begin 23 = .ok (.if_icmp .le 10, 3) := by decide +kernel
theorem dX11_begin_26 : decode cX11_begin 26 = .ok (.aload_n 0, 1) := by decide +kernel
theorem dX11_begin_27 : decode cX11_begin 27 = .ok (.bipush (-2), 2) := by decide +kernel
theorem dX11_begin_29 : decode cX11_begin 29 = .ok (.invokevirtual 93, 3) := by decide +kernel
theorem dX11_begin_32 : decode cX11_begin 32 = .ok (.ireturn, 1) := by decide +kernel
theorem dX11_begin_33 : decode cX11_begin 33 = .ok (.aload_n 0, 1) := by decide +kernel
theorem dX11_begin_34 : decode cX11_begin 34 = .ok (.iload_n 2, 1) := by decide +kernel
theorem dX11_begin_35 : decode cX11_begin 35 = .ok (.iload_n 3, 1) := by decide +kernel
theorem dX11_begin_36 : decode cX11_begin 36 = .ok (.invokevirtual 216, 3) := by decide +kernel
theorem dX11_begin_39 : decode cX11_begin 39 = .ok (.istore 4, 2) := by decide +kernel
theorem dX11_begin_41 : decode cX11_begin 41 = .ok (.iload 4, 2) := by decide +kernel
theorem dX11_begin_43 : decode cX11_begin 43 = .ok (.ifCond .ge 10, 3) := by decide +kernel
theorem dX11_begin_46 : decode cX11_begin 46 = .ok (.aload_n 0, 1) := by decide +kernel
theorem dX11_begin_47 : decode cX11_begin 47 = .ok (.iload 4, 2) := by decide +kernel
theorem dX11_begin_49 : decode cX11_begin 49 = .ok (.invokevirtual 93, 3) := by decide +kernel
theorem dX11_begin_52 : decode cX11_begin 52 = .ok (.ireturn, 1) := by decide +kernel
theorem dX11_begin_53 : decode cX11_begin 53 = .ok (.aload_n 0, 1) := by decide +kernel
theorem dX11_begin_54 : decode cX11_begin 54 = .ok (.getfield 65, 3) := by decide +kernel
theorem dX11_begin_57 : decode cX11_begin 57 = .ok (.iconst 0, 1) := by decide +kernel
theorem dX11_begin_58 : decode cX11_begin 58 = .ok (.iconst 1, 1) := by decide +kernel
theorem dX11_begin_59 : decode cX11_begin 59 = .ok (.iastore, 1) := by decide +kernel
theorem dX11_begin_60 : decode cX11_begin 60 = .ok (.aload_n 0, 1) := by decide +kernel
theorem dX11_begin_61 : decode cX11_begin 61 = .ok (.getfield 65, 3) := by decide +kernel
theorem dX11_begin_64 : decode cX11_begin 64 = .ok (.iconst 1, 1) := by decide +kernel
theorem dX11_begin_65 : decode cX11_begin 65 = .ok (.iload_n 1, 1) := by decide +kernel
theorem dX11_begin_66 : decode cX11_begin 66 = .ok (.iastore, 1) := by decide +kernel
theorem dX11_begin_67 : decode cX11_begin 67 = .ok (.aload_n 0, 1) := by decide +kernel
theorem dX11_begin_68 : decode cX11_begin 68 = .ok (.getfield 65, 3) := by decide +kernel
theorem dX11_begin_71 : decode cX11_begin 71 = .ok (.iconst 2, 1) := by decide +kernel
theorem dX11_begin_72 : decode cX11_begin 72 = .ok (.iload_n 3, 1) := by decide +kernel
theorem dX11_begin_73 : decode cX11_begin 73 = .ok (.iastore, 1) := by decide +kernel
theorem dX11_begin_74 : decode cX11_begin 74 = .ok (.iconst 3, 1) := by decide +kernel
theorem dX11_begin_75 : decode cX11_begin 75 = .ok (.istore 5, 2) := by decide +kernel
theorem dX11_begin_77 : decode cX11_begin 77 = .ok (.iload 5, 2) := by decide +kernel
theorem dX11_begin_79 : decode cX11_begin 79 = .ok (.bipush 7, 2) := by decide +kernel
theorem dX11_begin_81 : decode cX11_begin 81 = .ok (.if_icmp .ge 17, 3) := by decide +kernel
theorem dX11_begin_84 : decode cX11_begin 84 = .ok (.aload_n 0, 1) := by decide +kernel
theorem dX11_begin_85 : decode cX11_begin 85 = .ok (.getfield 65, 3) := by decide +kernel
theorem dX11_begin_88 : decode cX11_begin 88 = .ok (.iload 5, 2) := by decide +kernel
theorem dX11_begin_90 : decode cX11_begin 90 = .ok (.iconst 0, 1) := by decide +kernel
theorem dX11_begin_91 : decode cX11_begin 91 = .ok (.iastore, 1) := by decide +kernel
theorem dX11_begin_92 : decode cX11_begin 92 = .ok (.iinc 5 1, 3) := by decide +kernel
theorem dX11_begin_95 : decode cX11_begin 95 = .ok (.goto (-18), 3) := by decide +kernel
theorem dX11_begin_98 : decode cX11_begin 98 = .ok (.aload_n 0, 1) := by decide +kernel
theorem dX11_begin_99 : decode cX11_begin 99 = .ok (.getfield 65, 3) := by decide +kernel
theorem dX11_begin_102 : decode cX11_begin 102 = .ok (.bipush 7, 2) := by decide +kernel
theorem dX11_begin_104 : decode cX11_begin 104 = .ok (.aload_n 0, 1) := by decide +kernel
theorem dX11_begin_105 : decode cX11_begin 105 = .ok (.getfield 62, 3) := by decide +kernel
theorem dX11_begin_108 : decode cX11_begin 108 = .ok (.bipush 7, 2) := by decide +kernel
theorem dX11_begin_110 : decode cX11_begin 110 = .ok (.iaload, 1) := by decide +kernel
theorem dX11_begin_111 : decode cX11_begin 111 = .ok (.iastore, 1) := by decide +kernel
theorem dX11_begin_112 : decode cX11_begin 112 = .ok (.iconst 0, 1) := by decide +kernel
theorem dX11_begin_113 : decode cX11_begin 113 = .ok (.istore 5, 2) := by decide +kernel
theorem dX11_begin_115 : decode cX11_begin 115 = .ok (.iload 5, 2) := by decide +kernel
theorem dX11_begin_117 : decode cX11_begin 117 = .ok (.iload_n 3, 1) := by decide +kernel
theorem dX11_begin_118 : decode cX11_begin 118 = .ok (.if_icmp .ge 26, 3) := by decide +kernel
theorem dX11_begin_121 : decode cX11_begin 121 = .ok (.aload_n 0, 1) := by decide +kernel
theorem dX11_begin_122 : decode cX11_begin 122 = .ok (.getfield 65, 3) := by decide +kernel
theorem dX11_begin_125 : decode cX11_begin 125 = .ok (.bipush 8, 2) := by decide +kernel
theorem dX11_begin_127 : decode cX11_begin 127 = .ok (.iload 5, 2) := by decide +kernel
theorem dX11_begin_129 : decode cX11_begin 129 = .ok (.iadd, 1) := by decide +kernel
theorem dX11_begin_130 : decode cX11_begin 130 = .ok (.aload_n 0, 1) := by decide +kernel
theorem dX11_begin_131 : decode cX11_begin 131 = .ok (.getfield 74, 3) := by decide +kernel
theorem dX11_begin_134 : decode cX11_begin 134 = .ok (.iload 5, 2) := by decide +kernel
theorem dX11_begin_136 : decode cX11_begin 136 = .ok (.iaload, 1) := by decide +kernel
theorem dX11_begin_137 : decode cX11_begin 137 = .ok (.iastore, 1) := by decide +kernel
theorem dX11_begin_138 : decode cX11_begin 138 = .ok (.iinc 5 1, 3) := by decide +kernel
theorem dX11_begin_141 : decode cX11_begin 141 = .ok (.goto (-26), 3) := by decide +kernel
theorem dX11_begin_144 : decode cX11_begin 144 = .ok (.iload_n 3, 1) := by decide +kernel
theorem dX11_begin_145 : decode cX11_begin 145 = .ok (.ireturn, 1) := by decide +kernel
theorem dX11_step_0 : decode cX11_step 0 = .ok (.aload_n 0, 1) := by decide +kernel
theorem dX11_step_1 : decode cX11_step 1 = .ok (.getfield 65, 3) := by decide +kernel
theorem dX11_step_4 : decode cX11_step 4 = .ok (.iconst 0, 1) := by decide +kernel
theorem dX11_step_5 : decode cX11_step 5 = .ok (.iaload, 1) := by decide +kernel
theorem dX11_step_6 : decode cX11_step 6 = .ok (.ifCond .eq 18, 3) := by decide +kernel
theorem dX11_step_9 : decode cX11_step 9 = .ok (.aload_n 0, 1) := by decide +kernel
theorem dX11_step_10 : decode cX11_step 10 = .ok (.getfield 65, 3) := by decide +kernel
theorem dX11_step_13 : decode cX11_step 13 = .ok (.iconst 3, 1) := by decide +kernel
theorem dX11_step_14 : decode cX11_step 14 = .ok (.iaload, 1) := by decide +kernel
theorem dX11_step_15 : decode cX11_step 15 = .ok (.aload_n 0, 1) := by decide +kernel
theorem dX11_step_16 : decode cX11_step 16 = .ok (.getfield 65, 3) := by decide +kernel
theorem dX11_step_19 : decode cX11_step 19 = .ok (.iconst 2, 1) := by decide +kernel
theorem dX11_step_20 : decode cX11_step 20 = .ok (.iaload, 1) := by decide +kernel
theorem dX11_step_21 : decode cX11_step 21 = .ok (.if_icmp .ne 10, 3) := by decide +kernel
theorem dX11_step_24 : decode cX11_step 24 = .ok (.aload_n 0, 1) := by decide +kernel
theorem dX11_step_25 : decode cX11_step 25 = .ok (.bipush (-5), 2) := by decide +kernel
theorem dX11_step_27 : decode cX11_step 27 = .ok (.invokevirtual 93, 3) := by decide +kernel
theorem dX11_step_30 : decode cX11_step 30 = .ok (.ireturn, 1) := by decide +kernel
theorem dX11_step_31 : decode cX11_step 31 = .ok (.aload_n 0, 1) := by decide +kernel
theorem dX11_step_32 : decode cX11_step 32 = .ok (.getfield 65, 3) := by decide +kernel
theorem dX11_step_35 : decode cX11_step 35 = .ok (.iconst 1, 1) := by decide +kernel
theorem dX11_step_36 : decode cX11_step 36 = .ok (.iaload, 1) := by decide +kernel
theorem dX11_step_37 : decode cX11_step 37 = .ok (.istore_n 1, 1) := by decide +kernel
theorem dX11_step_38 : decode cX11_step 38 = .ok (.aload_n 0, 1) := by decide +kernel
theorem dX11_step_39 : decode cX11_step 39 = .ok (.getfield 65, 3) := by decide +kernel
theorem dX11_step_42 : decode cX11_step 42 = .ok (.iconst 3, 1) := by decide +kernel
theorem dX11_step_43 : decode cX11_step 43 = .ok (.iaload, 1) := by decide +kernel
theorem dX11_step_44 : decode cX11_step 44 = .ok (.istore_n 2, 1) := by decide +kernel
theorem dX11_step_45 : decode cX11_step 45 = .ok (.aload_n 0, 1) := by decide +kernel
theorem dX11_step_46 : decode cX11_step 46 = .ok (.getfield 65, 3) := by decide +kernel
theorem dX11_step_49 : decode cX11_step 49 = .ok (.bipush 8, 2) := by decide +kernel
theorem dX11_step_51 : decode cX11_step 51 = .ok (.iload_n 2, 1) := by decide +kernel
theorem dX11_step_52 : decode cX11_step 52 = .ok (.iadd, 1) := by decide +kernel
theorem dX11_step_53 : decode cX11_step 53 = .ok (.iaload, 1) := by decide +kernel
theorem dX11_step_54 : decode cX11_step 54 = .ok (.istore_n 3, 1) := by decide +kernel
theorem dX11_step_55 : decode cX11_step 55 = .ok (.iload_n 2, 1) := by decide +kernel
theorem dX11_step_56 : decode cX11_step 56 = .ok (.ifCond .ne 13, 3) := by decide +kernel
theorem dX11_step_59 : decode cX11_step 59 = .ok (.aload_n 0, 1) := by decide +kernel
theorem dX11_step_60 : decode cX11_step 60 = .ok (.getfield 65, 3) := by decide +kernel
theorem dX11_step_63 : decode cX11_step 63 = .ok (.bipush 7, 2) := by decide +kernel
theorem dX11_step_65 : decode cX11_step 65 = .ok (.iaload, 1) := by decide +kernel
theorem dX11_step_66 : decode cX11_step 66 = .ok (.goto 17, 3) := by decide +kernel
theorem dX11_step_69 : decode cX11_step 69 = .ok (.aload_n 0, 1) := by decide +kernel
theorem dX11_step_70 : decode cX11_step 70 = .ok (.getfield 23, 3) := by decide +kernel
theorem dX11_step_73 : decode cX11_step 73 = .ok (.aload_n 0, 1) := by decide +kernel
theorem dX11_step_74 : decode cX11_step 74 = .ok (.getfield 65, 3) := by decide +kernel
theorem dX11_step_77 : decode cX11_step 77 = .ok (.bipush 7, 2) := by decide +kernel
theorem dX11_step_79 : decode cX11_step 79 = .ok (.iload_n 2, 1) := by decide +kernel
theorem dX11_step_80 : decode cX11_step 80 = .ok (.iadd, 1) := by decide +kernel
theorem dX11_step_81 : decode cX11_step 81 = .ok (.iaload, 1) := by decide +kernel
theorem dX11_step_82 : decode cX11_step 82 = .ok (.iaload, 1) := by decide +kernel
theorem dX11_step_83 : decode cX11_step 83 = .ok (.istore 4, 2) := by decide +kernel
theorem dX11_step_85 : decode cX11_step 85 = .ok (.aload_n 0, 1) := by decide +kernel
theorem dX11_step_86 : decode cX11_step 86 = .ok (.getfield 65, 3) := by decide +kernel
theorem dX11_step_89 : decode cX11_step 89 = .ok (.iconst 4, 1) := by decide +kernel
theorem dX11_step_90 : decode cX11_step 90 = .ok (.iaload, 1) := by decide +kernel
theorem dX11_step_91 : decode cX11_step 91 = .ok (.aload_n 0, 1) := by decide +kernel
theorem dX11_step_92 : decode cX11_step 92 = .ok (.iload 4, 2) := by decide +kernel
theorem dX11_step_94 : decode cX11_step 94 = .ok (.aload_n 0, 1) := by decide +kernel
theorem dX11_step_95 : decode cX11_step 95 = .ok (.getfield 23, 3) := by decide +kernel
theorem dX11_step_98 : decode cX11_step 98 = .ok (.iload_n 3, 1) := by decide +kernel
theorem dX11_step_99 : decode cX11_step 99 = .ok (.iaload, 1) := by decide +kernel
theorem dX11_step_100 : decode cX11_step 100 = .ok (.invokevirtual 210, 3) := by decide +kernel
theorem dX11_step_103 : decode cX11_step 103 = .ok (.iadd, 1) := by decide +kernel
theorem dX11_step_104 : decode cX11_step 104 = .ok (.istore 5, 2) := by decide +kernel
theorem dX11_step_106 : decode cX11_step 106 = .ok (.aload_n 0, 1) := by decide +kernel
theorem dX11_step_107 : decode cX11_step 107 = .ok (.iload_n 1, 1) := by decide +kernel
theorem dX11_step_108 : decode cX11_step 108 = .ok (.iload_n 3, 1) := by decide +kernel
theorem dX11_step_109 : decode cX11_step 109 = .ok (.aload_n 0, 1) := by decide +kernel
theorem dX11_step_110 : decode cX11_step 110 = .ok (.iload 5, 2) := by decide +kernel
theorem dX11_step_112 : decode cX11_step 112 = .ok (.invokevirtual 213, 3) := by decide +kernel
theorem dX11_step_115 : decode cX11_step 115 = .ok (.invokevirtual 203, 3) := by decide +kernel
theorem dX11_step_118 : decode cX11_step 118 = .ok (.istore 6, 2) := by decide +kernel
theorem dX11_step_120 : decode cX11_step 120 = .ok (.aload_n 0, 1) := by decide +kernel
theorem dX11_step_121 : decode cX11_step 121 = .ok (.sipush 1000, 3) := by decide +kernel
theorem dX11_step_124 : decode cX11_step 124 = .ok (.invokevirtual 237, 3) := by decide +kernel
theorem dX11_step_127 : decode cX11_step 127 = .ok (.istore 7, 2) := by decide +kernel
theorem dX11_step_129 : decode cX11_step 129 = .ok (.iload 7, 2) := by decide +kernel
theorem dX11_step_131 : decode cX11_step 131 = .ok (.iload 6, 2) := by decide +kernel
theorem dX11_step_133 : decode cX11_step 133 = .ok (.bipush 10, 2) := by decide +kernel
theorem dX11_step_135 : decode cX11_step 135 = .ok (.idiv, 1) := by decide +kernel
theorem dX11_step_136 : decode cX11_step 136 = .ok (.if_icmp .ge 7, 3) := by decide +kernel
theorem dX11_step_139 : decode cX11_step 139 = .ok (.iconst 2, 1) := by decide +kernel
theorem dX11_step_140 : decode cX11_step 140 = .ok (.goto 15, 3) := by decide +kernel
theorem dX11_step_143 : decode cX11_step 143 = .ok (.iload 7, 2) := by decide +kernel
theorem dX11_step_145 : decode cX11_step 145 = .ok (.iload 6, 2) := by decide +kernel
theorem dX11_step_147 : decode cX11_step 147 = .ok (.if_icmp .ge 7, 3) := by decide +kernel
theorem dX11_step_150 : decode cX11_step 150 = .ok (.iconst 1, 1) := by decide +kernel
theorem dX11_step_151 : decode cX11_step 151 = .ok (.goto 4, 3) := by decide +kernel
theorem dX11_step_154 : decode cX11_step 154 = .ok (.iconst 0, 1) := by decide +kernel
theorem dX11_step_155 : decode cX11_step 155 = .ok (.istore 8, 2) := by decide +kernel
theorem dX11_step_157 : decode cX11_step 157 = .ok (.aload_n 0, 1) := by decide +kernel
theorem dX11_step_158 : decode cX11_step 158 = .ok (.getfield 65, 3) := by decide +kernel
theorem dX11_step_161 : decode cX11_step 161 = .ok (.iconst 3, 1) := by decide +kernel
theorem dX11_step_162 : decode cX11_step 162 = .ok (.dup2, 1) := by decide +kernel
theorem dX11_step_163 : decode cX11_step 163 = .ok (.iaload, 1) := by decide +kernel
theorem dX11_step_164 : decode cX11_step 164 = .ok (.iconst 1, 1) := by decide +kernel
theorem dX11_step_165 : decode cX11_step 165 = .ok (.iadd, 1) := by decide +kernel
theorem dX11_step_166 : decode cX11_step 166 = .ok (.iastore, 1) := by decide +kernel
theorem dX11_step_167 : decode cX11_step 167 = .ok (.aload_n 0, 1) := by decide +kernel
theorem dX11_step_168 : decode cX11_step 168 = .ok (.getfield 65, 3) := by decide +kernel
theorem dX11_step_171 : decode cX11_step 171 = .ok (.iconst 4, 1) := by decide +kernel
theorem dX11_step_172 : decode cX11_step 172 = .ok (.iload 5, 2) := by decide +kernel
theorem dX11_step_174 : decode cX11_step 174 = .ok (.iconst 1, 1) := by decide +kernel
theorem dX11_step_175 : decode cX11_step 175 = .ok (.iadd, 1) := by decide +kernel
theorem dX11_step_176 : decode cX11_step 176 = .ok (.iload 8, 2) := by decide +kernel
theorem dX11_step_178 : decode cX11_step 178 = .ok (.iconst 2, 1) := by decide +kernel
theorem dX11_step_179 : decode cX11_step 179 = .ok (.if_icmp .ne 13, 3) := by decide +kernel
theorem dX11_step_182 : decode cX11_step 182 = .ok (.iconst 3, 1) := by decide +kernel
theorem dX11_step_183 : decode cX11_step 183 = .ok (.aload_n 0, 1) := by decide +kernel
theorem dX11_step_184 : decode cX11_step 184 = .ok (.iconst 1, 1) := by decide +kernel
theorem dX11_step_185 : decode cX11_step 185 = .ok (.invokevirtual 127, 3) := by decide +kernel
theorem dX11_step_188 : decode cX11_step 188 = .ok (.imul, 1) := by decide +kernel
theorem dX11_step_189 : decode cX11_step 189 = .ok (.goto 4, 3) := by decide +kernel
theorem dX11_step_192 : decode cX11_step 192 = .ok (.iconst 0, 1) := by decide +kernel
theorem dX11_step_193 : decode cX11_step 193 = .ok (.iadd, 1) := by decide +kernel
theorem dX11_step_194 : decode cX11_step 194 = .ok (.iastore, 1) := by decide +kernel
theorem dX11_step_195 : decode cX11_step 195 = .ok (.iload 8, 2) := by decide +kernel
theorem dX11_step_197 : decode cX11_step 197 = .ok (.iconst 1, 1) := by decide +kernel
theorem dX11_step_198 : decode cX11_step 198 = .ok (.if_icmp .ne 13, 3) := by decide +kernel
theorem dX11_step_201 : decode cX11_step 201 = .ok (.aload_n 0, 1) := by decide +kernel
theorem dX11_step_202 : decode cX11_step 202 = .ok (.getfield 65, 3) := by decide +kernel
theorem dX11_step_205 : decode cX11_step 205 = .ok (.iconst 5, 1) := by decide +kernel
theorem dX11_step_206 : decode cX11_step 206 = .ok (.dup2, 1) := by decide +kernel
theorem dX11_step_207 : decode cX11_step 207 = .ok (.iaload, 1) := by decide +kernel
theorem dX11_step_208 : decode cX11_step 208 = .ok (.iconst 1, 1) := by decide +kernel
theorem dX11_step_209 : decode cX11_step 209 = .ok (.iadd, 1) := by decide +kernel
theorem dX11_step_210 : decode cX11_step 210 = .ok (.iastore, 1) := by decide +kernel
theorem dX11_step_211 : decode cX11_step 211 = .ok (.iload 8, 2) := by decide +kernel
theorem dX11_step_213 : decode cX11_step 213 = .ok (.iconst 2, 1) := by decide +kernel
theorem dX11_step_214 : decode cX11_step 214 = .ok (.if_icmp .ne 14, 3) := by decide +kernel
theorem dX11_step_217 : decode cX11_step 217 = .ok (.aload_n 0, 1) := by decide +kernel
theorem dX11_step_218 : decode cX11_step 218 = .ok (.getfield 65, 3) := by decide +kernel
theorem dX11_step_221 : decode cX11_step 221 = .ok (.bipush 6, 2) := by decide +kernel
theorem dX11_step_223 : decode cX11_step 223 = .ok (.dup2, 1) := by decide +kernel
theorem dX11_step_224 : decode cX11_step 224 = .ok (.iaload, 1) := by decide +kernel
theorem dX11_step_225 : decode cX11_step 225 = .ok (.iconst 1, 1) := by decide +kernel
theorem dX11_step_226 : decode cX11_step 226 = .ok (.iadd, 1) := by decide +kernel
theorem dX11_step_227 : decode cX11_step 227 = .ok (.iastore, 1) := by decide +kernel
theorem dX11_step_228 : decode cX11_step 228 = .ok (.aload_n 0, 1) := by decide +kernel
theorem dX11_step_229 : decode cX11_step 229 = .ok (.getfield 44, 3) := by decide +kernel
theorem dX11_step_232 : decode cX11_step 232 = .ok (.iload_n 1, 1) := by decide +kernel
theorem dX11_step_233 : decode cX11_step 233 = .ok (.dup2, 1) := by decide +kernel
theorem dX11_step_234 : decode cX11_step 234 = .ok (.iaload, 1) := by decide +kernel
theorem dX11_step_235 : decode cX11_step 235 = .ok (.iconst 1, 1) := by decide +kernel
theorem dX11_step_236 : decode cX11_step 236 = .ok (.iadd, 1) := by decide +kernel
theorem dX11_step_237 : decode cX11_step 237 = .ok (.iastore, 1) := by decide +kernel
theorem dX11_step_238 : decode cX11_step 238 = .ok (.iload 8, 2) := by decide +kernel
theorem dX11_step_240 : decode cX11_step 240 = .ok (.ifCond .le 13, 3) := by decide +kernel
theorem dX11_step_243 : decode cX11_step 243 = .ok (.aload_n 0, 1) := by decide +kernel
theorem dX11_step_244 : decode cX11_step 244 = .ok (.getfield 47, 3) := by decide +kernel
theorem dX11_step_247 : decode cX11_step 247 = .ok (.iload_n 1, 1) := by decide +kernel
theorem dX11_step_248 : decode cX11_step 248 = .ok (.dup2, 1) := by decide +kernel
theorem dX11_step_249 : decode cX11_step 249 = .ok (.iaload, 1) := by decide +kernel
theorem dX11_step_250 : decode cX11_step 250 = .ok (.iconst 1, 1) := by decide +kernel
theorem dX11_step_251 : decode cX11_step 251 = .ok (.iadd, 1) := by decide +kernel
theorem dX11_step_252 : decode cX11_step 252 = .ok (.iastore, 1) := by decide +kernel
theorem dX11_step_253 : decode cX11_step 253 = .ok (.iload 8, 2) := by decide +kernel
theorem dX11_step_255 : decode cX11_step 255 = .ok (.ireturn, 1) := by decide +kernel
theorem dX11_under_0 : decode cX11_under 0 = .ok (.iload_n 1, 1) := by decide +kernel
theorem dX11_under_1 : decode cX11_under 1 = .ok (.ifCond .lt 8, 3) := by decide +kernel
theorem dX11_under_4 : decode cX11_under 4 = .ok (.iload_n 1, 1) := by decide +kernel
theorem dX11_under_5 : decode cX11_under 5 = .ok (.iconst 4, 1) := by decide +kernel
theorem dX11_under_6 : decode cX11_under 6 = .ok (.if_icmp .le 10, 3) := by decide +kernel
theorem dX11_under_9 : decode cX11_under 9 = .ok (.aload_n 0, 1) := by decide +kernel
theorem dX11_under_10 : decode cX11_under 10 = .ok (.bipush (-2), 2) := by decide +kernel
theorem dX11_under_12 : decode cX11_under 12 = .ok (.invokevirtual 93, 3) := by decide +kernel
theorem dX11_under_15 : decode cX11_under 15 = .ok (.ireturn, 1) := by decide +kernel
theorem dX11_under_16 : decode cX11_under 16 = .ok (.aload_n 0, 1) := by decide +kernel
theorem dX11_under_17 : decode cX11_under 17 = .ok (.getfield 65, 3) := by decide +kernel
theorem dX11_under_20 : decode cX11_under 20 = .ok (.iconst 0, 1) := by decide +kernel
theorem dX11_under_21 : decode cX11_under 21 = .ok (.iaload, 1) := by decide +kernel
theorem dX11_under_22 : decode cX11_under 22 = .ok (.ifCond .ne 10, 3) := by decide +kernel
theorem dX11_under_25 : decode cX11_under 25 = .ok (.aload_n 0, 1) := by decide +kernel
theorem dX11_under_26 : decode cX11_under 26 = .ok (.bipush (-5), 2) := by decide +kernel
theorem dX11_under_28 : decode cX11_under 28 = .ok (.invokevirtual 93, 3) := by decide +kernel
theorem dX11_under_31 : decode cX11_under 31 = .ok (.ireturn, 1) := by decide +kernel
theorem dX11_under_32 : decode cX11_under 32 = .ok (.iload_n 1, 1) := by decide +kernel
theorem dX11_under_33 : decode cX11_under 33 = .ok (.ifCond .ne 12, 3) := by decide +kernel
theorem dX11_under_36 : decode cX11_under 36 = .ok (.aload_n 0, 1) := by decide +kernel
theorem dX11_under_37 : decode cX11_under 37 = .ok (.getfield 65, 3) := by decide +kernel
theorem dX11_under_40 : decode cX11_under 40 = .ok (.iconst 1, 1) := by decide +kernel
theorem dX11_under_41 : decode cX11_under 41 = .ok (.iaload, 1) := by decide +kernel
theorem dX11_under_42 : decode cX11_under 42 = .ok (.goto 11, 3) := by decide +kernel
theorem dX11_under_45 : decode cX11_under 45 = .ok (.aload_n 0, 1) := by decide +kernel
theorem dX11_under_46 : decode cX11_under 46 = .ok (.getfield 65, 3) := by decide +kernel
theorem dX11_under_49 : decode cX11_under 49 = .ok (.iconst 2, 1) := by decide +kernel
theorem dX11_under_50 : decode cX11_under 50 = .ok (.iload_n 1, 1) := by decide +kernel
theorem dX11_under_51 : decode cX11_under 51 = .ok (.iadd, 1) := by decide +kernel
theorem dX11_under_52 : decode cX11_under 52 = .ok (.iaload, 1) := by decide +kernel
theorem dX11_under_53 : decode cX11_under 53 = .ok (.ireturn, 1) := by decide +kernel
theorem dX11_move_0 : decode cX11_move 0 = .ok (.iconst 0, 1) := by decide +kernel
theorem dX11_move_1 : decode cX11_move 1 = .ok (.istore 4, 2) := by decide +kernel
theorem dX11_move_3 : decode cX11_move 3 = .ok (.iload 4, 2) := by decide +kernel
theorem dX11_move_5 : decode cX11_move 5 = .ok (.aload_n 1, 1) := by decide +kernel
theorem dX11_move_6 : decode cX11_move 6 = .ok (.arraylength, 1) := by decide +kernel
theorem dX11_move_7 : decode cX11_move 7 = .ok (.if_icmp .ge 42, 3) := by decide +kernel
theorem dX11_move_10 : decode cX11_move 10 = .ok (.iload_n 3, 1) := by decide +kernel
theorem dX11_move_11 : decode cX11_move 11 = .ok (.ifCond .eq 19, 3) := by decide +kernel
theorem dX11_move_14 : decode cX11_move 14 = .ok (.aload_n 0, 1) := by decide +kernel
theorem dX11_move_15 : decode cX11_move 15 = .ok (.getfield 71, 3) := by decide +kernel
theorem dX11_move_18 : decode cX11_move 18 = .ok (.iload_n 2, 1) := by decide +kernel
theorem dX11_move_19 : decode cX11_move 19 = .ok (.iload 4, 2) := by decide +kernel
theorem dX11_move_21 : decode cX11_move 21 = .ok (.iadd, 1) := by decide +kernel
theorem dX11_move_22 : decode cX11_move 22 = .ok (.aload_n 1, 1) := by decide +kernel
theorem dX11_move_23 : decode cX11_move 23 = .ok (.iload 4, 2) := by decide +kernel
theorem dX11_move_25 : decode cX11_move 25 = .ok (.iaload, 1) := by decide +kernel
theorem dX11_move_26 : decode cX11_move 26 = .ok (.iastore, 1) := by decide +kernel
theorem dX11_move_27 : decode cX11_move 27 = .ok (.goto 16, 3) := by decide +kernel
theorem dX11_move_30 : decode cX11_move 30 = .ok (.aload_n 1, 1) := by decide +kernel
theorem dX11_move_31 : decode cX11_move 31 = .ok (.iload 4, 2) := by decide +kernel
theorem dX11_move_33 : decode cX11_move 33 = .ok (.aload_n 0, 1) := by decide +kernel
theorem dX11_move_34 : decode cX11_move 34 = .ok (.getfield 71, 3) := by decide +kernel
theorem dX11_move_37 : decode cX11_move 37 = .ok (.iload_n 2, 1) := by decide +kernel
theorem dX11_move_38 : decode cX11_move 38 = .ok (.iload 4, 2) := by decide +kernel
theorem dX11_move_40 : decode cX11_move 40 = .ok (.iadd, 1) := by decide +kernel
theorem dX11_move_41 : decode cX11_move 41 = .ok (.iaload, 1) := by decide +kernel
theorem dX11_move_42 : decode cX11_move 42 = .ok (.iastore, 1) := by decide +kernel
theorem dX11_move_43 : decode cX11_move 43 = .ok (.iinc 4 1, 3) := by decide +kernel
theorem dX11_move_46 : decode cX11_move 46 = .ok (.goto (-43), 3) := by decide +kernel
theorem dX11_move_49 : decode cX11_move 49 = .ok (.iload_n 2, 1) := by decide +kernel
theorem dX11_move_50 : decode cX11_move 50 = .ok (.aload_n 1, 1) := by decide +kernel
theorem dX11_move_51 : decode cX11_move 51 = .ok (.arraylength, 1) := by decide +kernel
theorem dX11_move_52 : decode cX11_move 52 = .ok (.iadd, 1) := by decide +kernel
theorem dX11_move_53 : decode cX11_move 53 = .ok (.ireturn, 1) := by decide +kernel
theorem dX11_moveAll_0 : decode cX11_moveAll 0 = .ok (.aload_n 0, 1) := by decide +kernel
theorem dX11_moveAll_1 : decode cX11_moveAll 1 = .ok (.aload_n 0, 1) := by decide +kernel
theorem dX11_moveAll_2 : decode cX11_moveAll 2 = .ok (.getfield 62, 3) := by decide +kernel
theorem dX11_moveAll_5 : decode cX11_moveAll 5 = .ok (.iconst 0, 1) := by decide +kernel
theorem dX11_moveAll_6 : decode cX11_moveAll 6 = .ok (.iload_n 1, 1) := by decide +kernel
theorem dX11_moveAll_7 : decode cX11_moveAll 7 = .ok (.invokevirtual 240, 3) := by decide +kernel
theorem dX11_moveAll_10 : decode cX11_moveAll 10 = .ok (.istore_n 2, 1) := by decide +kernel
theorem dX11_moveAll_11 : decode cX11_moveAll 11 = .ok (.aload_n 0, 1) := by decide +kernel
theorem dX11_moveAll_12 : decode cX11_moveAll 12 = .ok (.aload_n 0, 1) := by decide +kernel
theorem dX11_moveAll_13 : decode cX11_moveAll 13 = .ok (.getfield 65, 3) := by decide +kernel
theorem dX11_moveAll_16 : decode cX11_moveAll 16 = .ok (.iload_n 2, 1) := by decide +kernel
theorem dX11_moveAll_17 : decode cX11_moveAll 17 = .ok (.iload_n 1, 1) := by decide +kernel
theorem dX11_moveAll_18 : decode cX11_moveAll 18 = .ok (.invokevirtual 240, 3) := by decide +kernel
theorem dX11_moveAll_21 : decode cX11_moveAll 21 = .ok (.istore_n 2, 1) := by decide +kernel
theorem dX11_moveAll_22 : decode cX11_moveAll 22 = .ok (.aload_n 0, 1) := by decide +kernel
theorem dX11_moveAll_23 : decode cX11_moveAll 23 = .ok (.aload_n 0, 1) := by decide +kernel
theorem dX11_moveAll_24 : decode cX11_moveAll 24 = .ok (.getfield 59, 3) := by decide +kernel
theorem dX11_moveAll_27 : decode cX11_moveAll 27 = .ok (.iload_n 2, 1) := by decide +kernel
theorem dX11_moveAll_28 : decode cX11_moveAll 28 = .ok (.iload_n 1, 1) := by decide +kernel
theorem dX11_moveAll_29 : decode cX11_moveAll 29 = .ok (.invokevirtual 240, 3) := by decide +kernel
theorem dX11_moveAll_32 : decode cX11_moveAll 32 = .ok (.istore_n 2, 1) := by decide +kernel
theorem dX11_moveAll_33 : decode cX11_moveAll 33 = .ok (.aload_n 0, 1) := by decide +kernel
theorem dX11_moveAll_34 : decode cX11_moveAll 34 = .ok (.aload_n 0, 1) := by decide +kernel
theorem dX11_moveAll_35 : decode cX11_moveAll 35 = .ok (.getfield 20, 3) := by decide +kernel
theorem dX11_moveAll_38 : decode cX11_moveAll 38 = .ok (.iload_n 2, 1) := by decide +kernel
theorem dX11_moveAll_39 : decode cX11_moveAll 39 = .ok (.iload_n 1, 1) := by decide +kernel
theorem dX11_moveAll_40 : decode cX11_moveAll 40 = .ok (.invokevirtual 240, 3) := by decide +kernel
theorem dX11_moveAll_43 : decode cX11_moveAll 43 = .ok (.istore_n 2, 1) := by decide +kernel
theorem dX11_moveAll_44 : decode cX11_moveAll 44 = .ok (.aload_n 0, 1) := by decide +kernel
theorem dX11_moveAll_45 : decode cX11_moveAll 45 = .ok (.aload_n 0, 1) := by decide +kernel
theorem dX11_moveAll_46 : decode cX11_moveAll 46 = .ok (.getfield 23, 3) := by decide +kernel
theorem dX11_moveAll_49 : decode cX11_moveAll 49 = .ok (.iload_n 2, 1) := by decide +kernel
theorem dX11_moveAll_50 : decode cX11_moveAll 50 = .ok (.iload_n 1, 1) := by decide +kernel
theorem dX11_moveAll_51 : decode cX11_moveAll 51 = .ok (.invokevirtual 240, 3) := by decide +kernel
theorem dX11_moveAll_54 : decode cX11_moveAll 54 = .ok (.istore_n 2, 1) := by decide +kernel
theorem dX11_moveAll_55 : decode cX11_moveAll 55 = .ok (.aload_n 0, 1) := by decide +kernel
theorem dX11_moveAll_56 : decode cX11_moveAll 56 = .ok (.aload_n 0, 1) := by decide +kernel
theorem dX11_moveAll_57 : decode cX11_moveAll 57 = .ok (.getfield 26, 3) := by decide +kernel
theorem dX11_moveAll_60 : decode cX11_moveAll 60 = .ok (.iload_n 2, 1) := by decide +kernel
theorem dX11_moveAll_61 : decode cX11_moveAll 61 = .ok (.iload_n 1, 1) := by decide +kernel
theorem dX11_moveAll_62 : decode cX11_moveAll 62 = .ok (.invokevirtual 240, 3) := by decide +kernel
theorem dX11_moveAll_65 : decode cX11_moveAll 65 = .ok (.istore_n 2, 1) := by decide +kernel
theorem dX11_moveAll_66 : decode cX11_moveAll 66 = .ok (.aload_n 0, 1) := by decide +kernel
theorem dX11_moveAll_67 : decode cX11_moveAll 67 = .ok (.aload_n 0, 1) := by decide +kernel
theorem dX11_moveAll_68 : decode cX11_moveAll 68 = .ok (.getfield 29, 3) := by decide +kernel
theorem dX11_moveAll_71 : decode cX11_moveAll 71 = .ok (.iload_n 2, 1) := by decide +kernel
theorem dX11_moveAll_72 : decode cX11_moveAll 72 = .ok (.iload_n 1, 1) := by decide +kernel
theorem dX11_moveAll_73 : decode cX11_moveAll 73 = .ok (.invokevirtual 240, 3) := by decide +kernel
theorem dX11_moveAll_76 : decode cX11_moveAll 76 = .ok (.istore_n 2, 1) := by decide +kernel
theorem dX11_moveAll_77 : decode cX11_moveAll 77 = .ok (.aload_n 0, 1) := by decide +kernel
theorem dX11_moveAll_78 : decode cX11_moveAll 78 = .ok (.aload_n 0, 1) := by decide +kernel
theorem dX11_moveAll_79 : decode cX11_moveAll 79 = .ok (.getfield 32, 3) := by decide +kernel
theorem dX11_moveAll_82 : decode cX11_moveAll 82 = .ok (.iload_n 2, 1) := by decide +kernel
theorem dX11_moveAll_83 : decode cX11_moveAll 83 = .ok (.iload_n 1, 1) := by decide +kernel
theorem dX11_moveAll_84 : decode cX11_moveAll 84 = .ok (.invokevirtual 240, 3) := by decide +kernel
theorem dX11_moveAll_87 : decode cX11_moveAll 87 = .ok (.istore_n 2, 1) := by decide +kernel
theorem dX11_moveAll_88 : decode cX11_moveAll 88 = .ok (.aload_n 0, 1) := by decide +kernel
theorem dX11_moveAll_89 : decode cX11_moveAll 89 = .ok (.aload_n 0, 1) := by decide +kernel
theorem dX11_moveAll_90 : decode cX11_moveAll 90 = .ok (.getfield 38, 3) := by decide +kernel
theorem dX11_moveAll_93 : decode cX11_moveAll 93 = .ok (.iload_n 2, 1) := by decide +kernel
theorem dX11_moveAll_94 : decode cX11_moveAll 94 = .ok (.iload_n 1, 1) := by decide +kernel
theorem dX11_moveAll_95 : decode cX11_moveAll 95 = .ok (.invokevirtual 240, 3) := by decide +kernel
theorem dX11_moveAll_98 : decode cX11_moveAll 98 = .ok (.istore_n 2, 1) := by decide +kernel
theorem dX11_moveAll_99 : decode cX11_moveAll 99 = .ok (.aload_n 0, 1) := by decide +kernel
theorem dX11_moveAll_100 : decode cX11_moveAll 100 = .ok (.aload_n 0, 1) := by decide +kernel
theorem dX11_moveAll_101 : decode cX11_moveAll 101 = .ok (.getfield 41, 3) := by decide +kernel
theorem dX11_moveAll_104 : decode cX11_moveAll 104 = .ok (.iload_n 2, 1) := by decide +kernel
theorem dX11_moveAll_105 : decode cX11_moveAll 105 = .ok (.iload_n 1, 1) := by decide +kernel
theorem dX11_moveAll_106 : decode cX11_moveAll 106 = .ok (.invokevirtual 240, 3) := by decide +kernel
theorem dX11_moveAll_109 : decode cX11_moveAll 109 = .ok (.istore_n 2, 1) := by decide +kernel
theorem dX11_moveAll_110 : decode cX11_moveAll 110 = .ok (.aload_n 0, 1) := by decide +kernel
theorem dX11_moveAll_111 : decode cX11_moveAll 111 = .ok (.aload_n 0, 1) := by decide +kernel
theorem dX11_moveAll_112 : decode cX11_moveAll 112 = .ok (.getfield 44, 3) := by decide +kernel
theorem dX11_moveAll_115 : decode cX11_moveAll 115 = .ok (.iload_n 2, 1) := by decide +kernel
theorem dX11_moveAll_116 : decode cX11_moveAll 116 = .ok (.iload_n 1, 1) := by decide +kernel
theorem dX11_moveAll_117 : decode cX11_moveAll 117 = .ok (.invokevirtual 240, 3) := by decide +kernel
theorem dX11_moveAll_120 : decode cX11_moveAll 120 = .ok (.istore_n 2, 1) := by decide +kernel
theorem dX11_moveAll_121 : decode cX11_moveAll 121 = .ok (.aload_n 0, 1) := by decide +kernel
theorem dX11_moveAll_122 : decode cX11_moveAll 122 = .ok (.aload_n 0, 1) := by decide +kernel
theorem dX11_moveAll_123 : decode cX11_moveAll 123 = .ok (.getfield 47, 3) := by decide +kernel
theorem dX11_moveAll_126 : decode cX11_moveAll 126 = .ok (.iload_n 2, 1) := by decide +kernel
theorem dX11_moveAll_127 : decode cX11_moveAll 127 = .ok (.iload_n 1, 1) := by decide +kernel
theorem dX11_moveAll_128 : decode cX11_moveAll 128 = .ok (.invokevirtual 240, 3) := by decide +kernel
theorem dX11_moveAll_131 : decode cX11_moveAll 131 = .ok (.istore_n 2, 1) := by decide +kernel
theorem dX11_moveAll_132 : decode cX11_moveAll 132 = .ok (.aload_n 0, 1) := by decide +kernel
theorem dX11_moveAll_133 : decode cX11_moveAll 133 = .ok (.aload_n 0, 1) := by decide +kernel
theorem dX11_moveAll_134 : decode cX11_moveAll 134 = .ok (.getfield 50, 3) := by decide +kernel
theorem dX11_moveAll_137 : decode cX11_moveAll 137 = .ok (.iload_n 2, 1) := by decide +kernel
theorem dX11_moveAll_138 : decode cX11_moveAll 138 = .ok (.iload_n 1, 1) := by decide +kernel
theorem dX11_moveAll_139 : decode cX11_moveAll 139 = .ok (.invokevirtual 240, 3) := by decide +kernel
theorem dX11_moveAll_142 : decode cX11_moveAll 142 = .ok (.istore_n 2, 1) := by decide +kernel
theorem dX11_moveAll_143 : decode cX11_moveAll 143 = .ok (.aload_n 0, 1) := by decide +kernel
theorem dX11_moveAll_144 : decode cX11_moveAll 144 = .ok (.aload_n 0, 1) := by decide +kernel
theorem dX11_moveAll_145 : decode cX11_moveAll 145 = .ok (.getfield 53, 3) := by decide +kernel
theorem dX11_moveAll_148 : decode cX11_moveAll 148 = .ok (.iload_n 2, 1) := by decide +kernel
theorem dX11_moveAll_149 : decode cX11_moveAll 149 = .ok (.iload_n 1, 1) := by decide +kernel
theorem dX11_moveAll_150 : decode cX11_moveAll 150 = .ok (.invokevirtual 240, 3) := by decide +kernel
theorem dX11_moveAll_153 : decode cX11_moveAll 153 = .ok (.istore_n 2, 1) := by decide +kernel
theorem dX11_moveAll_154 : decode cX11_moveAll 154 = .ok (.aload_n 0, 1) := by decide +kernel
theorem dX11_moveAll_155 : decode cX11_moveAll 155 = .ok (.aload_n 0, 1) := by decide +kernel
theorem dX11_moveAll_156 : decode cX11_moveAll 156 = .ok (.getfield 56, 3) := by decide +kernel
theorem dX11_moveAll_159 : decode cX11_moveAll 159 = .ok (.iload_n 2, 1) := by decide +kernel
theorem dX11_moveAll_160 : decode cX11_moveAll 160 = .ok (.iload_n 1, 1) := by decide +kernel
theorem dX11_moveAll_161 : decode cX11_moveAll 161 = .ok (.invokevirtual 240, 3) := by decide +kernel
theorem dX11_moveAll_164 : decode cX11_moveAll 164 = .ok (.pop, 1) := by decide +kernel
theorem dX11_moveAll_165 : decode cX11_moveAll 165 = .ok (.return_, 1) := by decide +kernel
theorem dX11_image_0 : decode cX11_image 0 = .ok (.aload_n 0, 1) := by decide +kernel
theorem dX11_image_1 : decode cX11_image 1 = .ok (.iconst 1, 1) := by decide +kernel
theorem dX11_image_2 : decode cX11_image 2 = .ok (.invokevirtual 244, 3) := by decide +kernel
theorem dX11_image_5 : decode cX11_image 5 = .ok (.aload_n 0, 1) := by decide +kernel
theorem dX11_image_6 : decode cX11_image 6 = .ok (.iconst 1, 1) := by decide +kernel
theorem dX11_image_7 : decode cX11_image 7 = .ok (.putfield 248, 3) := by decide +kernel
theorem dX11_image_10 : decode cX11_image 10 = .ok (.iconst 1, 1) := by decide +kernel
theorem dX11_image_11 : decode cX11_image 11 = .ok (.ireturn, 1) := by decide +kernel
theorem dX11_back_0 : decode cX11_back 0 = .ok (.aload_n 0, 1) := by decide +kernel
theorem dX11_back_1 : decode cX11_back 1 = .ok (.getfield 248, 3) := by decide +kernel
theorem dX11_back_4 : decode cX11_back 4 = .ok (.ifCond .ne 10, 3) := by decide +kernel
theorem dX11_back_7 : decode cX11_back 7 = .ok (.aload_n 0, 1) := by decide +kernel
theorem dX11_back_8 : decode cX11_back 8 = .ok (.bipush (-5), 2) := by decide +kernel
theorem dX11_back_10 : decode cX11_back 10 = .ok (.invokevirtual 93, 3) := by decide +kernel
theorem dX11_back_13 : decode cX11_back 13 = .ok (.ireturn, 1) := by decide +kernel
theorem dX11_back_14 : decode cX11_back 14 = .ok (.aload_n 0, 1) := by decide +kernel
theorem dX11_back_15 : decode cX11_back 15 = .ok (.iconst 0, 1) := by decide +kernel
theorem dX11_back_16 : decode cX11_back 16 = .ok (.invokevirtual 244, 3) := by decide +kernel
theorem dX11_back_19 : decode cX11_back 19 = .ok (.iconst 0, 1) := by decide +kernel
theorem dX11_back_20 : decode cX11_back 20 = .ok (.istore_n 1, 1) := by decide +kernel
theorem dX11_back_21 : decode cX11_back 21 = .ok (.iload_n 1, 1) := by decide +kernel
theorem dX11_back_22 : decode cX11_back 22 = .ok (.bipush 8, 2) := by decide +kernel
theorem dX11_back_24 : decode cX11_back 24 = .ok (.if_icmp .ge 39, 3) := by decide +kernel
theorem dX11_back_27 : decode cX11_back 27 = .ok (.aload_n 0, 1) := by decide +kernel
theorem dX11_back_28 : decode cX11_back 28 = .ok (.iload_n 1, 1) := by decide +kernel
theorem dX11_back_29 : decode cX11_back 29 = .ok (.invokevirtual 97, 3) := by decide +kernel
theorem dX11_back_32 : decode cX11_back 32 = .ok (.ifCond .eq 25, 3) := by decide +kernel
theorem dX11_back_35 : decode cX11_back 35 = .ok (.aload_n 0, 1) := by decide +kernel
theorem dX11_back_36 : decode cX11_back 36 = .ok (.getfield 7, 3) := by decide +kernel
theorem dX11_back_39 : decode cX11_back 39 = .ok (.iload_n 1, 1) := by decide +kernel
theorem dX11_back_40 : decode cX11_back 40 = .ok (.iaload, 1) := by decide +kernel
theorem dX11_back_41 : decode cX11_back 41 = .ok (.aload_n 0, 1) := by decide +kernel
theorem dX11_back_42 : decode cX11_back 42 = .ok (.getfield 62, 3) := by decide +kernel
theorem dX11_back_45 : decode cX11_back 45 = .ok (.iconst 0, 1) := by decide +kernel
theorem dX11_back_46 : decode cX11_back 46 = .ok (.iaload, 1) := by decide +kernel
theorem dX11_back_47 : decode cX11_back 47 = .ok (.if_icmp .lt 10, 3) := by decide +kernel
theorem dX11_back_50 : decode cX11_back 50 = .ok (.aload_n 0, 1) := by decide +kernel
theorem dX11_back_51 : decode cX11_back 51 = .ok (.getfield 7, 3) := by decide +kernel
theorem dX11_back_54 : decode cX11_back 54 = .ok (.iload_n 1, 1) := by decide +kernel
theorem dX11_back_55 : decode cX11_back 55 = .ok (.iconst (-1), 1) := by decide +kernel
theorem dX11_back_56 : decode cX11_back 56 = .ok (.iastore, 1) := by decide +kernel
theorem dX11_back_57 : decode cX11_back 57 = .ok (.iinc 1 1, 3) := by decide +kernel
theorem dX11_back_60 : decode cX11_back 60 = .ok (.goto (-39), 3) := by decide +kernel
theorem dX11_back_63 : decode cX11_back 63 = .ok (.iconst 1, 1) := by decide +kernel
theorem dX11_back_64 : decode cX11_back 64 = .ok (.ireturn, 1) := by decide +kernel
theorem dX11_status_0 : decode cX11_status 0 = .ok (.iload_n 1, 1) := by decide +kernel
theorem dX11_status_1 : decode cX11_status 1 = .ok (.ifCond .lt 15, 3) := by decide +kernel
theorem dX11_status_4 : decode cX11_status 4 = .ok (.iload_n 1, 1) := by decide +kernel
theorem dX11_status_5 : decode cX11_status 5 = .ok (.iconst 4, 1) := by decide +kernel
theorem dX11_status_6 : decode cX11_status 6 = .ok (.if_icmp .ge 10, 3) := by decide +kernel
theorem dX11_status_9 : decode cX11_status 9 = .ok (.aload_n 0, 1) := by decide +kernel
theorem dX11_status_10 : decode cX11_status 10 = .ok (.getfield 62, 3) := by decide +kernel
theorem dX11_status_13 : decode cX11_status 13 = .ok (.iload_n 1, 1) := by decide +kernel
theorem dX11_status_14 : decode cX11_status 14 = .ok (.iaload, 1) := by decide +kernel
theorem dX11_status_15 : decode cX11_status 15 = .ok (.ireturn, 1) := by decide +kernel
theorem dX11_status_16 : decode cX11_status 16 = .ok (.iload_n 1, 1) := by decide +kernel
theorem dX11_status_17 : decode cX11_status 17 = .ok (.iconst 4, 1) := by decide +kernel
theorem dX11_status_18 : decode cX11_status 18 = .ok (.if_icmp .ne 8, 3) := by decide +kernel
theorem dX11_status_21 : decode cX11_status 21 = .ok (.aload_n 0, 1) := by decide +kernel
theorem dX11_status_22 : decode cX11_status 22 = .ok (.getfield 150, 3) := by decide +kernel
theorem dX11_status_25 : decode cX11_status 25 = .ok (.ireturn, 1) := by decide +kernel
theorem dX11_status_26 : decode cX11_status 26 = .ok (.iload_n 1, 1) := by decide +kernel
theorem dX11_status_27 : decode cX11_status 27 = .ok (.iconst 5, 1) := by decide +kernel
theorem dX11_status_28 : decode cX11_status 28 = .ok (.if_icmp .ne 11, 3) := by decide +kernel
theorem dX11_status_31 : decode cX11_status 31 = .ok (.aload_n 0, 1) := by decide +kernel
theorem dX11_status_32 : decode cX11_status 32 = .ok (.getfield 62, 3) := by decide +kernel
theorem dX11_status_35 : decode cX11_status 35 = .ok (.bipush 8, 2) := by decide +kernel
theorem dX11_status_37 : decode cX11_status 37 = .ok (.iaload, 1) := by decide +kernel
theorem dX11_status_38 : decode cX11_status 38 = .ok (.ireturn, 1) := by decide +kernel
theorem dX11_status_39 : decode cX11_status 39 = .ok (.iload_n 1, 1) := by decide +kernel
theorem dX11_status_40 : decode cX11_status 40 = .ok (.bipush 6, 2) := by decide +kernel
theorem dX11_status_42 : decode cX11_status 42 = .ok (.if_icmp .ne 33, 3) := by decide +kernel
theorem dX11_status_45 : decode cX11_status 45 = .ok (.iconst 0, 1) := by decide +kernel
theorem dX11_status_46 : decode cX11_status 46 = .ok (.istore_n 2, 1) := by decide +kernel
theorem dX11_status_47 : decode cX11_status 47 = .ok (.iconst 0, 1) := by decide +kernel
theorem dX11_status_48 : decode cX11_status 48 = .ok (.istore_n 3, 1) := by decide +kernel
theorem dX11_status_49 : decode cX11_status 49 = .ok (.iload_n 3, 1) := by decide +kernel
theorem dX11_status_50 : decode cX11_status 50 = .ok (.bipush 8, 2) := by decide +kernel
theorem dX11_status_52 : decode cX11_status 52 = .ok (.if_icmp .ge 21, 3) := by decide +kernel
theorem dX11_status_55 : decode cX11_status 55 = .ok (.aload_n 0, 1) := by decide +kernel
theorem dX11_status_56 : decode cX11_status 56 = .ok (.getfield 7, 3) := by decide +kernel
theorem dX11_status_59 : decode cX11_status 59 = .ok (.iload_n 3, 1) := by decide +kernel
theorem dX11_status_60 : decode cX11_status 60 = .ok (.iaload, 1) := by decide +kernel
theorem dX11_status_61 : decode cX11_status 61 = .ok (.ifCond .lt 6, 3) := by decide +kernel
theorem dX11_status_64 : decode cX11_status 64 = .ok (.iinc 2 1, 3) := by decide +kernel
theorem dX11_status_67 : decode cX11_status 67 = .ok (.iinc 3 1, 3) := by decide +kernel
theorem dX11_status_70 : decode cX11_status 70 = .ok (.goto (-21), 3) := by decide +kernel
theorem dX11_status_73 : decode cX11_status 73 = .ok (.iload_n 2, 1) := by decide +kernel
theorem dX11_status_74 : decode cX11_status 74 = .ok (.ireturn, 1) := by decide +kernel
theorem dX11_status_75 : decode cX11_status 75 = .ok (.iload_n 1, 1) := by decide +kernel
theorem dX11_status_76 : decode cX11_status 76 = .ok (.bipush 7, 2) := by decide +kernel
theorem dX11_status_78 : decode cX11_status 78 = .ok (.if_icmp .eq 9, 3) := by decide +kernel
theorem dX11_status_81 : decode cX11_status 81 = .ok (.iload_n 1, 1) := by decide +kernel
theorem dX11_status_82 : decode cX11_status 82 = .ok (.bipush 8, 2) := by decide +kernel
theorem dX11_status_84 : decode cX11_status 84 = .ok (.if_icmp .ne 12, 3) := by decide +kernel
theorem dX11_status_87 : decode cX11_status 87 = .ok (.aload_n 0, 1) := by decide +kernel
theorem dX11_status_88 : decode cX11_status 88 = .ok (.getfield 62, 3) := by decide +kernel
theorem dX11_status_91 : decode cX11_status 91 = .ok (.iload_n 1, 1) := by decide +kernel
theorem dX11_status_92 : decode cX11_status 92 = .ok (.iconst 1, 1) := by decide +kernel
theorem dX11_status_93 : decode cX11_status 93 = .ok (.isub, 1) := by decide +kernel
theorem dX11_status_94 : decode cX11_status 94 = .ok (.iaload, 1) := by decide +kernel
theorem dX11_status_95 : decode cX11_status 95 = .ok (.ireturn, 1) := by decide +kernel
theorem dX11_status_96 : decode cX11_status 96 = .ok (.iload_n 1, 1) := by decide +kernel
theorem dX11_status_97 : decode cX11_status 97 = .ok (.bipush 12, 2) := by decide +kernel
theorem dX11_status_99 : decode cX11_status 99 = .ok (.if_icmp .lt 21, 3) := by decide +kernel
theorem dX11_status_102 : decode cX11_status 102 = .ok (.iload_n 1, 1) := by decide +kernel
theorem dX11_status_103 : decode cX11_status 103 = .ok (.bipush 16, 2) := by decide +kernel
theorem dX11_status_105 : decode cX11_status 105 = .ok (.if_icmp .gt 15, 3) := by decide +kernel
theorem dX11_status_108 : decode cX11_status 108 = .ok (.aload_n 0, 1) := by decide +kernel
theorem dX11_status_109 : decode cX11_status 109 = .ok (.getfield 68, 3) := by decide +kernel
theorem dX11_status_112 : decode cX11_status 112 = .ok (.iload_n 1, 1) := by decide +kernel
theorem dX11_status_113 : decode cX11_status 113 = .ok (.bipush 10, 2) := by decide +kernel
theorem dX11_status_115 : decode cX11_status 115 = .ok (.isub, 1) := by decide +kernel
theorem dX11_status_116 : decode cX11_status 116 = .ok (.iaload, 1) := by decide +kernel
theorem dX11_status_117 : decode cX11_status 117 = .ok (.goto 4, 3) := by decide +kernel
theorem dX11_status_120 : decode cX11_status 120 = .ok (.iconst (-1), 1) := by decide +kernel
theorem dX11_status_121 : decode cX11_status 121 = .ok (.ireturn, 1) := by decide +kernel
theorem dJ6_bitCount_0f7a4_0 : decode cJ6_bitCount_0f7a4 0 = .ok (.iload_n 0, 1) := by decide +kernel
theorem dJ6_bitCount_0f7a4_1 : decode cJ6_bitCount_0f7a4 1 = .ok (.iload_n 0, 1) := by decide +kernel
theorem dJ6_bitCount_0f7a4_2 : decode cJ6_bitCount_0f7a4 2 = .ok (.iconst 1, 1) := by decide +kernel
theorem dJ6_bitCount_0f7a4_3 : decode cJ6_bitCount_0f7a4 3 = .ok (.iushr, 1) := by decide +kernel
theorem dJ6_bitCount_0f7a4_4 : decode cJ6_bitCount_0f7a4 4 = .ok (.ldc_w 265, 3) := by decide +kernel
theorem dJ6_bitCount_0f7a4_7 : decode cJ6_bitCount_0f7a4 7 = .ok (.iand, 1) := by decide +kernel
theorem dJ6_bitCount_0f7a4_8 : decode cJ6_bitCount_0f7a4 8 = .ok (.isub, 1) := by decide +kernel
theorem dJ6_bitCount_0f7a4_9 : decode cJ6_bitCount_0f7a4 9 = .ok (.istore_n 0, 1) := by decide +kernel
theorem dJ6_bitCount_0f7a4_10 : decode cJ6_bitCount_0f7a4 10 = .ok (.iload_n 0, 1) := by decide +kernel
theorem dJ6_bitCount_0f7a4_11 : decode cJ6_bitCount_0f7a4 11 = .ok (.ldc_w 266, 3) := by decide +kernel
theorem dJ6_bitCount_0f7a4_14 : decode cJ6_bitCount_0f7a4 14 = .ok (.iand, 1) := by decide +kernel
theorem dJ6_bitCount_0f7a4_15 : decode cJ6_bitCount_0f7a4 15 = .ok (.iload_n 0, 1) := by decide +kernel
theorem dJ6_bitCount_0f7a4_16 : decode cJ6_bitCount_0f7a4 16 = .ok (.iconst 2, 1) := by decide +kernel
theorem dJ6_bitCount_0f7a4_17 : decode cJ6_bitCount_0f7a4 17 = .ok (.iushr, 1) := by decide +kernel
theorem dJ6_bitCount_0f7a4_18 : decode cJ6_bitCount_0f7a4 18 = .ok (.ldc_w 266, 3) := by decide +kernel
theorem dJ6_bitCount_0f7a4_21 : decode cJ6_bitCount_0f7a4 21 = .ok (.iand, 1) := by decide +kernel
theorem dJ6_bitCount_0f7a4_22 : decode cJ6_bitCount_0f7a4 22 = .ok (.iadd, 1) := by decide +kernel
theorem dJ6_bitCount_0f7a4_23 : decode cJ6_bitCount_0f7a4 23 = .ok (.istore_n 0, 1) := by decide +kernel
theorem dJ6_bitCount_0f7a4_24 : decode cJ6_bitCount_0f7a4 24 = .ok (.iload_n 0, 1) := by decide +kernel
theorem dJ6_bitCount_0f7a4_25 : decode cJ6_bitCount_0f7a4 25 = .ok (.iload_n 0, 1) := by decide +kernel
theorem dJ6_bitCount_0f7a4_26 : decode cJ6_bitCount_0f7a4 26 = .ok (.iconst 4, 1) := by decide +kernel
theorem dJ6_bitCount_0f7a4_27 : decode cJ6_bitCount_0f7a4 27 = .ok (.iushr, 1) := by decide +kernel
theorem dJ6_bitCount_0f7a4_28 : decode cJ6_bitCount_0f7a4 28 = .ok (.iadd, 1) := by decide +kernel
theorem dJ6_bitCount_0f7a4_29 : decode cJ6_bitCount_0f7a4 29 = .ok (.ldc_w 267, 3) := by decide +kernel
theorem dJ6_bitCount_0f7a4_32 : decode cJ6_bitCount_0f7a4 32 = .ok (.iand, 1) := by decide +kernel
theorem dJ6_bitCount_0f7a4_33 : decode cJ6_bitCount_0f7a4 33 = .ok (.istore_n 0, 1) := by decide +kernel
theorem dJ6_bitCount_0f7a4_34 : decode cJ6_bitCount_0f7a4 34 = .ok (.iload_n 0, 1) := by decide +kernel
theorem dJ6_bitCount_0f7a4_35 : decode cJ6_bitCount_0f7a4 35 = .ok (.iload_n 0, 1) := by decide +kernel
theorem dJ6_bitCount_0f7a4_36 : decode cJ6_bitCount_0f7a4 36 = .ok (.bipush 8, 2) := by decide +kernel
theorem dJ6_bitCount_0f7a4_38 : decode cJ6_bitCount_0f7a4 38 = .ok (.iushr, 1) := by decide +kernel
theorem dJ6_bitCount_0f7a4_39 : decode cJ6_bitCount_0f7a4 39 = .ok (.iadd, 1) := by decide +kernel
theorem dJ6_bitCount_0f7a4_40 : decode cJ6_bitCount_0f7a4 40 = .ok (.istore_n 0, 1) := by decide +kernel
theorem dJ6_bitCount_0f7a4_41 : decode cJ6_bitCount_0f7a4 41 = .ok (.iload_n 0, 1) := by decide +kernel
theorem dJ6_bitCount_0f7a4_42 : decode cJ6_bitCount_0f7a4 42 = .ok (.iload_n 0, 1) := by decide +kernel
theorem dJ6_bitCount_0f7a4_43 : decode cJ6_bitCount_0f7a4 43 = .ok (.bipush 16, 2) := by decide +kernel
theorem dJ6_bitCount_0f7a4_45 : decode cJ6_bitCount_0f7a4 45 = .ok (.iushr, 1) := by decide +kernel
theorem dJ6_bitCount_0f7a4_46 : decode cJ6_bitCount_0f7a4 46 = .ok (.iadd, 1) := by decide +kernel
theorem dJ6_bitCount_0f7a4_47 : decode cJ6_bitCount_0f7a4 47 = .ok (.istore_n 0, 1) := by decide +kernel
theorem dJ6_bitCount_0f7a4_48 : decode cJ6_bitCount_0f7a4 48 = .ok (.iload_n 0, 1) := by decide +kernel
theorem dJ6_bitCount_0f7a4_49 : decode cJ6_bitCount_0f7a4 49 = .ok (.bipush 63, 2) := by decide +kernel
theorem dJ6_bitCount_0f7a4_51 : decode cJ6_bitCount_0f7a4 51 = .ok (.iand, 1) := by decide +kernel
theorem dJ6_bitCount_0f7a4_52 : decode cJ6_bitCount_0f7a4 52 = .ok (.ireturn, 1) := by decide +kernel
theorem dJ9_abs_0f7a4_0 : decode cJ9_abs_0f7a4 0 = .ok (.iload_n 0, 1) := by decide +kernel
theorem dJ9_abs_0f7a4_1 : decode cJ9_abs_0f7a4 1 = .ok (.ifCond .ge 8, 3) := by decide +kernel
theorem dJ9_abs_0f7a4_4 : decode cJ9_abs_0f7a4 4 = .ok (.iload_n 0, 1) := by decide +kernel
theorem dJ9_abs_0f7a4_5 : decode cJ9_abs_0f7a4 5 = .ok (.ineg, 1) := by decide +kernel
theorem dJ9_abs_0f7a4_6 : decode cJ9_abs_0f7a4 6 = .ok (.goto 4, 3) := by decide +kernel
theorem dJ9_abs_0f7a4_9 : decode cJ9_abs_0f7a4 9 = .ok (.iload_n 0, 1) := by decide +kernel
theorem dJ9_abs_0f7a4_10 : decode cJ9_abs_0f7a4 10 = .ok (.ireturn, 1) := by decide +kernel
theorem dJ9_max_7cf53_0 : decode cJ9_max_7cf53 0 = .ok (.iload_n 0, 1) := by decide +kernel
theorem dJ9_max_7cf53_1 : decode cJ9_max_7cf53 1 = .ok (.iload_n 1, 1) := by decide +kernel
theorem dJ9_max_7cf53_2 : decode cJ9_max_7cf53 2 = .ok (.if_icmp .lt 7, 3) := by decide +kernel
theorem dJ9_max_7cf53_5 : decode cJ9_max_7cf53 5 = .ok (.iload_n 0, 1) := by decide +kernel
theorem dJ9_max_7cf53_6 : decode cJ9_max_7cf53 6 = .ok (.goto 4, 3) := by decide +kernel
theorem dJ9_max_7cf53_9 : decode cJ9_max_7cf53 9 = .ok (.iload_n 1, 1) := by decide +kernel
theorem dJ9_max_7cf53_10 : decode cJ9_max_7cf53 10 = .ok (.ireturn, 1) := by decide +kernel
theorem dJ9_min_7cf53_0 : decode cJ9_min_7cf53 0 = .ok (.iload_n 0, 1) := by decide +kernel
theorem dJ9_min_7cf53_1 : decode cJ9_min_7cf53 1 = .ok (.iload_n 1, 1) := by decide +kernel
theorem dJ9_min_7cf53_2 : decode cJ9_min_7cf53 2 = .ok (.if_icmp .gt 7, 3) := by decide +kernel
theorem dJ9_min_7cf53_5 : decode cJ9_min_7cf53 5 = .ok (.iload_n 0, 1) := by decide +kernel
theorem dJ9_min_7cf53_6 : decode cJ9_min_7cf53 6 = .ok (.goto 4, 3) := by decide +kernel
theorem dJ9_min_7cf53_9 : decode cJ9_min_7cf53 9 = .ok (.iload_n 1, 1) := by decide +kernel
theorem dJ9_min_7cf53_10 : decode cJ9_min_7cf53 10 = .ok (.ireturn, 1) := by decide +kernel
theorem dJ0_length_8abf5_0 : decode cJ0_length_8abf5 0 = .ok (.aload_n 0, 1) := by decide +kernel
theorem dJ0_length_8abf5_1 : decode cJ0_length_8abf5 1 = .ok (.getfield 9, 3) := by decide +kernel
theorem dJ0_length_8abf5_4 : decode cJ0_length_8abf5 4 = .ok (.arraylength, 1) := by decide +kernel
theorem dJ0_length_8abf5_5 : decode cJ0_length_8abf5 5 = .ok (.aload_n 0, 1) := by decide +kernel
theorem dJ0_length_8abf5_6 : decode cJ0_length_8abf5 6 = .ok (.invokevirtual 335, 3) := by decide +kernel
theorem dJ0_length_8abf5_9 : decode cJ0_length_8abf5 9 = .ok (.ishr, 1) := by decide +kernel
theorem dJ0_length_8abf5_10 : decode cJ0_length_8abf5 10 = .ok (.ireturn, 1) := by decide +kernel
theorem dJ0_charAt_5068e_0 : decode cJ0_charAt_5068e 0 = .ok (.aload_n 0, 1) := by decide +kernel
theorem dJ0_charAt_5068e_1 : decode cJ0_charAt_5068e 1 = .ok (.invokevirtual 492, 3) := by decide +kernel
theorem dJ0_charAt_5068e_4 : decode cJ0_charAt_5068e 4 = .ok (.ifCond .eq 12, 3) := by decide +kernel
theorem dJ0_charAt_5068e_7 : decode cJ0_charAt_5068e 7 = .ok (.aload_n 0, 1) := by decide +kernel
theorem dJ0_charAt_5068e_8 : decode cJ0_charAt_5068e 8 = .ok (.getfield 9, 3) := by decide +kernel
theorem dJ0_charAt_5068e_11 : decode cJ0_charAt_5068e 11 = .ok (.iload_n 1, 1) := by decide +kernel
theorem dJ0_charAt_5068e_12 : decode cJ0_charAt_5068e 12 = .ok (.invokestatic 495, 3) := by decide +kernel
theorem dJ0_charAt_5068e_15 : decode cJ0_charAt_5068e 15 = .ok (.ireturn, 1) := by decide +kernel
theorem dJ0_charAt_5068e_16 : decode cJ0_charAt_5068e 16 = .ok (.aload_n 0, 1) := by decide +kernel
theorem dJ0_charAt_5068e_17 : decode cJ0_charAt_5068e 17 = .ok (.getfield 9, 3) := by decide +kernel
theorem dJ0_charAt_5068e_20 : decode cJ0_charAt_5068e 20 = .ok (.iload_n 1, 1) := by decide +kernel
theorem dJ0_charAt_5068e_21 : decode cJ0_charAt_5068e 21 = .ok (.invokestatic 498, 3) := by decide +kernel
theorem dJ0_charAt_5068e_24 : decode cJ0_charAt_5068e 24 = .ok (.ireturn, 1) := by decide +kernel
theorem dJ0_coder_7d493_0 : decode cJ0_coder_7d493 0 = .ok (.getstatic 38, 3) := by decide +kernel
theorem dJ0_coder_7d493_3 : decode cJ0_coder_7d493 3 = .ok (.ifCond .eq 10, 3) := by decide +kernel
theorem dJ0_coder_7d493_6 : decode cJ0_coder_7d493 6 = .ok (.aload_n 0, 1) := by decide +kernel
theorem dJ0_coder_7d493_7 : decode cJ0_coder_7d493 7 = .ok (.getfield 15, 3) := by decide +kernel
theorem dJ0_coder_7d493_10 : decode cJ0_coder_7d493 10 = .ok (.goto 4, 3) := by decide +kernel
theorem dJ0_coder_7d493_13 : decode cJ0_coder_7d493 13 = .ok (.iconst 1, 1) := by decide +kernel
theorem dJ0_coder_7d493_14 : decode cJ0_coder_7d493 14 = .ok (.ireturn, 1) := by decide +kernel
theorem dJ0_isLatin1_aae02_0 : decode cJ0_isLatin1_aae02 0 = .ok (.getstatic 38, 3) := by decide +kernel
theorem dJ0_isLatin1_aae02_3 : decode cJ0_isLatin1_aae02 3 = .ok (.ifCond .eq 14, 3) := by decide +kernel
theorem dJ0_isLatin1_aae02_6 : decode cJ0_isLatin1_aae02 6 = .ok (.aload_n 0, 1) := by decide +kernel
theorem dJ0_isLatin1_aae02_7 : decode cJ0_isLatin1_aae02 7 = .ok (.getfield 15, 3) := by decide +kernel
theorem dJ0_isLatin1_aae02_10 : decode cJ0_isLatin1_aae02 10 = .ok (.ifCond .ne 7, 3) := by decide +kernel
theorem dJ0_isLatin1_aae02_13 : decode cJ0_isLatin1_aae02 13 = .ok (.iconst 1, 1) := by decide +kernel
theorem dJ0_isLatin1_aae02_14 : decode cJ0_isLatin1_aae02 14 = .ok (.goto 4, 3) := by decide +kernel
theorem dJ0_isLatin1_aae02_17 : decode cJ0_isLatin1_aae02 17 = .ok (.iconst 0, 1) := by decide +kernel
theorem dJ0_isLatin1_aae02_18 : decode cJ0_isLatin1_aae02 18 = .ok (.ireturn, 1) := by decide +kernel
theorem dJ0_checkIndex_df160_0 : decode cJ0_checkIndex_df160 0 = .ok (.iload_n 0, 1) := by decide +kernel
theorem dJ0_checkIndex_df160_1 : decode cJ0_checkIndex_df160 1 = .ok (.iload_n 1, 1) := by decide +kernel
theorem dJ0_checkIndex_df160_2 : decode cJ0_checkIndex_df160 2 = .ok (.getstatic 1053, 3) := by decide +kernel
theorem dJ0_checkIndex_df160_5 : decode cJ0_checkIndex_df160 5 = .ok (.invokestatic 1059, 3) := by decide +kernel
theorem dJ0_checkIndex_df160_8 : decode cJ0_checkIndex_df160 8 = .ok (.pop, 1) := by decide +kernel
theorem dJ0_checkIndex_df160_9 : decode cJ0_checkIndex_df160 9 = .ok (.return_, 1) := by decide +kernel
theorem dJ1_charAt_3b067_0 : decode cJ1_charAt_3b067 0 = .ok (.iload_n 1, 1) := by decide +kernel
theorem dJ1_charAt_3b067_1 : decode cJ1_charAt_3b067 1 = .ok (.aload_n 0, 1) := by decide +kernel
theorem dJ1_charAt_3b067_2 : decode cJ1_charAt_3b067 2 = .ok (.arraylength, 1) := by decide +kernel
theorem dJ1_charAt_3b067_3 : decode cJ1_charAt_3b067 3 = .ok (.invokestatic 9, 3) := by decide +kernel
theorem dJ1_charAt_3b067_6 : decode cJ1_charAt_3b067 6 = .ok (.aload_n 0, 1) := by decide +kernel
theorem dJ1_charAt_3b067_7 : decode cJ1_charAt_3b067 7 = .ok (.iload_n 1, 1) := by decide +kernel
theorem dJ1_charAt_3b067_8 : decode cJ1_charAt_3b067 8 = .ok (.baload, 1) := by decide +kernel
theorem dJ1_charAt_3b067_9 : decode cJ1_charAt_3b067 9 = .ok (.sipush 255, 3) := by decide +kernel
theorem dJ1_charAt_3b067_12 : decode cJ1_charAt_3b067 12 = .ok (.iand, 1) := by decide +kernel
theorem dJ1_charAt_3b067_13 : decode cJ1_charAt_3b067 13 = .ok (.i2c, 1) := by decide +kernel
theorem dJ1_charAt_3b067_14 : decode cJ1_charAt_3b067 14 = .ok (.ireturn, 1) := by decide +kernel
theorem dJ2_getChar_3b067_0 : decode cJ2_getChar_3b067 0 = .ok (.getstatic 44, 3) := by decide +kernel
theorem dJ2_getChar_3b067_3 : decode cJ2_getChar_3b067 3 = .ok (.ifCond .ne 25, 3) := by decide +kernel
theorem dJ2_getChar_3b067_6 : decode cJ2_getChar_3b067 6 = .ok (.iload_n 1, 1) := by decide +kernel
theorem dJ2_getChar_3b067_7 : decode cJ2_getChar_3b067 7 = .ok (.ifCond .lt 11, 3) := by decide +kernel
theorem dJ2_getChar_3b067_10 : decode cJ2_getChar_3b067 10 = .ok (.iload_n 1, 1) := by decide +kernel
theorem dJ2_getChar_3b067_11 : decode cJ2_getChar_3b067 11 = .ok (.aload_n 0, 1) := by decide +kernel
theorem dJ2_getChar_3b067_12 : decode cJ2_getChar_3b067 12 = .ok (.invokestatic 48, 3) := by decide +kernel
theorem dJ2_getChar_3b067_15 : decode cJ2_getChar_3b067 15 = .ok (.if_icmp .lt 13, 3) := by decide +kernel
theorem dJ2_getChar_3b067_18 : decode cJ2_getChar_3b067 18 = .ok (.new 52, 3) := by decide +kernel
theorem dJ2_getChar_3b067_21 : decode cJ2_getChar_3b067 21 = .ok (.dup, 1) := by decide +kernel
theorem dJ2_getChar_3b067_22 : decode cJ2_getChar_3b067 22 = .ok (.ldc 54, 2) := by decide +kernel
theorem dJ2_getChar_3b067_24 : decode cJ2_getChar_3b067 24 = .ok (.invokespecial 56, 3) := by decide +kernel
theorem dJ2_getChar_3b067_27 : decode cJ2_getChar_3b067 27 = .ok (.athrow, 1) := by decide +kernel
theorem dJ2_getChar_3b067_28 : decode cJ2_getChar_3b067 28 = .ok (.iload_n 1, 1) := by decide +kernel
theorem dJ2_getChar_3b067_29 : decode cJ2_getChar_3b067 29 = .ok (.iconst 1, 1) := by decide +kernel
theorem dJ2_getChar_3b067_30 : decode cJ2_getChar_3b067 30 = .ok (.ishl, 1) := by decide +kernel
theorem dJ2_getChar_3b067_31 : decode cJ2_getChar_3b067 31 = .ok (.istore_n 1, 1) := by decide +kernel
theorem dJ2_getChar_3b067_32 : decode cJ2_getChar_3b067 32 = .ok (.aload_n 0, 1) := by decide +kernel
theorem dJ2_getChar_3b067_33 : decode cJ2_getChar_3b067 33 = .ok (.iload_n 1, 1) := by decide +kernel
theorem dJ2_getChar_3b067_34 : decode cJ2_getChar_3b067 34 = .ok (.iinc 1 1, 3) := by decide +kernel
theorem dJ2_getChar_3b067_37 : decode cJ2_getChar_3b067 37 = .ok (.baload, 1) := by decide +kernel
theorem dJ2_getChar_3b067_38 : decode cJ2_getChar_3b067 38 = .ok (.sipush 255, 3) := by decide +kernel
theorem dJ2_getChar_3b067_41 : decode cJ2_getChar_3b067 41 = .ok (.iand, 1) := by decide +kernel
theorem dJ2_getChar_3b067_42 : decode cJ2_getChar_3b067 42 = .ok (.getstatic 59, 3) := by decide +kernel
theorem dJ2_getChar_3b067_45 : decode cJ2_getChar_3b067 45 = .ok (.ishl, 1) := by decide +kernel
theorem dJ2_getChar_3b067_46 : decode cJ2_getChar_3b067 46 = .ok (.aload_n 0, 1) := by decide +kernel
theorem dJ2_getChar_3b067_47 : decode cJ2_getChar_3b067 47 = .ok (.iload_n 1, 1) := by decide +kernel
theorem dJ2_getChar_3b067_48 : decode cJ2_getChar_3b067 48 = .ok (.baload, 1) := by decide +kernel
theorem dJ2_getChar_3b067_49 : decode cJ2_getChar_3b067 49 = .ok (.sipush 255, 3) := by decide +kernel
theorem dJ2_getChar_3b067_52 : decode cJ2_getChar_3b067 52 = .ok (.iand, 1) := by decide +kernel
theorem dJ2_getChar_3b067_53 : decode cJ2_getChar_3b067 53 = .ok (.getstatic 63, 3) := by decide +kernel
theorem dJ2_getChar_3b067_56 : decode cJ2_getChar_3b067 56 = .ok (.ishl, 1) := by decide +kernel
theorem dJ2_getChar_3b067_57 : decode cJ2_getChar_3b067 57 = .ok (.ior, 1) := by decide +kernel
theorem dJ2_getChar_3b067_58 : decode cJ2_getChar_3b067 58 = .ok (.i2c, 1) := by decide +kernel
theorem dJ2_getChar_3b067_59 : decode cJ2_getChar_3b067 59 = .ok (.ireturn, 1) := by decide +kernel
theorem dJ2_length_9d52b_0 : decode cJ2_length_9d52b 0 = .ok (.aload_n 0, 1) := by decide +kernel
theorem dJ2_length_9d52b_1 : decode cJ2_length_9d52b 1 = .ok (.arraylength, 1) := by decide +kernel
theorem dJ2_length_9d52b_2 : decode cJ2_length_9d52b 2 = .ok (.iconst 1, 1) := by decide +kernel
theorem dJ2_length_9d52b_3 : decode cJ2_length_9d52b 3 = .ok (.ishr, 1) := by decide +kernel
theorem dJ2_length_9d52b_4 : decode cJ2_length_9d52b 4 = .ok (.ireturn, 1) := by decide +kernel
theorem dJ2_charAt_3b067_0 : decode cJ2_charAt_3b067 0 = .ok (.iload_n 1, 1) := by decide +kernel
theorem dJ2_charAt_3b067_1 : decode cJ2_charAt_3b067 1 = .ok (.aload_n 0, 1) := by decide +kernel
theorem dJ2_charAt_3b067_2 : decode cJ2_charAt_3b067 2 = .ok (.invokestatic 67, 3) := by decide +kernel
theorem dJ2_charAt_3b067_5 : decode cJ2_charAt_3b067 5 = .ok (.aload_n 0, 1) := by decide +kernel
theorem dJ2_charAt_3b067_6 : decode cJ2_charAt_3b067 6 = .ok (.iload_n 1, 1) := by decide +kernel
theorem dJ2_charAt_3b067_7 : decode cJ2_charAt_3b067 7 = .ok (.invokestatic 71, 3) := by decide +kernel
theorem dJ2_charAt_3b067_10 : decode cJ2_charAt_3b067 10 = .ok (.ireturn, 1) := by decide +kernel
theorem dJ2_checkIndex_2214a_0 : decode cJ2_checkIndex_2214a 0 = .ok (.iload_n 0, 1) := by decide +kernel
theorem dJ2_checkIndex_2214a_1 : decode cJ2_checkIndex_2214a 1 = .ok (.aload_n 1, 1) := by decide +kernel
theorem dJ2_checkIndex_2214a_2 : decode cJ2_checkIndex_2214a 2 = .ok (.invokestatic 48, 3) := by decide +kernel
theorem dJ2_checkIndex_2214a_5 : decode cJ2_checkIndex_2214a 5 = .ok (.invokestatic 414, 3) := by decide +kernel
theorem dJ2_checkIndex_2214a_8 : decode cJ2_checkIndex_2214a 8 = .ok (.return_, 1) := by decide +kernel
theorem dJ3_checkIndex_8e157_0 : decode cJ3_checkIndex_8e157 0 = .ok (.iload_n 0, 1) := by decide +kernel
theorem dJ3_checkIndex_8e157_1 : decode cJ3_checkIndex_8e157 1 = .ok (.ifCond .lt 8, 3) := by decide +kernel
theorem dJ3_checkIndex_8e157_4 : decode cJ3_checkIndex_8e157 4 = .ok (.iload_n 0, 1) := by decide +kernel
theorem dJ3_checkIndex_8e157_5 : decode cJ3_checkIndex_8e157 5 = .ok (.iload_n 1, 1) := by decide +kernel
theorem dJ3_checkIndex_8e157_6 : decode cJ3_checkIndex_8e157 6 = .ok (.if_icmp .lt 10, 3) := by decide +kernel
theorem dJ3_checkIndex_8e157_9 : decode cJ3_checkIndex_8e157 9 = .ok (.aload_n 2, 1) := by decide +kernel
theorem dJ3_checkIndex_8e157_10 : decode cJ3_checkIndex_8e157 10 = .ok (.iload_n 0, 1) := by decide +kernel
theorem dJ3_checkIndex_8e157_11 : decode cJ3_checkIndex_8e157 11 = .ok (.iload_n 1, 1) := by decide +kernel
theorem dJ3_checkIndex_8e157_12 : decode cJ3_checkIndex_8e157 12 = .ok (.invokestatic 95, 3) := by decide +kernel
theorem dJ3_checkIndex_8e157_15 : decode cJ3_checkIndex_8e157 15 = .ok (.athrow, 1) := by decide +kernel
theorem dJ3_checkIndex_8e157_16 : decode cJ3_checkIndex_8e157 16 = .ok (.iload_n 0, 1) := by decide +kernel
theorem dJ3_checkIndex_8e157_17 : decode cJ3_checkIndex_8e157 17 = .ok (.ireturn, 1) := by decide +kernel
