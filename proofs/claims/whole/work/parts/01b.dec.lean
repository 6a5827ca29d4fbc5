theorem dX0_init_0 : decode cX0_init 0 = .ok (.aload_n 0, 1) := by decide +kernel
theorem dX0_init_1 : decode cX0_init 1 = .ok (.invokespecial 3, 3) := by decide +kernel
theorem dX0_init_4 : decode cX0_init 4 = .ok (.aload_n 0, 1) := by decide +kernel
theorem dX0_init_5 : decode cX0_init 5 = .ok (.bipush 8, 2) := by decide +kernel
theorem dX0_init_7 : decode cX0_init 7 = .ok (.newarray .int, 2) := by decide +kernel
theorem dX0_init_9 : decode cX0_init 9 = .ok (.putfield 9, 3) := by decide +kernel
theorem dX0_init_12 : decode cX0_init 12 = .ok (.aload_n 0, 1) := by decide +kernel
theorem dX0_init_13 : decode cX0_init 13 = .ok (.bipush 8, 2) := by decide +kernel
theorem dX0_init_15 : decode cX0_init 15 = .ok (.newarray .int, 2) := by decide +kernel
theorem dX0_init_17 : decode cX0_init 17 = .ok (.putfield 15, 3) := by decide +kernel
theorem dX0_init_20 : decode cX0_init 20 = .ok (.aload_n 0, 1) := by decide +kernel
theorem dX0_init_21 : decode cX0_init 21 = .ok (.bipush 8, 2) := by decide +kernel
theorem dX0_init_23 : decode cX0_init 23 = .ok (.newarray .int, 2) := by decide +kernel
theorem dX0_init_25 : decode cX0_init 25 = .ok (.putfield 18, 3) := by decide +kernel
theorem dX0_init_28 : decode cX0_init 28 = .ok (.aload_n 0, 1) := by decide +kernel
theorem dX0_init_29 : decode cX0_init 29 = .ok (.bipush 8, 2) := by decide +kernel
theorem dX0_init_31 : decode cX0_init 31 = .ok (.newarray .int, 2) := by decide +kernel
theorem dX0_init_33 : decode cX0_init 33 = .ok (.putfield 21, 3) := by decide +kernel
theorem dX0_init_36 : decode cX0_init 36 = .ok (.aload_n 0, 1) := by decide +kernel
theorem dX0_init_37 : decode cX0_init 37 = .ok (.bipush 8, 2) := by decide +kernel
theorem dX0_init_39 : decode cX0_init 39 = .ok (.newarray .int, 2) := by decide +kernel
theorem dX0_init_41 : decode cX0_init 41 = .ok (.putfield 24, 3) := by decide +kernel
theorem dX0_init_44 : decode cX0_init 44 = .ok (.aload_n 0, 1) := by decide +kernel
theorem dX0_init_45 : decode cX0_init 45 = .ok (.bipush 8, 2) := by decide +kernel
theorem dX0_init_47 : decode cX0_init 47 = .ok (.newarray .int, 2) := by decide +kernel
theorem dX0_init_49 : decode cX0_init 49 = .ok (.putfield 27, 3) := by decide +kernel
theorem dX0_init_52 : decode cX0_init 52 = .ok (.aload_n 0, 1) := by decide +kernel
theorem dX0_init_53 : decode cX0_init 53 = .ok (.bipush 8, 2) := by decide +kernel
theorem dX0_init_55 : decode cX0_init 55 = .ok (.newarray .int, 2) := by decide +kernel
theorem dX0_init_57 : decode cX0_init 57 = .ok (.putfield 30, 3) := by decide +kernel
theorem dX0_init_60 : decode cX0_init 60 = .ok (.aload_n 0, 1) := by decide +kernel
theorem dX0_init_61 : decode cX0_init 61 = .ok (.sipush 192, 3) := by decide +kernel
theorem dX0_init_64 : decode cX0_init 64 = .ok (.newarray .int, 2) := by decide +kernel
theorem dX0_init_66 : decode cX0_init 66 = .ok (.putfield 33, 3) := by decide +kernel
theorem dX0_init_69 : decode cX0_init 69 = .ok (.aload_n 0, 1) := by decide +kernel
theorem dX0_init_70 : decode cX0_init 70 = .ok (.aload_n 1, 1) := by decide +kernel
theorem dX0_init_71 : decode cX0_init 71 = .ok (.putfield 36, 3) := by decide +kernel
theorem dX0_init_74 : decode cX0_init 74 = .ok (.aload_n 0, 1) := by decide +kernel
theorem dX0_init_75 : decode cX0_init 75 = .ok (.iconst (-1), 1) := by decide +kernel
theorem dX0_init_76 : decode cX0_init 76 = .ok (.putfield 40, 3) := by decide +kernel
theorem dX0_init_79 : decode cX0_init 79 = .ok (.return_, 1) := by decide +kernel
theorem dX0_restart_0 : decode cX0_restart 0 = .ok (.aload_n 0, 1) := by decide +kernel
theorem dX0_restart_1 : decode cX0_restart 1 = .ok (.iconst (-1), 1) := by decide +kernel
theorem dX0_restart_2 : decode cX0_restart 2 = .ok (.putfield 40, 3) := by decide +kernel
theorem dX0_restart_5 : decode cX0_restart 5 = .ok (.return_, 1) := by decide +kernel
theorem dX0_runTo_0 : decode cX0_runTo 0 = .ok (.aload_n 0, 1) := by decide +kernel
theorem dX0_runTo_1 : decode cX0_runTo 1 = .ok (.getfield 40, 3) := by decide +kernel
theorem dX0_runTo_4 : decode cX0_runTo 4 = .ok (.iconst (-1), 1) := by decide +kernel
theorem dX0_runTo_5 : decode cX0_runTo 5 = .ok (.if_icmp .eq 11, 3) := by decide +kernel
theorem dX0_runTo_8 : decode cX0_runTo 8 = .ok (.iload_n 1, 1) := by decide +kernel
theorem dX0_runTo_9 : decode cX0_runTo 9 = .ok (.aload_n 0, 1) := by decide +kernel
theorem dX0_runTo_10 : decode cX0_runTo 10 = .ok (.getfield 40, 3) := by decide +kernel
theorem dX0_runTo_13 : decode cX0_runTo 13 = .ok (.if_icmp .ge 7, 3) := by decide +kernel
theorem dX0_runTo_16 : decode cX0_runTo 16 = .ok (.aload_n 0, 1) := by decide +kernel
theorem dX0_runTo_17 : decode cX0_runTo 17 = .ok (.invokevirtual 44, 3) := by decide +kernel
theorem dX0_runTo_20 : decode cX0_runTo 20 = .ok (.aload_n 0, 1) := by decide +kernel
theorem dX0_runTo_21 : decode cX0_runTo 21 = .ok (.getfield 40, 3) := by decide +kernel
theorem dX0_runTo_24 : decode cX0_runTo 24 = .ok (.iconst 1, 1) := by decide +kernel
theorem dX0_runTo_25 : decode cX0_runTo 25 = .ok (.iadd, 1) := by decide +kernel
theorem dX0_runTo_26 : decode cX0_runTo 26 = .ok (.istore_n 2, 1) := by decide +kernel
theorem dX0_runTo_27 : decode cX0_runTo 27 = .ok (.iload_n 2, 1) := by decide +kernel
theorem dX0_runTo_28 : decode cX0_runTo 28 = .ok (.iload_n 1, 1) := by decide +kernel
theorem dX0_runTo_29 : decode cX0_runTo 29 = .ok (.if_icmp .gt 20, 3) := by decide +kernel
theorem dX0_runTo_32 : decode cX0_runTo 32 = .ok (.iload_n 2, 1) := by decide +kernel
theorem dX0_runTo_33 : decode cX0_runTo 33 = .ok (.bipush 24, 2) := by decide +kernel
theorem dX0_runTo_35 : decode cX0_runTo 35 = .ok (.if_icmp .ge 14, 3) := by decide +kernel
theorem dX0_runTo_38 : decode cX0_runTo 38 = .ok (.aload_n 0, 1) := by decide +kernel
theorem dX0_runTo_39 : decode cX0_runTo 39 = .ok (.iload_n 2, 1) := by decide +kernel
theorem dX0_runTo_40 : decode cX0_runTo 40 = .ok (.invokevirtual 47, 3) := by decide +kernel
theorem dX0_runTo_43 : decode cX0_runTo 43 = .ok (.iinc 2 1, 3) := by decide +kernel
theorem dX0_runTo_46 : decode cX0_runTo 46 = .ok (.goto (-19), 3) := by decide +kernel
theorem dX0_runTo_49 : decode cX0_runTo 49 = .ok (.return_, 1) := by decide +kernel
theorem dX0_runAnew_0 : decode cX0_runAnew 0 = .ok (.aload_n 0, 1) := by decide +kernel
theorem dX0_runAnew_1 : decode cX0_runAnew 1 = .ok (.invokevirtual 44, 3) := by decide +kernel
theorem dX0_runAnew_4 : decode cX0_runAnew 4 = .ok (.iconst 0, 1) := by decide +kernel
theorem dX0_runAnew_5 : decode cX0_runAnew 5 = .ok (.istore_n 1, 1) := by decide +kernel
theorem dX0_runAnew_6 : decode cX0_runAnew 6 = .ok (.iload_n 1, 1) := by decide +kernel
theorem dX0_runAnew_7 : decode cX0_runAnew 7 = .ok (.bipush 24, 2) := by decide +kernel
theorem dX0_runAnew_9 : decode cX0_runAnew 9 = .ok (.if_icmp .ge 14, 3) := by decide +kernel
theorem dX0_runAnew_12 : decode cX0_runAnew 12 = .ok (.aload_n 0, 1) := by decide +kernel
theorem dX0_runAnew_13 : decode cX0_runAnew 13 = .ok (.iload_n 1, 1) := by decide +kernel
theorem dX0_runAnew_14 : decode cX0_runAnew 14 = .ok (.invokevirtual 47, 3) := by decide +kernel
theorem dX0_runAnew_17 : decode cX0_runAnew 17 = .ok (.iinc 1 1, 3) := by decide +kernel
theorem dX0_runAnew_20 : decode cX0_runAnew 20 = .ok (.goto (-14), 3) := by decide +kernel
theorem dX0_runAnew_23 : decode cX0_runAnew 23 = .ok (.return_, 1) := by decide +kernel
theorem dX0_clear_0 : decode cX0_clear 0 = .ok (.aload_n 0, 1) := by decide +kernel
theorem dX0_clear_1 : decode cX0_clear 1 = .ok (.iconst (-1), 1) := by decide +kernel
theorem dX0_clear_2 : decode cX0_clear 2 = .ok (.putfield 40, 3) := by decide +kernel
theorem dX0_clear_5 : decode cX0_clear 5 = .ok (.aload_n 0, 1) := by decide +kernel
theorem dX0_clear_6 : decode cX0_clear 6 = .ok (.iconst 0, 1) := by decide +kernel
theorem dX0_clear_7 : decode cX0_clear 7 = .ok (.putfield 51, 3) := by decide +kernel
theorem dX0_clear_10 : decode cX0_clear 10 = .ok (.aload_n 0, 1) := by decide +kernel
theorem dX0_clear_11 : decode cX0_clear 11 = .ok (.iconst 0, 1) := by decide +kernel
theorem dX0_clear_12 : decode cX0_clear 12 = .ok (.putfield 54, 3) := by decide +kernel
theorem dX0_clear_15 : decode cX0_clear 15 = .ok (.aload_n 0, 1) := by decide +kernel
theorem dX0_clear_16 : decode cX0_clear 16 = .ok (.iconst (-1), 1) := by decide +kernel
theorem dX0_clear_17 : decode cX0_clear 17 = .ok (.putfield 57, 3) := by decide +kernel
theorem dX0_clear_20 : decode cX0_clear 20 = .ok (.aload_n 0, 1) := by decide +kernel
theorem dX0_clear_21 : decode cX0_clear 21 = .ok (.iconst (-1), 1) := by decide +kernel
theorem dX0_clear_22 : decode cX0_clear 22 = .ok (.putfield 60, 3) := by decide +kernel
theorem dX0_clear_25 : decode cX0_clear 25 = .ok (.aload_n 0, 1) := by decide +kernel
theorem dX0_clear_26 : decode cX0_clear 26 = .ok (.getfield 9, 3) := by decide +kernel
theorem dX0_clear_29 : decode cX0_clear 29 = .ok (.iconst 0, 1) := by decide +kernel
theorem dX0_clear_30 : decode cX0_clear 30 = .ok (.invokestatic 63, 3) := by decide +kernel
theorem dX0_clear_33 : decode cX0_clear 33 = .ok (.aload_n 0, 1) := by decide +kernel
theorem dX0_clear_34 : decode cX0_clear 34 = .ok (.getfield 15, 3) := by decide +kernel
theorem dX0_clear_37 : decode cX0_clear 37 = .ok (.iconst 0, 1) := by decide +kernel
theorem dX0_clear_38 : decode cX0_clear 38 = .ok (.invokestatic 63, 3) := by decide +kernel
theorem dX0_clear_41 : decode cX0_clear 41 = .ok (.aload_n 0, 1) := by decide +kernel
theorem dX0_clear_42 : decode cX0_clear 42 = .ok (.getfield 18, 3) := by decide +kernel
theorem dX0_clear_45 : decode cX0_clear 45 = .ok (.iconst 0, 1) := by decide +kernel
theorem dX0_clear_46 : decode cX0_clear 46 = .ok (.invokestatic 63, 3) := by decide +kernel
theorem dX0_clear_49 : decode cX0_clear 49 = .ok (.aload_n 0, 1) := by decide +kernel
theorem dX0_clear_50 : decode cX0_clear 50 = .ok (.getfield 24, 3) := by decide +kernel
theorem dX0_clear_53 : decode cX0_clear 53 = .ok (.iconst 0, 1) := by decide +kernel
theorem dX0_clear_54 : decode cX0_clear 54 = .ok (.invokestatic 63, 3) := by decide +kernel
theorem dX0_clear_57 : decode cX0_clear 57 = .ok (.aload_n 0, 1) := by decide +kernel
theorem dX0_clear_58 : decode cX0_clear 58 = .ok (.getfield 27, 3) := by decide +kernel
theorem dX0_clear_61 : decode cX0_clear 61 = .ok (.iconst (-1), 1) := by decide +kernel
theorem dX0_clear_62 : decode cX0_clear 62 = .ok (.invokestatic 63, 3) := by decide +kernel
theorem dX0_clear_65 : decode cX0_clear 65 = .ok (.aload_n 0, 1) := by decide +kernel
theorem dX0_clear_66 : decode cX0_clear 66 = .ok (.getfield 30, 3) := by decide +kernel
theorem dX0_clear_69 : decode cX0_clear 69 = .ok (.iconst (-1), 1) := by decide +kernel
theorem dX0_clear_70 : decode cX0_clear 70 = .ok (.invokestatic 63, 3) := by decide +kernel
theorem dX0_clear_73 : decode cX0_clear 73 = .ok (.iconst 0, 1) := by decide +kernel
theorem dX0_clear_74 : decode cX0_clear 74 = .ok (.istore_n 1, 1) := by decide +kernel
theorem dX0_clear_75 : decode cX0_clear 75 = .ok (.iload_n 1, 1) := by decide +kernel
theorem dX0_clear_76 : decode cX0_clear 76 = .ok (.aload_n 0, 1) := by decide +kernel
theorem dX0_clear_77 : decode cX0_clear 77 = .ok (.getfield 36, 3) := by decide +kernel
theorem dX0_clear_80 : decode cX0_clear 80 = .ok (.getfield 69, 3) := by decide +kernel
theorem dX0_clear_83 : decode cX0_clear 83 = .ok (.if_icmp .ge 65, 3) := by decide +kernel
theorem dX0_clear_86 : decode cX0_clear 86 = .ok (.aload_n 0, 1) := by decide +kernel
theorem dX0_clear_87 : decode cX0_clear 87 = .ok (.getfield 21, 3) := by decide +kernel
theorem dX0_clear_90 : decode cX0_clear 90 = .ok (.iload_n 1, 1) := by decide +kernel
theorem dX0_clear_91 : decode cX0_clear 91 = .ok (.aload_n 0, 1) := by decide +kernel
theorem dX0_clear_92 : decode cX0_clear 92 = .ok (.getfield 36, 3) := by decide +kernel
theorem dX0_clear_95 : decode cX0_clear 95 = .ok (.iload_n 1, 1) := by decide +kernel
theorem dX0_clear_96 : decode cX0_clear 96 = .ok (.invokevirtual 74, 3) := by decide +kernel
theorem dX0_clear_99 : decode cX0_clear 99 = .ok (.ifCond .eq 7, 3) := by decide +kernel
theorem dX0_clear_102 : decode cX0_clear 102 = .ok (.iconst 0, 1) := by decide +kernel
theorem dX0_clear_103 : decode cX0_clear 103 = .ok (.goto 38, 3) := by decide +kernel
theorem dX0_clear_106 : decode cX0_clear 106 = .ok (.aload_n 0, 1) := by decide +kernel
theorem dX0_clear_107 : decode cX0_clear 107 = .ok (.getfield 36, 3) := by decide +kernel
theorem dX0_clear_110 : decode cX0_clear 110 = .ok (.getfield 78, 3) := by decide +kernel
theorem dX0_clear_113 : decode cX0_clear 113 = .ok (.aload_n 0, 1) := by decide +kernel
theorem dX0_clear_114 : decode cX0_clear 114 = .ok (.getfield 36, 3) := by decide +kernel
theorem dX0_clear_117 : decode cX0_clear 117 = .ok (.getfield 81, 3) := by decide +kernel
theorem dX0_clear_120 : decode cX0_clear 120 = .ok (.iload_n 1, 1) := by decide +kernel
theorem dX0_clear_121 : decode cX0_clear 121 = .ok (.iaload, 1) := by decide +kernel
theorem dX0_clear_122 : decode cX0_clear 122 = .ok (.iaload, 1) := by decide +kernel
theorem dX0_clear_123 : decode cX0_clear 123 = .ok (.aload_n 0, 1) := by decide +kernel
theorem dX0_clear_124 : decode cX0_clear 124 = .ok (.getfield 36, 3) := by decide +kernel
theorem dX0_clear_127 : decode cX0_clear 127 = .ok (.getfield 78, 3) := by decide +kernel
theorem dX0_clear_130 : decode cX0_clear 130 = .ok (.aload_n 0, 1) := by decide +kernel
theorem dX0_clear_131 : decode cX0_clear 131 = .ok (.getfield 36, 3) := by decide +kernel
theorem dX0_clear_134 : decode cX0_clear 134 = .ok (.getfield 84, 3) := by decide +kernel
theorem dX0_clear_137 : decode cX0_clear 137 = .ok (.iload_n 1, 1) := by decide +kernel
theorem dX0_clear_138 : decode cX0_clear 138 = .ok (.iaload, 1) := by decide +kernel
theorem dX0_clear_139 : decode cX0_clear 139 = .ok (.iaload, 1) := by decide +kernel
theorem dX0_clear_140 : decode cX0_clear 140 = .ok (.iadd, 1) := by decide +kernel
theorem dX0_clear_141 : decode cX0_clear 141 = .ok (.iastore, 1) := by decide +kernel
theorem dX0_clear_142 : decode cX0_clear 142 = .ok (.iinc 1 1, 3) := by decide +kernel
theorem dX0_clear_145 : decode cX0_clear 145 = .ok (.goto (-70), 3) := by decide +kernel
theorem dX0_clear_148 : decode cX0_clear 148 = .ok (.return_, 1) := by decide +kernel
theorem dX0_pass_0 : decode cX0_pass 0 = .ok (.iconst 2, 1) := by decide +kernel
theorem dX0_pass_1 : decode cX0_pass 1 = .ok (.aload_n 0, 1) := by decide +kernel
theorem dX0_pass_2 : decode cX0_pass 2 = .ok (.getfield 36, 3) := by decide +kernel
theorem dX0_pass_5 : decode cX0_pass 5 = .ok (.iload_n 1, 1) := by decide +kernel
theorem dX0_pass_6 : decode cX0_pass 6 = .ok (.iconst 0, 1) := by decide +kernel
theorem dX0_pass_7 : decode cX0_pass 7 = .ok (.invokevirtual 87, 3) := by decide +kernel
theorem dX0_pass_10 : decode cX0_pass 10 = .ok (.imul, 1) := by decide +kernel
theorem dX0_pass_11 : decode cX0_pass 11 = .ok (.istore_n 2, 1) := by decide +kernel
theorem dX0_pass_12 : decode cX0_pass 12 = .ok (.iconst 0, 1) := by decide +kernel
theorem dX0_pass_13 : decode cX0_pass 13 = .ok (.istore_n 3, 1) := by decide +kernel
theorem dX0_pass_14 : decode cX0_pass 14 = .ok (.iload_n 3, 1) := by decide +kernel
theorem dX0_pass_15 : decode cX0_pass 15 = .ok (.aload_n 0, 1) := by decide +kernel
theorem dX0_pass_16 : decode cX0_pass 16 = .ok (.getfield 36, 3) := by decide +kernel
theorem dX0_pass_19 : decode cX0_pass 19 = .ok (.getfield 91, 3) := by decide +kernel
theorem dX0_pass_22 : decode cX0_pass 22 = .ok (.if_icmp .ge 27, 3) := by decide +kernel
theorem dX0_pass_25 : decode cX0_pass 25 = .ok (.aload_n 0, 1) := by decide +kernel
theorem dX0_pass_26 : decode cX0_pass 26 = .ok (.getfield 9, 3) := by decide +kernel
theorem dX0_pass_29 : decode cX0_pass 29 = .ok (.iload_n 3, 1) := by decide +kernel
theorem dX0_pass_30 : decode cX0_pass 30 = .ok (.iconst 0, 1) := by decide +kernel
theorem dX0_pass_31 : decode cX0_pass 31 = .ok (.aload_n 0, 1) := by decide +kernel
theorem dX0_pass_32 : decode cX0_pass 32 = .ok (.getfield 9, 3) := by decide +kernel
theorem dX0_pass_35 : decode cX0_pass 35 = .ok (.iload_n 3, 1) := by decide +kernel
theorem dX0_pass_36 : decode cX0_pass 36 = .ok (.iaload, 1) := by decide +kernel
theorem dX0_pass_37 : decode cX0_pass 37 = .ok (.iload_n 2, 1) := by decide +kernel
theorem dX0_pass_38 : decode cX0_pass 38 = .ok (.isub, 1) := by decide +kernel
theorem dX0_pass_39 : decode cX0_pass 39 = .ok (.invokestatic 94, 3) := by decide +kernel
theorem dX0_pass_42 : decode cX0_pass 42 = .ok (.iastore, 1) := by decide +kernel
theorem dX0_pass_43 : decode cX0_pass 43 = .ok (.iinc 3 1, 3) := by decide +kernel
theorem dX0_pass_46 : decode cX0_pass 46 = .ok (.goto (-32), 3) := by decide +kernel
theorem dX0_pass_49 : decode cX0_pass 49 = .ok (.aload_n 0, 1) := by decide +kernel
theorem dX0_pass_50 : decode cX0_pass 50 = .ok (.bipush 20, 2) := by decide +kernel
theorem dX0_pass_52 : decode cX0_pass 52 = .ok (.aload_n 0, 1) := by decide +kernel
theorem dX0_pass_53 : decode cX0_pass 53 = .ok (.getfield 51, 3) := by decide +kernel
theorem dX0_pass_56 : decode cX0_pass 56 = .ok (.aload_n 0, 1) := by decide +kernel
theorem dX0_pass_57 : decode cX0_pass 57 = .ok (.getfield 36, 3) := by decide +kernel
theorem dX0_pass_60 : decode cX0_pass 60 = .ok (.iload_n 1, 1) := by decide +kernel
theorem dX0_pass_61 : decode cX0_pass 61 = .ok (.invokevirtual 99, 3) := by decide +kernel
theorem dX0_pass_64 : decode cX0_pass 64 = .ok (.iadd, 1) := by decide +kernel
theorem dX0_pass_65 : decode cX0_pass 65 = .ok (.invokestatic 103, 3) := by decide +kernel
theorem dX0_pass_68 : decode cX0_pass 68 = .ok (.putfield 51, 3) := by decide +kernel
theorem dX0_pass_71 : decode cX0_pass 71 = .ok (.iconst 0, 1) := by decide +kernel
theorem dX0_pass_72 : decode cX0_pass 72 = .ok (.istore_n 3, 1) := by decide +kernel
theorem dX0_pass_73 : decode cX0_pass 73 = .ok (.iload_n 3, 1) := by decide +kernel
theorem dX0_pass_74 : decode cX0_pass 74 = .ok (.aload_n 0, 1) := by decide +kernel
theorem dX0_pass_75 : decode cX0_pass 75 = .ok (.getfield 36, 3) := by decide +kernel
theorem dX0_pass_78 : decode cX0_pass 78 = .ok (.getfield 69, 3) := by decide +kernel
theorem dX0_pass_81 : decode cX0_pass 81 = .ok (.if_icmp .ge 177, 3) := by decide +kernel
theorem dX0_pass_84 : decode cX0_pass 84 = .ok (.aload_n 0, 1) := by decide +kernel
theorem dX0_pass_85 : decode cX0_pass 85 = .ok (.getfield 30, 3) := by decide +kernel
theorem dX0_pass_88 : decode cX0_pass 88 = .ok (.iload_n 3, 1) := by decide +kernel
theorem dX0_pass_89 : decode cX0_pass 89 = .ok (.iaload, 1) := by decide +kernel
theorem dX0_pass_90 : decode cX0_pass 90 = .ok (.iconst (-1), 1) := by decide +kernel
theorem dX0_pass_91 : decode cX0_pass 91 = .ok (.if_icmp .ne 161, 3) := by decide +kernel
theorem dX0_pass_94 : decode cX0_pass 94 = .ok (.aload_n 0, 1) := by decide +kernel
theorem dX0_pass_95 : decode cX0_pass 95 = .ok (.getfield 36, 3) := by decide +kernel
theorem dX0_pass_98 : decode cX0_pass 98 = .ok (.getfield 106, 3) := by decide +kernel
theorem dX0_pass_101 : decode cX0_pass 101 = .ok (.iload_n 3, 1) := by decide +kernel
theorem dX0_pass_102 : decode cX0_pass 102 = .ok (.iaload, 1) := by decide +kernel
theorem dX0_pass_103 : decode cX0_pass 103 = .ok (.iload_n 1, 1) := by decide +kernel
theorem dX0_pass_104 : decode cX0_pass 104 = .ok (.if_icmp .gt 148, 3) := by decide +kernel
theorem dX0_pass_107 : decode cX0_pass 107 = .ok (.aload_n 0, 1) := by decide +kernel
theorem dX0_pass_108 : decode cX0_pass 108 = .ok (.getfield 36, 3) := by decide +kernel
theorem dX0_pass_111 : decode cX0_pass 111 = .ok (.iload_n 3, 1) := by decide +kernel
theorem dX0_pass_112 : decode cX0_pass 112 = .ok (.invokevirtual 74, 3) := by decide +kernel
theorem dX0_pass_115 : decode cX0_pass 115 = .ok (.ifCond .ne 137, 3) := by decide +kernel
theorem dX0_pass_118 : decode cX0_pass 118 = .ok (.aload_n 0, 1) := by decide +kernel
theorem dX0_pass_119 : decode cX0_pass 119 = .ok (.getfield 24, 3) := by decide +kernel
theorem dX0_pass_122 : decode cX0_pass 122 = .ok (.iload_n 3, 1) := by decide +kernel
theorem dX0_pass_123 : decode cX0_pass 123 = .ok (.iaload, 1) := by decide +kernel
theorem dX0_pass_124 : decode cX0_pass 124 = .ok (.iconst 1, 1) := by decide +kernel
theorem dX0_pass_125 : decode cX0_pass 125 = .ok (.iand, 1) := by decide +kernel
theorem dX0_pass_126 : decode cX0_pass 126 = .ok (.ifCond .ne 7, 3) := by decide +kernel
theorem dX0_pass_129 : decode cX0_pass 129 = .ok (.iconst 1, 1) := by decide +kernel
theorem dX0_pass_130 : decode cX0_pass 130 = .ok (.goto 4, 3) := by decide +kernel
theorem dX0_pass_133 : decode cX0_pass 133 = .ok (.iconst 0, 1) := by decide +kernel
theorem dX0_pass_134 : decode cX0_pass 134 = .ok (.istore 4, 2) := by decide +kernel
theorem dX0_pass_136 : decode cX0_pass 136 = .ok (.iload 4, 2) := by decide +kernel
theorem dX0_pass_138 : decode cX0_pass 138 = .ok (.ifCond .eq 15, 3) := by decide +kernel
theorem dX0_pass_141 : decode cX0_pass 141 = .ok (.aload_n 0, 1) := by decide +kernel
theorem dX0_pass_142 : decode cX0_pass 142 = .ok (.getfield 36, 3) := by decide +kernel
theorem dX0_pass_145 : decode cX0_pass 145 = .ok (.getfield 81, 3) := by decide +kernel
theorem dX0_pass_148 : decode cX0_pass 148 = .ok (.iload_n 3, 1) := by decide +kernel
theorem dX0_pass_149 : decode cX0_pass 149 = .ok (.iaload, 1) := by decide +kernel
theorem dX0_pass_150 : decode cX0_pass 150 = .ok (.goto 12, 3) := by decide +kernel
theorem dX0_pass_153 : decode cX0_pass 153 = .ok (.aload_n 0, 1) := by decide +kernel
theorem dX0_pass_154 : decode cX0_pass 154 = .ok (.getfield 36, 3) := by decide +kernel
theorem dX0_pass_157 : decode cX0_pass 157 = .ok (.getfield 84, 3) := by decide +kernel
theorem dX0_pass_160 : decode cX0_pass 160 = .ok (.iload_n 3, 1) := by decide +kernel
theorem dX0_pass_161 : decode cX0_pass 161 = .ok (.iaload, 1) := by decide +kernel
theorem dX0_pass_162 : decode cX0_pass 162 = .ok (.istore 5, 2) := by decide +kernel
theorem dX0_pass_164 : decode cX0_pass 164 = .ok (.iload 4, 2) := by decide +kernel
theorem dX0_pass_166 : decode cX0_pass 166 = .ok (.ifCond .eq 15, 3) := by decide +kernel
theorem dX0_pass_169 : decode cX0_pass 169 = .ok (.aload_n 0, 1) := by decide +kernel
theorem dX0_pass_170 : decode cX0_pass 170 = .ok (.getfield 36, 3) := by decide +kernel
theorem dX0_pass_173 : decode cX0_pass 173 = .ok (.getfield 84, 3) := by decide +kernel
theorem dX0_pass_176 : decode cX0_pass 176 = .ok (.iload_n 3, 1) := by decide +kernel
theorem dX0_pass_177 : decode cX0_pass 177 = .ok (.iaload, 1) := by decide +kernel
theorem dX0_pass_178 : decode cX0_pass 178 = .ok (.goto 12, 3) := by decide +kernel
theorem dX0_pass_181 : decode cX0_pass 181 = .ok (.aload_n 0, 1) := by decide +kernel
theorem dX0_pass_182 : decode cX0_pass 182 = .ok (.getfield 36, 3) := by decide +kernel
theorem dX0_pass_185 : decode cX0_pass 185 = .ok (.getfield 81, 3) := by decide +kernel
theorem dX0_pass_188 : decode cX0_pass 188 = .ok (.iload_n 3, 1) := by decide +kernel
theorem dX0_pass_189 : decode cX0_pass 189 = .ok (.iaload, 1) := by decide +kernel
theorem dX0_pass_190 : decode cX0_pass 190 = .ok (.istore 6, 2) := by decide +kernel
theorem dX0_pass_192 : decode cX0_pass 192 = .ok (.aload_n 0, 1) := by decide +kernel
theorem dX0_pass_193 : decode cX0_pass 193 = .ok (.getfield 36, 3) := by decide +kernel
theorem dX0_pass_196 : decode cX0_pass 196 = .ok (.getfield 109, 3) := by decide +kernel
theorem dX0_pass_199 : decode cX0_pass 199 = .ok (.iload 5, 2) := by decide +kernel
theorem dX0_pass_201 : decode cX0_pass 201 = .ok (.iaload, 1) := by decide +kernel
theorem dX0_pass_202 : decode cX0_pass 202 = .ok (.iconst 1, 1) := by decide +kernel
theorem dX0_pass_203 : decode cX0_pass 203 = .ok (.if_icmp .ne 16, 3) := by decide +kernel
theorem dX0_pass_206 : decode cX0_pass 206 = .ok (.aload_n 0, 1) := by decide +kernel
theorem dX0_pass_207 : decode cX0_pass 207 = .ok (.getfield 21, 3) := by decide +kernel
theorem dX0_pass_210 : decode cX0_pass 210 = .ok (.iload_n 3, 1) := by decide +kernel
theorem dX0_pass_211 : decode cX0_pass 211 = .ok (.dup2, 1) := by decide +kernel
theorem dX0_pass_212 : decode cX0_pass 212 = .ok (.iaload, 1) := by decide +kernel
theorem dX0_pass_213 : decode cX0_pass 213 = .ok (.iconst 1, 1) := by decide +kernel
theorem dX0_pass_214 : decode cX0_pass 214 = .ok (.isub, 1) := by decide +kernel
theorem dX0_pass_215 : decode cX0_pass 215 = .ok (.iastore, 1) := by decide +kernel
theorem dX0_pass_216 : decode cX0_pass 216 = .ok (.goto 30, 3) := by decide +kernel
theorem dX0_pass_219 : decode cX0_pass 219 = .ok (.aload_n 0, 1) := by decide +kernel
theorem dX0_pass_220 : decode cX0_pass 220 = .ok (.getfield 51, 3) := by decide +kernel
theorem dX0_pass_223 : decode cX0_pass 223 = .ok (.ifCond .ne 14, 3) := by decide +kernel
theorem dX0_pass_226 : decode cX0_pass 226 = .ok (.aload_n 0, 1) := by decide +kernel
theorem dX0_pass_227 : decode cX0_pass 227 = .ok (.iload_n 3, 1) := by decide +kernel
theorem dX0_pass_228 : decode cX0_pass 228 = .ok (.iload 5, 2) := by decide +kernel
theorem dX0_pass_230 : decode cX0_pass 230 = .ok (.iload_n 1, 1) := by decide +kernel
theorem dX0_pass_231 : decode cX0_pass 231 = .ok (.invokevirtual 112, 3) := by decide +kernel
theorem dX0_pass_234 : decode cX0_pass 234 = .ok (.goto 12, 3) := by decide +kernel
theorem dX0_pass_237 : decode cX0_pass 237 = .ok (.aload_n 0, 1) := by decide +kernel
theorem dX0_pass_238 : decode cX0_pass 238 = .ok (.iload_n 3, 1) := by decide +kernel
theorem dX0_pass_239 : decode cX0_pass 239 = .ok (.iload 5, 2) := by decide +kernel
theorem dX0_pass_241 : decode cX0_pass 241 = .ok (.iload 6, 2) := by decide +kernel
theorem dX0_pass_243 : decode cX0_pass 243 = .ok (.invokevirtual 116, 3) := by decide +kernel
theorem dX0_pass_246 : decode cX0_pass 246 = .ok (.aload_n 0, 1) := by decide +kernel
theorem dX0_pass_247 : decode cX0_pass 247 = .ok (.iload_n 3, 1) := by decide +kernel
theorem dX0_pass_248 : decode cX0_pass 248 = .ok (.iload_n 1, 1) := by decide +kernel
theorem dX0_pass_249 : decode cX0_pass 249 = .ok (.invokevirtual 119, 3) := by decide +kernel
theorem dX0_pass_252 : decode cX0_pass 252 = .ok (.iinc 3 1, 3) := by decide +kernel
theorem dX0_pass_255 : decode cX0_pass 255 = .ok (.goto (-182), 3) := by decide +kernel
theorem dX0_pass_258 : decode cX0_pass 258 = .ok (.aload_n 0, 1) := by decide +kernel
theorem dX0_pass_259 : decode cX0_pass 259 = .ok (.iload_n 1, 1) := by decide +kernel
theorem dX0_pass_260 : decode cX0_pass 260 = .ok (.invokevirtual 123, 3) := by decide +kernel
theorem dX0_pass_263 : decode cX0_pass 263 = .ok (.aload_n 0, 1) := by decide +kernel
theorem dX0_pass_264 : decode cX0_pass 264 = .ok (.iload_n 1, 1) := by decide +kernel
theorem dX0_pass_265 : decode cX0_pass 265 = .ok (.putfield 40, 3) := by decide +kernel
theorem dX0_pass_268 : decode cX0_pass 268 = .ok (.return_, 1) := by decide +kernel
theorem dX0_waitFor_0 : decode cX0_waitFor 0 = .ok (.aload_n 0, 1) := by decide +kernel
theorem dX0_waitFor_1 : decode cX0_waitFor 1 = .ok (.dup, 1) := by decide +kernel
theorem dX0_waitFor_2 : decode cX0_waitFor 2 = .ok (.getfield 54, 3) := by decide +kernel
theorem dX0_waitFor_5 : decode cX0_waitFor 5 = .ok (.iconst 1, 1) := by decide +kernel
theorem dX0_waitFor_6 : decode cX0_waitFor 6 = .ok (.iadd, 1) := by decide +kernel
theorem dX0_waitFor_7 : decode cX0_waitFor 7 = .ok (.putfield 54, 3) := by decide +kernel
theorem dX0_waitFor_10 : decode cX0_waitFor 10 = .ok (.aload_n 0, 1) := by decide +kernel
theorem dX0_waitFor_11 : decode cX0_waitFor 11 = .ok (.getfield 27, 3) := by decide +kernel
theorem dX0_waitFor_14 : decode cX0_waitFor 14 = .ok (.iload_n 1, 1) := by decide +kernel
theorem dX0_waitFor_15 : decode cX0_waitFor 15 = .ok (.iload_n 3, 1) := by decide +kernel
theorem dX0_waitFor_16 : decode cX0_waitFor 16 = .ok (.iastore, 1) := by decide +kernel
theorem dX0_waitFor_17 : decode cX0_waitFor 17 = .ok (.aload_n 0, 1) := by decide +kernel
theorem dX0_waitFor_18 : decode cX0_waitFor 18 = .ok (.getfield 36, 3) := by decide +kernel
theorem dX0_waitFor_21 : decode cX0_waitFor 21 = .ok (.getfield 109, 3) := by decide +kernel
theorem dX0_waitFor_24 : decode cX0_waitFor 24 = .ok (.iload_n 2, 1) := by decide +kernel
theorem dX0_waitFor_25 : decode cX0_waitFor 25 = .ok (.iaload, 1) := by decide +kernel
theorem dX0_waitFor_26 : decode cX0_waitFor 26 = .ok (.iconst 2, 1) := by decide +kernel
theorem dX0_waitFor_27 : decode cX0_waitFor 27 = .ok (.if_icmp .ne 22, 3) := by decide +kernel
theorem dX0_waitFor_30 : decode cX0_waitFor 30 = .ok (.aload_n 0, 1) := by decide +kernel
theorem dX0_waitFor_31 : decode cX0_waitFor 31 = .ok (.getfield 21, 3) := by decide +kernel
theorem dX0_waitFor_34 : decode cX0_waitFor 34 = .ok (.iload_n 1, 1) := by decide +kernel
theorem dX0_waitFor_35 : decode cX0_waitFor 35 = .ok (.bipush 18, 2) := by decide +kernel
theorem dX0_waitFor_37 : decode cX0_waitFor 37 = .ok (.aload_n 0, 1) := by decide +kernel
theorem dX0_waitFor_38 : decode cX0_waitFor 38 = .ok (.getfield 21, 3) := by decide +kernel
theorem dX0_waitFor_41 : decode cX0_waitFor 41 = .ok (.iload_n 1, 1) := by decide +kernel
theorem dX0_waitFor_42 : decode cX0_waitFor 42 = .ok (.iaload, 1) := by decide +kernel
theorem dX0_waitFor_43 : decode cX0_waitFor 43 = .ok (.iconst 1, 1) := by decide +kernel
theorem dX0_waitFor_44 : decode cX0_waitFor 44 = .ok (.iadd, 1) := by decide +kernel
theorem dX0_waitFor_45 : decode cX0_waitFor 45 = .ok (.invokestatic 103, 3) := by decide +kernel
theorem dX0_waitFor_48 : decode cX0_waitFor 48 = .ok (.iastore, 1) := by decide +kernel
theorem dX0_waitFor_49 : decode cX0_waitFor 49 = .ok (.return_, 1) := by decide +kernel
theorem dX0_strike_0 : decode cX0_strike 0 = .ok (.aload_n 0, 1) := by decide +kernel
theorem dX0_strike_1 : decode cX0_strike 1 = .ok (.dup, 1) := by decide +kernel
theorem dX0_strike_2 : decode cX0_strike 2 = .ok (.getfield 51, 3) := by decide +kernel
theorem dX0_strike_5 : decode cX0_strike 5 = .ok (.iconst 1, 1) := by decide +kernel
theorem dX0_strike_6 : decode cX0_strike 6 = .ok (.isub, 1) := by decide +kernel
theorem dX0_strike_7 : decode cX0_strike 7 = .ok (.putfield 51, 3) := by decide +kernel
theorem dX0_strike_10 : decode cX0_strike 10 = .ok (.aload_n 0, 1) := by decide +kernel
theorem dX0_strike_11 : decode cX0_strike 11 = .ok (.getfield 24, 3) := by decide +kernel
theorem dX0_strike_14 : decode cX0_strike 14 = .ok (.iload_n 1, 1) := by decide +kernel
theorem dX0_strike_15 : decode cX0_strike 15 = .ok (.dup2, 1) := by decide +kernel
theorem dX0_strike_16 : decode cX0_strike 16 = .ok (.iaload, 1) := by decide +kernel
theorem dX0_strike_17 : decode cX0_strike 17 = .ok (.iconst 1, 1) := by decide +kernel
theorem dX0_strike_18 : decode cX0_strike 18 = .ok (.iadd, 1) := by decide +kernel
theorem dX0_strike_19 : decode cX0_strike 19 = .ok (.iastore, 1) := by decide +kernel
theorem dX0_strike_20 : decode cX0_strike 20 = .ok (.aload_n 0, 1) := by decide +kernel
theorem dX0_strike_21 : decode cX0_strike 21 = .ok (.getfield 18, 3) := by decide +kernel
theorem dX0_strike_24 : decode cX0_strike 24 = .ok (.iload_n 2, 1) := by decide +kernel
theorem dX0_strike_25 : decode cX0_strike 25 = .ok (.dup2, 1) := by decide +kernel
theorem dX0_strike_26 : decode cX0_strike 26 = .ok (.iaload, 1) := by decide +kernel
theorem dX0_strike_27 : decode cX0_strike 27 = .ok (.iconst 1, 1) := by decide +kernel
theorem dX0_strike_28 : decode cX0_strike 28 = .ok (.iadd, 1) := by decide +kernel
theorem dX0_strike_29 : decode cX0_strike 29 = .ok (.iastore, 1) := by decide +kernel
theorem dX0_strike_30 : decode cX0_strike 30 = .ok (.aload_n 0, 1) := by decide +kernel
theorem dX0_strike_31 : decode cX0_strike 31 = .ok (.getfield 15, 3) := by decide +kernel
theorem dX0_strike_34 : decode cX0_strike 34 = .ok (.iload_n 3, 1) := by decide +kernel
theorem dX0_strike_35 : decode cX0_strike 35 = .ok (.dup2, 1) := by decide +kernel
theorem dX0_strike_36 : decode cX0_strike 36 = .ok (.iaload, 1) := by decide +kernel
theorem dX0_strike_37 : decode cX0_strike 37 = .ok (.iconst 1, 1) := by decide +kernel
theorem dX0_strike_38 : decode cX0_strike 38 = .ok (.iadd, 1) := by decide +kernel
theorem dX0_strike_39 : decode cX0_strike 39 = .ok (.iastore, 1) := by decide +kernel
theorem dX0_strike_40 : decode cX0_strike 40 = .ok (.aload_n 0, 1) := by decide +kernel
theorem dX0_strike_41 : decode cX0_strike 41 = .ok (.getfield 36, 3) := by decide +kernel
theorem dX0_strike_44 : decode cX0_strike 44 = .ok (.getfield 109, 3) := by decide +kernel
theorem dX0_strike_47 : decode cX0_strike 47 = .ok (.iload_n 3, 1) := by decide +kernel
theorem dX0_strike_48 : decode cX0_strike 48 = .ok (.iaload, 1) := by decide +kernel
theorem dX0_strike_49 : decode cX0_strike 49 = .ok (.ifCond .ne 7, 3) := by decide +kernel
theorem dX0_strike_52 : decode cX0_strike 52 = .ok (.iconst 2, 1) := by decide +kernel
theorem dX0_strike_53 : decode cX0_strike 53 = .ok (.goto 4, 3) := by decide +kernel
theorem dX0_strike_56 : decode cX0_strike 56 = .ok (.iconst 1, 1) := by decide +kernel
theorem dX0_strike_57 : decode cX0_strike 57 = .ok (.istore 4, 2) := by decide +kernel
theorem dX0_strike_59 : decode cX0_strike 59 = .ok (.aload_n 0, 1) := by decide +kernel
theorem dX0_strike_60 : decode cX0_strike 60 = .ok (.getfield 9, 3) := by decide +kernel
theorem dX0_strike_63 : decode cX0_strike 63 = .ok (.iload_n 3, 1) := by decide +kernel
theorem dX0_strike_64 : decode cX0_strike 64 = .ok (.bipush 9, 2) := by decide +kernel
theorem dX0_strike_66 : decode cX0_strike 66 = .ok (.aload_n 0, 1) := by decide +kernel
theorem dX0_strike_67 : decode cX0_strike 67 = .ok (.getfield 9, 3) := by decide +kernel
theorem dX0_strike_70 : decode cX0_strike 70 = .ok (.iload_n 3, 1) := by decide +kernel
theorem dX0_strike_71 : decode cX0_strike 71 = .ok (.iaload, 1) := by decide +kernel
theorem dX0_strike_72 : decode cX0_strike 72 = .ok (.iload 4, 2) := by decide +kernel
theorem dX0_strike_74 : decode cX0_strike 74 = .ok (.iadd, 1) := by decide +kernel
theorem dX0_strike_75 : decode cX0_strike 75 = .ok (.invokestatic 103, 3) := by decide +kernel
theorem dX0_strike_78 : decode cX0_strike 78 = .ok (.iastore, 1) := by decide +kernel
theorem dX0_strike_79 : decode cX0_strike 79 = .ok (.aload_n 0, 1) := by decide +kernel
theorem dX0_strike_80 : decode cX0_strike 80 = .ok (.getfield 21, 3) := by decide +kernel
theorem dX0_strike_83 : decode cX0_strike 83 = .ok (.iload_n 1, 1) := by decide +kernel
theorem dX0_strike_84 : decode cX0_strike 84 = .ok (.dup2, 1) := by decide +kernel
theorem dX0_strike_85 : decode cX0_strike 85 = .ok (.iaload, 1) := by decide +kernel
theorem dX0_strike_86 : decode cX0_strike 86 = .ok (.aload_n 0, 1) := by decide +kernel
theorem dX0_strike_87 : decode cX0_strike 87 = .ok (.getfield 36, 3) := by decide +kernel
theorem dX0_strike_90 : decode cX0_strike 90 = .ok (.getfield 109, 3) := by decide +kernel
theorem dX0_strike_93 : decode cX0_strike 93 = .ok (.iload_n 3, 1) := by decide +kernel
theorem dX0_strike_94 : decode cX0_strike 94 = .ok (.iaload, 1) := by decide +kernel
theorem dX0_strike_95 : decode cX0_strike 95 = .ok (.iconst 1, 1) := by decide +kernel
theorem dX0_strike_96 : decode cX0_strike 96 = .ok (.if_icmp .ne 7, 3) := by decide +kernel
theorem dX0_strike_99 : decode cX0_strike 99 = .ok (.iconst 3, 1) := by decide +kernel
theorem dX0_strike_100 : decode cX0_strike 100 = .ok (.goto 4, 3) := by decide +kernel
theorem dX0_strike_103 : decode cX0_strike 103 = .ok (.iconst 1, 1) := by decide +kernel
theorem dX0_strike_104 : decode cX0_strike 104 = .ok (.isub, 1) := by decide +kernel
theorem dX0_strike_105 : decode cX0_strike 105 = .ok (.iastore, 1) := by decide +kernel
theorem dX0_strike_106 : decode cX0_strike 106 = .ok (.return_, 1) := by decide +kernel
theorem dX0_settle_0 : decode cX0_settle 0 = .ok (.aload_n 0, 1) := by decide +kernel
theorem dX0_settle_1 : decode cX0_settle 1 = .ok (.getfield 21, 3) := by decide +kernel
theorem dX0_settle_4 : decode cX0_settle 4 = .ok (.iload_n 1, 1) := by decide +kernel
theorem dX0_settle_5 : decode cX0_settle 5 = .ok (.iconst 0, 1) := by decide +kernel
theorem dX0_settle_6 : decode cX0_settle 6 = .ok (.aload_n 0, 1) := by decide +kernel
theorem dX0_settle_7 : decode cX0_settle 7 = .ok (.getfield 21, 3) := by decide +kernel
theorem dX0_settle_10 : decode cX0_settle 10 = .ok (.iload_n 1, 1) := by decide +kernel
theorem dX0_settle_11 : decode cX0_settle 11 = .ok (.iaload, 1) := by decide +kernel
theorem dX0_settle_12 : decode cX0_settle 12 = .ok (.invokestatic 94, 3) := by decide +kernel
theorem dX0_settle_15 : decode cX0_settle 15 = .ok (.iastore, 1) := by decide +kernel
theorem dX0_settle_16 : decode cX0_settle 16 = .ok (.aload_n 0, 1) := by decide +kernel
theorem dX0_settle_17 : decode cX0_settle 17 = .ok (.getfield 9, 3) := by decide +kernel
theorem dX0_settle_20 : decode cX0_settle 20 = .ok (.aload_n 0, 1) := by decide +kernel
theorem dX0_settle_21 : decode cX0_settle 21 = .ok (.getfield 36, 3) := by decide +kernel
theorem dX0_settle_24 : decode cX0_settle 24 = .ok (.getfield 81, 3) := by decide +kernel
theorem dX0_settle_27 : decode cX0_settle 27 = .ok (.iload_n 1, 1) := by decide +kernel
theorem dX0_settle_28 : decode cX0_settle 28 = .ok (.iaload, 1) := by decide +kernel
theorem dX0_settle_29 : decode cX0_settle 29 = .ok (.iaload, 1) := by decide +kernel
theorem dX0_settle_30 : decode cX0_settle 30 = .ok (.bipush 9, 2) := by decide +kernel
theorem dX0_settle_32 : decode cX0_settle 32 = .ok (.if_icmp .eq 22, 3) := by decide +kernel
theorem dX0_settle_35 : decode cX0_settle 35 = .ok (.aload_n 0, 1) := by decide +kernel
theorem dX0_settle_36 : decode cX0_settle 36 = .ok (.getfield 9, 3) := by decide +kernel
theorem dX0_settle_39 : decode cX0_settle 39 = .ok (.aload_n 0, 1) := by decide +kernel
theorem dX0_settle_40 : decode cX0_settle 40 = .ok (.getfield 36, 3) := by decide +kernel
theorem dX0_settle_43 : decode cX0_settle 43 = .ok (.getfield 84, 3) := by decide +kernel
theorem dX0_settle_46 : decode cX0_settle 46 = .ok (.iload_n 1, 1) := by decide +kernel
theorem dX0_settle_47 : decode cX0_settle 47 = .ok (.iaload, 1) := by decide +kernel
theorem dX0_settle_48 : decode cX0_settle 48 = .ok (.iaload, 1) := by decide +kernel
theorem dX0_settle_49 : decode cX0_settle 49 = .ok (.bipush 9, 2) := by decide +kernel
theorem dX0_settle_51 : decode cX0_settle 51 = .ok (.if_icmp .ne 7, 3) := by decide +kernel
theorem dX0_settle_54 : decode cX0_settle 54 = .ok (.iconst 1, 1) := by decide +kernel
theorem dX0_settle_55 : decode cX0_settle 55 = .ok (.goto 4, 3) := by decide +kernel
theorem dX0_settle_58 : decode cX0_settle 58 = .ok (.iconst 0, 1) := by decide +kernel
theorem dX0_settle_59 : decode cX0_settle 59 = .ok (.istore_n 3, 1) := by decide +kernel
theorem dX0_settle_60 : decode cX0_settle 60 = .ok (.iload_n 3, 1) := by decide +kernel
theorem dX0_settle_61 : decode cX0_settle 61 = .ok (.ifCond .ne 12, 3) := by decide +kernel
theorem dX0_settle_64 : decode cX0_settle 64 = .ok (.aload_n 0, 1) := by decide +kernel
theorem dX0_settle_65 : decode cX0_settle 65 = .ok (.getfield 21, 3) := by decide +kernel
theorem dX0_settle_68 : decode cX0_settle 68 = .ok (.iload_n 1, 1) := by decide +kernel
theorem dX0_settle_69 : decode cX0_settle 69 = .ok (.iaload, 1) := by decide +kernel
theorem dX0_settle_70 : decode cX0_settle 70 = .ok (.ifCond .ne 10, 3) := by decide +kernel
theorem dX0_settle_73 : decode cX0_settle 73 = .ok (.aload_n 0, 1) := by decide +kernel
theorem dX0_settle_74 : decode cX0_settle 74 = .ok (.getfield 30, 3) := by decide +kernel
theorem dX0_settle_77 : decode cX0_settle 77 = .ok (.iload_n 1, 1) := by decide +kernel
theorem dX0_settle_78 : decode cX0_settle 78 = .ok (.iload_n 2, 1) := by decide +kernel
theorem dX0_settle_79 : decode cX0_settle 79 = .ok (.iastore, 1) := by decide +kernel
theorem dX0_settle_80 : decode cX0_settle 80 = .ok (.return_, 1) := by decide +kernel
theorem dX0_keepGold_0 : decode cX0_keepGold 0 = .ok (.iconst 0, 1) := by decide +kernel
theorem dX0_keepGold_1 : decode cX0_keepGold 1 = .ok (.istore_n 2, 1) := by decide +kernel
theorem dX0_keepGold_2 : decode cX0_keepGold 2 = .ok (.iload_n 2, 1) := by decide +kernel
theorem dX0_keepGold_3 : decode cX0_keepGold 3 = .ok (.aload_n 0, 1) := by decide +kernel
theorem dX0_keepGold_4 : decode cX0_keepGold 4 = .ok (.getfield 36, 3) := by decide +kernel
theorem dX0_keepGold_7 : decode cX0_keepGold 7 = .ok (.getfield 91, 3) := by decide +kernel
theorem dX0_keepGold_10 : decode cX0_keepGold 10 = .ok (.if_icmp .ge 55, 3) := by decide +kernel
theorem dX0_keepGold_13 : decode cX0_keepGold 13 = .ok (.aload_n 0, 1) := by decide +kernel
theorem dX0_keepGold_14 : decode cX0_keepGold 14 = .ok (.getfield 33, 3) := by decide +kernel
theorem dX0_keepGold_17 : decode cX0_keepGold 17 = .ok (.iload_n 1, 1) := by decide +kernel
theorem dX0_keepGold_18 : decode cX0_keepGold 18 = .ok (.bipush 8, 2) := by decide +kernel
theorem dX0_keepGold_20 : decode cX0_keepGold 20 = .ok (.imul, 1) := by decide +kernel
theorem dX0_keepGold_21 : decode cX0_keepGold 21 = .ok (.iload_n 2, 1) := by decide +kernel
theorem dX0_keepGold_22 : decode cX0_keepGold 22 = .ok (.iadd, 1) := by decide +kernel
theorem dX0_keepGold_23 : decode cX0_keepGold 23 = .ok (.aload_n 0, 1) := by decide +kernel
theorem dX0_keepGold_24 : decode cX0_keepGold 24 = .ok (.getfield 9, 3) := by decide +kernel
theorem dX0_keepGold_27 : decode cX0_keepGold 27 = .ok (.iload_n 2, 1) := by decide +kernel
theorem dX0_keepGold_28 : decode cX0_keepGold 28 = .ok (.iaload, 1) := by decide +kernel
theorem dX0_keepGold_29 : decode cX0_keepGold 29 = .ok (.iastore, 1) := by decide +kernel
theorem dX0_keepGold_30 : decode cX0_keepGold 30 = .ok (.aload_n 0, 1) := by decide +kernel
theorem dX0_keepGold_31 : decode cX0_keepGold 31 = .ok (.getfield 57, 3) := by decide +kernel
theorem dX0_keepGold_34 : decode cX0_keepGold 34 = .ok (.iconst (-1), 1) := by decide +kernel
theorem dX0_keepGold_35 : decode cX0_keepGold 35 = .ok (.if_icmp .ne 24, 3) := by decide +kernel
theorem dX0_keepGold_38 : decode cX0_keepGold 38 = .ok (.aload_n 0, 1) := by decide +kernel
theorem dX0_keepGold_39 : decode cX0_keepGold 39 = .ok (.getfield 9, 3) := by decide +kernel
theorem dX0_keepGold_42 : decode cX0_keepGold 42 = .ok (.iload_n 2, 1) := by decide +kernel
theorem dX0_keepGold_43 : decode cX0_keepGold 43 = .ok (.iaload, 1) := by decide +kernel
theorem dX0_keepGold_44 : decode cX0_keepGold 44 = .ok (.bipush 9, 2) := by decide +kernel
theorem dX0_keepGold_46 : decode cX0_keepGold 46 = .ok (.if_icmp .ne 13, 3) := by decide +kernel
theorem dX0_keepGold_49 : decode cX0_keepGold 49 = .ok (.aload_n 0, 1) := by decide +kernel
theorem dX0_keepGold_50 : decode cX0_keepGold 50 = .ok (.iload_n 1, 1) := by decide +kernel
theorem dX0_keepGold_51 : decode cX0_keepGold 51 = .ok (.putfield 57, 3) := by decide +kernel
theorem dX0_keepGold_54 : decode cX0_keepGold 54 = .ok (.aload_n 0, 1) := by decide +kernel
theorem dX0_keepGold_55 : decode cX0_keepGold 55 = .ok (.iload_n 2, 1) := by decide +kernel
theorem dX0_keepGold_56 : decode cX0_keepGold 56 = .ok (.putfield 60, 3) := by decide +kernel
theorem dX0_keepGold_59 : decode cX0_keepGold 59 = .ok (.iinc 2 1, 3) := by decide +kernel
theorem dX0_keepGold_62 : decode cX0_keepGold 62 = .ok (.goto (-60), 3) := by decide +kernel
theorem dX0_keepGold_65 : decode cX0_keepGold 65 = .ok (.return_, 1) := by decide +kernel
theorem dX0_goldOn_0 : decode cX0_goldOn 0 = .ok (.aload_n 0, 1) := by decide +kernel
theorem dX0_goldOn_1 : decode cX0_goldOn 1 = .ok (.getfield 33, 3) := by decide +kernel
theorem dX0_goldOn_4 : decode cX0_goldOn 4 = .ok (.iload_n 1, 1) := by decide +kernel
theorem dX0_goldOn_5 : decode cX0_goldOn 5 = .ok (.bipush 8, 2) := by decide +kernel
theorem dX0_goldOn_7 : decode cX0_goldOn 7 = .ok (.imul, 1) := by decide +kernel
theorem dX0_goldOn_8 : decode cX0_goldOn 8 = .ok (.iload_n 2, 1) := by decide +kernel
theorem dX0_goldOn_9 : decode cX0_goldOn 9 = .ok (.iadd, 1) := by decide +kernel
theorem dX0_goldOn_10 : decode cX0_goldOn 10 = .ok (.iaload, 1) := by decide +kernel
theorem dX0_goldOn_11 : decode cX0_goldOn 11 = .ok (.ireturn, 1) := by decide +kernel
theorem dX0_allGold_0 : decode cX0_allGold 0 = .ok (.iconst 0, 1) := by decide +kernel
theorem dX0_allGold_1 : decode cX0_allGold 1 = .ok (.istore_n 1, 1) := by decide +kernel
theorem dX0_allGold_2 : decode cX0_allGold 2 = .ok (.iconst 0, 1) := by decide +kernel
theorem dX0_allGold_3 : decode cX0_allGold 3 = .ok (.istore_n 2, 1) := by decide +kernel
theorem dX0_allGold_4 : decode cX0_allGold 4 = .ok (.iload_n 2, 1) := by decide +kernel
theorem dX0_allGold_5 : decode cX0_allGold 5 = .ok (.aload_n 0, 1) := by decide +kernel
theorem dX0_allGold_6 : decode cX0_allGold 6 = .ok (.getfield 36, 3) := by decide +kernel
theorem dX0_allGold_9 : decode cX0_allGold 9 = .ok (.getfield 91, 3) := by decide +kernel
theorem dX0_allGold_12 : decode cX0_allGold 12 = .ok (.if_icmp .ge 18, 3) := by decide +kernel
theorem dX0_allGold_15 : decode cX0_allGold 15 = .ok (.iload_n 1, 1) := by decide +kernel
theorem dX0_allGold_16 : decode cX0_allGold 16 = .ok (.aload_n 0, 1) := by decide +kernel
theorem dX0_allGold_17 : decode cX0_allGold 17 = .ok (.getfield 9, 3) := by decide +kernel
theorem dX0_allGold_20 : decode cX0_allGold 20 = .ok (.iload_n 2, 1) := by decide +kernel
theorem dX0_allGold_21 : decode cX0_allGold 21 = .ok (.iaload, 1) := by decide +kernel
theorem dX0_allGold_22 : decode cX0_allGold 22 = .ok (.iadd, 1) := by decide +kernel
theorem dX0_allGold_23 : decode cX0_allGold 23 = .ok (.istore_n 1, 1) := by decide +kernel
theorem dX0_allGold_24 : decode cX0_allGold 24 = .ok (.iinc 2 1, 3) := by decide +kernel
theorem dX0_allGold_27 : decode cX0_allGold 27 = .ok (.goto (-23), 3) := by decide +kernel
theorem dX0_allGold_30 : decode cX0_allGold 30 = .ok (.iload_n 1, 1) := by decide +kernel
theorem dX0_allGold_31 : decode cX0_allGold 31 = .ok (.ireturn, 1) := by decide +kernel
theorem dX0_stateOf_0 : decode cX0_stateOf 0 = .ok (.aload_n 0, 1) := by decide +kernel
theorem dX0_stateOf_1 : decode cX0_stateOf 1 = .ok (.getfield 36, 3) := by decide +kernel
theorem dX0_stateOf_4 : decode cX0_stateOf 4 = .ok (.iload_n 1, 1) := by decide +kernel
theorem dX0_stateOf_5 : decode cX0_stateOf 5 = .ok (.invokevirtual 74, 3) := by decide +kernel
theorem dX0_stateOf_8 : decode cX0_stateOf 8 = .ok (.ifCond .eq 5, 3) := by decide +kernel
theorem dX0_stateOf_11 : decode cX0_stateOf 11 = .ok (.iconst 4, 1) := by decide +kernel
theorem dX0_stateOf_12 : decode cX0_stateOf 12 = .ok (.ireturn, 1) := by decide +kernel
theorem dX0_stateOf_13 : decode cX0_stateOf 13 = .ok (.aload_n 0, 1) := by decide +kernel
theorem dX0_stateOf_14 : decode cX0_stateOf 14 = .ok (.getfield 30, 3) := by decide +kernel
theorem dX0_stateOf_17 : decode cX0_stateOf 17 = .ok (.iload_n 1, 1) := by decide +kernel
theorem dX0_stateOf_18 : decode cX0_stateOf 18 = .ok (.iaload, 1) := by decide +kernel
theorem dX0_stateOf_19 : decode cX0_stateOf 19 = .ok (.iconst (-1), 1) := by decide +kernel
theorem dX0_stateOf_20 : decode cX0_stateOf 20 = .ok (.if_icmp .eq 5, 3) := by decide +kernel
theorem dX0_stateOf_23 : decode cX0_stateOf 23 = .ok (.iconst 3, 1) := by decide +kernel
theorem dX0_stateOf_24 : decode cX0_stateOf 24 = .ok (.ireturn, 1) := by decide +kernel
theorem dX0_stateOf_25 : decode cX0_stateOf 25 = .ok (.aload_n 0, 1) := by decide +kernel
theorem dX0_stateOf_26 : decode cX0_stateOf 26 = .ok (.getfield 36, 3) := by decide +kernel
theorem dX0_stateOf_29 : decode cX0_stateOf 29 = .ok (.getfield 106, 3) := by decide +kernel
theorem dX0_stateOf_32 : decode cX0_stateOf 32 = .ok (.iload_n 1, 1) := by decide +kernel
theorem dX0_stateOf_33 : decode cX0_stateOf 33 = .ok (.iaload, 1) := by decide +kernel
theorem dX0_stateOf_34 : decode cX0_stateOf 34 = .ok (.aload_n 0, 1) := by decide +kernel
theorem dX0_stateOf_35 : decode cX0_stateOf 35 = .ok (.getfield 40, 3) := by decide +kernel
theorem dX0_stateOf_38 : decode cX0_stateOf 38 = .ok (.if_icmp .le 5, 3) := by decide +kernel
theorem dX0_stateOf_41 : decode cX0_stateOf 41 = .ok (.iconst 0, 1) := by decide +kernel
theorem dX0_stateOf_42 : decode cX0_stateOf 42 = .ok (.ireturn, 1) := by decide +kernel
theorem dX0_stateOf_43 : decode cX0_stateOf 43 = .ok (.aload_n 0, 1) := by decide +kernel
theorem dX0_stateOf_44 : decode cX0_stateOf 44 = .ok (.getfield 27, 3) := by decide +kernel
theorem dX0_stateOf_47 : decode cX0_stateOf 47 = .ok (.iload_n 1, 1) := by decide +kernel
theorem dX0_stateOf_48 : decode cX0_stateOf 48 = .ok (.iaload, 1) := by decide +kernel
theorem dX0_stateOf_49 : decode cX0_stateOf 49 = .ok (.aload_n 0, 1) := by decide +kernel
theorem dX0_stateOf_50 : decode cX0_stateOf 50 = .ok (.getfield 40, 3) := by decide +kernel
theorem dX0_stateOf_53 : decode cX0_stateOf 53 = .ok (.if_icmp .ne 7, 3) := by decide +kernel
theorem dX0_stateOf_56 : decode cX0_stateOf 56 = .ok (.iconst 2, 1) := by decide +kernel
theorem dX0_stateOf_57 : decode cX0_stateOf 57 = .ok (.goto 4, 3) := by decide +kernel
theorem dX0_stateOf_60 : decode cX0_stateOf 60 = .ok (.iconst 1, 1) := by decide +kernel
theorem dX0_stateOf_61 : decode cX0_stateOf 61 = .ok (.ireturn, 1) := by decide +kernel
theorem dX0_openQuarrels_0 : decode cX0_openQuarrels 0 = .ok (.iconst 0, 1) := by decide +kernel
theorem dX0_openQuarrels_1 : decode cX0_openQuarrels 1 = .ok (.istore_n 1, 1) := by decide +kernel
theorem dX0_openQuarrels_2 : decode cX0_openQuarrels 2 = .ok (.iconst 0, 1) := by decide +kernel
theorem dX0_openQuarrels_3 : decode cX0_openQuarrels 3 = .ok (.istore_n 2, 1) := by decide +kernel
theorem dX0_openQuarrels_4 : decode cX0_openQuarrels 4 = .ok (.iload_n 2, 1) := by decide +kernel
theorem dX0_openQuarrels_5 : decode cX0_openQuarrels 5 = .ok (.aload_n 0, 1) := by decide +kernel
theorem dX0_openQuarrels_6 : decode cX0_openQuarrels 6 = .ok (.getfield 36, 3) := by decide +kernel
theorem dX0_openQuarrels_9 : decode cX0_openQuarrels 9 = .ok (.getfield 69, 3) := by decide +kernel
theorem dX0_openQuarrels_12 : decode cX0_openQuarrels 12 = .ok (.if_icmp .ge 28, 3) := by decide +kernel
theorem dX0_openQuarrels_15 : decode cX0_openQuarrels 15 = .ok (.aload_n 0, 1) := by decide +kernel
theorem dX0_openQuarrels_16 : decode cX0_openQuarrels 16 = .ok (.iload_n 2, 1) := by decide +kernel
theorem dX0_openQuarrels_17 : decode cX0_openQuarrels 17 = .ok (.invokevirtual 126, 3) := by decide +kernel
theorem dX0_openQuarrels_20 : decode cX0_openQuarrels 20 = .ok (.istore_n 3, 1) := by decide +kernel
theorem dX0_openQuarrels_21 : decode cX0_openQuarrels 21 = .ok (.iload_n 3, 1) := by decide +kernel
theorem dX0_openQuarrels_22 : decode cX0_openQuarrels 22 = .ok (.iconst 1, 1) := by decide +kernel
theorem dX0_openQuarrels_23 : decode cX0_openQuarrels 23 = .ok (.if_icmp .eq 8, 3) := by decide +kernel
theorem dX0_openQuarrels_26 : decode cX0_openQuarrels 26 = .ok (.iload_n 3, 1) := by decide +kernel
theorem dX0_openQuarrels_27 : decode cX0_openQuarrels 27 = .ok (.iconst 2, 1) := by decide +kernel
theorem dX0_openQuarrels_28 : decode cX0_openQuarrels 28 = .ok (.if_icmp .ne 6, 3) := by decide +kernel
theorem dX0_openQuarrels_31 : decode cX0_openQuarrels 31 = .ok (.iinc 1 1, 3) := by decide +kernel
theorem dX0_openQuarrels_34 : decode cX0_openQuarrels 34 = .ok (.iinc 2 1, 3) := by decide +kernel
theorem dX0_openQuarrels_37 : decode cX0_openQuarrels 37 = .ok (.goto (-33), 3) := by decide +kernel
theorem dX0_openQuarrels_40 : decode cX0_openQuarrels 40 = .ok (.iload_n 1, 1) := by decide +kernel
theorem dX0_openQuarrels_41 : decode cX0_openQuarrels 41 = .ok (.ireturn, 1) := by decide +kernel
theorem dX0_endedBits_0 : decode cX0_endedBits 0 = .ok (.iconst 0, 1) := by decide +kernel
theorem dX0_endedBits_1 : decode cX0_endedBits 1 = .ok (.istore_n 1, 1) := by decide +kernel
theorem dX0_endedBits_2 : decode cX0_endedBits 2 = .ok (.iconst 0, 1) := by decide +kernel
theorem dX0_endedBits_3 : decode cX0_endedBits 3 = .ok (.istore_n 2, 1) := by decide +kernel
theorem dX0_endedBits_4 : decode cX0_endedBits 4 = .ok (.iload_n 2, 1) := by decide +kernel
theorem dX0_endedBits_5 : decode cX0_endedBits 5 = .ok (.aload_n 0, 1) := by decide +kernel
theorem dX0_endedBits_6 : decode cX0_endedBits 6 = .ok (.getfield 36, 3) := by decide +kernel
theorem dX0_endedBits_9 : decode cX0_endedBits 9 = .ok (.getfield 69, 3) := by decide +kernel
theorem dX0_endedBits_12 : decode cX0_endedBits 12 = .ok (.if_icmp .ge 25, 3) := by decide +kernel
theorem dX0_endedBits_15 : decode cX0_endedBits 15 = .ok (.aload_n 0, 1) := by decide +kernel
theorem dX0_endedBits_16 : decode cX0_endedBits 16 = .ok (.getfield 30, 3) := by decide +kernel
theorem dX0_endedBits_19 : decode cX0_endedBits 19 = .ok (.iload_n 2, 1) := by decide +kernel
theorem dX0_endedBits_20 : decode cX0_endedBits 20 = .ok (.iaload, 1) := by decide +kernel
theorem dX0_endedBits_21 : decode cX0_endedBits 21 = .ok (.iconst (-1), 1) := by decide +kernel
theorem dX0_endedBits_22 : decode cX0_endedBits 22 = .ok (.if_icmp .eq 9, 3) := by decide +kernel
theorem dX0_endedBits_25 : decode cX0_endedBits 25 = .ok (.iload_n 1, 1) := by decide +kernel
theorem dX0_endedBits_26 : decode cX0_endedBits 26 = .ok (.iconst 1, 1) := by decide +kernel
theorem dX0_endedBits_27 : decode cX0_endedBits 27 = .ok (.iload_n 2, 1) := by decide +kernel
theorem dX0_endedBits_28 : decode cX0_endedBits 28 = .ok (.ishl, 1) := by decide +kernel
theorem dX0_endedBits_29 : decode cX0_endedBits 29 = .ok (.ior, 1) := by decide +kernel
theorem dX0_endedBits_30 : decode cX0_endedBits 30 = .ok (.istore_n 1, 1) := by decide +kernel
theorem dX0_endedBits_31 : decode cX0_endedBits 31 = .ok (.iinc 2 1, 3) := by decide +kernel
theorem dX0_endedBits_34 : decode cX0_endedBits 34 = .ok (.goto (-30), 3) := by decide +kernel
theorem dX0_endedBits_37 : decode cX0_endedBits 37 = .ok (.iload_n 1, 1) := by decide +kernel
theorem dX0_endedBits_38 : decode cX0_endedBits 38 = .ok (.ireturn, 1) := by decide +kernel
theorem dX1_init_0 : decode cX1_init 0 = .ok (.aload_n 0, 1) := by decide +kernel
theorem dX1_init_1 : decode cX1_init 1 = .ok (.invokespecial 3, 3) := by decide +kernel
theorem dX1_init_4 : decode cX1_init 4 = .ok (.aload_n 0, 1) := by decide +kernel
theorem dX1_init_5 : decode cX1_init 5 = .ok (.bipush 8, 2) := by decide +kernel
theorem dX1_init_7 : decode cX1_init 7 = .ok (.newarray .int, 2) := by decide +kernel
theorem dX1_init_9 : decode cX1_init 9 = .ok (.putfield 9, 3) := by decide +kernel
theorem dX1_init_12 : decode cX1_init 12 = .ok (.aload_n 0, 1) := by decide +kernel
theorem dX1_init_13 : decode cX1_init 13 = .ok (.bipush 8, 2) := by decide +kernel
theorem dX1_init_15 : decode cX1_init 15 = .ok (.newarray .int, 2) := by decide +kernel
theorem dX1_init_17 : decode cX1_init 17 = .ok (.putfield 15, 3) := by decide +kernel
theorem dX1_init_20 : decode cX1_init 20 = .ok (.aload_n 0, 1) := by decide +kernel
theorem dX1_init_21 : decode cX1_init 21 = .ok (.bipush 8, 2) := by decide +kernel
theorem dX1_init_23 : decode cX1_init 23 = .ok (.newarray .int, 2) := by decide +kernel
theorem dX1_init_25 : decode cX1_init 25 = .ok (.putfield 18, 3) := by decide +kernel
theorem dX1_init_28 : decode cX1_init 28 = .ok (.aload_n 0, 1) := by decide +kernel
theorem dX1_init_29 : decode cX1_init 29 = .ok (.bipush 8, 2) := by decide +kernel
theorem dX1_init_31 : decode cX1_init 31 = .ok (.newarray .int, 2) := by decide +kernel
theorem dX1_init_33 : decode cX1_init 33 = .ok (.putfield 21, 3) := by decide +kernel
theorem dX1_init_36 : decode cX1_init 36 = .ok (.aload_n 0, 1) := by decide +kernel
theorem dX1_init_37 : decode cX1_init 37 = .ok (.bipush 8, 2) := by decide +kernel
theorem dX1_init_39 : decode cX1_init 39 = .ok (.newarray .int, 2) := by decide +kernel
theorem dX1_init_41 : decode cX1_init 41 = .ok (.putfield 24, 3) := by decide +kernel
theorem dX1_init_44 : decode cX1_init 44 = .ok (.aload_n 0, 1) := by decide +kernel
theorem dX1_init_45 : decode cX1_init 45 = .ok (.bipush 24, 2) := by decide +kernel
theorem dX1_init_47 : decode cX1_init 47 = .ok (.newarray .int, 2) := by decide +kernel
theorem dX1_init_49 : decode cX1_init 49 = .ok (.putfield 27, 3) := by decide +kernel
theorem dX1_init_52 : decode cX1_init 52 = .ok (.aload_n 0, 1) := by decide +kernel
theorem dX1_init_53 : decode cX1_init 53 = .ok (.bipush 8, 2) := by decide +kernel
theorem dX1_init_55 : decode cX1_init 55 = .ok (.newarray .int, 2) := by decide +kernel
theorem dX1_init_57 : decode cX1_init 57 = .ok (.putfield 30, 3) := by decide +kernel
theorem dX1_init_60 : decode cX1_init 60 = .ok (.aload_n 0, 1) := by decide +kernel
theorem dX1_init_61 : decode cX1_init 61 = .ok (.bipush 8, 2) := by decide +kernel
theorem dX1_init_63 : decode cX1_init 63 = .ok (.newarray .int, 2) := by decide +kernel
theorem dX1_init_65 : decode cX1_init 65 = .ok (.putfield 33, 3) := by decide +kernel
theorem dX1_init_68 : decode cX1_init 68 = .ok (.aload_n 0, 1) := by decide +kernel
theorem dX1_init_69 : decode cX1_init 69 = .ok (.iconst 0, 1) := by decide +kernel
theorem dX1_init_70 : decode cX1_init 70 = .ok (.putfield 36, 3) := by decide +kernel
theorem dX1_init_73 : decode cX1_init 73 = .ok (.aload_n 0, 1) := by decide +kernel
theorem dX1_init_74 : decode cX1_init 74 = .ok (.iconst 0, 1) := by decide +kernel
theorem dX1_init_75 : decode cX1_init 75 = .ok (.putfield 40, 3) := by decide +kernel
theorem dX1_init_78 : decode cX1_init 78 = .ok (.aload_n 0, 1) := by decide +kernel
theorem dX1_init_79 : decode cX1_init 79 = .ok (.getfield 27, 3) := by decide +kernel
theorem dX1_init_82 : decode cX1_init 82 = .ok (.iconst 3, 1) := by decide +kernel
theorem dX1_init_83 : decode cX1_init 83 = .ok (.invokestatic 43, 3) := by decide +kernel
theorem dX1_init_86 : decode cX1_init 86 = .ok (.aload_n 0, 1) := by decide +kernel
theorem dX1_init_87 : decode cX1_init 87 = .ok (.iconst (-1), 1) := by decide +kernel
theorem dX1_init_88 : decode cX1_init 88 = .ok (.putfield 49, 3) := by decide +kernel
theorem dX1_init_91 : decode cX1_init 91 = .ok (.aload_n 0, 1) := by decide +kernel
theorem dX1_init_92 : decode cX1_init 92 = .ok (.iconst 0, 1) := by decide +kernel
theorem dX1_init_93 : decode cX1_init 93 = .ok (.putfield 52, 3) := by decide +kernel
theorem dX1_init_96 : decode cX1_init 96 = .ok (.aload_n 0, 1) := by decide +kernel
theorem dX1_init_97 : decode cX1_init 97 = .ok (.iconst 0, 1) := by decide +kernel
theorem dX1_init_98 : decode cX1_init 98 = .ok (.putfield 55, 3) := by decide +kernel
theorem dX1_init_101 : decode cX1_init 101 = .ok (.return_, 1) := by decide +kernel
theorem dX1_takePeople_0 : decode cX1_takePeople 0 = .ok (.aload_n 0, 1) := by decide +kernel
theorem dX1_takePeople_1 : decode cX1_takePeople 1 = .ok (.iconst 0, 1) := by decide +kernel
theorem dX1_takePeople_2 : decode cX1_takePeople 2 = .ok (.putfield 36, 3) := by decide +kernel
theorem dX1_takePeople_5 : decode cX1_takePeople 5 = .ok (.iconst 0, 1) := by decide +kernel
theorem dX1_takePeople_6 : decode cX1_takePeople 6 = .ok (.istore_n 2, 1) := by decide +kernel
theorem dX1_takePeople_7 : decode cX1_takePeople 7 = .ok (.iload_n 2, 1) := by decide +kernel
theorem dX1_takePeople_8 : decode cX1_takePeople 8 = .ok (.iconst 1, 1) := by decide +kernel
theorem dX1_takePeople_9 : decode cX1_takePeople 9 = .ok (.iadd, 1) := by decide +kernel
theorem dX1_takePeople_10 : decode cX1_takePeople 10 = .ok (.aload_n 1, 1) := by decide +kernel
theorem dX1_takePeople_11 : decode cX1_takePeople 11 = .ok (.invokevirtual 58, 3) := by decide +kernel
theorem dX1_takePeople_14 : decode cX1_takePeople 14 = .ok (.if_icmp .ge 70, 3) := by decide +kernel
theorem dX1_takePeople_17 : decode cX1_takePeople 17 = .ok (.aload_n 0, 1) := by decide +kernel
theorem dX1_takePeople_18 : decode cX1_takePeople 18 = .ok (.getfield 36, 3) := by decide +kernel
theorem dX1_takePeople_21 : decode cX1_takePeople 21 = .ok (.bipush 8, 2) := by decide +kernel
theorem dX1_takePeople_23 : decode cX1_takePeople 23 = .ok (.if_icmp .ge 61, 3) := by decide +kernel
theorem dX1_takePeople_26 : decode cX1_takePeople 26 = .ok (.aload_n 0, 1) := by decide +kernel
theorem dX1_takePeople_27 : decode cX1_takePeople 27 = .ok (.getfield 9, 3) := by decide +kernel
theorem dX1_takePeople_30 : decode cX1_takePeople 30 = .ok (.aload_n 0, 1) := by decide +kernel
theorem dX1_takePeople_31 : decode cX1_takePeople 31 = .ok (.getfield 36, 3) := by decide +kernel
theorem dX1_takePeople_34 : decode cX1_takePeople 34 = .ok (.aload_n 1, 1) := by decide +kernel
theorem dX1_takePeople_35 : decode cX1_takePeople 35 = .ok (.getfield 64, 3) := by decide +kernel
theorem dX1_takePeople_38 : decode cX1_takePeople 38 = .ok (.iload_n 2, 1) := by decide +kernel
theorem dX1_takePeople_39 : decode cX1_takePeople 39 = .ok (.iaload, 1) := by decide +kernel
theorem dX1_takePeople_40 : decode cX1_takePeople 40 = .ok (.invokestatic 67, 3) := by decide +kernel
theorem dX1_takePeople_43 : decode cX1_takePeople 43 = .ok (.iastore, 1) := by decide +kernel
theorem dX1_takePeople_44 : decode cX1_takePeople 44 = .ok (.aload_n 0, 1) := by decide +kernel
theorem dX1_takePeople_45 : decode cX1_takePeople 45 = .ok (.getfield 15, 3) := by decide +kernel
theorem dX1_takePeople_48 : decode cX1_takePeople 48 = .ok (.aload_n 0, 1) := by decide +kernel
theorem dX1_takePeople_49 : decode cX1_takePeople 49 = .ok (.getfield 36, 3) := by decide +kernel
theorem dX1_takePeople_52 : decode cX1_takePeople 52 = .ok (.aload_n 1, 1) := by decide +kernel
theorem dX1_takePeople_53 : decode cX1_takePeople 53 = .ok (.getfield 64, 3) := by decide +kernel
theorem dX1_takePeople_56 : decode cX1_takePeople 56 = .ok (.iload_n 2, 1) := by decide +kernel
theorem dX1_takePeople_57 : decode cX1_takePeople 57 = .ok (.iconst 1, 1) := by decide +kernel
theorem dX1_takePeople_58 : decode cX1_takePeople 58 = .ok (.iadd, 1) := by decide +kernel
theorem dX1_takePeople_59 : decode cX1_takePeople 59 = .ok (.iaload, 1) := by decide +kernel
theorem dX1_takePeople_60 : decode cX1_takePeople 60 = .ok (.bipush 48, 2) := by decide +kernel
theorem dX1_takePeople_62 : decode cX1_takePeople 62 = .ok (.isub, 1) := by decide +kernel
theorem dX1_takePeople_63 : decode cX1_takePeople 63 = .ok (.iastore, 1) := by decide +kernel
theorem dX1_takePeople_64 : decode cX1_takePeople 64 = .ok (.aload_n 0, 1) := by decide +kernel
theorem dX1_takePeople_65 : decode cX1_takePeople 65 = .ok (.dup, 1) := by decide +kernel
theorem dX1_takePeople_66 : decode cX1_takePeople 66 = .ok (.getfield 36, 3) := by decide +kernel
theorem dX1_takePeople_69 : decode cX1_takePeople 69 = .ok (.iconst 1, 1) := by decide +kernel
theorem dX1_takePeople_70 : decode cX1_takePeople 70 = .ok (.iadd, 1) := by decide +kernel
theorem dX1_takePeople_71 : decode cX1_takePeople 71 = .ok (.putfield 36, 3) := by decide +kernel
theorem dX1_takePeople_74 : decode cX1_takePeople 74 = .ok (.iload_n 2, 1) := by decide +kernel
theorem dX1_takePeople_75 : decode cX1_takePeople 75 = .ok (.aload_n 1, 1) := by decide +kernel
theorem dX1_takePeople_76 : decode cX1_takePeople 76 = .ok (.getfield 71, 3) := by decide +kernel
theorem dX1_takePeople_79 : decode cX1_takePeople 79 = .ok (.iadd, 1) := by decide +kernel
theorem dX1_takePeople_80 : decode cX1_takePeople 80 = .ok (.istore_n 2, 1) := by decide +kernel
theorem dX1_takePeople_81 : decode cX1_takePeople 81 = .ok (.goto (-74), 3) := by decide +kernel
theorem dX1_takePeople_84 : decode cX1_takePeople 84 = .ok (.return_, 1) := by decide +kernel
theorem dX1_takeQuarrels_0 : decode cX1_takeQuarrels 0 = .ok (.aload_n 0, 1) := by decide +kernel
theorem dX1_takeQuarrels_1 : decode cX1_takeQuarrels 1 = .ok (.iconst 0, 1) := by decide +kernel
theorem dX1_takeQuarrels_2 : decode cX1_takeQuarrels 2 = .ok (.putfield 40, 3) := by decide +kernel
theorem dX1_takeQuarrels_5 : decode cX1_takeQuarrels 5 = .ok (.iconst 0, 1) := by decide +kernel
theorem dX1_takeQuarrels_6 : decode cX1_takeQuarrels 6 = .ok (.istore_n 2, 1) := by decide +kernel
theorem dX1_takeQuarrels_7 : decode cX1_takeQuarrels 7 = .ok (.iload_n 2, 1) := by decide +kernel
theorem dX1_takeQuarrels_8 : decode cX1_takeQuarrels 8 = .ok (.iconst 2, 1) := by decide +kernel
theorem dX1_takeQuarrels_9 : decode cX1_takeQuarrels 9 = .ok (.iadd, 1) := by decide +kernel
theorem dX1_takeQuarrels_10 : decode cX1_takeQuarrels 10 = .ok (.aload_n 1, 1) := by decide +kernel
theorem dX1_takeQuarrels_11 : decode cX1_takeQuarrels 11 = .ok (.invokevirtual 58, 3) := by decide +kernel
theorem dX1_takeQuarrels_14 : decode cX1_takeQuarrels 14 = .ok (.if_icmp .ge 90, 3) := by decide +kernel
theorem dX1_takeQuarrels_17 : decode cX1_takeQuarrels 17 = .ok (.aload_n 0, 1) := by decide +kernel
theorem dX1_takeQuarrels_18 : decode cX1_takeQuarrels 18 = .ok (.getfield 40, 3) := by decide +kernel
theorem dX1_takeQuarrels_21 : decode cX1_takeQuarrels 21 = .ok (.bipush 8, 2) := by decide +kernel
theorem dX1_takeQuarrels_23 : decode cX1_takeQuarrels 23 = .ok (.if_icmp .ge 81, 3) := by decide +kernel
theorem dX1_takeQuarrels_26 : decode cX1_takeQuarrels 26 = .ok (.aload_n 0, 1) := by decide +kernel
theorem dX1_takeQuarrels_27 : decode cX1_takeQuarrels 27 = .ok (.getfield 18, 3) := by decide +kernel
theorem dX1_takeQuarrels_30 : decode cX1_takeQuarrels 30 = .ok (.aload_n 0, 1) := by decide +kernel
theorem dX1_takeQuarrels_31 : decode cX1_takeQuarrels 31 = .ok (.getfield 40, 3) := by decide +kernel
theorem dX1_takeQuarrels_34 : decode cX1_takeQuarrels 34 = .ok (.aload_n 1, 1) := by decide +kernel
theorem dX1_takeQuarrels_35 : decode cX1_takeQuarrels 35 = .ok (.getfield 64, 3) := by decide +kernel
theorem dX1_takeQuarrels_38 : decode cX1_takeQuarrels 38 = .ok (.iload_n 2, 1) := by decide +kernel
theorem dX1_takeQuarrels_39 : decode cX1_takeQuarrels 39 = .ok (.iaload, 1) := by decide +kernel
theorem dX1_takeQuarrels_40 : decode cX1_takeQuarrels 40 = .ok (.bipush 48, 2) := by decide +kernel
theorem dX1_takeQuarrels_42 : decode cX1_takeQuarrels 42 = .ok (.isub, 1) := by decide +kernel
theorem dX1_takeQuarrels_43 : decode cX1_takeQuarrels 43 = .ok (.iastore, 1) := by decide +kernel
theorem dX1_takeQuarrels_44 : decode cX1_takeQuarrels 44 = .ok (.aload_n 0, 1) := by decide +kernel
theorem dX1_takeQuarrels_45 : decode cX1_takeQuarrels 45 = .ok (.getfield 21, 3) := by decide +kernel
theorem dX1_takeQuarrels_48 : decode cX1_takeQuarrels 48 = .ok (.aload_n 0, 1) := by decide +kernel
theorem dX1_takeQuarrels_49 : decode cX1_takeQuarrels 49 = .ok (.getfield 40, 3) := by decide +kernel
theorem dX1_takeQuarrels_52 : decode cX1_takeQuarrels 52 = .ok (.aload_n 1, 1) := by decide +kernel
theorem dX1_takeQuarrels_53 : decode cX1_takeQuarrels 53 = .ok (.getfield 64, 3) := by decide +kernel
theorem dX1_takeQuarrels_56 : decode cX1_takeQuarrels 56 = .ok (.iload_n 2, 1) := by decide +kernel
theorem dX1_takeQuarrels_57 : decode cX1_takeQuarrels 57 = .ok (.iconst 1, 1) := by decide +kernel
theorem dX1_takeQuarrels_58 : decode cX1_takeQuarrels 58 = .ok (.iadd, 1) := by decide +kernel
theorem dX1_takeQuarrels_59 : decode cX1_takeQuarrels 59 = .ok (.iaload, 1) := by decide +kernel
theorem dX1_takeQuarrels_60 : decode cX1_takeQuarrels 60 = .ok (.bipush 48, 2) := by decide +kernel
theorem dX1_takeQuarrels_62 : decode cX1_takeQuarrels 62 = .ok (.isub, 1) := by decide +kernel
theorem dX1_takeQuarrels_63 : decode cX1_takeQuarrels 63 = .ok (.iastore, 1) := by decide +kernel
theorem dX1_takeQuarrels_64 : decode cX1_takeQuarrels 64 = .ok (.aload_n 0, 1) := by decide +kernel
theorem dX1_takeQuarrels_65 : decode cX1_takeQuarrels 65 = .ok (.getfield 24, 3) := by decide +kernel
theorem dX1_takeQuarrels_68 : decode cX1_takeQuarrels 68 = .ok (.aload_n 0, 1) := by decide +kernel
theorem dX1_takeQuarrels_69 : decode cX1_takeQuarrels 69 = .ok (.getfield 40, 3) := by decide +kernel
theorem dX1_takeQuarrels_72 : decode cX1_takeQuarrels 72 = .ok (.aload_n 1, 1) := by decide +kernel
theorem dX1_takeQuarrels_73 : decode cX1_takeQuarrels 73 = .ok (.getfield 64, 3) := by decide +kernel
theorem dX1_takeQuarrels_76 : decode cX1_takeQuarrels 76 = .ok (.iload_n 2, 1) := by decide +kernel
theorem dX1_takeQuarrels_77 : decode cX1_takeQuarrels 77 = .ok (.iconst 2, 1) := by decide +kernel
theorem dX1_takeQuarrels_78 : decode cX1_takeQuarrels 78 = .ok (.iadd, 1) := by decide +kernel
theorem dX1_takeQuarrels_79 : decode cX1_takeQuarrels 79 = .ok (.iaload, 1) := by decide +kernel
theorem dX1_takeQuarrels_80 : decode cX1_takeQuarrels 80 = .ok (.bipush 97, 2) := by decide +kernel
theorem dX1_takeQuarrels_82 : decode cX1_takeQuarrels 82 = .ok (.isub, 1) := by decide +kernel
theorem dX1_takeQuarrels_83 : decode cX1_takeQuarrels 83 = .ok (.iastore, 1) := by decide +kernel
theorem dX1_takeQuarrels_84 : decode cX1_takeQuarrels 84 = .ok (.aload_n 0, 1) := by decide +kernel
theorem dX1_takeQuarrels_85 : decode cX1_takeQuarrels 85 = .ok (.dup, 1) := by decide +kernel
theorem dX1_takeQuarrels_86 : decode cX1_takeQuarrels 86 = .ok (.getfield 40, 3) := by decide +kernel
theorem dX1_takeQuarrels_89 : decode cX1_takeQuarrels 89 = .ok (.iconst 1, 1) := by decide +kernel
theorem dX1_takeQuarrels_90 : decode cX1_takeQuarrels 90 = .ok (.iadd, 1) := by decide +kernel
theorem dX1_takeQuarrels_91 : decode cX1_takeQuarrels 91 = .ok (.putfield 40, 3) := by decide +kernel
theorem dX1_takeQuarrels_94 : decode cX1_takeQuarrels 94 = .ok (.iload_n 2, 1) := by decide +kernel
theorem dX1_takeQuarrels_95 : decode cX1_takeQuarrels 95 = .ok (.aload_n 1, 1) := by decide +kernel
theorem dX1_takeQuarrels_96 : decode cX1_takeQuarrels 96 = .ok (.getfield 71, 3) := by decide +kernel
theorem dX1_takeQuarrels_99 : decode cX1_takeQuarrels 99 = .ok (.iadd, 1) := by decide +kernel
theorem dX1_takeQuarrels_100 : decode cX1_takeQuarrels 100 = .ok (.istore_n 2, 1) := by decide +kernel
theorem dX1_takeQuarrels_101 : decode cX1_takeQuarrels 101 = .ok (.goto (-94), 3) := by decide +kernel
theorem dX1_takeQuarrels_104 : decode cX1_takeQuarrels 104 = .ok (.return_, 1) := by decide +kernel
theorem dX1_takeGlass_0 : decode cX1_takeGlass 0 = .ok (.iconst 0, 1) := by decide +kernel
theorem dX1_takeGlass_1 : decode cX1_takeGlass 1 = .ok (.istore_n 2, 1) := by decide +kernel
theorem dX1_takeGlass_2 : decode cX1_takeGlass 2 = .ok (.iload_n 2, 1) := by decide +kernel
theorem dX1_takeGlass_3 : decode cX1_takeGlass 3 = .ok (.bipush 24, 2) := by decide +kernel
theorem dX1_takeGlass_5 : decode cX1_takeGlass 5 = .ok (.if_icmp .ge 36, 3) := by decide +kernel
theorem dX1_takeGlass_8 : decode cX1_takeGlass 8 = .ok (.aload_n 0, 1) := by decide +kernel
theorem dX1_takeGlass_9 : decode cX1_takeGlass 9 = .ok (.getfield 27, 3) := by decide +kernel
theorem dX1_takeGlass_12 : decode cX1_takeGlass 12 = .ok (.iload_n 2, 1) := by decide +kernel
theorem dX1_takeGlass_13 : decode cX1_takeGlass 13 = .ok (.iload_n 2, 1) := by decide +kernel
theorem dX1_takeGlass_14 : decode cX1_takeGlass 14 = .ok (.aload_n 1, 1) := by decide +kernel
theorem dX1_takeGlass_15 : decode cX1_takeGlass 15 = .ok (.invokevirtual 58, 3) := by decide +kernel
theorem dX1_takeGlass_18 : decode cX1_takeGlass 18 = .ok (.if_icmp .ge 15, 3) := by decide +kernel
theorem dX1_takeGlass_21 : decode cX1_takeGlass 21 = .ok (.aload_n 1, 1) := by decide +kernel
theorem dX1_takeGlass_22 : decode cX1_takeGlass 22 = .ok (.getfield 64, 3) := by decide +kernel
theorem dX1_takeGlass_25 : decode cX1_takeGlass 25 = .ok (.iload_n 2, 1) := by decide +kernel
theorem dX1_takeGlass_26 : decode cX1_takeGlass 26 = .ok (.iaload, 1) := by decide +kernel
theorem dX1_takeGlass_27 : decode cX1_takeGlass 27 = .ok (.bipush 48, 2) := by decide +kernel
theorem dX1_takeGlass_29 : decode cX1_takeGlass 29 = .ok (.isub, 1) := by decide +kernel
theorem dX1_takeGlass_30 : decode cX1_takeGlass 30 = .ok (.goto 4, 3) := by decide +kernel
theorem dX1_takeGlass_33 : decode cX1_takeGlass 33 = .ok (.iconst 3, 1) := by decide +kernel
theorem dX1_takeGlass_34 : decode cX1_takeGlass 34 = .ok (.iastore, 1) := by decide +kernel
theorem dX1_takeGlass_35 : decode cX1_takeGlass 35 = .ok (.iinc 2 1, 3) := by decide +kernel
theorem dX1_takeGlass_38 : decode cX1_takeGlass 38 = .ok (.goto (-36), 3) := by decide +kernel
theorem dX1_takeGlass_41 : decode cX1_takeGlass 41 = .ok (.return_, 1) := by decide +kernel
theorem dX1_cutByLots_0 : decode cX1_cutByLots 0 = .ok (.iload_n 1, 1) := by decide +kernel
theorem dX1_cutByLots_1 : decode cX1_cutByLots 1 = .ok (.istore_n 3, 1) := by decide +kernel
theorem dX1_cutByLots_2 : decode cX1_cutByLots 2 = .ok (.iconst 0, 1) := by decide +kernel
theorem dX1_cutByLots_3 : decode cX1_cutByLots 3 = .ok (.istore 4, 2) := by decide +kernel
theorem dX1_cutByLots_5 : decode cX1_cutByLots 5 = .ok (.iload 4, 2) := by decide +kernel
theorem dX1_cutByLots_7 : decode cX1_cutByLots 7 = .ok (.bipush 24, 2) := by decide +kernel
theorem dX1_cutByLots_9 : decode cX1_cutByLots 9 = .ok (.if_icmp .ge 42, 3) := by decide +kernel
theorem dX1_cutByLots_12 : decode cX1_cutByLots 12 = .ok (.ldc 74, 2) := by decide +kernel
theorem dX1_cutByLots_14 : decode cX1_cutByLots 14 = .ok (.iload_n 3, 1) := by decide +kernel
theorem dX1_cutByLots_15 : decode cX1_cutByLots 15 = .ok (.imul, 1) := by decide +kernel
theorem dX1_cutByLots_16 : decode cX1_cutByLots 16 = .ok (.sipush 12345, 3) := by decide +kernel
theorem dX1_cutByLots_19 : decode cX1_cutByLots 19 = .ok (.iadd, 1) := by decide +kernel
theorem dX1_cutByLots_20 : decode cX1_cutByLots 20 = .ok (.istore_n 3, 1) := by decide +kernel
theorem dX1_cutByLots_21 : decode cX1_cutByLots 21 = .ok (.aload_n 0, 1) := by decide +kernel
theorem dX1_cutByLots_22 : decode cX1_cutByLots 22 = .ok (.getfield 27, 3) := by decide +kernel
theorem dX1_cutByLots_25 : decode cX1_cutByLots 25 = .ok (.iload 4, 2) := by decide +kernel
theorem dX1_cutByLots_27 : decode cX1_cutByLots 27 = .ok (.iload 4, 2) := by decide +kernel
theorem dX1_cutByLots_29 : decode cX1_cutByLots 29 = .ok (.iload_n 2, 1) := by decide +kernel
theorem dX1_cutByLots_30 : decode cX1_cutByLots 30 = .ok (.if_icmp .ge 13, 3) := by decide +kernel
theorem dX1_cutByLots_33 : decode cX1_cutByLots 33 = .ok (.iload_n 3, 1) := by decide +kernel
theorem dX1_cutByLots_34 : decode cX1_cutByLots 34 = .ok (.bipush 16, 2) := by decide +kernel
theorem dX1_cutByLots_36 : decode cX1_cutByLots 36 = .ok (.iushr, 1) := by decide +kernel
theorem dX1_cutByLots_37 : decode cX1_cutByLots 37 = .ok (.bipush 10, 2) := by decide +kernel
theorem dX1_cutByLots_39 : decode cX1_cutByLots 39 = .ok (.irem, 1) := by decide +kernel
theorem dX1_cutByLots_40 : decode cX1_cutByLots 40 = .ok (.goto 4, 3) := by decide +kernel
theorem dX1_cutByLots_43 : decode cX1_cutByLots 43 = .ok (.iconst 3, 1) := by decide +kernel
theorem dX1_cutByLots_44 : decode cX1_cutByLots 44 = .ok (.iastore, 1) := by decide +kernel
theorem dX1_cutByLots_45 : decode cX1_cutByLots 45 = .ok (.iinc 4 1, 3) := by decide +kernel
theorem dX1_cutByLots_48 : decode cX1_cutByLots 48 = .ok (.goto (-43), 3) := by decide +kernel
theorem dX1_cutByLots_51 : decode cX1_cutByLots 51 = .ok (.return_, 1) := by decide +kernel
theorem dX1_mayBeEvent_0 : decode cX1_mayBeEvent 0 = .ok (.iload_n 0, 1) := by decide +kernel
theorem dX1_mayBeEvent_1 : decode cX1_mayBeEvent 1 = .ok (.ifCond .eq 8, 3) := by decide +kernel
theorem dX1_mayBeEvent_4 : decode cX1_mayBeEvent 4 = .ok (.iload_n 0, 1) := by decide +kernel
theorem dX1_mayBeEvent_5 : decode cX1_mayBeEvent 5 = .ok (.iconst 1, 1) := by decide +kernel
theorem dX1_mayBeEvent_6 : decode cX1_mayBeEvent 6 = .ok (.if_icmp .ne 16, 3) := by decide +kernel
theorem dX1_mayBeEvent_9 : decode cX1_mayBeEvent 9 = .ok (.iload_n 1, 1) := by decide +kernel
theorem dX1_mayBeEvent_10 : decode cX1_mayBeEvent 10 = .ok (.bipush 24, 2) := by decide +kernel
theorem dX1_mayBeEvent_12 : decode cX1_mayBeEvent 12 = .ok (.invokestatic 75, 3) := by decide +kernel
theorem dX1_mayBeEvent_15 : decode cX1_mayBeEvent 15 = .ok (.ifCond .eq 7, 3) := by decide +kernel
theorem dX1_mayBeEvent_18 : decode cX1_mayBeEvent 18 = .ok (.iconst 1, 1) := by decide +kernel
theorem dX1_mayBeEvent_19 : decode cX1_mayBeEvent 19 = .ok (.goto 4, 3) := by decide +kernel
theorem dX1_mayBeEvent_22 : decode cX1_mayBeEvent 22 = .ok (.iconst 0, 1) := by decide +kernel
theorem dX1_mayBeEvent_23 : decode cX1_mayBeEvent 23 = .ok (.ireturn, 1) := by decide +kernel
theorem dX1_addEvent_0 : decode cX1_addEvent 0 = .ok (.aload_n 0, 1) := by decide +kernel
theorem dX1_addEvent_1 : decode cX1_addEvent 1 = .ok (.getfield 52, 3) := by decide +kernel
theorem dX1_addEvent_4 : decode cX1_addEvent 4 = .ok (.bipush 8, 2) := by decide +kernel
theorem dX1_addEvent_6 : decode cX1_addEvent 6 = .ok (.if_icmp .ge 41, 3) := by decide +kernel
theorem dX1_addEvent_9 : decode cX1_addEvent 9 = .ok (.aload_n 0, 1) := by decide +kernel
theorem dX1_addEvent_10 : decode cX1_addEvent 10 = .ok (.getfield 30, 3) := by decide +kernel
theorem dX1_addEvent_13 : decode cX1_addEvent 13 = .ok (.aload_n 0, 1) := by decide +kernel
theorem dX1_addEvent_14 : decode cX1_addEvent 14 = .ok (.getfield 52, 3) := by decide +kernel
theorem dX1_addEvent_17 : decode cX1_addEvent 17 = .ok (.iload_n 1, 1) := by decide +kernel
theorem dX1_addEvent_18 : decode cX1_addEvent 18 = .ok (.iastore, 1) := by decide +kernel
theorem dX1_addEvent_19 : decode cX1_addEvent 19 = .ok (.aload_n 0, 1) := by decide +kernel
theorem dX1_addEvent_20 : decode cX1_addEvent 20 = .ok (.getfield 33, 3) := by decide +kernel
theorem dX1_addEvent_23 : decode cX1_addEvent 23 = .ok (.aload_n 0, 1) := by decide +kernel
theorem dX1_addEvent_24 : decode cX1_addEvent 24 = .ok (.getfield 52, 3) := by decide +kernel
theorem dX1_addEvent_27 : decode cX1_addEvent 27 = .ok (.iload_n 2, 1) := by decide +kernel
theorem dX1_addEvent_28 : decode cX1_addEvent 28 = .ok (.iastore, 1) := by decide +kernel
theorem dX1_addEvent_29 : decode cX1_addEvent 29 = .ok (.aload_n 0, 1) := by decide +kernel
theorem dX1_addEvent_30 : decode cX1_addEvent 30 = .ok (.dup, 1) := by decide +kernel
theorem dX1_addEvent_31 : decode cX1_addEvent 31 = .ok (.getfield 52, 3) := by decide +kernel
theorem dX1_addEvent_34 : decode cX1_addEvent 34 = .ok (.iconst 1, 1) := by decide +kernel
theorem dX1_addEvent_35 : decode cX1_addEvent 35 = .ok (.iadd, 1) := by decide +kernel
theorem dX1_addEvent_36 : decode cX1_addEvent 36 = .ok (.putfield 52, 3) := by decide +kernel
theorem dX1_addEvent_39 : decode cX1_addEvent 39 = .ok (.aload_n 0, 1) := by decide +kernel
theorem dX1_addEvent_40 : decode cX1_addEvent 40 = .ok (.aload_n 0, 1) := by decide +kernel
theorem dX1_addEvent_41 : decode cX1_addEvent 41 = .ok (.invokevirtual 79, 3) := by decide +kernel
theorem dX1_addEvent_44 : decode cX1_addEvent 44 = .ok (.putfield 55, 3) := by decide +kernel
theorem dX1_addEvent_47 : decode cX1_addEvent 47 = .ok (.return_, 1) := by decide +kernel
theorem dX1_dropEvent_0 : decode cX1_dropEvent 0 = .ok (.aload_n 0, 1) := by decide +kernel
theorem dX1_dropEvent_1 : decode cX1_dropEvent 1 = .ok (.dup, 1) := by decide +kernel
theorem dX1_dropEvent_2 : decode cX1_dropEvent 2 = .ok (.getfield 52, 3) := by decide +kernel
theorem dX1_dropEvent_5 : decode cX1_dropEvent 5 = .ok (.iconst 1, 1) := by decide +kernel
theorem dX1_dropEvent_6 : decode cX1_dropEvent 6 = .ok (.isub, 1) := by decide +kernel
theorem dX1_dropEvent_7 : decode cX1_dropEvent 7 = .ok (.putfield 52, 3) := by decide +kernel
theorem dX1_dropEvent_10 : decode cX1_dropEvent 10 = .ok (.aload_n 0, 1) := by decide +kernel
theorem dX1_dropEvent_11 : decode cX1_dropEvent 11 = .ok (.aload_n 0, 1) := by decide +kernel
theorem dX1_dropEvent_12 : decode cX1_dropEvent 12 = .ok (.invokevirtual 79, 3) := by decide +kernel
theorem dX1_dropEvent_15 : decode cX1_dropEvent 15 = .ok (.putfield 55, 3) := by decide +kernel
theorem dX1_dropEvent_18 : decode cX1_dropEvent 18 = .ok (.return_, 1) := by decide +kernel
theorem dX1_allEvents_0 : decode cX1_allEvents 0 = .ok (.iconst 1, 1) := by decide +kernel
theorem dX1_allEvents_1 : decode cX1_allEvents 1 = .ok (.aload_n 0, 1) := by decide +kernel
theorem dX1_allEvents_2 : decode cX1_allEvents 2 = .ok (.getfield 52, 3) := by decide +kernel
theorem dX1_allEvents_5 : decode cX1_allEvents 5 = .ok (.ishl, 1) := by decide +kernel
theorem dX1_allEvents_6 : decode cX1_allEvents 6 = .ok (.iconst 1, 1) := by decide +kernel
theorem dX1_allEvents_7 : decode cX1_allEvents 7 = .ok (.isub, 1) := by decide +kernel
theorem dX1_allEvents_8 : decode cX1_allEvents 8 = .ok (.ireturn, 1) := by decide +kernel
theorem dX1_eventsOn_0 : decode cX1_eventsOn 0 = .ok (.iconst 0, 1) := by decide +kernel
theorem dX1_eventsOn_1 : decode cX1_eventsOn 1 = .ok (.istore_n 3, 1) := by decide +kernel
theorem dX1_eventsOn_2 : decode cX1_eventsOn 2 = .ok (.iconst 0, 1) := by decide +kernel
theorem dX1_eventsOn_3 : decode cX1_eventsOn 3 = .ok (.istore 4, 2) := by decide +kernel
theorem dX1_eventsOn_5 : decode cX1_eventsOn 5 = .ok (.iload 4, 2) := by decide +kernel
theorem dX1_eventsOn_7 : decode cX1_eventsOn 7 = .ok (.aload_n 0, 1) := by decide +kernel
theorem dX1_eventsOn_8 : decode cX1_eventsOn 8 = .ok (.getfield 52, 3) := by decide +kernel
theorem dX1_eventsOn_11 : decode cX1_eventsOn 11 = .ok (.if_icmp .ge 47, 3) := by decide +kernel
theorem dX1_eventsOn_14 : decode cX1_eventsOn 14 = .ok (.aload_n 0, 1) := by decide +kernel
theorem dX1_eventsOn_15 : decode cX1_eventsOn 15 = .ok (.getfield 55, 3) := by decide +kernel
theorem dX1_eventsOn_18 : decode cX1_eventsOn 18 = .ok (.iload 4, 2) := by decide +kernel
theorem dX1_eventsOn_20 : decode cX1_eventsOn 20 = .ok (.ishr, 1) := by decide +kernel
theorem dX1_eventsOn_21 : decode cX1_eventsOn 21 = .ok (.iconst 1, 1) := by decide +kernel
theorem dX1_eventsOn_22 : decode cX1_eventsOn 22 = .ok (.iand, 1) := by decide +kernel
theorem dX1_eventsOn_23 : decode cX1_eventsOn 23 = .ok (.iconst 1, 1) := by decide +kernel
theorem dX1_eventsOn_24 : decode cX1_eventsOn 24 = .ok (.if_icmp .ne 28, 3) := by decide +kernel
theorem dX1_eventsOn_27 : decode cX1_eventsOn 27 = .ok (.aload_n 0, 1) := by decide +kernel
theorem dX1_eventsOn_28 : decode cX1_eventsOn 28 = .ok (.getfield 30, 3) := by decide +kernel
theorem dX1_eventsOn_31 : decode cX1_eventsOn 31 = .ok (.iload 4, 2) := by decide +kernel
theorem dX1_eventsOn_33 : decode cX1_eventsOn 33 = .ok (.iaload, 1) := by decide +kernel
theorem dX1_eventsOn_34 : decode cX1_eventsOn 34 = .ok (.iload_n 2, 1) := by decide +kernel
theorem dX1_eventsOn_35 : decode cX1_eventsOn 35 = .ok (.if_icmp .ne 17, 3) := by decide +kernel
theorem dX1_eventsOn_38 : decode cX1_eventsOn 38 = .ok (.aload_n 0, 1) := by decide +kernel
theorem dX1_eventsOn_39 : decode cX1_eventsOn 39 = .ok (.getfield 33, 3) := by decide +kernel
theorem dX1_eventsOn_42 : decode cX1_eventsOn 42 = .ok (.iload 4, 2) := by decide +kernel
theorem dX1_eventsOn_44 : decode cX1_eventsOn 44 = .ok (.iaload, 1) := by decide +kernel
theorem dX1_eventsOn_45 : decode cX1_eventsOn 45 = .ok (.iload_n 1, 1) := by decide +kernel
theorem dX1_eventsOn_46 : decode cX1_eventsOn 46 = .ok (.if_icmp .ne 6, 3) := by decide +kernel
theorem dX1_eventsOn_49 : decode cX1_eventsOn 49 = .ok (.iinc 3 1, 3) := by decide +kernel
theorem dX1_eventsOn_52 : decode cX1_eventsOn 52 = .ok (.iinc 4 1, 3) := by decide +kernel
theorem dX1_eventsOn_55 : decode cX1_eventsOn 55 = .ok (.goto (-50), 3) := by decide +kernel
theorem dX1_eventsOn_58 : decode cX1_eventsOn 58 = .ok (.iload_n 3, 1) := by decide +kernel
theorem dX1_eventsOn_59 : decode cX1_eventsOn 59 = .ok (.ireturn, 1) := by decide +kernel
theorem dX1_liliesOn_0 : decode cX1_liliesOn 0 = .ok (.aload_n 0, 1) := by decide +kernel
theorem dX1_liliesOn_1 : decode cX1_liliesOn 1 = .ok (.iload_n 1, 1) := by decide +kernel
theorem dX1_liliesOn_2 : decode cX1_liliesOn 2 = .ok (.iconst 1, 1) := by decide +kernel
theorem dX1_liliesOn_3 : decode cX1_liliesOn 3 = .ok (.invokevirtual 82, 3) := by decide +kernel
theorem dX1_liliesOn_6 : decode cX1_liliesOn 6 = .ok (.ifCond .le 7, 3) := by decide +kernel
theorem dX1_liliesOn_9 : decode cX1_liliesOn 9 = .ok (.iconst 0, 1) := by decide +kernel
theorem dX1_liliesOn_10 : decode cX1_liliesOn 10 = .ok (.goto 9, 3) := by decide +kernel
theorem dX1_liliesOn_13 : decode cX1_liliesOn 13 = .ok (.aload_n 0, 1) := by decide +kernel
theorem dX1_liliesOn_14 : decode cX1_liliesOn 14 = .ok (.getfield 27, 3) := by decide +kernel
theorem dX1_liliesOn_17 : decode cX1_liliesOn 17 = .ok (.iload_n 1, 1) := by decide +kernel
theorem dX1_liliesOn_18 : decode cX1_liliesOn 18 = .ok (.iaload, 1) := by decide +kernel
theorem dX1_liliesOn_19 : decode cX1_liliesOn 19 = .ok (.istore_n 2, 1) := by decide +kernel
theorem dX1_liliesOn_20 : decode cX1_liliesOn 20 = .ok (.iload_n 1, 1) := by decide +kernel
theorem dX1_liliesOn_21 : decode cX1_liliesOn 21 = .ok (.aload_n 0, 1) := by decide +kernel
theorem dX1_liliesOn_22 : decode cX1_liliesOn 22 = .ok (.getfield 49, 3) := by decide +kernel
theorem dX1_liliesOn_25 : decode cX1_liliesOn 25 = .ok (.if_icmp .ne 9, 3) := by decide +kernel
theorem dX1_liliesOn_28 : decode cX1_liliesOn 28 = .ok (.iload_n 2, 1) := by decide +kernel
theorem dX1_liliesOn_29 : decode cX1_liliesOn 29 = .ok (.iconst 5, 1) := by decide +kernel
theorem dX1_liliesOn_30 : decode cX1_liliesOn 30 = .ok (.iadd, 1) := by decide +kernel
theorem dX1_liliesOn_31 : decode cX1_liliesOn 31 = .ok (.goto 4, 3) := by decide +kernel
theorem dX1_liliesOn_34 : decode cX1_liliesOn 34 = .ok (.iload_n 2, 1) := by decide +kernel
theorem dX1_liliesOn_35 : decode cX1_liliesOn 35 = .ok (.ireturn, 1) := by decide +kernel
theorem dX1_turnAbout_0 : decode cX1_turnAbout 0 = .ok (.aload_n 0, 1) := by decide +kernel
theorem dX1_turnAbout_1 : decode cX1_turnAbout 1 = .ok (.getfield 18, 3) := by decide +kernel
theorem dX1_turnAbout_4 : decode cX1_turnAbout 4 = .ok (.iload_n 1, 1) := by decide +kernel
theorem dX1_turnAbout_5 : decode cX1_turnAbout 5 = .ok (.iaload, 1) := by decide +kernel
theorem dX1_turnAbout_6 : decode cX1_turnAbout 6 = .ok (.istore_n 2, 1) := by decide +kernel
theorem dX1_turnAbout_7 : decode cX1_turnAbout 7 = .ok (.aload_n 0, 1) := by decide +kernel
theorem dX1_turnAbout_8 : decode cX1_turnAbout 8 = .ok (.getfield 18, 3) := by decide +kernel
theorem dX1_turnAbout_11 : decode cX1_turnAbout 11 = .ok (.iload_n 1, 1) := by decide +kernel
theorem dX1_turnAbout_12 : decode cX1_turnAbout 12 = .ok (.aload_n 0, 1) := by decide +kernel
theorem dX1_turnAbout_13 : decode cX1_turnAbout 13 = .ok (.getfield 21, 3) := by decide +kernel
theorem dX1_turnAbout_16 : decode cX1_turnAbout 16 = .ok (.iload_n 1, 1) := by decide +kernel
theorem dX1_turnAbout_17 : decode cX1_turnAbout 17 = .ok (.iaload, 1) := by decide +kernel
theorem dX1_turnAbout_18 : decode cX1_turnAbout 18 = .ok (.iastore, 1) := by decide +kernel
theorem dX1_turnAbout_19 : decode cX1_turnAbout 19 = .ok (.aload_n 0, 1) := by decide +kernel
theorem dX1_turnAbout_20 : decode cX1_turnAbout 20 = .ok (.getfield 21, 3) := by decide +kernel
theorem dX1_turnAbout_23 : decode cX1_turnAbout 23 = .ok (.iload_n 1, 1) := by decide +kernel
theorem dX1_turnAbout_24 : decode cX1_turnAbout 24 = .ok (.iload_n 2, 1) := by decide +kernel
theorem dX1_turnAbout_25 : decode cX1_turnAbout 25 = .ok (.iastore, 1) := by decide +kernel
theorem dX1_turnAbout_26 : decode cX1_turnAbout 26 = .ok (.return_, 1) := by decide +kernel
theorem dX1_isVoid_0 : decode cX1_isVoid 0 = .ok (.aload_n 0, 1) := by decide +kernel
theorem dX1_isVoid_1 : decode cX1_isVoid 1 = .ok (.getfield 18, 3) := by decide +kernel
theorem dX1_isVoid_4 : decode cX1_isVoid 4 = .ok (.iload_n 1, 1) := by decide +kernel
theorem dX1_isVoid_5 : decode cX1_isVoid 5 = .ok (.iaload, 1) := by decide +kernel
theorem dX1_isVoid_6 : decode cX1_isVoid 6 = .ok (.aload_n 0, 1) := by decide +kernel
theorem dX1_isVoid_7 : decode cX1_isVoid 7 = .ok (.getfield 36, 3) := by decide +kernel
theorem dX1_isVoid_10 : decode cX1_isVoid 10 = .ok (.if_icmp .ge 31, 3) := by decide +kernel
theorem dX1_isVoid_13 : decode cX1_isVoid 13 = .ok (.aload_n 0, 1) := by decide +kernel
theorem dX1_isVoid_14 : decode cX1_isVoid 14 = .ok (.getfield 21, 3) := by decide +kernel
theorem dX1_isVoid_17 : decode cX1_isVoid 17 = .ok (.iload_n 1, 1) := by decide +kernel
theorem dX1_isVoid_18 : decode cX1_isVoid 18 = .ok (.iaload, 1) := by decide +kernel
theorem dX1_isVoid_19 : decode cX1_isVoid 19 = .ok (.aload_n 0, 1) := by decide +kernel
theorem dX1_isVoid_20 : decode cX1_isVoid 20 = .ok (.getfield 36, 3) := by decide +kernel
theorem dX1_isVoid_23 : decode cX1_isVoid 23 = .ok (.if_icmp .ge 18, 3) := by decide +kernel
theorem dX1_isVoid_26 : decode cX1_isVoid 26 = .ok (.aload_n 0, 1) := by decide +kernel
theorem dX1_isVoid_27 : decode cX1_isVoid 27 = .ok (.getfield 18, 3) := by decide +kernel
theorem dX1_isVoid_30 : decode cX1_isVoid 30 = .ok (.iload_n 1, 1) := by decide +kernel
theorem dX1_isVoid_31 : decode cX1_isVoid 31 = .ok (.iaload, 1) := by decide +kernel
theorem dX1_isVoid_32 : decode cX1_isVoid 32 = .ok (.aload_n 0, 1) := by decide +kernel
theorem dX1_isVoid_33 : decode cX1_isVoid 33 = .ok (.getfield 21, 3) := by decide +kernel
theorem dX1_isVoid_36 : decode cX1_isVoid 36 = .ok (.iload_n 1, 1) := by decide +kernel
theorem dX1_isVoid_37 : decode cX1_isVoid 37 = .ok (.iaload, 1) := by decide +kernel
theorem dX1_isVoid_38 : decode cX1_isVoid 38 = .ok (.if_icmp .ne 7, 3) := by decide +kernel
theorem dX1_isVoid_41 : decode cX1_isVoid 41 = .ok (.iconst 1, 1) := by decide +kernel
theorem dX1_isVoid_42 : decode cX1_isVoid 42 = .ok (.goto 4, 3) := by decide +kernel
theorem dX1_isVoid_45 : decode cX1_isVoid 45 = .ok (.iconst 0, 1) := by decide +kernel
theorem dX1_isVoid_46 : decode cX1_isVoid 46 = .ok (.ireturn, 1) := by decide +kernel
theorem dX1_earnestBits_0 : decode cX1_earnestBits 0 = .ok (.iconst 0, 1) := by decide +kernel
theorem dX1_earnestBits_1 : decode cX1_earnestBits 1 = .ok (.istore_n 1, 1) := by decide +kernel
theorem dX1_earnestBits_2 : decode cX1_earnestBits 2 = .ok (.iconst 0, 1) := by decide +kernel
theorem dX1_earnestBits_3 : decode cX1_earnestBits 3 = .ok (.istore_n 2, 1) := by decide +kernel
theorem dX1_earnestBits_4 : decode cX1_earnestBits 4 = .ok (.iload_n 2, 1) := by decide +kernel
theorem dX1_earnestBits_5 : decode cX1_earnestBits 5 = .ok (.aload_n 0, 1) := by decide +kernel
theorem dX1_earnestBits_6 : decode cX1_earnestBits 6 = .ok (.getfield 40, 3) := by decide +kernel
theorem dX1_earnestBits_9 : decode cX1_earnestBits 9 = .ok (.if_icmp .ge 23, 3) := by decide +kernel
theorem dX1_earnestBits_12 : decode cX1_earnestBits 12 = .ok (.aload_n 0, 1) := by decide +kernel
theorem dX1_earnestBits_13 : decode cX1_earnestBits 13 = .ok (.iload_n 2, 1) := by decide +kernel
theorem dX1_earnestBits_14 : decode cX1_earnestBits 14 = .ok (.invokevirtual 86, 3) := by decide +kernel
theorem dX1_earnestBits_17 : decode cX1_earnestBits 17 = .ok (.ifCond .ne 9, 3) := by decide +kernel
theorem dX1_earnestBits_20 : decode cX1_earnestBits 20 = .ok (.iload_n 1, 1) := by decide +kernel
theorem dX1_earnestBits_21 : decode cX1_earnestBits 21 = .ok (.iconst 1, 1) := by decide +kernel
theorem dX1_earnestBits_22 : decode cX1_earnestBits 22 = .ok (.iload_n 2, 1) := by decide +kernel
theorem dX1_earnestBits_23 : decode cX1_earnestBits 23 = .ok (.ishl, 1) := by decide +kernel
theorem dX1_earnestBits_24 : decode cX1_earnestBits 24 = .ok (.ior, 1) := by decide +kernel
theorem dX1_earnestBits_25 : decode cX1_earnestBits 25 = .ok (.istore_n 1, 1) := by decide +kernel
theorem dX1_earnestBits_26 : decode cX1_earnestBits 26 = .ok (.iinc 2 1, 3) := by decide +kernel
theorem dX1_earnestBits_29 : decode cX1_earnestBits 29 = .ok (.goto (-25), 3) := by decide +kernel
theorem dX1_earnestBits_32 : decode cX1_earnestBits 32 = .ok (.iload_n 1, 1) := by decide +kernel
theorem dX1_earnestBits_33 : decode cX1_earnestBits 33 = .ok (.ireturn, 1) := by decide +kernel
theorem dX2_init_0 : decode cX2_init 0 = .ok (.aload_n 0, 1) := by decide +kernel
theorem dX2_init_1 : decode cX2_init 1 = .ok (.invokespecial 3, 3) := by decide +kernel
theorem dX2_init_4 : decode cX2_init 4 = .ok (.aload_n 0, 1) := by decide +kernel
theorem dX2_init_5 : decode cX2_init 5 = .ok (.bipush 60, 2) := by decide +kernel
theorem dX2_init_7 : decode cX2_init 7 = .ok (.newarray .int, 2) := by decide +kernel
theorem dX2_init_9 : decode cX2_init 9 = .ok (.putfield 9, 3) := by decide +kernel
theorem dX2_init_12 : decode cX2_init 12 = .ok (.aload_n 0, 1) := by decide +kernel
theorem dX2_init_13 : decode cX2_init 13 = .ok (.iconst (-1), 1) := by decide +kernel
theorem dX2_init_14 : decode cX2_init 14 = .ok (.putfield 15, 3) := by decide +kernel
theorem dX2_init_17 : decode cX2_init 17 = .ok (.aload_n 0, 1) := by decide +kernel
theorem dX2_init_18 : decode cX2_init 18 = .ok (.iconst 0, 1) := by decide +kernel
theorem dX2_init_19 : decode cX2_init 19 = .ok (.putfield 19, 3) := by decide +kernel
theorem dX2_init_22 : decode cX2_init 22 = .ok (.return_, 1) := by decide +kernel
theorem dX2_isLost_0 : decode cX2_isLost 0 = .ok (.aload_n 0, 1) := by decide +kernel
theorem dX2_isLost_1 : decode cX2_isLost 1 = .ok (.getfield 15, 3) := by decide +kernel
theorem dX2_isLost_4 : decode cX2_isLost 4 = .ok (.iconst (-1), 1) := by decide +kernel
theorem dX2_isLost_5 : decode cX2_isLost 5 = .ok (.if_icmp .ne 7, 3) := by decide +kernel
theorem dX2_isLost_8 : decode cX2_isLost 8 = .ok (.iconst 1, 1) := by decide +kernel
theorem dX2_isLost_9 : decode cX2_isLost 9 = .ok (.goto 4, 3) := by decide +kernel
theorem dX2_isLost_12 : decode cX2_isLost 12 = .ok (.iconst 0, 1) := by decide +kernel
theorem dX2_isLost_13 : decode cX2_isLost 13 = .ok (.ireturn, 1) := by decide +kernel
theorem dX2_renew_0 : decode cX2_renew 0 = .ok (.aload_n 0, 1) := by decide +kernel
theorem dX2_renew_1 : decode cX2_renew 1 = .ok (.iload_n 1, 1) := by decide +kernel
theorem dX2_renew_2 : decode cX2_renew 2 = .ok (.putfield 15, 3) := by decide +kernel
theorem dX2_renew_5 : decode cX2_renew 5 = .ok (.aload_n 0, 1) := by decide +kernel
theorem dX2_renew_6 : decode cX2_renew 6 = .ok (.iload_n 2, 1) := by decide +kernel
theorem dX2_renew_7 : decode cX2_renew 7 = .ok (.putfield 19, 3) := by decide +kernel
theorem dX2_renew_10 : decode cX2_renew 10 = .ok (.aload_n 0, 1) := by decide +kernel
theorem dX2_renew_11 : decode cX2_renew 11 = .ok (.getfield 9, 3) := by decide +kernel
theorem dX2_renew_14 : decode cX2_renew 14 = .ok (.iconst 0, 1) := by decide +kernel
theorem dX2_renew_15 : decode cX2_renew 15 = .ok (.invokestatic 22, 3) := by decide +kernel
theorem dX2_renew_18 : decode cX2_renew 18 = .ok (.return_, 1) := by decide +kernel
theorem dX2_findingOf_0 : decode cX2_findingOf 0 = .ok (.aload_n 0, 1) := by decide +kernel
theorem dX2_findingOf_1 : decode cX2_findingOf 1 = .ok (.invokevirtual 28, 3) := by decide +kernel
theorem dX2_findingOf_4 : decode cX2_findingOf 4 = .ok (.ifCond .eq 5, 3) := by decide +kernel
theorem dX2_findingOf_7 : decode cX2_findingOf 7 = .ok (.iconst 1, 1) := by decide +kernel
theorem dX2_findingOf_8 : decode cX2_findingOf 8 = .ok (.ireturn, 1) := by decide +kernel
theorem dX2_findingOf_9 : decode cX2_findingOf 9 = .ok (.aload_n 0, 1) := by decide +kernel
theorem dX2_findingOf_10 : decode cX2_findingOf 10 = .ok (.getfield 15, 3) := by decide +kernel
theorem dX2_findingOf_13 : decode cX2_findingOf 13 = .ok (.iload_n 1, 1) := by decide +kernel
theorem dX2_findingOf_14 : decode cX2_findingOf 14 = .ok (.if_icmp .eq 5, 3) := by decide +kernel
theorem dX2_findingOf_17 : decode cX2_findingOf 17 = .ok (.iconst 3, 1) := by decide +kernel
theorem dX2_findingOf_18 : decode cX2_findingOf 18 = .ok (.ireturn, 1) := by decide +kernel
theorem dX2_findingOf_19 : decode cX2_findingOf 19 = .ok (.iload_n 2, 1) := by decide +kernel
theorem dX2_findingOf_20 : decode cX2_findingOf 20 = .ok (.aload_n 0, 1) := by decide +kernel
theorem dX2_findingOf_21 : decode cX2_findingOf 21 = .ok (.getfield 19, 3) := by decide +kernel
theorem dX2_findingOf_24 : decode cX2_findingOf 24 = .ok (.invokestatic 32, 3) := by decide +kernel
theorem dX2_findingOf_27 : decode cX2_findingOf 27 = .ok (.ifCond .eq 7, 3) := by decide +kernel
theorem dX2_findingOf_30 : decode cX2_findingOf 30 = .ok (.iconst 0, 1) := by decide +kernel
theorem dX2_findingOf_31 : decode cX2_findingOf 31 = .ok (.goto 4, 3) := by decide +kernel
theorem dX2_findingOf_34 : decode cX2_findingOf 34 = .ok (.iconst 2, 1) := by decide +kernel
theorem dX2_findingOf_35 : decode cX2_findingOf 35 = .ok (.ireturn, 1) := by decide +kernel
theorem dX2_hasSpan_0 : decode cX2_hasSpan 0 = .ok (.iload_n 1, 1) := by decide +kernel
theorem dX2_hasSpan_1 : decode cX2_hasSpan 1 = .ok (.ifCond .lt 21, 3) := by decide +kernel
theorem dX2_hasSpan_4 : decode cX2_hasSpan 4 = .ok (.iload_n 2, 1) := by decide +kernel
theorem dX2_hasSpan_5 : decode cX2_hasSpan 5 = .ok (.ifCond .lt 17, 3) := by decide +kernel
theorem dX2_hasSpan_8 : decode cX2_hasSpan 8 = .ok (.iload_n 1, 1) := by decide +kernel
theorem dX2_hasSpan_9 : decode cX2_hasSpan 9 = .ok (.aload_n 0, 1) := by decide +kernel
theorem dX2_hasSpan_10 : decode cX2_hasSpan 10 = .ok (.getfield 19, 3) := by decide +kernel
theorem dX2_hasSpan_13 : decode cX2_hasSpan 13 = .ok (.iload_n 2, 1) := by decide +kernel
theorem dX2_hasSpan_14 : decode cX2_hasSpan 14 = .ok (.isub, 1) := by decide +kernel
theorem dX2_hasSpan_15 : decode cX2_hasSpan 15 = .ok (.if_icmp .gt 7, 3) := by decide +kernel
theorem dX2_hasSpan_18 : decode cX2_hasSpan 18 = .ok (.iconst 1, 1) := by decide +kernel
theorem dX2_hasSpan_19 : decode cX2_hasSpan 19 = .ok (.goto 4, 3) := by decide +kernel
theorem dX2_hasSpan_22 : decode cX2_hasSpan 22 = .ok (.iconst 0, 1) := by decide +kernel
theorem dX2_hasSpan_23 : decode cX2_hasSpan 23 = .ok (.ireturn, 1) := by decide +kernel
theorem dX2_put_0 : decode cX2_put 0 = .ok (.aload_n 0, 1) := by decide +kernel
theorem dX2_put_1 : decode cX2_put 1 = .ok (.getfield 15, 3) := by decide +kernel
theorem dX2_put_4 : decode cX2_put 4 = .ok (.ifCond .ne 14, 3) := by decide +kernel
theorem dX2_put_7 : decode cX2_put 7 = .ok (.aload_n 0, 1) := by decide +kernel
theorem dX2_put_8 : decode cX2_put 8 = .ok (.getfield 9, 3) := by decide +kernel
theorem dX2_put_11 : decode cX2_put 11 = .ok (.iload_n 1, 1) := by decide +kernel
theorem dX2_put_12 : decode cX2_put 12 = .ok (.iload_n 2, 1) := by decide +kernel
theorem dX2_put_13 : decode cX2_put 13 = .ok (.i2b, 1) := by decide +kernel
theorem dX2_put_14 : decode cX2_put 14 = .ok (.iastore, 1) := by decide +kernel
theorem dX2_put_15 : decode cX2_put 15 = .ok (.goto 29, 3) := by decide +kernel
theorem dX2_put_18 : decode cX2_put 18 = .ok (.aload_n 0, 1) := by decide +kernel
theorem dX2_put_19 : decode cX2_put 19 = .ok (.getfield 15, 3) := by decide +kernel
theorem dX2_put_22 : decode cX2_put 22 = .ok (.iconst 1, 1) := by decide +kernel
theorem dX2_put_23 : decode cX2_put 23 = .ok (.if_icmp .ne 14, 3) := by decide +kernel
theorem dX2_put_26 : decode cX2_put 26 = .ok (.aload_n 0, 1) := by decide +kernel
theorem dX2_put_27 : decode cX2_put 27 = .ok (.getfield 9, 3) := by decide +kernel
theorem dX2_put_30 : decode cX2_put 30 = .ok (.iload_n 1, 1) := by decide +kernel
theorem dX2_put_31 : decode cX2_put 31 = .ok (.iload_n 2, 1) := by decide +kernel
theorem dX2_put_32 : decode cX2_put 32 = .ok (.i2s, 1) := by decide +kernel
theorem dX2_put_33 : decode cX2_put 33 = .ok (.iastore, 1) := by decide +kernel
theorem dX2_put_34 : decode cX2_put 34 = .ok (.goto 10, 3) := by decide +kernel
theorem dX2_put_37 : decode cX2_put 37 = .ok (.aload_n 0, 1) := by decide +kernel
theorem dX2_put_38 : decode cX2_put 38 = .ok (.getfield 9, 3) := by decide +kernel
theorem dX2_put_41 : decode cX2_put 41 = .ok (.iload_n 1, 1) := by decide +kernel
theorem dX2_put_42 : decode cX2_put 42 = .ok (.iload_n 2, 1) := by decide +kernel
theorem dX2_put_43 : decode cX2_put 43 = .ok (.iastore, 1) := by decide +kernel
theorem dX2_put_44 : decode cX2_put 44 = .ok (.return_, 1) := by decide +kernel
theorem dX3_init_0 : decode cX3_init 0 = .ok (.aload_n 0, 1) := by decide +kernel
theorem dX3_init_1 : decode cX3_init 1 = .ok (.invokespecial 3, 3) := by decide +kernel
theorem dX3_init_4 : decode cX3_init 4 = .ok (.aload_n 0, 1) := by decide +kernel
theorem dX3_init_5 : decode cX3_init 5 = .ok (.bipush 8, 2) := by decide +kernel
theorem dX3_init_7 : decode cX3_init 7 = .ok (.newarray .int, 2) := by decide +kernel
theorem dX3_init_9 : decode cX3_init 9 = .ok (.putfield 9, 3) := by decide +kernel
theorem dX3_init_12 : decode cX3_init 12 = .ok (.aload_n 0, 1) := by decide +kernel
theorem dX3_init_13 : decode cX3_init 13 = .ok (.bipush 8, 2) := by decide +kernel
theorem dX3_init_15 : decode cX3_init 15 = .ok (.newarray .int, 2) := by decide +kernel
theorem dX3_init_17 : decode cX3_init 17 = .ok (.putfield 15, 3) := by decide +kernel
theorem dX3_init_20 : decode cX3_init 20 = .ok (.aload_n 0, 1) := by decide +kernel
theorem dX3_init_21 : decode cX3_init 21 = .ok (.bipush 8, 2) := by decide +kernel
theorem dX3_init_23 : decode cX3_init 23 = .ok (.newarray .int, 2) := by decide +kernel
theorem dX3_init_25 : decode cX3_init 25 = .ok (.putfield 18, 3) := by decide +kernel
theorem dX3_init_28 : decode cX3_init 28 = .ok (.aload_n 0, 1) := by decide +kernel
theorem dX3_init_29 : decode cX3_init 29 = .ok (.iconst 0, 1) := by decide +kernel
theorem dX3_init_30 : decode cX3_init 30 = .ok (.putfield 21, 3) := by decide +kernel
theorem dX3_init_33 : decode cX3_init 33 = .ok (.return_, 1) := by decide +kernel
theorem dX3_add_0 : decode cX3_add 0 = .ok (.aload_n 0, 1) := by decide +kernel
theorem dX3_add_1 : decode cX3_add 1 = .ok (.getfield 21, 3) := by decide +kernel
theorem dX3_add_4 : decode cX3_add 4 = .ok (.bipush 8, 2) := by decide +kernel
theorem dX3_add_6 : decode cX3_add 6 = .ok (.if_icmp .ge 43, 3) := by decide +kernel
theorem dX3_add_9 : decode cX3_add 9 = .ok (.aload_n 0, 1) := by decide +kernel
theorem dX3_add_10 : decode cX3_add 10 = .ok (.getfield 9, 3) := by decide +kernel
theorem dX3_add_13 : decode cX3_add 13 = .ok (.aload_n 0, 1) := by decide +kernel
theorem dX3_add_14 : decode cX3_add 14 = .ok (.getfield 21, 3) := by decide +kernel
theorem dX3_add_17 : decode cX3_add 17 = .ok (.iload_n 1, 1) := by decide +kernel
theorem dX3_add_18 : decode cX3_add 18 = .ok (.iastore, 1) := by decide +kernel
theorem dX3_add_19 : decode cX3_add 19 = .ok (.aload_n 0, 1) := by decide +kernel
theorem dX3_add_20 : decode cX3_add 20 = .ok (.getfield 15, 3) := by decide +kernel
theorem dX3_add_23 : decode cX3_add 23 = .ok (.aload_n 0, 1) := by decide +kernel
theorem dX3_add_24 : decode cX3_add 24 = .ok (.getfield 21, 3) := by decide +kernel
theorem dX3_add_27 : decode cX3_add 27 = .ok (.iload_n 2, 1) := by decide +kernel
theorem dX3_add_28 : decode cX3_add 28 = .ok (.iastore, 1) := by decide +kernel
theorem dX3_add_29 : decode cX3_add 29 = .ok (.aload_n 0, 1) := by decide +kernel
theorem dX3_add_30 : decode cX3_add 30 = .ok (.getfield 18, 3) := by decide +kernel
theorem dX3_add_33 : decode cX3_add 33 = .ok (.aload_n 0, 1) := by decide +kernel
theorem dX3_add_34 : decode cX3_add 34 = .ok (.getfield 21, 3) := by decide +kernel
theorem dX3_add_37 : decode cX3_add 37 = .ok (.iload_n 3, 1) := by decide +kernel
theorem dX3_add_38 : decode cX3_add 38 = .ok (.iastore, 1) := by decide +kernel
theorem dX3_add_39 : decode cX3_add 39 = .ok (.aload_n 0, 1) := by decide +kernel
theorem dX3_add_40 : decode cX3_add 40 = .ok (.dup, 1) := by decide +kernel
theorem dX3_add_41 : decode cX3_add 41 = .ok (.getfield 21, 3) := by decide +kernel
theorem dX3_add_44 : decode cX3_add 44 = .ok (.iconst 1, 1) := by decide +kernel
theorem dX3_add_45 : decode cX3_add 45 = .ok (.iadd, 1) := by decide +kernel
theorem dX3_add_46 : decode cX3_add 46 = .ok (.putfield 21, 3) := by decide +kernel
theorem dX3_add_49 : decode cX3_add 49 = .ok (.return_, 1) := by decide +kernel
theorem dX3_fit_0 : decode cX3_fit 0 = .ok (.iconst 0, 1) := by decide +kernel
theorem dX3_fit_1 : decode cX3_fit 1 = .ok (.istore_n 2, 1) := by decide +kernel
theorem dX3_fit_2 : decode cX3_fit 2 = .ok (.iload_n 2, 1) := by decide +kernel
theorem dX3_fit_3 : decode cX3_fit 3 = .ok (.aload_n 0, 1) := by decide +kernel
theorem dX3_fit_4 : decode cX3_fit 4 = .ok (.getfield 21, 3) := by decide +kernel
theorem dX3_fit_7 : decode cX3_fit 7 = .ok (.if_icmp .ge 52, 3) := by decide +kernel
theorem dX3_fit_10 : decode cX3_fit 10 = .ok (.aload_n 0, 1) := by decide +kernel
theorem dX3_fit_11 : decode cX3_fit 11 = .ok (.getfield 15, 3) := by decide +kernel
theorem dX3_fit_14 : decode cX3_fit 14 = .ok (.iload_n 2, 1) := by decide +kernel
theorem dX3_fit_15 : decode cX3_fit 15 = .ok (.iaload, 1) := by decide +kernel
theorem dX3_fit_16 : decode cX3_fit 16 = .ok (.aload_n 1, 1) := by decide +kernel
theorem dX3_fit_17 : decode cX3_fit 17 = .ok (.getfield 25, 3) := by decide +kernel
theorem dX3_fit_20 : decode cX3_fit 20 = .ok (.getfield 31, 3) := by decide +kernel
theorem dX3_fit_23 : decode cX3_fit 23 = .ok (.if_icmp .ge 28, 3) := by decide +kernel
theorem dX3_fit_26 : decode cX3_fit 26 = .ok (.aload_n 1, 1) := by decide +kernel
theorem dX3_fit_27 : decode cX3_fit 27 = .ok (.aload_n 0, 1) := by decide +kernel
theorem dX3_fit_28 : decode cX3_fit 28 = .ok (.getfield 9, 3) := by decide +kernel
theorem dX3_fit_31 : decode cX3_fit 31 = .ok (.iload_n 2, 1) := by decide +kernel
theorem dX3_fit_32 : decode cX3_fit 32 = .ok (.iaload, 1) := by decide +kernel
theorem dX3_fit_33 : decode cX3_fit 33 = .ok (.aload_n 0, 1) := by decide +kernel
theorem dX3_fit_34 : decode cX3_fit 34 = .ok (.getfield 15, 3) := by decide +kernel
theorem dX3_fit_37 : decode cX3_fit 37 = .ok (.iload_n 2, 1) := by decide +kernel
theorem dX3_fit_38 : decode cX3_fit 38 = .ok (.iaload, 1) := by decide +kernel
theorem dX3_fit_39 : decode cX3_fit 39 = .ok (.invokevirtual 36, 3) := by decide +kernel
theorem dX3_fit_42 : decode cX3_fit 42 = .ok (.aload_n 0, 1) := by decide +kernel
theorem dX3_fit_43 : decode cX3_fit 43 = .ok (.getfield 18, 3) := by decide +kernel
theorem dX3_fit_46 : decode cX3_fit 46 = .ok (.iload_n 2, 1) := by decide +kernel
theorem dX3_fit_47 : decode cX3_fit 47 = .ok (.iaload, 1) := by decide +kernel
theorem dX3_fit_48 : decode cX3_fit 48 = .ok (.if_icmp .eq 5, 3) := by decide +kernel
theorem dX3_fit_51 : decode cX3_fit 51 = .ok (.iconst 0, 1) := by decide +kernel
theorem dX3_fit_52 : decode cX3_fit 52 = .ok (.ireturn, 1) := by decide +kernel
theorem dX3_fit_53 : decode cX3_fit 53 = .ok (.iinc 2 1, 3) := by decide +kernel
theorem dX3_fit_56 : decode cX3_fit 56 = .ok (.goto (-54), 3) := by decide +kernel
theorem dX3_fit_59 : decode cX3_fit 59 = .ok (.iconst 1, 1) := by decide +kernel
theorem dX3_fit_60 : decode cX3_fit 60 = .ok (.ireturn, 1) := by decide +kernel
theorem dX4_init_0 : decode cX4_init 0 = .ok (.aload_n 0, 1) := by decide +kernel
theorem dX4_init_1 : decode cX4_init 1 = .ok (.invokespecial 3, 3) := by decide +kernel
theorem dX4_init_4 : decode cX4_init 4 = .ok (.aload_n 0, 1) := by decide +kernel
theorem dX4_init_5 : decode cX4_init 5 = .ok (.iload_n 1, 1) := by decide +kernel
theorem dX4_init_6 : decode cX4_init 6 = .ok (.putfield 9, 3) := by decide +kernel
theorem dX4_init_9 : decode cX4_init 9 = .ok (.aload_n 0, 1) := by decide +kernel
theorem dX4_init_10 : decode cX4_init 10 = .ok (.iload_n 2, 1) := by decide +kernel
theorem dX4_init_11 : decode cX4_init 11 = .ok (.putfield 15, 3) := by decide +kernel
theorem dX4_init_14 : decode cX4_init 14 = .ok (.aload_n 0, 1) := by decide +kernel
theorem dX4_init_15 : decode cX4_init 15 = .ok (.iload_n 3, 1) := by decide +kernel
theorem dX4_init_16 : decode cX4_init 16 = .ok (.newarray .int, 2) := by decide +kernel
theorem dX4_init_18 : decode cX4_init 18 = .ok (.putfield 18, 3) := by decide +kernel
theorem dX4_init_21 : decode cX4_init 21 = .ok (.aload_n 0, 1) := by decide +kernel
theorem dX4_init_22 : decode cX4_init 22 = .ok (.iconst 0, 1) := by decide +kernel
theorem dX4_init_23 : decode cX4_init 23 = .ok (.putfield 22, 3) := by decide +kernel
theorem dX4_init_26 : decode cX4_init 26 = .ok (.aload_n 0, 1) := by decide +kernel
theorem dX4_init_27 : decode cX4_init 27 = .ok (.iconst (-1), 1) := by decide +kernel
theorem dX4_init_28 : decode cX4_init 28 = .ok (.putfield 25, 3) := by decide +kernel
theorem dX4_init_31 : decode cX4_init 31 = .ok (.return_, 1) := by decide +kernel
theorem dX4_isFull_0 : decode cX4_isFull 0 = .ok (.aload_n 0, 1) := by decide +kernel
theorem dX4_isFull_1 : decode cX4_isFull 1 = .ok (.getfield 22, 3) := by decide +kernel
theorem dX4_isFull_4 : decode cX4_isFull 4 = .ok (.aload_n 0, 1) := by decide +kernel
theorem dX4_isFull_5 : decode cX4_isFull 5 = .ok (.getfield 18, 3) := by decide +kernel
theorem dX4_isFull_8 : decode cX4_isFull 8 = .ok (.arraylength, 1) := by decide +kernel
theorem dX4_isFull_9 : decode cX4_isFull 9 = .ok (.if_icmp .lt 7, 3) := by decide +kernel
theorem dX4_isFull_12 : decode cX4_isFull 12 = .ok (.iconst 1, 1) := by decide +kernel
theorem dX4_isFull_13 : decode cX4_isFull 13 = .ok (.goto 4, 3) := by decide +kernel
theorem dX4_isFull_16 : decode cX4_isFull 16 = .ok (.iconst 0, 1) := by decide +kernel
theorem dX4_isFull_17 : decode cX4_isFull 17 = .ok (.ireturn, 1) := by decide +kernel
theorem dX4_append_0 : decode cX4_append 0 = .ok (.aload_n 0, 1) := by decide +kernel
theorem dX4_append_1 : decode cX4_append 1 = .ok (.getfield 22, 3) := by decide +kernel
theorem dX4_append_4 : decode cX4_append 4 = .ok (.aload_n 0, 1) := by decide +kernel
theorem dX4_append_5 : decode cX4_append 5 = .ok (.getfield 18, 3) := by decide +kernel
theorem dX4_append_8 : decode cX4_append 8 = .ok (.arraylength, 1) := by decide +kernel
theorem dX4_append_9 : decode cX4_append 9 = .ok (.if_icmp .ge 31, 3) := by decide +kernel
theorem dX4_append_12 : decode cX4_append 12 = .ok (.aload_n 0, 1) := by decide +kernel
theorem dX4_append_13 : decode cX4_append 13 = .ok (.getfield 18, 3) := by decide +kernel
theorem dX4_append_16 : decode cX4_append 16 = .ok (.aload_n 0, 1) := by decide +kernel
theorem dX4_append_17 : decode cX4_append 17 = .ok (.getfield 22, 3) := by decide +kernel
theorem dX4_append_20 : decode cX4_append 20 = .ok (.iload_n 1, 1) := by decide +kernel
theorem dX4_append_21 : decode cX4_append 21 = .ok (.iastore, 1) := by decide +kernel
theorem dX4_append_22 : decode cX4_append 22 = .ok (.aload_n 0, 1) := by decide +kernel
theorem dX4_append_23 : decode cX4_append 23 = .ok (.dup, 1) := by decide +kernel
theorem dX4_append_24 : decode cX4_append 24 = .ok (.getfield 22, 3) := by decide +kernel
theorem dX4_append_27 : decode cX4_append 27 = .ok (.iconst 1, 1) := by decide +kernel
theorem dX4_append_28 : decode cX4_append 28 = .ok (.iadd, 1) := by decide +kernel
theorem dX4_append_29 : decode cX4_append 29 = .ok (.putfield 22, 3) := by decide +kernel
theorem dX4_append_32 : decode cX4_append 32 = .ok (.aload_n 0, 1) := by decide +kernel
theorem dX4_append_33 : decode cX4_append 33 = .ok (.aload_n 0, 1) := by decide +kernel
theorem dX4_append_34 : decode cX4_append 34 = .ok (.invokevirtual 28, 3) := by decide +kernel
theorem dX4_append_37 : decode cX4_append 37 = .ok (.putfield 25, 3) := by decide +kernel
theorem dX4_append_40 : decode cX4_append 40 = .ok (.return_, 1) := by decide +kernel
theorem dX4_cutTo_0 : decode cX4_cutTo 0 = .ok (.aload_n 0, 1) := by decide +kernel
theorem dX4_cutTo_1 : decode cX4_cutTo 1 = .ok (.iload_n 1, 1) := by decide +kernel
theorem dX4_cutTo_2 : decode cX4_cutTo 2 = .ok (.putfield 22, 3) := by decide +kernel
theorem dX4_cutTo_5 : decode cX4_cutTo 5 = .ok (.aload_n 0, 1) := by decide +kernel
theorem dX4_cutTo_6 : decode cX4_cutTo 6 = .ok (.aload_n 0, 1) := by decide +kernel
theorem dX4_cutTo_7 : decode cX4_cutTo 7 = .ok (.invokevirtual 28, 3) := by decide +kernel
theorem dX4_cutTo_10 : decode cX4_cutTo 10 = .ok (.putfield 25, 3) := by decide +kernel
theorem dX4_cutTo_13 : decode cX4_cutTo 13 = .ok (.return_, 1) := by decide +kernel
theorem dX4_soundLength_0 : decode cX4_soundLength 0 = .ok (.aload_n 0, 1) := by decide +kernel
theorem dX4_soundLength_1 : decode cX4_soundLength 1 = .ok (.getfield 25, 3) := by decide +kernel
theorem dX4_soundLength_4 : decode cX4_soundLength 4 = .ok (.iconst (-1), 1) := by decide +kernel
theorem dX4_soundLength_5 : decode cX4_soundLength 5 = .ok (.if_icmp .ne 10, 3) := by decide +kernel
theorem dX4_soundLength_8 : decode cX4_soundLength 8 = .ok (.aload_n 0, 1) := by decide +kernel
theorem dX4_soundLength_9 : decode cX4_soundLength 9 = .ok (.getfield 22, 3) := by decide +kernel
theorem dX4_soundLength_12 : decode cX4_soundLength 12 = .ok (.goto 4, 3) := by decide +kernel
theorem dX4_soundLength_15 : decode cX4_soundLength 15 = .ok (.iconst 0, 1) := by decide +kernel
theorem dX4_soundLength_16 : decode cX4_soundLength 16 = .ok (.ireturn, 1) := by decide +kernel
theorem dX4_findFault_0 : decode cX4_findFault 0 = .ok (.iconst 0, 1) := by decide +kernel
theorem dX4_findFault_1 : decode cX4_findFault 1 = .ok (.istore_n 1, 1) := by decide +kernel
theorem dX4_findFault_2 : decode cX4_findFault 2 = .ok (.iconst 0, 1) := by decide +kernel
theorem dX4_findFault_3 : decode cX4_findFault 3 = .ok (.istore_n 2, 1) := by decide +kernel
theorem dX4_findFault_4 : decode cX4_findFault 4 = .ok (.iload_n 2, 1) := by decide +kernel
theorem dX4_findFault_5 : decode cX4_findFault 5 = .ok (.aload_n 0, 1) := by decide +kernel
theorem dX4_findFault_6 : decode cX4_findFault 6 = .ok (.getfield 22, 3) := by decide +kernel
theorem dX4_findFault_9 : decode cX4_findFault 9 = .ok (.if_icmp .ge 43, 3) := by decide +kernel
theorem dX4_findFault_12 : decode cX4_findFault 12 = .ok (.aload_n 0, 1) := by decide +kernel
theorem dX4_findFault_13 : decode cX4_findFault 13 = .ok (.iload_n 1, 1) := by decide +kernel
theorem dX4_findFault_14 : decode cX4_findFault 14 = .ok (.aload_n 0, 1) := by decide +kernel
theorem dX4_findFault_15 : decode cX4_findFault 15 = .ok (.getfield 18, 3) := by decide +kernel
theorem dX4_findFault_18 : decode cX4_findFault 18 = .ok (.iload_n 2, 1) := by decide +kernel
theorem dX4_findFault_19 : decode cX4_findFault 19 = .ok (.iaload, 1) := by decide +kernel
theorem dX4_findFault_20 : decode cX4_findFault 20 = .ok (.invokevirtual 32, 3) := by decide +kernel
theorem dX4_findFault_23 : decode cX4_findFault 23 = .ok (.ifCond .ne 5, 3) := by decide +kernel
theorem dX4_findFault_26 : decode cX4_findFault 26 = .ok (.iload_n 2, 1) := by decide +kernel
theorem dX4_findFault_27 : decode cX4_findFault 27 = .ok (.ireturn, 1) := by decide +kernel
theorem dX4_findFault_28 : decode cX4_findFault 28 = .ok (.iload_n 1, 1) := by decide +kernel
theorem dX4_findFault_29 : decode cX4_findFault 29 = .ok (.iconst 1, 1) := by decide +kernel
theorem dX4_findFault_30 : decode cX4_findFault 30 = .ok (.iadd, 1) := by decide +kernel
theorem dX4_findFault_31 : decode cX4_findFault 31 = .ok (.aload_n 0, 1) := by decide +kernel
theorem dX4_findFault_32 : decode cX4_findFault 32 = .ok (.getfield 15, 3) := by decide +kernel
theorem dX4_findFault_35 : decode cX4_findFault 35 = .ok (.if_icmp .ge 9, 3) := by decide +kernel
theorem dX4_findFault_38 : decode cX4_findFault 38 = .ok (.iload_n 1, 1) := by decide +kernel
theorem dX4_findFault_39 : decode cX4_findFault 39 = .ok (.iconst 1, 1) := by decide +kernel
theorem dX4_findFault_40 : decode cX4_findFault 40 = .ok (.iadd, 1) := by decide +kernel
theorem dX4_findFault_41 : decode cX4_findFault 41 = .ok (.goto 4, 3) := by decide +kernel
theorem dX4_findFault_44 : decode cX4_findFault 44 = .ok (.iconst 0, 1) := by decide +kernel
theorem dX4_findFault_45 : decode cX4_findFault 45 = .ok (.istore_n 1, 1) := by decide +kernel
theorem dX4_findFault_46 : decode cX4_findFault 46 = .ok (.iinc 2 1, 3) := by decide +kernel
theorem dX4_findFault_49 : decode cX4_findFault 49 = .ok (.goto (-45), 3) := by decide +kernel
theorem dX4_findFault_52 : decode cX4_findFault 52 = .ok (.aload_n 0, 1) := by decide +kernel
theorem dX4_findFault_53 : decode cX4_findFault 53 = .ok (.getfield 22, 3) := by decide +kernel
theorem dX4_findFault_56 : decode cX4_findFault 56 = .ok (.ifCond .eq 13, 3) := by decide +kernel
theorem dX4_findFault_59 : decode cX4_findFault 59 = .ok (.iload_n 1, 1) := by decide +kernel
theorem dX4_findFault_60 : decode cX4_findFault 60 = .ok (.aload_n 0, 1) := by decide +kernel
theorem dX4_findFault_61 : decode cX4_findFault 61 = .ok (.getfield 15, 3) := by decide +kernel
theorem dX4_findFault_64 : decode cX4_findFault 64 = .ok (.iconst 1, 1) := by decide +kernel
theorem dX4_findFault_65 : decode cX4_findFault 65 = .ok (.isub, 1) := by decide +kernel
theorem dX4_findFault_66 : decode cX4_findFault 66 = .ok (.if_icmp .ne 7, 3) := by decide +kernel
theorem dX4_findFault_69 : decode cX4_findFault 69 = .ok (.iconst (-1), 1) := by decide +kernel
theorem dX4_findFault_70 : decode cX4_findFault 70 = .ok (.goto 7, 3) := by decide +kernel
theorem dX4_findFault_73 : decode cX4_findFault 73 = .ok (.aload_n 0, 1) := by decide +kernel
theorem dX4_findFault_74 : decode cX4_findFault 74 = .ok (.getfield 22, 3) := by decide +kernel
theorem dX4_findFault_77 : decode cX4_findFault 77 = .ok (.ireturn, 1) := by decide +kernel
theorem dX4_fits_0 : decode cX4_fits 0 = .ok (.aload_n 0, 1) := by decide +kernel
theorem dX4_fits_1 : decode cX4_fits 1 = .ok (.getfield 9, 3) := by decide +kernel
theorem dX4_fits_4 : decode cX4_fits 4 = .ok (.iconst 2, 1) := by decide +kernel
theorem dX4_fits_5 : decode cX4_fits 5 = .ok (.if_icmp .ne 12, 3) := by decide +kernel
theorem dX4_fits_8 : decode cX4_fits 8 = .ok (.iload_n 2, 1) := by decide +kernel
theorem dX4_fits_9 : decode cX4_fits 9 = .ok (.bipush 48, 2) := by decide +kernel
theorem dX4_fits_11 : decode cX4_fits 11 = .ok (.bipush 57, 2) := by decide +kernel
theorem dX4_fits_13 : decode cX4_fits 13 = .ok (.invokestatic 36, 3) := by decide +kernel
theorem dX4_fits_16 : decode cX4_fits 16 = .ok (.ireturn, 1) := by decide +kernel
theorem dX4_fits_17 : decode cX4_fits 17 = .ok (.iload_n 1, 1) := by decide +kernel
theorem dX4_fits_18 : decode cX4_fits 18 = .ok (.aload_n 0, 1) := by decide +kernel
theorem dX4_fits_19 : decode cX4_fits 19 = .ok (.getfield 15, 3) := by decide +kernel
theorem dX4_fits_22 : decode cX4_fits 22 = .ok (.iconst 1, 1) := by decide +kernel
theorem dX4_fits_23 : decode cX4_fits 23 = .ok (.isub, 1) := by decide +kernel
theorem dX4_fits_24 : decode cX4_fits 24 = .ok (.if_icmp .ne 15, 3) := by decide +kernel
theorem dX4_fits_27 : decode cX4_fits 27 = .ok (.iload_n 2, 1) := by decide +kernel
theorem dX4_fits_28 : decode cX4_fits 28 = .ok (.bipush 59, 2) := by decide +kernel
theorem dX4_fits_30 : decode cX4_fits 30 = .ok (.if_icmp .ne 7, 3) := by decide +kernel
theorem dX4_fits_33 : decode cX4_fits 33 = .ok (.iconst 1, 1) := by decide +kernel
theorem dX4_fits_34 : decode cX4_fits 34 = .ok (.goto 4, 3) := by decide +kernel
theorem dX4_fits_37 : decode cX4_fits 37 = .ok (.iconst 0, 1) := by decide +kernel
theorem dX4_fits_38 : decode cX4_fits 38 = .ok (.ireturn, 1) := by decide +kernel
theorem dX4_fits_39 : decode cX4_fits 39 = .ok (.aload_n 0, 1) := by decide +kernel
theorem dX4_fits_40 : decode cX4_fits 40 = .ok (.getfield 9, 3) := by decide +kernel
theorem dX4_fits_43 : decode cX4_fits 43 = .ok (.ifCond .ne 32, 3) := by decide +kernel
theorem dX4_fits_46 : decode cX4_fits 46 = .ok (.iload_n 1, 1) := by decide +kernel
theorem dX4_fits_47 : decode cX4_fits 47 = .ok (.ifCond .ne 19, 3) := by decide +kernel
theorem dX4_fits_50 : decode cX4_fits 50 = .ok (.iload_n 2, 1) := by decide +kernel
theorem dX4_fits_51 : decode cX4_fits 51 = .ok (.invokestatic 40, 3) := by decide +kernel
theorem dX4_fits_54 : decode cX4_fits 54 = .ok (.iconst (-1), 1) := by decide +kernel
theorem dX4_fits_55 : decode cX4_fits 55 = .ok (.if_icmp .eq 7, 3) := by decide +kernel
theorem dX4_fits_58 : decode cX4_fits 58 = .ok (.iconst 1, 1) := by decide +kernel
theorem dX4_fits_59 : decode cX4_fits 59 = .ok (.goto 15, 3) := by decide +kernel
theorem dX4_fits_62 : decode cX4_fits 62 = .ok (.iconst 0, 1) := by decide +kernel
theorem dX4_fits_63 : decode cX4_fits 63 = .ok (.goto 11, 3) := by decide +kernel
theorem dX4_fits_66 : decode cX4_fits 66 = .ok (.iload_n 2, 1) := by decide +kernel
theorem dX4_fits_67 : decode cX4_fits 67 = .ok (.bipush 49, 2) := by decide +kernel
theorem dX4_fits_69 : decode cX4_fits 69 = .ok (.bipush 57, 2) := by decide +kernel
theorem dX4_fits_71 : decode cX4_fits 71 = .ok (.invokestatic 36, 3) := by decide +kernel
theorem dX4_fits_74 : decode cX4_fits 74 = .ok (.ireturn, 1) := by decide +kernel
theorem dX4_fits_75 : decode cX4_fits 75 = .ok (.iload_n 1, 1) := by decide +kernel
theorem dX4_fits_76 : decode cX4_fits 76 = .ok (.iconst 2, 1) := by decide +kernel
theorem dX4_fits_77 : decode cX4_fits 77 = .ok (.if_icmp .ge 14, 3) := by decide +kernel
theorem dX4_fits_80 : decode cX4_fits 80 = .ok (.iload_n 2, 1) := by decide +kernel
theorem dX4_fits_81 : decode cX4_fits 81 = .ok (.bipush 48, 2) := by decide +kernel
theorem dX4_fits_83 : decode cX4_fits 83 = .ok (.bipush 55, 2) := by decide +kernel
theorem dX4_fits_85 : decode cX4_fits 85 = .ok (.invokestatic 36, 3) := by decide +kernel
theorem dX4_fits_88 : decode cX4_fits 88 = .ok (.goto 11, 3) := by decide +kernel
theorem dX4_fits_91 : decode cX4_fits 91 = .ok (.iload_n 2, 1) := by decide +kernel
theorem dX4_fits_92 : decode cX4_fits 92 = .ok (.bipush 97, 2) := by decide +kernel
theorem dX4_fits_94 : decode cX4_fits 94 = .ok (.bipush 120, 2) := by decide +kernel
theorem dX4_fits_96 : decode cX4_fits 96 = .ok (.invokestatic 36, 3) := by decide +kernel
theorem dX4_fits_99 : decode cX4_fits 99 = .ok (.ireturn, 1) := by decide +kernel
theorem dX4_isAmong_0 : decode cX4_isAmong 0 = .ok (.iload_n 0, 1) := by decide +kernel
theorem dX4_isAmong_1 : decode cX4_isAmong 1 = .ok (.iload_n 1, 1) := by decide +kernel
theorem dX4_isAmong_2 : decode cX4_isAmong 2 = .ok (.if_icmp .lt 12, 3) := by decide +kernel
theorem dX4_isAmong_5 : decode cX4_isAmong 5 = .ok (.iload_n 0, 1) := by decide +kernel
theorem dX4_isAmong_6 : decode cX4_isAmong 6 = .ok (.iload_n 2, 1) := by decide +kernel
theorem dX4_isAmong_7 : decode cX4_isAmong 7 = .ok (.if_icmp .gt 7, 3) := by decide +kernel
theorem dX4_isAmong_10 : decode cX4_isAmong 10 = .ok (.iconst 1, 1) := by decide +kernel
theorem dX4_isAmong_11 : decode cX4_isAmong 11 = .ok (.goto 4, 3) := by decide +kernel
theorem dX4_isAmong_14 : decode cX4_isAmong 14 = .ok (.iconst 0, 1) := by decide +kernel
theorem dX4_isAmong_15 : decode cX4_isAmong 15 = .ok (.ireturn, 1) := by decide +kernel
theorem dX4_sortOf_0 : decode cX4_sortOf 0 = .ok (.iload_n 0, 1) := by decide +kernel
theorem dX4_sortOf_1 : decode cX4_sortOf 1 = .ok (.bipush 99, 2) := by decide +kernel
theorem dX4_sortOf_3 : decode cX4_sortOf 3 = .ok (.if_icmp .ne 5, 3) := by decide +kernel
theorem dX4_sortOf_6 : decode cX4_sortOf 6 = .ok (.iconst 0, 1) := by decide +kernel
theorem dX4_sortOf_7 : decode cX4_sortOf 7 = .ok (.ireturn, 1) := by decide +kernel
theorem dX4_sortOf_8 : decode cX4_sortOf 8 = .ok (.iload_n 0, 1) := by decide +kernel
theorem dX4_sortOf_9 : decode cX4_sortOf 9 = .ok (.bipush 109, 2) := by decide +kernel
theorem dX4_sortOf_11 : decode cX4_sortOf 11 = .ok (.if_icmp .ne 5, 3) := by decide +kernel
theorem dX4_sortOf_14 : decode cX4_sortOf 14 = .ok (.iconst 1, 1) := by decide +kernel
theorem dX4_sortOf_15 : decode cX4_sortOf 15 = .ok (.ireturn, 1) := by decide +kernel
theorem dX4_sortOf_16 : decode cX4_sortOf 16 = .ok (.iload_n 0, 1) := by decide +kernel
theorem dX4_sortOf_17 : decode cX4_sortOf 17 = .ok (.bipush 104, 2) := by decide +kernel
theorem dX4_sortOf_19 : decode cX4_sortOf 19 = .ok (.if_icmp .ne 7, 3) := by decide +kernel
theorem dX4_sortOf_22 : decode cX4_sortOf 22 = .ok (.iconst 2, 1) := by decide +kernel
theorem dX4_sortOf_23 : decode cX4_sortOf 23 = .ok (.goto 4, 3) := by decide +kernel
theorem dX4_sortOf_26 : decode cX4_sortOf 26 = .ok (.iconst (-1), 1) := by decide +kernel
theorem dX4_sortOf_27 : decode cX4_sortOf 27 = .ok (.ireturn, 1) := by decide +kernel
theorem dJ6_bitCount_0f7a4_0 : decode cJ6_bitCount_0f7a4 0 = .ok (.iload_n 0, 1) := by decide +kernel
theorem dJ6_bitCount_0f7a4_1 : decode cJ6_bitCount_0f7a4 1 = .ok (.iload_n 0, 1) := by decide +kernel
theorem dJ6_bitCount_0f7a4_2 : decode cJ6_bitCount_0f7a4 2 = .ok (.iconst 1, 1) := by decide +kernel
theorem dJ6_bitCount_0f7a4_3 : decode cJ6_bitCount_0f7a4 3 = .ok (.iushr, 1) := by decide +kernel
theorem dJ6_bitCount_0f7a4_4 : decode cJ6_bitCount_0f7a4 4 = .ok (.ldc_w 265, 3) := by decide +kernel
theorem dJ6_bitCount_0f7a4_7 : decode cJ6_bitCount_0f7a4 7 = .ok (.iand, 1) := by decide +kernel
theorem dJ6_bitCount_0f7a4_8 : decode cJ6_bitCount_0f7a4 8 = .ok (.isub, 1) := by decide +kernel
theorem dJ6_bitCount_0f7a4_9 : decode cJ6_bitCount_0f7a4 9 = .ok (.istore_n 0, 1) := by decide +kernel
theorem dJ6_bitCount_0f7a4_10 : decode cJ6_bitCount_0f7a4 10 = .ok (.iload_n 0, 1) := by decide +kernel
theorem dJ6_bitCount_0f7a4_11 : decode cJ6_bitCount_0f7a4 11 = .ok (.ldc_w 266, 3) := by decide +kernel
theorem dJ6_bitCount_0f7a4_14 : decode cJ6_bitCount_0f7a4 14 = .ok (.iand, 1) := by decide +kernel
theorem dJ6_bitCount_0f7a4_15 : decode cJ6_bitCount_0f7a4 15 = .ok (.iload_n 0, 1) := by decide +kernel
theorem dJ6_bitCount_0f7a4_16 : decode cJ6_bitCount_0f7a4 16 = .ok (.iconst 2, 1) := by decide +kernel
theorem dJ6_bitCount_0f7a4_17 : decode cJ6_bitCount_0f7a4 17 = .ok (.iushr, 1) := by decide +kernel
theorem dJ6_bitCount_0f7a4_18 : decode cJ6_bitCount_0f7a4 18 = .ok (.ldc_w 266, 3) := by decide +kernel
theorem dJ6_bitCount_0f7a4_21 : decode cJ6_bitCount_0f7a4 21 = .ok (.iand, 1) := by decide +kernel
theorem dJ6_bitCount_0f7a4_22 : decode cJ6_bitCount_0f7a4 22 = .ok (.iadd, 1) := by decide +kernel
theorem dJ6_bitCount_0f7a4_23 : decode cJ6_bitCount_0f7a4 23 = .ok (.istore_n 0, 1) := by decide +kernel
theorem dJ6_bitCount_0f7a4_24 : decode cJ6_bitCount_0f7a4 24 = .ok (.iload_n 0, 1) := by decide +kernel
theorem dJ6_bitCount_0f7a4_25 : decode cJ6_bitCount_0f7a4 25 = .ok (.iload_n 0, 1) := by decide +kernel
theorem dJ6_bitCount_0f7a4_26 : decode cJ6_bitCount_0f7a4 26 = .ok (.iconst 4, 1) := by decide +kernel
theorem dJ6_bitCount_0f7a4_27 : decode cJ6_bitCount_0f7a4 27 = .ok (.iushr, 1) := by decide +kernel
theorem dJ6_bitCount_0f7a4_28 : decode cJ6_bitCount_0f7a4 28 = .ok (.iadd, 1) := by decide +kernel
theorem dJ6_bitCount_0f7a4_29 : decode cJ6_bitCount_0f7a4 29 = .ok (.ldc_w 267, 3) := by decide +kernel
theorem dJ6_bitCount_0f7a4_32 : decode cJ6_bitCount_0f7a4 32 = .ok (.iand, 1) := by decide +kernel
theorem dJ6_bitCount_0f7a4_33 : decode cJ6_bitCount_0f7a4 33 = .ok (.istore_n 0, 1) := by decide +kernel
theorem dJ6_bitCount_0f7a4_34 : decode cJ6_bitCount_0f7a4 34 = .ok (.iload_n 0, 1) := by decide +kernel
theorem dJ6_bitCount_0f7a4_35 : decode cJ6_bitCount_0f7a4 35 = .ok (.iload_n 0, 1) := by decide +kernel
theorem dJ6_bitCount_0f7a4_36 : decode cJ6_bitCount_0f7a4 36 = .ok (.bipush 8, 2) := by decide +kernel
theorem dJ6_bitCount_0f7a4_38 : decode cJ6_bitCount_0f7a4 38 = .ok (.iushr, 1) := by decide +kernel
theorem dJ6_bitCount_0f7a4_39 : decode cJ6_bitCount_0f7a4 39 = .ok (.iadd, 1) := by decide +kernel
theorem dJ6_bitCount_0f7a4_40 : decode cJ6_bitCount_0f7a4 40 = .ok (.istore_n 0, 1) := by decide +kernel
theorem dJ6_bitCount_0f7a4_41 : decode cJ6_bitCount_0f7a4 41 = .ok (.iload_n 0, 1) := by decide +kernel
theorem dJ6_bitCount_0f7a4_42 : decode cJ6_bitCount_0f7a4 42 = .ok (.iload_n 0, 1) := by decide +kernel
theorem dJ6_bitCount_0f7a4_43 : decode cJ6_bitCount_0f7a4 43 = .ok (.bipush 16, 2) := by decide +kernel
theorem dJ6_bitCount_0f7a4_45 : decode cJ6_bitCount_0f7a4 45 = .ok (.iushr, 1) := by decide +kernel
theorem dJ6_bitCount_0f7a4_46 : decode cJ6_bitCount_0f7a4 46 = .ok (.iadd, 1) := by decide +kernel
theorem dJ6_bitCount_0f7a4_47 : decode cJ6_bitCount_0f7a4 47 = .ok (.istore_n 0, 1) := by decide +kernel
theorem dJ6_bitCount_0f7a4_48 : decode cJ6_bitCount_0f7a4 48 = .ok (.iload_n 0, 1) := by decide +kernel
theorem dJ6_bitCount_0f7a4_49 : decode cJ6_bitCount_0f7a4 49 = .ok (.bipush 63, 2) := by decide +kernel
theorem dJ6_bitCount_0f7a4_51 : decode cJ6_bitCount_0f7a4 51 = .ok (.iand, 1) := by decide +kernel
theorem dJ6_bitCount_0f7a4_52 : decode cJ6_bitCount_0f7a4 52 = .ok (.ireturn, 1) := by decide +kernel
theorem dJ9_max_7cf53_0 : decode cJ9_max_7cf53 0 = .ok (.iload_n 0, 1) := by decide +kernel
theorem dJ9_max_7cf53_1 : decode cJ9_max_7cf53 1 = .ok (.iload_n 1, 1) := by decide +kernel
theorem dJ9_max_7cf53_2 : decode cJ9_max_7cf53 2 = .ok (.if_icmp .lt 7, 3) := by decide +kernel
theorem dJ9_max_7cf53_5 : decode cJ9_max_7cf53 5 = .ok (.iload_n 0, 1) := by decide +kernel
theorem dJ9_max_7cf53_6 : decode cJ9_max_7cf53 6 = .ok (.goto 4, 3) := by decide +kernel
theorem dJ9_max_7cf53_9 : decode cJ9_max_7cf53 9 = .ok (.iload_n 1, 1) := by decide +kernel
theorem dJ9_max_7cf53_10 : decode cJ9_max_7cf53 10 = .ok (.ireturn, 1) := by decide +kernel
theorem dJ9_min_7cf53_0 : decode cJ9_min_7cf53 0 = .ok (.iload_n 0, 1) := by decide +kernel
theorem dJ9_min_7cf53_1 : decode cJ9_min_7cf53 1 = .ok (.iload_n 1, 1) := by decide +kernel
theorem dJ9_min_7cf53_2 : decode cJ9_min_7cf53 2 = .ok (.if_icmp .gt 7, 3) := by decide +kernel
theorem dJ9_min_7cf53_5 : decode cJ9_min_7cf53 5 = .ok (.iload_n 0, 1) := by decide +kernel
theorem dJ9_min_7cf53_6 : decode cJ9_min_7cf53 6 = .ok (.goto 4, 3) := by decide +kernel
theorem dJ9_min_7cf53_9 : decode cJ9_min_7cf53 9 = .ok (.iload_n 1, 1) := by decide +kernel
theorem dJ9_min_7cf53_10 : decode cJ9_min_7cf53 10 = .ok (.ireturn, 1) := by decide +kernel
theorem dJ7_fill_53178_0 : decode cJ7_fill_53178 0 = .ok (.iconst 0, 1) := by decide +kernel
theorem dJ7_fill_53178_1 : decode cJ7_fill_53178 1 = .ok (.istore_n 2, 1) := by decide +kernel
theorem dJ7_fill_53178_2 : decode cJ7_fill_53178 2 = .ok (.aload_n 0, 1) := by decide +kernel
theorem dJ7_fill_53178_3 : decode cJ7_fill_53178 3 = .ok (.arraylength, 1) := by decide +kernel
theorem dJ7_fill_53178_4 : decode cJ7_fill_53178 4 = .ok (.istore_n 3, 1) := by decide +kernel
theorem dJ7_fill_53178_5 : decode cJ7_fill_53178 5 = .ok (.iload_n 2, 1) := by decide +kernel
theorem dJ7_fill_53178_6 : decode cJ7_fill_53178 6 = .ok (.iload_n 3, 1) := by decide +kernel
theorem dJ7_fill_53178_7 : decode cJ7_fill_53178 7 = .ok (.if_icmp .ge 13, 3) := by decide +kernel
theorem dJ7_fill_53178_10 : decode cJ7_fill_53178 10 = .ok (.aload_n 0, 1) := by decide +kernel
theorem dJ7_fill_53178_11 : decode cJ7_fill_53178 11 = .ok (.iload_n 2, 1) := by decide +kernel
theorem dJ7_fill_53178_12 : decode cJ7_fill_53178 12 = .ok (.iload_n 1, 1) := by decide +kernel
theorem dJ7_fill_53178_13 : decode cJ7_fill_53178 13 = .ok (.iastore, 1) := by decide +kernel
theorem dJ7_fill_53178_14 : decode cJ7_fill_53178 14 = .ok (.iinc 2 1, 3) := by decide +kernel
theorem dJ7_fill_53178_17 : decode cJ7_fill_53178 17 = .ok (.goto (-12), 3) := by decide +kernel
theorem dJ7_fill_53178_20 : decode cJ7_fill_53178 20 = .ok (.return_, 1) := by decide +kernel
