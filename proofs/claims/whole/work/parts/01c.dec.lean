theorem dX5_init_0 : decode cX5_init 0 = .ok (.aload_n 0, 1) := by decide +kernel
theorem dX5_init_1 : decode cX5_init 1 = .ok (.invokespecial 1, 3) := by decide +kernel
theorem dX5_init_4 : decode cX5_init 4 = .ok (.aload_n 0, 1) := by decide +kernel
theorem dX5_init_5 : decode cX5_init 5 = .ok (.iconst 3, 1) := by decide +kernel
theorem dX5_init_6 : decode cX5_init 6 = .ok (.anewarray 9, 3) := by decide +kernel
theorem dX5_init_9 : decode cX5_init 9 = .ok (.putfield 11, 3) := by decide +kernel
theorem dX5_init_12 : decode cX5_init 12 = .ok (.aload_n 0, 1) := by decide +kernel
theorem dX5_init_13 : decode cX5_init 13 = .ok (.getfield 11, 3) := by decide +kernel
theorem dX5_init_16 : decode cX5_init 16 = .ok (.iconst 0, 1) := by decide +kernel
theorem dX5_init_17 : decode cX5_init 17 = .ok (.new 9, 3) := by decide +kernel
theorem dX5_init_20 : decode cX5_init 20 = .ok (.dup, 1) := by decide +kernel
theorem dX5_init_21 : decode cX5_init 21 = .ok (.iconst 0, 1) := by decide +kernel
theorem dX5_init_22 : decode cX5_init 22 = .ok (.iconst 3, 1) := by decide +kernel
theorem dX5_init_23 : decode cX5_init 23 = .ok (.bipush 23, 2) := by decide +kernel
theorem dX5_init_25 : decode cX5_init 25 = .ok (.invokespecial 15, 3) := by decide +kernel
theorem dX5_init_28 : decode cX5_init 28 = .ok (.aastore, 1) := by decide +kernel
theorem dX5_init_29 : decode cX5_init 29 = .ok (.aload_n 0, 1) := by decide +kernel
theorem dX5_init_30 : decode cX5_init 30 = .ok (.getfield 11, 3) := by decide +kernel
theorem dX5_init_33 : decode cX5_init 33 = .ok (.iconst 1, 1) := by decide +kernel
theorem dX5_init_34 : decode cX5_init 34 = .ok (.new 9, 3) := by decide +kernel
theorem dX5_init_37 : decode cX5_init 37 = .ok (.dup, 1) := by decide +kernel
theorem dX5_init_38 : decode cX5_init 38 = .ok (.iconst 1, 1) := by decide +kernel
theorem dX5_init_39 : decode cX5_init 39 = .ok (.iconst 4, 1) := by decide +kernel
theorem dX5_init_40 : decode cX5_init 40 = .ok (.bipush 31, 2) := by decide +kernel
theorem dX5_init_42 : decode cX5_init 42 = .ok (.invokespecial 15, 3) := by decide +kernel
theorem dX5_init_45 : decode cX5_init 45 = .ok (.aastore, 1) := by decide +kernel
theorem dX5_init_46 : decode cX5_init 46 = .ok (.aload_n 0, 1) := by decide +kernel
theorem dX5_init_47 : decode cX5_init 47 = .ok (.getfield 11, 3) := by decide +kernel
theorem dX5_init_50 : decode cX5_init 50 = .ok (.iconst 2, 1) := by decide +kernel
theorem dX5_init_51 : decode cX5_init 51 = .ok (.new 9, 3) := by decide +kernel
theorem dX5_init_54 : decode cX5_init 54 = .ok (.dup, 1) := by decide +kernel
theorem dX5_init_55 : decode cX5_init 55 = .ok (.iconst 2, 1) := by decide +kernel
theorem dX5_init_56 : decode cX5_init 56 = .ok (.iconst 1, 1) := by decide +kernel
theorem dX5_init_57 : decode cX5_init 57 = .ok (.bipush 24, 2) := by decide +kernel
theorem dX5_init_59 : decode cX5_init 59 = .ok (.invokespecial 15, 3) := by decide +kernel
theorem dX5_init_62 : decode cX5_init 62 = .ok (.aastore, 1) := by decide +kernel
theorem dX5_init_63 : decode cX5_init 63 = .ok (.aload_n 0, 1) := by decide +kernel
theorem dX5_init_64 : decode cX5_init 64 = .ok (.new 18, 3) := by decide +kernel
theorem dX5_init_67 : decode cX5_init 67 = .ok (.dup, 1) := by decide +kernel
theorem dX5_init_68 : decode cX5_init 68 = .ok (.invokespecial 20, 3) := by decide +kernel
theorem dX5_init_71 : decode cX5_init 71 = .ok (.putfield 21, 3) := by decide +kernel
theorem dX5_init_74 : decode cX5_init 74 = .ok (.aload_n 0, 1) := by decide +kernel
theorem dX5_init_75 : decode cX5_init 75 = .ok (.new 25, 3) := by decide +kernel
theorem dX5_init_78 : decode cX5_init 78 = .ok (.dup, 1) := by decide +kernel
theorem dX5_init_79 : decode cX5_init 79 = .ok (.aload_n 0, 1) := by decide +kernel
theorem dX5_init_80 : decode cX5_init 80 = .ok (.getfield 21, 3) := by decide +kernel
theorem dX5_init_83 : decode cX5_init 83 = .ok (.invokespecial 27, 3) := by decide +kernel
theorem dX5_init_86 : decode cX5_init 86 = .ok (.putfield 30, 3) := by decide +kernel
theorem dX5_init_89 : decode cX5_init 89 = .ok (.aload_n 0, 1) := by decide +kernel
theorem dX5_init_90 : decode cX5_init 90 = .ok (.new 25, 3) := by decide +kernel
theorem dX5_init_93 : decode cX5_init 93 = .ok (.dup, 1) := by decide +kernel
theorem dX5_init_94 : decode cX5_init 94 = .ok (.aload_n 0, 1) := by decide +kernel
theorem dX5_init_95 : decode cX5_init 95 = .ok (.getfield 21, 3) := by decide +kernel
theorem dX5_init_98 : decode cX5_init 98 = .ok (.invokespecial 27, 3) := by decide +kernel
theorem dX5_init_101 : decode cX5_init 101 = .ok (.putfield 34, 3) := by decide +kernel
theorem dX5_init_104 : decode cX5_init 104 = .ok (.aload_n 0, 1) := by decide +kernel
theorem dX5_init_105 : decode cX5_init 105 = .ok (.sipush 256, 3) := by decide +kernel
theorem dX5_init_108 : decode cX5_init 108 = .ok (.newarray .int, 2) := by decide +kernel
theorem dX5_init_110 : decode cX5_init 110 = .ok (.putfield 37, 3) := by decide +kernel
theorem dX5_init_113 : decode cX5_init 113 = .ok (.aload_n 0, 1) := by decide +kernel
theorem dX5_init_114 : decode cX5_init 114 = .ok (.iconst 1, 1) := by decide +kernel
theorem dX5_init_115 : decode cX5_init 115 = .ok (.putfield 41, 3) := by decide +kernel
theorem dX5_init_118 : decode cX5_init 118 = .ok (.aload_n 0, 1) := by decide +kernel
theorem dX5_init_119 : decode cX5_init 119 = .ok (.new 45, 3) := by decide +kernel
theorem dX5_init_122 : decode cX5_init 122 = .ok (.dup, 1) := by decide +kernel
theorem dX5_init_123 : decode cX5_init 123 = .ok (.invokespecial 47, 3) := by decide +kernel
theorem dX5_init_126 : decode cX5_init 126 = .ok (.putfield 48, 3) := by decide +kernel
theorem dX5_init_129 : decode cX5_init 129 = .ok (.aload_n 0, 1) := by decide +kernel
theorem dX5_init_130 : decode cX5_init 130 = .ok (.sipush 240, 3) := by decide +kernel
theorem dX5_init_133 : decode cX5_init 133 = .ok (.newarray .int, 2) := by decide +kernel
theorem dX5_init_135 : decode cX5_init 135 = .ok (.putfield 52, 3) := by decide +kernel
theorem dX5_init_138 : decode cX5_init 138 = .ok (.aload_n 0, 1) := by decide +kernel
theorem dX5_init_139 : decode cX5_init 139 = .ok (.iconst 4, 1) := by decide +kernel
theorem dX5_init_140 : decode cX5_init 140 = .ok (.anewarray 55, 3) := by decide +kernel
theorem dX5_init_143 : decode cX5_init 143 = .ok (.putfield 57, 3) := by decide +kernel
theorem dX5_init_146 : decode cX5_init 146 = .ok (.iconst 0, 1) := by decide +kernel
theorem dX5_init_147 : decode cX5_init 147 = .ok (.istore_n 1, 1) := by decide +kernel
theorem dX5_init_148 : decode cX5_init 148 = .ok (.iload_n 1, 1) := by decide +kernel
theorem dX5_init_149 : decode cX5_init 149 = .ok (.iconst 4, 1) := by decide +kernel
theorem dX5_init_150 : decode cX5_init 150 = .ok (.if_icmp .ge 22, 3) := by decide +kernel
theorem dX5_init_153 : decode cX5_init 153 = .ok (.aload_n 0, 1) := by decide +kernel
theorem dX5_init_154 : decode cX5_init 154 = .ok (.getfield 57, 3) := by decide +kernel
theorem dX5_init_157 : decode cX5_init 157 = .ok (.iload_n 1, 1) := by decide +kernel
theorem dX5_init_158 : decode cX5_init 158 = .ok (.new 55, 3) := by decide +kernel
theorem dX5_init_161 : decode cX5_init 161 = .ok (.dup, 1) := by decide +kernel
theorem dX5_init_162 : decode cX5_init 162 = .ok (.invokespecial 61, 3) := by decide +kernel
theorem dX5_init_165 : decode cX5_init 165 = .ok (.aastore, 1) := by decide +kernel
theorem dX5_init_166 : decode cX5_init 166 = .ok (.iinc 1 1, 3) := by decide +kernel
theorem dX5_init_169 : decode cX5_init 169 = .ok (.goto (-21), 3) := by decide +kernel
theorem dX5_init_172 : decode cX5_init 172 = .ok (.aload_n 0, 1) := by decide +kernel
theorem dX5_init_173 : decode cX5_init 173 = .ok (.iconst 0, 1) := by decide +kernel
theorem dX5_init_174 : decode cX5_init 174 = .ok (.putfield 62, 3) := by decide +kernel
theorem dX5_init_177 : decode cX5_init 177 = .ok (.return_, 1) := by decide +kernel
theorem dX5_type_0 : decode cX5_type 0 = .ok (.iload_n 1, 1) := by decide +kernel
theorem dX5_type_1 : decode cX5_type 1 = .ok (.iconst 3, 1) := by decide +kernel
theorem dX5_type_2 : decode cX5_type 2 = .ok (.invokestatic 66, 3) := by decide +kernel
theorem dX5_type_5 : decode cX5_type 5 = .ok (.ifCond .eq 13, 3) := by decide +kernel
theorem dX5_type_8 : decode cX5_type 8 = .ok (.iload_n 2, 1) := by decide +kernel
theorem dX5_type_9 : decode cX5_type 9 = .ok (.sipush 256, 3) := by decide +kernel
theorem dX5_type_12 : decode cX5_type 12 = .ok (.invokestatic 66, 3) := by decide +kernel
theorem dX5_type_15 : decode cX5_type 15 = .ok (.ifCond .ne 6, 3) := by decide +kernel
theorem dX5_type_18 : decode cX5_type 18 = .ok (.bipush (-2), 2) := by decide +kernel
theorem dX5_type_20 : decode cX5_type 20 = .ok (.ireturn, 1) := by decide +kernel
theorem dX5_type_21 : decode cX5_type 21 = .ok (.aload_n 0, 1) := by decide +kernel
theorem dX5_type_22 : decode cX5_type 22 = .ok (.getfield 11, 3) := by decide +kernel
theorem dX5_type_25 : decode cX5_type 25 = .ok (.iload_n 1, 1) := by decide +kernel
theorem dX5_type_26 : decode cX5_type 26 = .ok (.aaload, 1) := by decide +kernel
theorem dX5_type_27 : decode cX5_type 27 = .ok (.invokevirtual 70, 3) := by decide +kernel
theorem dX5_type_30 : decode cX5_type 30 = .ok (.ifCond .eq 6, 3) := by decide +kernel
theorem dX5_type_33 : decode cX5_type 33 = .ok (.bipush (-4), 2) := by decide +kernel
theorem dX5_type_35 : decode cX5_type 35 = .ok (.ireturn, 1) := by decide +kernel
theorem dX5_type_36 : decode cX5_type 36 = .ok (.aload_n 0, 1) := by decide +kernel
theorem dX5_type_37 : decode cX5_type 37 = .ok (.getfield 11, 3) := by decide +kernel
theorem dX5_type_40 : decode cX5_type 40 = .ok (.iload_n 1, 1) := by decide +kernel
theorem dX5_type_41 : decode cX5_type 41 = .ok (.aaload, 1) := by decide +kernel
theorem dX5_type_42 : decode cX5_type 42 = .ok (.iload_n 2, 1) := by decide +kernel
theorem dX5_type_43 : decode cX5_type 43 = .ok (.invokevirtual 74, 3) := by decide +kernel
theorem dX5_type_46 : decode cX5_type 46 = .ok (.aload_n 0, 1) := by decide +kernel
theorem dX5_type_47 : decode cX5_type 47 = .ok (.iload_n 1, 1) := by decide +kernel
theorem dX5_type_48 : decode cX5_type 48 = .ok (.invokevirtual 78, 3) := by decide +kernel
theorem dX5_type_51 : decode cX5_type 51 = .ok (.aload_n 0, 1) := by decide +kernel
theorem dX5_type_52 : decode cX5_type 52 = .ok (.getfield 11, 3) := by decide +kernel
theorem dX5_type_55 : decode cX5_type 55 = .ok (.iload_n 1, 1) := by decide +kernel
theorem dX5_type_56 : decode cX5_type 56 = .ok (.aaload, 1) := by decide +kernel
theorem dX5_type_57 : decode cX5_type 57 = .ok (.getfield 81, 3) := by decide +kernel
theorem dX5_type_60 : decode cX5_type 60 = .ok (.ireturn, 1) := by decide +kernel
theorem dX5_wipe_0 : decode cX5_wipe 0 = .ok (.iload_n 1, 1) := by decide +kernel
theorem dX5_wipe_1 : decode cX5_wipe 1 = .ok (.iconst 3, 1) := by decide +kernel
theorem dX5_wipe_2 : decode cX5_wipe 2 = .ok (.invokestatic 66, 3) := by decide +kernel
theorem dX5_wipe_5 : decode cX5_wipe 5 = .ok (.ifCond .ne 6, 3) := by decide +kernel
theorem dX5_wipe_8 : decode cX5_wipe 8 = .ok (.bipush (-2), 2) := by decide +kernel
theorem dX5_wipe_10 : decode cX5_wipe 10 = .ok (.ireturn, 1) := by decide +kernel
theorem dX5_wipe_11 : decode cX5_wipe 11 = .ok (.aload_n 0, 1) := by decide +kernel
theorem dX5_wipe_12 : decode cX5_wipe 12 = .ok (.getfield 11, 3) := by decide +kernel
theorem dX5_wipe_15 : decode cX5_wipe 15 = .ok (.iload_n 1, 1) := by decide +kernel
theorem dX5_wipe_16 : decode cX5_wipe 16 = .ok (.aaload, 1) := by decide +kernel
theorem dX5_wipe_17 : decode cX5_wipe 17 = .ok (.getfield 81, 3) := by decide +kernel
theorem dX5_wipe_20 : decode cX5_wipe 20 = .ok (.istore_n 2, 1) := by decide +kernel
theorem dX5_wipe_21 : decode cX5_wipe 21 = .ok (.aload_n 0, 1) := by decide +kernel
theorem dX5_wipe_22 : decode cX5_wipe 22 = .ok (.getfield 11, 3) := by decide +kernel
theorem dX5_wipe_25 : decode cX5_wipe 25 = .ok (.iload_n 1, 1) := by decide +kernel
theorem dX5_wipe_26 : decode cX5_wipe 26 = .ok (.aaload, 1) := by decide +kernel
theorem dX5_wipe_27 : decode cX5_wipe 27 = .ok (.iconst 0, 1) := by decide +kernel
theorem dX5_wipe_28 : decode cX5_wipe 28 = .ok (.invokevirtual 84, 3) := by decide +kernel
theorem dX5_wipe_31 : decode cX5_wipe 31 = .ok (.aload_n 0, 1) := by decide +kernel
theorem dX5_wipe_32 : decode cX5_wipe 32 = .ok (.iload_n 1, 1) := by decide +kernel
theorem dX5_wipe_33 : decode cX5_wipe 33 = .ok (.invokevirtual 78, 3) := by decide +kernel
theorem dX5_wipe_36 : decode cX5_wipe 36 = .ok (.iload_n 2, 1) := by decide +kernel
theorem dX5_wipe_37 : decode cX5_wipe 37 = .ok (.ireturn, 1) := by decide +kernel
theorem dX5_undo_0 : decode cX5_undo 0 = .ok (.iload_n 1, 1) := by decide +kernel
theorem dX5_undo_1 : decode cX5_undo 1 = .ok (.iconst 3, 1) := by decide +kernel
theorem dX5_undo_2 : decode cX5_undo 2 = .ok (.invokestatic 66, 3) := by decide +kernel
theorem dX5_undo_5 : decode cX5_undo 5 = .ok (.ifCond .ne 6, 3) := by decide +kernel
theorem dX5_undo_8 : decode cX5_undo 8 = .ok (.bipush (-2), 2) := by decide +kernel
theorem dX5_undo_10 : decode cX5_undo 10 = .ok (.ireturn, 1) := by decide +kernel
theorem dX5_undo_11 : decode cX5_undo 11 = .ok (.aload_n 0, 1) := by decide +kernel
theorem dX5_undo_12 : decode cX5_undo 12 = .ok (.getfield 11, 3) := by decide +kernel
theorem dX5_undo_15 : decode cX5_undo 15 = .ok (.iload_n 1, 1) := by decide +kernel
theorem dX5_undo_16 : decode cX5_undo 16 = .ok (.aaload, 1) := by decide +kernel
theorem dX5_undo_17 : decode cX5_undo 17 = .ok (.getfield 81, 3) := by decide +kernel
theorem dX5_undo_20 : decode cX5_undo 20 = .ok (.ifCond .ne 6, 3) := by decide +kernel
theorem dX5_undo_23 : decode cX5_undo 23 = .ok (.bipush (-3), 2) := by decide +kernel
theorem dX5_undo_25 : decode cX5_undo 25 = .ok (.ireturn, 1) := by decide +kernel
theorem dX5_undo_26 : decode cX5_undo 26 = .ok (.aload_n 0, 1) := by decide +kernel
theorem dX5_undo_27 : decode cX5_undo 27 = .ok (.getfield 11, 3) := by decide +kernel
theorem dX5_undo_30 : decode cX5_undo 30 = .ok (.iload_n 1, 1) := by decide +kernel
theorem dX5_undo_31 : decode cX5_undo 31 = .ok (.aaload, 1) := by decide +kernel
theorem dX5_undo_32 : decode cX5_undo 32 = .ok (.aload_n 0, 1) := by decide +kernel
theorem dX5_undo_33 : decode cX5_undo 33 = .ok (.getfield 11, 3) := by decide +kernel
theorem dX5_undo_36 : decode cX5_undo 36 = .ok (.iload_n 1, 1) := by decide +kernel
theorem dX5_undo_37 : decode cX5_undo 37 = .ok (.aaload, 1) := by decide +kernel
theorem dX5_undo_38 : decode cX5_undo 38 = .ok (.getfield 81, 3) := by decide +kernel
theorem dX5_undo_41 : decode cX5_undo 41 = .ok (.iconst 1, 1) := by decide +kernel
theorem dX5_undo_42 : decode cX5_undo 42 = .ok (.isub, 1) := by decide +kernel
theorem dX5_undo_43 : decode cX5_undo 43 = .ok (.invokevirtual 84, 3) := by decide +kernel
theorem dX5_undo_46 : decode cX5_undo 46 = .ok (.aload_n 0, 1) := by decide +kernel
theorem dX5_undo_47 : decode cX5_undo 47 = .ok (.iload_n 1, 1) := by decide +kernel
theorem dX5_undo_48 : decode cX5_undo 48 = .ok (.invokevirtual 78, 3) := by decide +kernel
theorem dX5_undo_51 : decode cX5_undo 51 = .ok (.aload_n 0, 1) := by decide +kernel
theorem dX5_undo_52 : decode cX5_undo 52 = .ok (.getfield 11, 3) := by decide +kernel
theorem dX5_undo_55 : decode cX5_undo 55 = .ok (.iload_n 1, 1) := by decide +kernel
theorem dX5_undo_56 : decode cX5_undo 56 = .ok (.aaload, 1) := by decide +kernel
theorem dX5_undo_57 : decode cX5_undo 57 = .ok (.getfield 81, 3) := by decide +kernel
theorem dX5_undo_60 : decode cX5_undo 60 = .ok (.ireturn, 1) := by decide +kernel
theorem dX5_fault_0 : decode cX5_fault 0 = .ok (.iload_n 1, 1) := by decide +kernel
theorem dX5_fault_1 : decode cX5_fault 1 = .ok (.iconst 3, 1) := by decide +kernel
theorem dX5_fault_2 : decode cX5_fault 2 = .ok (.invokestatic 66, 3) := by decide +kernel
theorem dX5_fault_5 : decode cX5_fault 5 = .ok (.ifCond .eq 15, 3) := by decide +kernel
theorem dX5_fault_8 : decode cX5_fault 8 = .ok (.aload_n 0, 1) := by decide +kernel
theorem dX5_fault_9 : decode cX5_fault 9 = .ok (.getfield 11, 3) := by decide +kernel
theorem dX5_fault_12 : decode cX5_fault 12 = .ok (.iload_n 1, 1) := by decide +kernel
theorem dX5_fault_13 : decode cX5_fault 13 = .ok (.aaload, 1) := by decide +kernel
theorem dX5_fault_14 : decode cX5_fault 14 = .ok (.getfield 87, 3) := by decide +kernel
theorem dX5_fault_17 : decode cX5_fault 17 = .ok (.goto 5, 3) := by decide +kernel
theorem dX5_fault_20 : decode cX5_fault 20 = .ok (.bipush (-2), 2) := by decide +kernel
theorem dX5_fault_22 : decode cX5_fault 22 = .ok (.ireturn, 1) := by decide +kernel
theorem dX5_person_0 : decode cX5_person 0 = .ok (.iload_n 1, 1) := by decide +kernel
theorem dX5_person_1 : decode cX5_person 1 = .ok (.aload_n 0, 1) := by decide +kernel
theorem dX5_person_2 : decode cX5_person 2 = .ok (.getfield 21, 3) := by decide +kernel
theorem dX5_person_5 : decode cX5_person 5 = .ok (.getfield 90, 3) := by decide +kernel
theorem dX5_person_8 : decode cX5_person 8 = .ok (.invokestatic 66, 3) := by decide +kernel
theorem dX5_person_11 : decode cX5_person 11 = .ok (.ifCond .eq 11, 3) := by decide +kernel
theorem dX5_person_14 : decode cX5_person 14 = .ok (.iload_n 2, 1) := by decide +kernel
theorem dX5_person_15 : decode cX5_person 15 = .ok (.iconst 2, 1) := by decide +kernel
theorem dX5_person_16 : decode cX5_person 16 = .ok (.invokestatic 66, 3) := by decide +kernel
theorem dX5_person_19 : decode cX5_person 19 = .ok (.ifCond .ne 6, 3) := by decide +kernel
theorem dX5_person_22 : decode cX5_person 22 = .ok (.bipush (-2), 2) := by decide +kernel
theorem dX5_person_24 : decode cX5_person 24 = .ok (.ireturn, 1) := by decide +kernel
theorem dX5_person_25 : decode cX5_person 25 = .ok (.iload_n 2, 1) := by decide +kernel
theorem dX5_person_26 : decode cX5_person 26 = .ok (.ifCond .ne 15, 3) := by decide +kernel
theorem dX5_person_29 : decode cX5_person 29 = .ok (.aload_n 0, 1) := by decide +kernel
theorem dX5_person_30 : decode cX5_person 30 = .ok (.getfield 21, 3) := by decide +kernel
theorem dX5_person_33 : decode cX5_person 33 = .ok (.getfield 93, 3) := by decide +kernel
theorem dX5_person_36 : decode cX5_person 36 = .ok (.iload_n 1, 1) := by decide +kernel
theorem dX5_person_37 : decode cX5_person 37 = .ok (.iaload, 1) := by decide +kernel
theorem dX5_person_38 : decode cX5_person 38 = .ok (.goto 12, 3) := by decide +kernel
theorem dX5_person_41 : decode cX5_person 41 = .ok (.aload_n 0, 1) := by decide +kernel
theorem dX5_person_42 : decode cX5_person 42 = .ok (.getfield 21, 3) := by decide +kernel
theorem dX5_person_45 : decode cX5_person 45 = .ok (.getfield 96, 3) := by decide +kernel
theorem dX5_person_48 : decode cX5_person 48 = .ok (.iload_n 1, 1) := by decide +kernel
theorem dX5_person_49 : decode cX5_person 49 = .ok (.iaload, 1) := by decide +kernel
theorem dX5_person_50 : decode cX5_person 50 = .ok (.ireturn, 1) := by decide +kernel
theorem dX5_quarrel_0 : decode cX5_quarrel 0 = .ok (.iload_n 1, 1) := by decide +kernel
theorem dX5_quarrel_1 : decode cX5_quarrel 1 = .ok (.aload_n 0, 1) := by decide +kernel
theorem dX5_quarrel_2 : decode cX5_quarrel 2 = .ok (.getfield 21, 3) := by decide +kernel
theorem dX5_quarrel_5 : decode cX5_quarrel 5 = .ok (.getfield 99, 3) := by decide +kernel
theorem dX5_quarrel_8 : decode cX5_quarrel 8 = .ok (.invokestatic 66, 3) := by decide +kernel
theorem dX5_quarrel_11 : decode cX5_quarrel 11 = .ok (.ifCond .eq 11, 3) := by decide +kernel
theorem dX5_quarrel_14 : decode cX5_quarrel 14 = .ok (.iload_n 2, 1) := by decide +kernel
theorem dX5_quarrel_15 : decode cX5_quarrel 15 = .ok (.iconst 3, 1) := by decide +kernel
theorem dX5_quarrel_16 : decode cX5_quarrel 16 = .ok (.invokestatic 66, 3) := by decide +kernel
theorem dX5_quarrel_19 : decode cX5_quarrel 19 = .ok (.ifCond .ne 6, 3) := by decide +kernel
theorem dX5_quarrel_22 : decode cX5_quarrel 22 = .ok (.bipush (-2), 2) := by decide +kernel
theorem dX5_quarrel_24 : decode cX5_quarrel 24 = .ok (.ireturn, 1) := by decide +kernel
theorem dX5_quarrel_25 : decode cX5_quarrel 25 = .ok (.iload_n 2, 1) := by decide +kernel
theorem dX5_quarrel_26 : decode cX5_quarrel 26 = .ok (.ifCond .ne 13, 3) := by decide +kernel
theorem dX5_quarrel_29 : decode cX5_quarrel 29 = .ok (.aload_n 0, 1) := by decide +kernel
theorem dX5_quarrel_30 : decode cX5_quarrel 30 = .ok (.getfield 21, 3) := by decide +kernel
theorem dX5_quarrel_33 : decode cX5_quarrel 33 = .ok (.getfield 102, 3) := by decide +kernel
theorem dX5_quarrel_36 : decode cX5_quarrel 36 = .ok (.iload_n 1, 1) := by decide +kernel
theorem dX5_quarrel_37 : decode cX5_quarrel 37 = .ok (.iaload, 1) := by decide +kernel
theorem dX5_quarrel_38 : decode cX5_quarrel 38 = .ok (.ireturn, 1) := by decide +kernel
theorem dX5_quarrel_39 : decode cX5_quarrel 39 = .ok (.iload_n 2, 1) := by decide +kernel
theorem dX5_quarrel_40 : decode cX5_quarrel 40 = .ok (.iconst 1, 1) := by decide +kernel
theorem dX5_quarrel_41 : decode cX5_quarrel 41 = .ok (.if_icmp .ne 15, 3) := by decide +kernel
theorem dX5_quarrel_44 : decode cX5_quarrel 44 = .ok (.aload_n 0, 1) := by decide +kernel
theorem dX5_quarrel_45 : decode cX5_quarrel 45 = .ok (.getfield 21, 3) := by decide +kernel
theorem dX5_quarrel_48 : decode cX5_quarrel 48 = .ok (.getfield 105, 3) := by decide +kernel
theorem dX5_quarrel_51 : decode cX5_quarrel 51 = .ok (.iload_n 1, 1) := by decide +kernel
theorem dX5_quarrel_52 : decode cX5_quarrel 52 = .ok (.iaload, 1) := by decide +kernel
theorem dX5_quarrel_53 : decode cX5_quarrel 53 = .ok (.goto 12, 3) := by decide +kernel
theorem dX5_quarrel_56 : decode cX5_quarrel 56 = .ok (.aload_n 0, 1) := by decide +kernel
theorem dX5_quarrel_57 : decode cX5_quarrel 57 = .ok (.getfield 21, 3) := by decide +kernel
theorem dX5_quarrel_60 : decode cX5_quarrel 60 = .ok (.getfield 108, 3) := by decide +kernel
theorem dX5_quarrel_63 : decode cX5_quarrel 63 = .ok (.iload_n 1, 1) := by decide +kernel
theorem dX5_quarrel_64 : decode cX5_quarrel 64 = .ok (.iaload, 1) := by decide +kernel
theorem dX5_quarrel_65 : decode cX5_quarrel 65 = .ok (.ireturn, 1) := by decide +kernel
theorem dX5_glass_0 : decode cX5_glass 0 = .ok (.iload_n 1, 1) := by decide +kernel
theorem dX5_glass_1 : decode cX5_glass 1 = .ok (.bipush 24, 2) := by decide +kernel
theorem dX5_glass_3 : decode cX5_glass 3 = .ok (.invokestatic 66, 3) := by decide +kernel
theorem dX5_glass_6 : decode cX5_glass 6 = .ok (.ifCond .eq 15, 3) := by decide +kernel
theorem dX5_glass_9 : decode cX5_glass 9 = .ok (.aload_n 0, 1) := by decide +kernel
theorem dX5_glass_10 : decode cX5_glass 10 = .ok (.getfield 21, 3) := by decide +kernel
theorem dX5_glass_13 : decode cX5_glass 13 = .ok (.getfield 111, 3) := by decide +kernel
theorem dX5_glass_16 : decode cX5_glass 16 = .ok (.iload_n 1, 1) := by decide +kernel
theorem dX5_glass_17 : decode cX5_glass 17 = .ok (.iaload, 1) := by decide +kernel
theorem dX5_glass_18 : decode cX5_glass 18 = .ok (.goto 5, 3) := by decide +kernel
theorem dX5_glass_21 : decode cX5_glass 21 = .ok (.bipush (-2), 2) := by decide +kernel
theorem dX5_glass_23 : decode cX5_glass 23 = .ok (.ireturn, 1) := by decide +kernel
theorem dX5_event_0 : decode cX5_event 0 = .ok (.iload_n 1, 1) := by decide +kernel
theorem dX5_event_1 : decode cX5_event 1 = .ok (.iload_n 2, 1) := by decide +kernel
theorem dX5_event_2 : decode cX5_event 2 = .ok (.invokestatic 114, 3) := by decide +kernel
theorem dX5_event_5 : decode cX5_event 5 = .ok (.ifCond .ne 6, 3) := by decide +kernel
theorem dX5_event_8 : decode cX5_event 8 = .ok (.bipush (-2), 2) := by decide +kernel
theorem dX5_event_10 : decode cX5_event 10 = .ok (.ireturn, 1) := by decide +kernel
theorem dX5_event_11 : decode cX5_event 11 = .ok (.aload_n 0, 1) := by decide +kernel
theorem dX5_event_12 : decode cX5_event 12 = .ok (.getfield 21, 3) := by decide +kernel
theorem dX5_event_15 : decode cX5_event 15 = .ok (.getfield 117, 3) := by decide +kernel
theorem dX5_event_18 : decode cX5_event 18 = .ok (.bipush 8, 2) := by decide +kernel
theorem dX5_event_20 : decode cX5_event 20 = .ok (.if_icmp .ne 6, 3) := by decide +kernel
theorem dX5_event_23 : decode cX5_event 23 = .ok (.bipush (-4), 2) := by decide +kernel
theorem dX5_event_25 : decode cX5_event 25 = .ok (.ireturn, 1) := by decide +kernel
theorem dX5_event_26 : decode cX5_event 26 = .ok (.aload_n 0, 1) := by decide +kernel
theorem dX5_event_27 : decode cX5_event 27 = .ok (.getfield 21, 3) := by decide +kernel
theorem dX5_event_30 : decode cX5_event 30 = .ok (.iload_n 1, 1) := by decide +kernel
theorem dX5_event_31 : decode cX5_event 31 = .ok (.iload_n 2, 1) := by decide +kernel
theorem dX5_event_32 : decode cX5_event 32 = .ok (.invokevirtual 120, 3) := by decide +kernel
theorem dX5_event_35 : decode cX5_event 35 = .ok (.aload_n 0, 1) := by decide +kernel
theorem dX5_event_36 : decode cX5_event 36 = .ok (.invokevirtual 124, 3) := by decide +kernel
theorem dX5_event_39 : decode cX5_event 39 = .ok (.aload_n 0, 1) := by decide +kernel
theorem dX5_event_40 : decode cX5_event 40 = .ok (.getfield 21, 3) := by decide +kernel
theorem dX5_event_43 : decode cX5_event 43 = .ok (.getfield 117, 3) := by decide +kernel
theorem dX5_event_46 : decode cX5_event 46 = .ok (.ireturn, 1) := by decide +kernel
theorem dX5_back_0 : decode cX5_back 0 = .ok (.aload_n 0, 1) := by decide +kernel
theorem dX5_back_1 : decode cX5_back 1 = .ok (.getfield 21, 3) := by decide +kernel
theorem dX5_back_4 : decode cX5_back 4 = .ok (.getfield 117, 3) := by decide +kernel
theorem dX5_back_7 : decode cX5_back 7 = .ok (.ifCond .ne 6, 3) := by decide +kernel
theorem dX5_back_10 : decode cX5_back 10 = .ok (.bipush (-3), 2) := by decide +kernel
theorem dX5_back_12 : decode cX5_back 12 = .ok (.ireturn, 1) := by decide +kernel
theorem dX5_back_13 : decode cX5_back 13 = .ok (.aload_n 0, 1) := by decide +kernel
theorem dX5_back_14 : decode cX5_back 14 = .ok (.getfield 21, 3) := by decide +kernel
theorem dX5_back_17 : decode cX5_back 17 = .ok (.invokevirtual 127, 3) := by decide +kernel
theorem dX5_back_20 : decode cX5_back 20 = .ok (.aload_n 0, 1) := by decide +kernel
theorem dX5_back_21 : decode cX5_back 21 = .ok (.invokevirtual 124, 3) := by decide +kernel
theorem dX5_back_24 : decode cX5_back 24 = .ok (.aload_n 0, 1) := by decide +kernel
theorem dX5_back_25 : decode cX5_back 25 = .ok (.getfield 21, 3) := by decide +kernel
theorem dX5_back_28 : decode cX5_back 28 = .ok (.getfield 117, 3) := by decide +kernel
theorem dX5_back_31 : decode cX5_back 31 = .ok (.ireturn, 1) := by decide +kernel
theorem dX5_read_0 : decode cX5_read 0 = .ok (.iload_n 1, 1) := by decide +kernel
theorem dX5_read_1 : decode cX5_read 1 = .ok (.iconst 4, 1) := by decide +kernel
theorem dX5_read_2 : decode cX5_read 2 = .ok (.invokestatic 66, 3) := by decide +kernel
theorem dX5_read_5 : decode cX5_read 5 = .ok (.ifCond .ne 6, 3) := by decide +kernel
theorem dX5_read_8 : decode cX5_read 8 = .ok (.bipush (-2), 2) := by decide +kernel
theorem dX5_read_10 : decode cX5_read 10 = .ok (.ireturn, 1) := by decide +kernel
theorem dX5_read_11 : decode cX5_read 11 = .ok (.aload_n 0, 1) := by decide +kernel
theorem dX5_read_12 : decode cX5_read 12 = .ok (.getfield 57, 3) := by decide +kernel
theorem dX5_read_15 : decode cX5_read 15 = .ok (.iload_n 1, 1) := by decide +kernel
theorem dX5_read_16 : decode cX5_read 16 = .ok (.aaload, 1) := by decide +kernel
theorem dX5_read_17 : decode cX5_read 17 = .ok (.invokevirtual 130, 3) := by decide +kernel
theorem dX5_read_20 : decode cX5_read 20 = .ok (.ifCond .eq 9, 3) := by decide +kernel
theorem dX5_read_23 : decode cX5_read 23 = .ok (.aload_n 0, 1) := by decide +kernel
theorem dX5_read_24 : decode cX5_read 24 = .ok (.iconst 1, 1) := by decide +kernel
theorem dX5_read_25 : decode cX5_read 25 = .ok (.invokevirtual 133, 3) := by decide +kernel
theorem dX5_read_28 : decode cX5_read 28 = .ok (.ireturn, 1) := by decide +kernel
theorem dX5_read_29 : decode cX5_read 29 = .ok (.iconst 0, 1) := by decide +kernel
theorem dX5_read_30 : decode cX5_read 30 = .ok (.istore_n 2, 1) := by decide +kernel
theorem dX5_read_31 : decode cX5_read 31 = .ok (.iconst 0, 1) := by decide +kernel
theorem dX5_read_32 : decode cX5_read 32 = .ok (.istore_n 3, 1) := by decide +kernel
theorem dX5_read_33 : decode cX5_read 33 = .ok (.iload_n 3, 1) := by decide +kernel
theorem dX5_read_34 : decode cX5_read 34 = .ok (.iconst 1, 1) := by decide +kernel
theorem dX5_read_35 : decode cX5_read 35 = .ok (.iadd, 1) := by decide +kernel
theorem dX5_read_36 : decode cX5_read 36 = .ok (.aload_n 0, 1) := by decide +kernel
theorem dX5_read_37 : decode cX5_read 37 = .ok (.getfield 57, 3) := by decide +kernel
theorem dX5_read_40 : decode cX5_read 40 = .ok (.iload_n 1, 1) := by decide +kernel
theorem dX5_read_41 : decode cX5_read 41 = .ok (.aaload, 1) := by decide +kernel
theorem dX5_read_42 : decode cX5_read 42 = .ok (.getfield 137, 3) := by decide +kernel
theorem dX5_read_45 : decode cX5_read 45 = .ok (.if_icmp .ge 76, 3) := by decide +kernel
theorem dX5_read_48 : decode cX5_read 48 = .ok (.aload_n 0, 1) := by decide +kernel
theorem dX5_read_49 : decode cX5_read 49 = .ok (.getfield 21, 3) := by decide +kernel
theorem dX5_read_52 : decode cX5_read 52 = .ok (.getfield 117, 3) := by decide +kernel
theorem dX5_read_55 : decode cX5_read 55 = .ok (.bipush 8, 2) := by decide +kernel
theorem dX5_read_57 : decode cX5_read 57 = .ok (.if_icmp .ge 64, 3) := by decide +kernel
theorem dX5_read_60 : decode cX5_read 60 = .ok (.aload_n 0, 1) := by decide +kernel
theorem dX5_read_61 : decode cX5_read 61 = .ok (.getfield 57, 3) := by decide +kernel
theorem dX5_read_64 : decode cX5_read 64 = .ok (.iload_n 1, 1) := by decide +kernel
theorem dX5_read_65 : decode cX5_read 65 = .ok (.aaload, 1) := by decide +kernel
theorem dX5_read_66 : decode cX5_read 66 = .ok (.getfield 138, 3) := by decide +kernel
theorem dX5_read_69 : decode cX5_read 69 = .ok (.iload_n 3, 1) := by decide +kernel
theorem dX5_read_70 : decode cX5_read 70 = .ok (.iaload, 1) := by decide +kernel
theorem dX5_read_71 : decode cX5_read 71 = .ok (.istore 4, 2) := by decide +kernel
theorem dX5_read_73 : decode cX5_read 73 = .ok (.aload_n 0, 1) := by decide +kernel
theorem dX5_read_74 : decode cX5_read 74 = .ok (.getfield 57, 3) := by decide +kernel
theorem dX5_read_77 : decode cX5_read 77 = .ok (.iload_n 1, 1) := by decide +kernel
theorem dX5_read_78 : decode cX5_read 78 = .ok (.aaload, 1) := by decide +kernel
theorem dX5_read_79 : decode cX5_read 79 = .ok (.getfield 138, 3) := by decide +kernel
theorem dX5_read_82 : decode cX5_read 82 = .ok (.iload_n 3, 1) := by decide +kernel
theorem dX5_read_83 : decode cX5_read 83 = .ok (.iconst 1, 1) := by decide +kernel
theorem dX5_read_84 : decode cX5_read 84 = .ok (.iadd, 1) := by decide +kernel
theorem dX5_read_85 : decode cX5_read 85 = .ok (.iaload, 1) := by decide +kernel
theorem dX5_read_86 : decode cX5_read 86 = .ok (.istore 5, 2) := by decide +kernel
theorem dX5_read_88 : decode cX5_read 88 = .ok (.iload 4, 2) := by decide +kernel
theorem dX5_read_90 : decode cX5_read 90 = .ok (.iload 5, 2) := by decide +kernel
theorem dX5_read_92 : decode cX5_read 92 = .ok (.invokestatic 114, 3) := by decide +kernel
theorem dX5_read_95 : decode cX5_read 95 = .ok (.ifCond .ne 6, 3) := by decide +kernel
theorem dX5_read_98 : decode cX5_read 98 = .ok (.goto 23, 3) := by decide +kernel
theorem dX5_read_101 : decode cX5_read 101 = .ok (.aload_n 0, 1) := by decide +kernel
theorem dX5_read_102 : decode cX5_read 102 = .ok (.getfield 21, 3) := by decide +kernel
theorem dX5_read_105 : decode cX5_read 105 = .ok (.iload 4, 2) := by decide +kernel
theorem dX5_read_107 : decode cX5_read 107 = .ok (.iload 5, 2) := by decide +kernel
theorem dX5_read_109 : decode cX5_read 109 = .ok (.invokevirtual 120, 3) := by decide +kernel
theorem dX5_read_112 : decode cX5_read 112 = .ok (.iinc 2 1, 3) := by decide +kernel
theorem dX5_read_115 : decode cX5_read 115 = .ok (.iinc 3 2, 3) := by decide +kernel
theorem dX5_read_118 : decode cX5_read 118 = .ok (.goto (-85), 3) := by decide +kernel
theorem dX5_read_121 : decode cX5_read 121 = .ok (.aload_n 0, 1) := by decide +kernel
theorem dX5_read_122 : decode cX5_read 122 = .ok (.invokevirtual 124, 3) := by decide +kernel
theorem dX5_read_125 : decode cX5_read 125 = .ok (.iload_n 2, 1) := by decide +kernel
theorem dX5_read_126 : decode cX5_read 126 = .ok (.ireturn, 1) := by decide +kernel
theorem dX5_stands_0 : decode cX5_stands 0 = .ok (.iload_n 1, 1) := by decide +kernel
theorem dX5_stands_1 : decode cX5_stands 1 = .ok (.bipush 24, 2) := by decide +kernel
theorem dX5_stands_3 : decode cX5_stands 3 = .ok (.invokestatic 66, 3) := by decide +kernel
theorem dX5_stands_6 : decode cX5_stands 6 = .ok (.ifCond .eq 25, 3) := by decide +kernel
theorem dX5_stands_9 : decode cX5_stands 9 = .ok (.iload_n 2, 1) := by decide +kernel
theorem dX5_stands_10 : decode cX5_stands 10 = .ok (.aload_n 0, 1) := by decide +kernel
theorem dX5_stands_11 : decode cX5_stands 11 = .ok (.getfield 21, 3) := by decide +kernel
theorem dX5_stands_14 : decode cX5_stands 14 = .ok (.getfield 99, 3) := by decide +kernel
theorem dX5_stands_17 : decode cX5_stands 17 = .ok (.invokestatic 66, 3) := by decide +kernel
theorem dX5_stands_20 : decode cX5_stands 20 = .ok (.ifCond .eq 11, 3) := by decide +kernel
theorem dX5_stands_23 : decode cX5_stands 23 = .ok (.iload_n 3, 1) := by decide +kernel
theorem dX5_stands_24 : decode cX5_stands 24 = .ok (.iconst 3, 1) := by decide +kernel
theorem dX5_stands_25 : decode cX5_stands 25 = .ok (.invokestatic 66, 3) := by decide +kernel
theorem dX5_stands_28 : decode cX5_stands 28 = .ok (.ifCond .ne 6, 3) := by decide +kernel
theorem dX5_stands_31 : decode cX5_stands 31 = .ok (.bipush (-2), 2) := by decide +kernel
theorem dX5_stands_33 : decode cX5_stands 33 = .ok (.ireturn, 1) := by decide +kernel
theorem dX5_stands_34 : decode cX5_stands 34 = .ok (.aload_n 0, 1) := by decide +kernel
theorem dX5_stands_35 : decode cX5_stands 35 = .ok (.getfield 30, 3) := by decide +kernel
theorem dX5_stands_38 : decode cX5_stands 38 = .ok (.iload_n 1, 1) := by decide +kernel
theorem dX5_stands_39 : decode cX5_stands 39 = .ok (.invokevirtual 141, 3) := by decide +kernel
theorem dX5_stands_42 : decode cX5_stands 42 = .ok (.iload_n 3, 1) := by decide +kernel
theorem dX5_stands_43 : decode cX5_stands 43 = .ok (.ifCond .ne 12, 3) := by decide +kernel
theorem dX5_stands_46 : decode cX5_stands 46 = .ok (.aload_n 0, 1) := by decide +kernel
theorem dX5_stands_47 : decode cX5_stands 47 = .ok (.getfield 30, 3) := by decide +kernel
theorem dX5_stands_50 : decode cX5_stands 50 = .ok (.iload_n 2, 1) := by decide +kernel
theorem dX5_stands_51 : decode cX5_stands 51 = .ok (.invokevirtual 144, 3) := by decide +kernel
theorem dX5_stands_54 : decode cX5_stands 54 = .ok (.ireturn, 1) := by decide +kernel
theorem dX5_stands_55 : decode cX5_stands 55 = .ok (.iload_n 3, 1) := by decide +kernel
theorem dX5_stands_56 : decode cX5_stands 56 = .ok (.iconst 1, 1) := by decide +kernel
theorem dX5_stands_57 : decode cX5_stands 57 = .ok (.if_icmp .ne 15, 3) := by decide +kernel
theorem dX5_stands_60 : decode cX5_stands 60 = .ok (.aload_n 0, 1) := by decide +kernel
theorem dX5_stands_61 : decode cX5_stands 61 = .ok (.getfield 30, 3) := by decide +kernel
theorem dX5_stands_64 : decode cX5_stands 64 = .ok (.getfield 147, 3) := by decide +kernel
theorem dX5_stands_67 : decode cX5_stands 67 = .ok (.iload_n 2, 1) := by decide +kernel
theorem dX5_stands_68 : decode cX5_stands 68 = .ok (.iaload, 1) := by decide +kernel
theorem dX5_stands_69 : decode cX5_stands 69 = .ok (.goto 12, 3) := by decide +kernel
theorem dX5_stands_72 : decode cX5_stands 72 = .ok (.aload_n 0, 1) := by decide +kernel
theorem dX5_stands_73 : decode cX5_stands 73 = .ok (.getfield 30, 3) := by decide +kernel
theorem dX5_stands_76 : decode cX5_stands 76 = .ok (.getfield 150, 3) := by decide +kernel
theorem dX5_stands_79 : decode cX5_stands 79 = .ok (.iload_n 2, 1) := by decide +kernel
theorem dX5_stands_80 : decode cX5_stands 80 = .ok (.iaload, 1) := by decide +kernel
theorem dX5_stands_81 : decode cX5_stands 81 = .ok (.ireturn, 1) := by decide +kernel
theorem dX5_at_0 : decode cX5_at 0 = .ok (.iload_n 1, 1) := by decide +kernel
theorem dX5_at_1 : decode cX5_at 1 = .ok (.bipush 24, 2) := by decide +kernel
theorem dX5_at_3 : decode cX5_at 3 = .ok (.invokestatic 66, 3) := by decide +kernel
theorem dX5_at_6 : decode cX5_at 6 = .ok (.ifCond .eq 25, 3) := by decide +kernel
theorem dX5_at_9 : decode cX5_at 9 = .ok (.iload_n 2, 1) := by decide +kernel
theorem dX5_at_10 : decode cX5_at 10 = .ok (.aload_n 0, 1) := by decide +kernel
theorem dX5_at_11 : decode cX5_at 11 = .ok (.getfield 21, 3) := by decide +kernel
theorem dX5_at_14 : decode cX5_at 14 = .ok (.getfield 90, 3) := by decide +kernel
theorem dX5_at_17 : decode cX5_at 17 = .ok (.invokestatic 66, 3) := by decide +kernel
theorem dX5_at_20 : decode cX5_at 20 = .ok (.ifCond .eq 11, 3) := by decide +kernel
theorem dX5_at_23 : decode cX5_at 23 = .ok (.iload_n 3, 1) := by decide +kernel
theorem dX5_at_24 : decode cX5_at 24 = .ok (.iconst 3, 1) := by decide +kernel
theorem dX5_at_25 : decode cX5_at 25 = .ok (.invokestatic 66, 3) := by decide +kernel
theorem dX5_at_28 : decode cX5_at 28 = .ok (.ifCond .ne 6, 3) := by decide +kernel
theorem dX5_at_31 : decode cX5_at 31 = .ok (.bipush (-2), 2) := by decide +kernel
theorem dX5_at_33 : decode cX5_at 33 = .ok (.ireturn, 1) := by decide +kernel
theorem dX5_at_34 : decode cX5_at 34 = .ok (.aload_n 0, 1) := by decide +kernel
theorem dX5_at_35 : decode cX5_at 35 = .ok (.getfield 30, 3) := by decide +kernel
theorem dX5_at_38 : decode cX5_at 38 = .ok (.iload_n 1, 1) := by decide +kernel
theorem dX5_at_39 : decode cX5_at 39 = .ok (.invokevirtual 141, 3) := by decide +kernel
theorem dX5_at_42 : decode cX5_at 42 = .ok (.iload_n 3, 1) := by decide +kernel
theorem dX5_at_43 : decode cX5_at 43 = .ok (.ifCond .ne 13, 3) := by decide +kernel
theorem dX5_at_46 : decode cX5_at 46 = .ok (.aload_n 0, 1) := by decide +kernel
theorem dX5_at_47 : decode cX5_at 47 = .ok (.getfield 30, 3) := by decide +kernel
theorem dX5_at_50 : decode cX5_at 50 = .ok (.getfield 153, 3) := by decide +kernel
theorem dX5_at_53 : decode cX5_at 53 = .ok (.iload_n 2, 1) := by decide +kernel
theorem dX5_at_54 : decode cX5_at 54 = .ok (.iaload, 1) := by decide +kernel
theorem dX5_at_55 : decode cX5_at 55 = .ok (.ireturn, 1) := by decide +kernel
theorem dX5_at_56 : decode cX5_at 56 = .ok (.iload_n 3, 1) := by decide +kernel
theorem dX5_at_57 : decode cX5_at 57 = .ok (.iconst 1, 1) := by decide +kernel
theorem dX5_at_58 : decode cX5_at 58 = .ok (.if_icmp .ne 15, 3) := by decide +kernel
theorem dX5_at_61 : decode cX5_at 61 = .ok (.aload_n 0, 1) := by decide +kernel
theorem dX5_at_62 : decode cX5_at 62 = .ok (.getfield 30, 3) := by decide +kernel
theorem dX5_at_65 : decode cX5_at 65 = .ok (.getfield 156, 3) := by decide +kernel
theorem dX5_at_68 : decode cX5_at 68 = .ok (.iload_n 2, 1) := by decide +kernel
theorem dX5_at_69 : decode cX5_at 69 = .ok (.iaload, 1) := by decide +kernel
theorem dX5_at_70 : decode cX5_at 70 = .ok (.goto 12, 3) := by decide +kernel
theorem dX5_at_73 : decode cX5_at 73 = .ok (.aload_n 0, 1) := by decide +kernel
theorem dX5_at_74 : decode cX5_at 74 = .ok (.getfield 30, 3) := by decide +kernel
theorem dX5_at_77 : decode cX5_at 77 = .ok (.getfield 159, 3) := by decide +kernel
theorem dX5_at_80 : decode cX5_at 80 = .ok (.iload_n 2, 1) := by decide +kernel
theorem dX5_at_81 : decode cX5_at 81 = .ok (.iaload, 1) := by decide +kernel
theorem dX5_at_82 : decode cX5_at 82 = .ok (.ireturn, 1) := by decide +kernel
theorem dX5_stock_0 : decode cX5_stock 0 = .ok (.iload_n 1, 1) := by decide +kernel
theorem dX5_stock_1 : decode cX5_stock 1 = .ok (.bipush 24, 2) := by decide +kernel
theorem dX5_stock_3 : decode cX5_stock 3 = .ok (.invokestatic 66, 3) := by decide +kernel
theorem dX5_stock_6 : decode cX5_stock 6 = .ok (.ifCond .eq 11, 3) := by decide +kernel
theorem dX5_stock_9 : decode cX5_stock 9 = .ok (.iload_n 2, 1) := by decide +kernel
theorem dX5_stock_10 : decode cX5_stock 10 = .ok (.iconst 2, 1) := by decide +kernel
theorem dX5_stock_11 : decode cX5_stock 11 = .ok (.invokestatic 66, 3) := by decide +kernel
theorem dX5_stock_14 : decode cX5_stock 14 = .ok (.ifCond .ne 6, 3) := by decide +kernel
theorem dX5_stock_17 : decode cX5_stock 17 = .ok (.bipush (-2), 2) := by decide +kernel
theorem dX5_stock_19 : decode cX5_stock 19 = .ok (.ireturn, 1) := by decide +kernel
theorem dX5_stock_20 : decode cX5_stock 20 = .ok (.aload_n 0, 1) := by decide +kernel
theorem dX5_stock_21 : decode cX5_stock 21 = .ok (.getfield 30, 3) := by decide +kernel
theorem dX5_stock_24 : decode cX5_stock 24 = .ok (.iload_n 1, 1) := by decide +kernel
theorem dX5_stock_25 : decode cX5_stock 25 = .ok (.invokevirtual 141, 3) := by decide +kernel
theorem dX5_stock_28 : decode cX5_stock 28 = .ok (.iload_n 2, 1) := by decide +kernel
theorem dX5_stock_29 : decode cX5_stock 29 = .ok (.ifCond .ne 13, 3) := by decide +kernel
theorem dX5_stock_32 : decode cX5_stock 32 = .ok (.aload_n 0, 1) := by decide +kernel
theorem dX5_stock_33 : decode cX5_stock 33 = .ok (.getfield 30, 3) := by decide +kernel
theorem dX5_stock_36 : decode cX5_stock 36 = .ok (.getfield 162, 3) := by decide +kernel
theorem dX5_stock_39 : decode cX5_stock 39 = .ok (.goto 10, 3) := by decide +kernel
theorem dX5_stock_42 : decode cX5_stock 42 = .ok (.aload_n 0, 1) := by decide +kernel
theorem dX5_stock_43 : decode cX5_stock 43 = .ok (.getfield 30, 3) := by decide +kernel
theorem dX5_stock_46 : decode cX5_stock 46 = .ok (.invokevirtual 165, 3) := by decide +kernel
theorem dX5_stock_49 : decode cX5_stock 49 = .ok (.ireturn, 1) := by decide +kernel
theorem dX5_over_0 : decode cX5_over 0 = .ok (.iload_n 1, 1) := by decide +kernel
theorem dX5_over_1 : decode cX5_over 1 = .ok (.aload_n 0, 1) := by decide +kernel
theorem dX5_over_2 : decode cX5_over 2 = .ok (.getfield 21, 3) := by decide +kernel
theorem dX5_over_5 : decode cX5_over 5 = .ok (.getfield 99, 3) := by decide +kernel
theorem dX5_over_8 : decode cX5_over 8 = .ok (.invokestatic 66, 3) := by decide +kernel
theorem dX5_over_11 : decode cX5_over 11 = .ok (.ifCond .ne 6, 3) := by decide +kernel
theorem dX5_over_14 : decode cX5_over 14 = .ok (.bipush (-2), 2) := by decide +kernel
theorem dX5_over_16 : decode cX5_over 16 = .ok (.ireturn, 1) := by decide +kernel
theorem dX5_over_17 : decode cX5_over 17 = .ok (.aload_n 0, 1) := by decide +kernel
theorem dX5_over_18 : decode cX5_over 18 = .ok (.getfield 30, 3) := by decide +kernel
theorem dX5_over_21 : decode cX5_over 21 = .ok (.bipush 23, 2) := by decide +kernel
theorem dX5_over_23 : decode cX5_over 23 = .ok (.invokevirtual 141, 3) := by decide +kernel
theorem dX5_over_26 : decode cX5_over 26 = .ok (.aload_n 0, 1) := by decide +kernel
theorem dX5_over_27 : decode cX5_over 27 = .ok (.getfield 30, 3) := by decide +kernel
theorem dX5_over_30 : decode cX5_over 30 = .ok (.getfield 169, 3) := by decide +kernel
theorem dX5_over_33 : decode cX5_over 33 = .ok (.iload_n 1, 1) := by decide +kernel
theorem dX5_over_34 : decode cX5_over 34 = .ok (.iaload, 1) := by decide +kernel
theorem dX5_over_35 : decode cX5_over 35 = .ok (.ireturn, 1) := by decide +kernel
theorem dX5_mist_0 : decode cX5_mist 0 = .ok (.iload_n 1, 1) := by decide +kernel
theorem dX5_mist_1 : decode cX5_mist 1 = .ok (.iconst 2, 1) := by decide +kernel
theorem dX5_mist_2 : decode cX5_mist 2 = .ok (.invokestatic 66, 3) := by decide +kernel
theorem dX5_mist_5 : decode cX5_mist 5 = .ok (.ifCond .ne 6, 3) := by decide +kernel
theorem dX5_mist_8 : decode cX5_mist 8 = .ok (.bipush (-2), 2) := by decide +kernel
theorem dX5_mist_10 : decode cX5_mist 10 = .ok (.ireturn, 1) := by decide +kernel
theorem dX5_mist_11 : decode cX5_mist 11 = .ok (.aload_n 0, 1) := by decide +kernel
theorem dX5_mist_12 : decode cX5_mist 12 = .ok (.getfield 30, 3) := by decide +kernel
theorem dX5_mist_15 : decode cX5_mist 15 = .ok (.bipush 23, 2) := by decide +kernel
theorem dX5_mist_17 : decode cX5_mist 17 = .ok (.invokevirtual 141, 3) := by decide +kernel
theorem dX5_mist_20 : decode cX5_mist 20 = .ok (.iload_n 1, 1) := by decide +kernel
theorem dX5_mist_21 : decode cX5_mist 21 = .ok (.ifCond .ne 13, 3) := by decide +kernel
theorem dX5_mist_24 : decode cX5_mist 24 = .ok (.aload_n 0, 1) := by decide +kernel
theorem dX5_mist_25 : decode cX5_mist 25 = .ok (.getfield 30, 3) := by decide +kernel
theorem dX5_mist_28 : decode cX5_mist 28 = .ok (.getfield 172, 3) := by decide +kernel
theorem dX5_mist_31 : decode cX5_mist 31 = .ok (.goto 10, 3) := by decide +kernel
theorem dX5_mist_34 : decode cX5_mist 34 = .ok (.aload_n 0, 1) := by decide +kernel
theorem dX5_mist_35 : decode cX5_mist 35 = .ok (.getfield 30, 3) := by decide +kernel
theorem dX5_mist_38 : decode cX5_mist 38 = .ok (.getfield 175, 3) := by decide +kernel
theorem dX5_mist_41 : decode cX5_mist 41 = .ok (.ireturn, 1) := by decide +kernel
theorem dX5_waste_0 : decode cX5_waste 0 = .ok (.aload_n 0, 1) := by decide +kernel
theorem dX5_waste_1 : decode cX5_waste 1 = .ok (.getfield 30, 3) := by decide +kernel
theorem dX5_waste_4 : decode cX5_waste 4 = .ok (.bipush 23, 2) := by decide +kernel
theorem dX5_waste_6 : decode cX5_waste 6 = .ok (.invokevirtual 141, 3) := by decide +kernel
theorem dX5_waste_9 : decode cX5_waste 9 = .ok (.aload_n 0, 1) := by decide +kernel
theorem dX5_waste_10 : decode cX5_waste 10 = .ok (.getfield 30, 3) := by decide +kernel
theorem dX5_waste_13 : decode cX5_waste 13 = .ok (.getfield 178, 3) := by decide +kernel
theorem dX5_waste_16 : decode cX5_waste 16 = .ok (.ireturn, 1) := by decide +kernel
theorem dX5_goldest_0 : decode cX5_goldest 0 = .ok (.aload_n 0, 1) := by decide +kernel
theorem dX5_goldest_1 : decode cX5_goldest 1 = .ok (.getfield 30, 3) := by decide +kernel
theorem dX5_goldest_4 : decode cX5_goldest 4 = .ok (.bipush 23, 2) := by decide +kernel
theorem dX5_goldest_6 : decode cX5_goldest 6 = .ok (.invokevirtual 141, 3) := by decide +kernel
theorem dX5_goldest_9 : decode cX5_goldest 9 = .ok (.iconst (-1), 1) := by decide +kernel
theorem dX5_goldest_10 : decode cX5_goldest 10 = .ok (.istore_n 1, 1) := by decide +kernel
theorem dX5_goldest_11 : decode cX5_goldest 11 = .ok (.iconst 0, 1) := by decide +kernel
theorem dX5_goldest_12 : decode cX5_goldest 12 = .ok (.istore_n 2, 1) := by decide +kernel
theorem dX5_goldest_13 : decode cX5_goldest 13 = .ok (.iload_n 2, 1) := by decide +kernel
theorem dX5_goldest_14 : decode cX5_goldest 14 = .ok (.aload_n 0, 1) := by decide +kernel
theorem dX5_goldest_15 : decode cX5_goldest 15 = .ok (.getfield 21, 3) := by decide +kernel
theorem dX5_goldest_18 : decode cX5_goldest 18 = .ok (.getfield 90, 3) := by decide +kernel
theorem dX5_goldest_21 : decode cX5_goldest 21 = .ok (.if_icmp .ge 37, 3) := by decide +kernel
theorem dX5_goldest_24 : decode cX5_goldest 24 = .ok (.iload_n 1, 1) := by decide +kernel
theorem dX5_goldest_25 : decode cX5_goldest 25 = .ok (.iconst (-1), 1) := by decide +kernel
theorem dX5_goldest_26 : decode cX5_goldest 26 = .ok (.if_icmp .eq 24, 3) := by decide +kernel
theorem dX5_goldest_29 : decode cX5_goldest 29 = .ok (.aload_n 0, 1) := by decide +kernel
theorem dX5_goldest_30 : decode cX5_goldest 30 = .ok (.getfield 30, 3) := by decide +kernel
theorem dX5_goldest_33 : decode cX5_goldest 33 = .ok (.getfield 153, 3) := by decide +kernel
theorem dX5_goldest_36 : decode cX5_goldest 36 = .ok (.iload_n 2, 1) := by decide +kernel
theorem dX5_goldest_37 : decode cX5_goldest 37 = .ok (.iaload, 1) := by decide +kernel
theorem dX5_goldest_38 : decode cX5_goldest 38 = .ok (.aload_n 0, 1) := by decide +kernel
theorem dX5_goldest_39 : decode cX5_goldest 39 = .ok (.getfield 30, 3) := by decide +kernel
theorem dX5_goldest_42 : decode cX5_goldest 42 = .ok (.getfield 153, 3) := by decide +kernel
theorem dX5_goldest_45 : decode cX5_goldest 45 = .ok (.iload_n 1, 1) := by decide +kernel
theorem dX5_goldest_46 : decode cX5_goldest 46 = .ok (.iaload, 1) := by decide +kernel
theorem dX5_goldest_47 : decode cX5_goldest 47 = .ok (.if_icmp .le 5, 3) := by decide +kernel
theorem dX5_goldest_50 : decode cX5_goldest 50 = .ok (.iload_n 2, 1) := by decide +kernel
theorem dX5_goldest_51 : decode cX5_goldest 51 = .ok (.istore_n 1, 1) := by decide +kernel
theorem dX5_goldest_52 : decode cX5_goldest 52 = .ok (.iinc 2 1, 3) := by decide +kernel
theorem dX5_goldest_55 : decode cX5_goldest 55 = .ok (.goto (-42), 3) := by decide +kernel
theorem dX5_goldest_58 : decode cX5_goldest 58 = .ok (.iload_n 1, 1) := by decide +kernel
theorem dX5_goldest_59 : decode cX5_goldest 59 = .ok (.ireturn, 1) := by decide +kernel
theorem dX5_peace_0 : decode cX5_peace 0 = .ok (.aload_n 0, 1) := by decide +kernel
theorem dX5_peace_1 : decode cX5_peace 1 = .ok (.getfield 30, 3) := by decide +kernel
theorem dX5_peace_4 : decode cX5_peace 4 = .ok (.bipush 23, 2) := by decide +kernel
theorem dX5_peace_6 : decode cX5_peace 6 = .ok (.invokevirtual 141, 3) := by decide +kernel
theorem dX5_peace_9 : decode cX5_peace 9 = .ok (.aload_n 0, 1) := by decide +kernel
theorem dX5_peace_10 : decode cX5_peace 10 = .ok (.getfield 30, 3) := by decide +kernel
theorem dX5_peace_13 : decode cX5_peace 13 = .ok (.invokevirtual 181, 3) := by decide +kernel
theorem dX5_peace_16 : decode cX5_peace 16 = .ok (.ireturn, 1) := by decide +kernel
theorem dX5_chin_0 : decode cX5_chin 0 = .ok (.iload_n 1, 1) := by decide +kernel
theorem dX5_chin_1 : decode cX5_chin 1 = .ok (.aload_n 0, 1) := by decide +kernel
theorem dX5_chin_2 : decode cX5_chin 2 = .ok (.getfield 21, 3) := by decide +kernel
theorem dX5_chin_5 : decode cX5_chin 5 = .ok (.getfield 99, 3) := by decide +kernel
theorem dX5_chin_8 : decode cX5_chin 8 = .ok (.invokestatic 66, 3) := by decide +kernel
theorem dX5_chin_11 : decode cX5_chin 11 = .ok (.ifCond .eq 11, 3) := by decide +kernel
theorem dX5_chin_14 : decode cX5_chin 14 = .ok (.iload_n 2, 1) := by decide +kernel
theorem dX5_chin_15 : decode cX5_chin 15 = .ok (.iconst 2, 1) := by decide +kernel
theorem dX5_chin_16 : decode cX5_chin 16 = .ok (.invokestatic 66, 3) := by decide +kernel
theorem dX5_chin_19 : decode cX5_chin 19 = .ok (.ifCond .ne 6, 3) := by decide +kernel
theorem dX5_chin_22 : decode cX5_chin 22 = .ok (.bipush (-2), 2) := by decide +kernel
theorem dX5_chin_24 : decode cX5_chin 24 = .ok (.ireturn, 1) := by decide +kernel
theorem dX5_chin_25 : decode cX5_chin 25 = .ok (.aload_n 0, 1) := by decide +kernel
theorem dX5_chin_26 : decode cX5_chin 26 = .ok (.getfield 34, 3) := by decide +kernel
theorem dX5_chin_29 : decode cX5_chin 29 = .ok (.invokevirtual 184, 3) := by decide +kernel
theorem dX5_chin_32 : decode cX5_chin 32 = .ok (.aload_n 0, 1) := by decide +kernel
theorem dX5_chin_33 : decode cX5_chin 33 = .ok (.getfield 34, 3) := by decide +kernel
theorem dX5_chin_36 : decode cX5_chin 36 = .ok (.getfield 150, 3) := by decide +kernel
theorem dX5_chin_39 : decode cX5_chin 39 = .ok (.iload_n 1, 1) := by decide +kernel
theorem dX5_chin_40 : decode cX5_chin 40 = .ok (.iaload, 1) := by decide +kernel
theorem dX5_chin_41 : decode cX5_chin 41 = .ok (.istore_n 3, 1) := by decide +kernel
theorem dX5_chin_42 : decode cX5_chin 42 = .ok (.aload_n 0, 1) := by decide +kernel
theorem dX5_chin_43 : decode cX5_chin 43 = .ok (.getfield 21, 3) := by decide +kernel
theorem dX5_chin_46 : decode cX5_chin 46 = .ok (.iload_n 1, 1) := by decide +kernel
theorem dX5_chin_47 : decode cX5_chin 47 = .ok (.invokevirtual 187, 3) := by decide +kernel
theorem dX5_chin_50 : decode cX5_chin 50 = .ok (.aload_n 0, 1) := by decide +kernel
theorem dX5_chin_51 : decode cX5_chin 51 = .ok (.getfield 34, 3) := by decide +kernel
theorem dX5_chin_54 : decode cX5_chin 54 = .ok (.invokevirtual 184, 3) := by decide +kernel
theorem dX5_chin_57 : decode cX5_chin 57 = .ok (.aload_n 0, 1) := by decide +kernel
theorem dX5_chin_58 : decode cX5_chin 58 = .ok (.getfield 34, 3) := by decide +kernel
theorem dX5_chin_61 : decode cX5_chin 61 = .ok (.getfield 150, 3) := by decide +kernel
theorem dX5_chin_64 : decode cX5_chin 64 = .ok (.iload_n 1, 1) := by decide +kernel
theorem dX5_chin_65 : decode cX5_chin 65 = .ok (.iaload, 1) := by decide +kernel
theorem dX5_chin_66 : decode cX5_chin 66 = .ok (.istore 4, 2) := by decide +kernel
theorem dX5_chin_68 : decode cX5_chin 68 = .ok (.aload_n 0, 1) := by decide +kernel
theorem dX5_chin_69 : decode cX5_chin 69 = .ok (.getfield 21, 3) := by decide +kernel
theorem dX5_chin_72 : decode cX5_chin 72 = .ok (.iload_n 1, 1) := by decide +kernel
theorem dX5_chin_73 : decode cX5_chin 73 = .ok (.invokevirtual 187, 3) := by decide +kernel
theorem dX5_chin_76 : decode cX5_chin 76 = .ok (.iload_n 2, 1) := by decide +kernel
theorem dX5_chin_77 : decode cX5_chin 77 = .ok (.ifCond .ne 15, 3) := by decide +kernel
theorem dX5_chin_80 : decode cX5_chin 80 = .ok (.iload 4, 2) := by decide +kernel
theorem dX5_chin_82 : decode cX5_chin 82 = .ok (.iload_n 3, 1) := by decide +kernel
theorem dX5_chin_83 : decode cX5_chin 83 = .ok (.if_icmp .ge 7, 3) := by decide +kernel
theorem dX5_chin_86 : decode cX5_chin 86 = .ok (.iconst 1, 1) := by decide +kernel
theorem dX5_chin_87 : decode cX5_chin 87 = .ok (.goto 4, 3) := by decide +kernel
theorem dX5_chin_90 : decode cX5_chin 90 = .ok (.iconst 0, 1) := by decide +kernel
theorem dX5_chin_91 : decode cX5_chin 91 = .ok (.ireturn, 1) := by decide +kernel
theorem dX5_chin_92 : decode cX5_chin 92 = .ok (.iload_n 3, 1) := by decide +kernel
theorem dX5_chin_93 : decode cX5_chin 93 = .ok (.iload 4, 2) := by decide +kernel
theorem dX5_chin_95 : decode cX5_chin 95 = .ok (.invokestatic 190, 3) := by decide +kernel
theorem dX5_chin_98 : decode cX5_chin 98 = .ok (.ireturn, 1) := by decide +kernel
theorem dX5_dawn_0 : decode cX5_dawn 0 = .ok (.iload_n 1, 1) := by decide +kernel
theorem dX5_dawn_1 : decode cX5_dawn 1 = .ok (.aload_n 0, 1) := by decide +kernel
theorem dX5_dawn_2 : decode cX5_dawn 2 = .ok (.getfield 21, 3) := by decide +kernel
theorem dX5_dawn_5 : decode cX5_dawn 5 = .ok (.getfield 99, 3) := by decide +kernel
theorem dX5_dawn_8 : decode cX5_dawn 8 = .ok (.invokestatic 66, 3) := by decide +kernel
theorem dX5_dawn_11 : decode cX5_dawn 11 = .ok (.ifCond .eq 11, 3) := by decide +kernel
theorem dX5_dawn_14 : decode cX5_dawn 14 = .ok (.iload_n 2, 1) := by decide +kernel
theorem dX5_dawn_15 : decode cX5_dawn 15 = .ok (.iconst 2, 1) := by decide +kernel
theorem dX5_dawn_16 : decode cX5_dawn 16 = .ok (.invokestatic 66, 3) := by decide +kernel
theorem dX5_dawn_19 : decode cX5_dawn 19 = .ok (.ifCond .ne 6, 3) := by decide +kernel
theorem dX5_dawn_22 : decode cX5_dawn 22 = .ok (.bipush (-2), 2) := by decide +kernel
theorem dX5_dawn_24 : decode cX5_dawn 24 = .ok (.ireturn, 1) := by decide +kernel
theorem dX5_dawn_25 : decode cX5_dawn 25 = .ok (.aload_n 0, 1) := by decide +kernel
theorem dX5_dawn_26 : decode cX5_dawn 26 = .ok (.getfield 21, 3) := by decide +kernel
theorem dX5_dawn_29 : decode cX5_dawn 29 = .ok (.getfield 108, 3) := by decide +kernel
theorem dX5_dawn_32 : decode cX5_dawn 32 = .ok (.iload_n 1, 1) := by decide +kernel
theorem dX5_dawn_33 : decode cX5_dawn 33 = .ok (.iaload, 1) := by decide +kernel
theorem dX5_dawn_34 : decode cX5_dawn 34 = .ok (.istore_n 3, 1) := by decide +kernel
theorem dX5_dawn_35 : decode cX5_dawn 35 = .ok (.iconst 0, 1) := by decide +kernel
theorem dX5_dawn_36 : decode cX5_dawn 36 = .ok (.istore 4, 2) := by decide +kernel
theorem dX5_dawn_38 : decode cX5_dawn 38 = .ok (.iconst (-1), 1) := by decide +kernel
theorem dX5_dawn_39 : decode cX5_dawn 39 = .ok (.istore 5, 2) := by decide +kernel
theorem dX5_dawn_41 : decode cX5_dawn 41 = .ok (.iconst 0, 1) := by decide +kernel
theorem dX5_dawn_42 : decode cX5_dawn 42 = .ok (.istore 6, 2) := by decide +kernel
theorem dX5_dawn_44 : decode cX5_dawn 44 = .ok (.iload 6, 2) := by decide +kernel
theorem dX5_dawn_46 : decode cX5_dawn 46 = .ok (.bipush 24, 2) := by decide +kernel
theorem dX5_dawn_48 : decode cX5_dawn 48 = .ok (.if_icmp .ge 54, 3) := by decide +kernel
theorem dX5_dawn_51 : decode cX5_dawn 51 = .ok (.aload_n 0, 1) := by decide +kernel
theorem dX5_dawn_52 : decode cX5_dawn 52 = .ok (.getfield 21, 3) := by decide +kernel
theorem dX5_dawn_55 : decode cX5_dawn 55 = .ok (.getfield 108, 3) := by decide +kernel
theorem dX5_dawn_58 : decode cX5_dawn 58 = .ok (.iload_n 1, 1) := by decide +kernel
theorem dX5_dawn_59 : decode cX5_dawn 59 = .ok (.iload 6, 2) := by decide +kernel
theorem dX5_dawn_61 : decode cX5_dawn 61 = .ok (.iastore, 1) := by decide +kernel
theorem dX5_dawn_62 : decode cX5_dawn 62 = .ok (.aload_n 0, 1) := by decide +kernel
theorem dX5_dawn_63 : decode cX5_dawn 63 = .ok (.getfield 34, 3) := by decide +kernel
theorem dX5_dawn_66 : decode cX5_dawn 66 = .ok (.invokevirtual 184, 3) := by decide +kernel
theorem dX5_dawn_69 : decode cX5_dawn 69 = .ok (.aload_n 0, 1) := by decide +kernel
theorem dX5_dawn_70 : decode cX5_dawn 70 = .ok (.getfield 34, 3) := by decide +kernel
theorem dX5_dawn_73 : decode cX5_dawn 73 = .ok (.invokevirtual 181, 3) := by decide +kernel
theorem dX5_dawn_76 : decode cX5_dawn 76 = .ok (.invokestatic 196, 3) := by decide +kernel
theorem dX5_dawn_79 : decode cX5_dawn 79 = .ok (.istore 7, 2) := by decide +kernel
theorem dX5_dawn_81 : decode cX5_dawn 81 = .ok (.iload 7, 2) := by decide +kernel
theorem dX5_dawn_83 : decode cX5_dawn 83 = .ok (.iload 5, 2) := by decide +kernel
theorem dX5_dawn_85 : decode cX5_dawn 85 = .ok (.if_icmp .le 11, 3) := by decide +kernel
theorem dX5_dawn_88 : decode cX5_dawn 88 = .ok (.iload 6, 2) := by decide +kernel
theorem dX5_dawn_90 : decode cX5_dawn 90 = .ok (.istore 4, 2) := by decide +kernel
theorem dX5_dawn_92 : decode cX5_dawn 92 = .ok (.iload 7, 2) := by decide +kernel
theorem dX5_dawn_94 : decode cX5_dawn 94 = .ok (.istore 5, 2) := by decide +kernel
theorem dX5_dawn_96 : decode cX5_dawn 96 = .ok (.iinc 6 1, 3) := by decide +kernel
theorem dX5_dawn_99 : decode cX5_dawn 99 = .ok (.goto (-55), 3) := by decide +kernel
theorem dX5_dawn_102 : decode cX5_dawn 102 = .ok (.aload_n 0, 1) := by decide +kernel
theorem dX5_dawn_103 : decode cX5_dawn 103 = .ok (.getfield 21, 3) := by decide +kernel
theorem dX5_dawn_106 : decode cX5_dawn 106 = .ok (.getfield 108, 3) := by decide +kernel
theorem dX5_dawn_109 : decode cX5_dawn 109 = .ok (.iload_n 1, 1) := by decide +kernel
theorem dX5_dawn_110 : decode cX5_dawn 110 = .ok (.iload_n 3, 1) := by decide +kernel
theorem dX5_dawn_111 : decode cX5_dawn 111 = .ok (.iastore, 1) := by decide +kernel
theorem dX5_dawn_112 : decode cX5_dawn 112 = .ok (.iload_n 2, 1) := by decide +kernel
theorem dX5_dawn_113 : decode cX5_dawn 113 = .ok (.ifCond .ne 8, 3) := by decide +kernel
theorem dX5_dawn_116 : decode cX5_dawn 116 = .ok (.iload 4, 2) := by decide +kernel
theorem dX5_dawn_118 : decode cX5_dawn 118 = .ok (.goto 5, 3) := by decide +kernel
theorem dX5_dawn_121 : decode cX5_dawn 121 = .ok (.iload 5, 2) := by decide +kernel
theorem dX5_dawn_123 : decode cX5_dawn 123 = .ok (.ireturn, 1) := by decide +kernel
theorem dX5_monday_0 : decode cX5_monday 0 = .ok (.iload_n 1, 1) := by decide +kernel
theorem dX5_monday_1 : decode cX5_monday 1 = .ok (.iconst 2, 1) := by decide +kernel
theorem dX5_monday_2 : decode cX5_monday 2 = .ok (.invokestatic 66, 3) := by decide +kernel
theorem dX5_monday_5 : decode cX5_monday 5 = .ok (.ifCond .ne 6, 3) := by decide +kernel
theorem dX5_monday_8 : decode cX5_monday 8 = .ok (.bipush (-2), 2) := by decide +kernel
theorem dX5_monday_10 : decode cX5_monday 10 = .ok (.ireturn, 1) := by decide +kernel
theorem dX5_monday_11 : decode cX5_monday 11 = .ok (.iconst 0, 1) := by decide +kernel
theorem dX5_monday_12 : decode cX5_monday 12 = .ok (.istore_n 2, 1) := by decide +kernel
theorem dX5_monday_13 : decode cX5_monday 13 = .ok (.ldc 201, 2) := by decide +kernel
theorem dX5_monday_15 : decode cX5_monday 15 = .ok (.istore_n 3, 1) := by decide +kernel
theorem dX5_monday_16 : decode cX5_monday 16 = .ok (.iconst 0, 1) := by decide +kernel
theorem dX5_monday_17 : decode cX5_monday 17 = .ok (.istore 4, 2) := by decide +kernel
theorem dX5_monday_19 : decode cX5_monday 19 = .ok (.iload 4, 2) := by decide +kernel
theorem dX5_monday_21 : decode cX5_monday 21 = .ok (.bipush 24, 2) := by decide +kernel
theorem dX5_monday_23 : decode cX5_monday 23 = .ok (.if_icmp .ge 47, 3) := by decide +kernel
theorem dX5_monday_26 : decode cX5_monday 26 = .ok (.aload_n 0, 1) := by decide +kernel
theorem dX5_monday_27 : decode cX5_monday 27 = .ok (.getfield 21, 3) := by decide +kernel
theorem dX5_monday_30 : decode cX5_monday 30 = .ok (.iload 4, 2) := by decide +kernel
theorem dX5_monday_32 : decode cX5_monday 32 = .ok (.putfield 202, 3) := by decide +kernel
theorem dX5_monday_35 : decode cX5_monday 35 = .ok (.aload_n 0, 1) := by decide +kernel
theorem dX5_monday_36 : decode cX5_monday 36 = .ok (.getfield 34, 3) := by decide +kernel
theorem dX5_monday_39 : decode cX5_monday 39 = .ok (.invokevirtual 184, 3) := by decide +kernel
theorem dX5_monday_42 : decode cX5_monday 42 = .ok (.aload_n 0, 1) := by decide +kernel
theorem dX5_monday_43 : decode cX5_monday 43 = .ok (.getfield 34, 3) := by decide +kernel
theorem dX5_monday_46 : decode cX5_monday 46 = .ok (.getfield 178, 3) := by decide +kernel
theorem dX5_monday_49 : decode cX5_monday 49 = .ok (.iload_n 3, 1) := by decide +kernel
theorem dX5_monday_50 : decode cX5_monday 50 = .ok (.if_icmp .ge 14, 3) := by decide +kernel
theorem dX5_monday_53 : decode cX5_monday 53 = .ok (.iload 4, 2) := by decide +kernel
theorem dX5_monday_55 : decode cX5_monday 55 = .ok (.istore_n 2, 1) := by decide +kernel
theorem dX5_monday_56 : decode cX5_monday 56 = .ok (.aload_n 0, 1) := by decide +kernel
theorem dX5_monday_57 : decode cX5_monday 57 = .ok (.getfield 34, 3) := by decide +kernel
theorem dX5_monday_60 : decode cX5_monday 60 = .ok (.getfield 178, 3) := by decide +kernel
theorem dX5_monday_63 : decode cX5_monday 63 = .ok (.istore_n 3, 1) := by decide +kernel
theorem dX5_monday_64 : decode cX5_monday 64 = .ok (.iinc 4 1, 3) := by decide +kernel
theorem dX5_monday_67 : decode cX5_monday 67 = .ok (.goto (-48), 3) := by decide +kernel
theorem dX5_monday_70 : decode cX5_monday 70 = .ok (.aload_n 0, 1) := by decide +kernel
theorem dX5_monday_71 : decode cX5_monday 71 = .ok (.getfield 21, 3) := by decide +kernel
theorem dX5_monday_74 : decode cX5_monday 74 = .ok (.iconst (-1), 1) := by decide +kernel
theorem dX5_monday_75 : decode cX5_monday 75 = .ok (.putfield 202, 3) := by decide +kernel
theorem dX5_monday_78 : decode cX5_monday 78 = .ok (.iload_n 1, 1) := by decide +kernel
theorem dX5_monday_79 : decode cX5_monday 79 = .ok (.ifCond .ne 7, 3) := by decide +kernel
theorem dX5_monday_82 : decode cX5_monday 82 = .ok (.iload_n 2, 1) := by decide +kernel
theorem dX5_monday_83 : decode cX5_monday 83 = .ok (.goto 4, 3) := by decide +kernel
theorem dX5_monday_86 : decode cX5_monday 86 = .ok (.iload_n 3, 1) := by decide +kernel
theorem dX5_monday_87 : decode cX5_monday 87 = .ok (.ireturn, 1) := by decide +kernel
theorem dX5_spare_0 : decode cX5_spare 0 = .ok (.iload_n 1, 1) := by decide +kernel
theorem dX5_spare_1 : decode cX5_spare 1 = .ok (.iconst (-1), 1) := by decide +kernel
theorem dX5_spare_2 : decode cX5_spare 2 = .ok (.if_icmp .eq 14, 3) := by decide +kernel
theorem dX5_spare_5 : decode cX5_spare 5 = .ok (.iload_n 1, 1) := by decide +kernel
theorem dX5_spare_6 : decode cX5_spare 6 = .ok (.iconst 2, 1) := by decide +kernel
theorem dX5_spare_7 : decode cX5_spare 7 = .ok (.invokestatic 66, 3) := by decide +kernel
theorem dX5_spare_10 : decode cX5_spare 10 = .ok (.ifCond .ne 6, 3) := by decide +kernel
theorem dX5_spare_13 : decode cX5_spare 13 = .ok (.bipush (-2), 2) := by decide +kernel
theorem dX5_spare_15 : decode cX5_spare 15 = .ok (.ireturn, 1) := by decide +kernel
theorem dX5_spare_16 : decode cX5_spare 16 = .ok (.aload_n 0, 1) := by decide +kernel
theorem dX5_spare_17 : decode cX5_spare 17 = .ok (.invokevirtual 205, 3) := by decide +kernel
theorem dX5_spare_20 : decode cX5_spare 20 = .ok (.istore_n 2, 1) := by decide +kernel
theorem dX5_spare_21 : decode cX5_spare 21 = .ok (.iload_n 2, 1) := by decide +kernel
theorem dX5_spare_22 : decode cX5_spare 22 = .ok (.iconst (-1), 1) := by decide +kernel
theorem dX5_spare_23 : decode cX5_spare 23 = .ok (.if_icmp .ne 5, 3) := by decide +kernel
theorem dX5_spare_26 : decode cX5_spare 26 = .ok (.iconst (-1), 1) := by decide +kernel
theorem dX5_spare_27 : decode cX5_spare 27 = .ok (.ireturn, 1) := by decide +kernel
theorem dX5_spare_28 : decode cX5_spare 28 = .ok (.iload_n 1, 1) := by decide +kernel
theorem dX5_spare_29 : decode cX5_spare 29 = .ok (.iconst (-1), 1) := by decide +kernel
theorem dX5_spare_30 : decode cX5_spare 30 = .ok (.if_icmp .ne 8, 3) := by decide +kernel
theorem dX5_spare_33 : decode cX5_spare 33 = .ok (.iload_n 2, 1) := by decide +kernel
theorem dX5_spare_34 : decode cX5_spare 34 = .ok (.invokestatic 196, 3) := by decide +kernel
theorem dX5_spare_37 : decode cX5_spare 37 = .ok (.ireturn, 1) := by decide +kernel
theorem dX5_spare_38 : decode cX5_spare 38 = .ok (.iload_n 1, 1) := by decide +kernel
theorem dX5_spare_39 : decode cX5_spare 39 = .ok (.ifCond .ne 7, 3) := by decide +kernel
theorem dX5_spare_42 : decode cX5_spare 42 = .ok (.iload_n 2, 1) := by decide +kernel
theorem dX5_spare_43 : decode cX5_spare 43 = .ok (.goto 8, 3) := by decide +kernel
theorem dX5_spare_46 : decode cX5_spare 46 = .ok (.iload_n 2, 1) := by decide +kernel
theorem dX5_spare_47 : decode cX5_spare 47 = .ok (.iload_n 2, 1) := by decide +kernel
theorem dX5_spare_48 : decode cX5_spare 48 = .ok (.iconst 1, 1) := by decide +kernel
theorem dX5_spare_49 : decode cX5_spare 49 = .ok (.isub, 1) := by decide +kernel
theorem dX5_spare_50 : decode cX5_spare 50 = .ok (.iand, 1) := by decide +kernel
theorem dX5_spare_51 : decode cX5_spare 51 = .ok (.invokestatic 208, 3) := by decide +kernel
theorem dX5_spare_54 : decode cX5_spare 54 = .ok (.ireturn, 1) := by decide +kernel
theorem dX5_seen_0 : decode cX5_seen 0 = .ok (.iload_n 1, 1) := by decide +kernel
theorem dX5_seen_1 : decode cX5_seen 1 = .ok (.bipush 24, 2) := by decide +kernel
theorem dX5_seen_3 : decode cX5_seen 3 = .ok (.invokestatic 66, 3) := by decide +kernel
theorem dX5_seen_6 : decode cX5_seen 6 = .ok (.ifCond .eq 21, 3) := by decide +kernel
theorem dX5_seen_9 : decode cX5_seen 9 = .ok (.iload_n 2, 1) := by decide +kernel
theorem dX5_seen_10 : decode cX5_seen 10 = .ok (.bipush 8, 2) := by decide +kernel
theorem dX5_seen_12 : decode cX5_seen 12 = .ok (.invokestatic 66, 3) := by decide +kernel
theorem dX5_seen_15 : decode cX5_seen 15 = .ok (.ifCond .eq 12, 3) := by decide +kernel
theorem dX5_seen_18 : decode cX5_seen 18 = .ok (.iload_n 3, 1) := by decide +kernel
theorem dX5_seen_19 : decode cX5_seen 19 = .ok (.bipush 10, 2) := by decide +kernel
theorem dX5_seen_21 : decode cX5_seen 21 = .ok (.invokestatic 66, 3) := by decide +kernel
theorem dX5_seen_24 : decode cX5_seen 24 = .ok (.ifCond .ne 6, 3) := by decide +kernel
theorem dX5_seen_27 : decode cX5_seen 27 = .ok (.bipush (-2), 2) := by decide +kernel
theorem dX5_seen_29 : decode cX5_seen 29 = .ok (.ireturn, 1) := by decide +kernel
theorem dX5_seen_30 : decode cX5_seen 30 = .ok (.aload_n 0, 1) := by decide +kernel
theorem dX5_seen_31 : decode cX5_seen 31 = .ok (.getfield 48, 3) := by decide +kernel
theorem dX5_seen_34 : decode cX5_seen 34 = .ok (.getfield 211, 3) := by decide +kernel
theorem dX5_seen_37 : decode cX5_seen 37 = .ok (.bipush 8, 2) := by decide +kernel
theorem dX5_seen_39 : decode cX5_seen 39 = .ok (.if_icmp .ne 6, 3) := by decide +kernel
theorem dX5_seen_42 : decode cX5_seen 42 = .ok (.bipush (-4), 2) := by decide +kernel
theorem dX5_seen_44 : decode cX5_seen 44 = .ok (.ireturn, 1) := by decide +kernel
theorem dX5_seen_45 : decode cX5_seen 45 = .ok (.aload_n 0, 1) := by decide +kernel
theorem dX5_seen_46 : decode cX5_seen 46 = .ok (.getfield 48, 3) := by decide +kernel
theorem dX5_seen_49 : decode cX5_seen 49 = .ok (.iload_n 1, 1) := by decide +kernel
theorem dX5_seen_50 : decode cX5_seen 50 = .ok (.iload_n 2, 1) := by decide +kernel
theorem dX5_seen_51 : decode cX5_seen 51 = .ok (.iload_n 3, 1) := by decide +kernel
theorem dX5_seen_52 : decode cX5_seen 52 = .ok (.invokevirtual 214, 3) := by decide +kernel
theorem dX5_seen_55 : decode cX5_seen 55 = .ok (.aload_n 0, 1) := by decide +kernel
theorem dX5_seen_56 : decode cX5_seen 56 = .ok (.getfield 48, 3) := by decide +kernel
theorem dX5_seen_59 : decode cX5_seen 59 = .ok (.getfield 211, 3) := by decide +kernel
theorem dX5_seen_62 : decode cX5_seen 62 = .ok (.ireturn, 1) := by decide +kernel
theorem dX5_forget_0 : decode cX5_forget 0 = .ok (.aload_n 0, 1) := by decide +kernel
theorem dX5_forget_1 : decode cX5_forget 1 = .ok (.getfield 48, 3) := by decide +kernel
theorem dX5_forget_4 : decode cX5_forget 4 = .ok (.getfield 211, 3) := by decide +kernel
theorem dX5_forget_7 : decode cX5_forget 7 = .ok (.istore_n 1, 1) := by decide +kernel
theorem dX5_forget_8 : decode cX5_forget 8 = .ok (.aload_n 0, 1) := by decide +kernel
theorem dX5_forget_9 : decode cX5_forget 9 = .ok (.getfield 48, 3) := by decide +kernel
theorem dX5_forget_12 : decode cX5_forget 12 = .ok (.iconst 0, 1) := by decide +kernel
theorem dX5_forget_13 : decode cX5_forget 13 = .ok (.putfield 211, 3) := by decide +kernel
theorem dX5_forget_16 : decode cX5_forget 16 = .ok (.iload_n 1, 1) := by decide +kernel
theorem dX5_forget_17 : decode cX5_forget 17 = .ok (.ireturn, 1) := by decide +kernel
theorem dX5_never_0 : decode cX5_never 0 = .ok (.aload_n 0, 1) := by decide +kernel
theorem dX5_never_1 : decode cX5_never 1 = .ok (.getfield 21, 3) := by decide +kernel
theorem dX5_never_4 : decode cX5_never 4 = .ok (.invokevirtual 217, 3) := by decide +kernel
theorem dX5_never_7 : decode cX5_never 7 = .ok (.istore_n 1, 1) := by decide +kernel
theorem dX5_never_8 : decode cX5_never 8 = .ok (.iconst 0, 1) := by decide +kernel
theorem dX5_never_9 : decode cX5_never 9 = .ok (.istore_n 2, 1) := by decide +kernel
theorem dX5_never_10 : decode cX5_never 10 = .ok (.iconst 0, 1) := by decide +kernel
theorem dX5_never_11 : decode cX5_never 11 = .ok (.istore_n 3, 1) := by decide +kernel
theorem dX5_never_12 : decode cX5_never 12 = .ok (.iload_n 3, 1) := by decide +kernel
theorem dX5_never_13 : decode cX5_never 13 = .ok (.aload_n 0, 1) := by decide +kernel
theorem dX5_never_14 : decode cX5_never 14 = .ok (.getfield 21, 3) := by decide +kernel
theorem dX5_never_17 : decode cX5_never 17 = .ok (.getfield 117, 3) := by decide +kernel
theorem dX5_never_20 : decode cX5_never 20 = .ok (.if_icmp .ge 50, 3) := by decide +kernel
theorem dX5_never_23 : decode cX5_never 23 = .ok (.aload_n 0, 1) := by decide +kernel
theorem dX5_never_24 : decode cX5_never 24 = .ok (.getfield 21, 3) := by decide +kernel
theorem dX5_never_27 : decode cX5_never 27 = .ok (.iload_n 1, 1) := by decide +kernel
theorem dX5_never_28 : decode cX5_never 28 = .ok (.iconst 1, 1) := by decide +kernel
theorem dX5_never_29 : decode cX5_never 29 = .ok (.iload_n 3, 1) := by decide +kernel
theorem dX5_never_30 : decode cX5_never 30 = .ok (.ishl, 1) := by decide +kernel
theorem dX5_never_31 : decode cX5_never 31 = .ok (.iconst (-1), 1) := by decide +kernel
theorem dX5_never_32 : decode cX5_never 32 = .ok (.ixor, 1) := by decide +kernel
theorem dX5_never_33 : decode cX5_never 33 = .ok (.iand, 1) := by decide +kernel
theorem dX5_never_34 : decode cX5_never 34 = .ok (.putfield 220, 3) := by decide +kernel
theorem dX5_never_37 : decode cX5_never 37 = .ok (.aload_n 0, 1) := by decide +kernel
theorem dX5_never_38 : decode cX5_never 38 = .ok (.getfield 34, 3) := by decide +kernel
theorem dX5_never_41 : decode cX5_never 41 = .ok (.invokevirtual 184, 3) := by decide +kernel
theorem dX5_never_44 : decode cX5_never 44 = .ok (.aload_n 0, 1) := by decide +kernel
theorem dX5_never_45 : decode cX5_never 45 = .ok (.getfield 48, 3) := by decide +kernel
theorem dX5_never_48 : decode cX5_never 48 = .ok (.aload_n 0, 1) := by decide +kernel
theorem dX5_never_49 : decode cX5_never 49 = .ok (.getfield 34, 3) := by decide +kernel
theorem dX5_never_52 : decode cX5_never 52 = .ok (.invokevirtual 223, 3) := by decide +kernel
theorem dX5_never_55 : decode cX5_never 55 = .ok (.ifCond .eq 9, 3) := by decide +kernel
theorem dX5_never_58 : decode cX5_never 58 = .ok (.iload_n 2, 1) := by decide +kernel
theorem dX5_never_59 : decode cX5_never 59 = .ok (.iconst 1, 1) := by decide +kernel
theorem dX5_never_60 : decode cX5_never 60 = .ok (.iload_n 3, 1) := by decide +kernel
theorem dX5_never_61 : decode cX5_never 61 = .ok (.ishl, 1) := by decide +kernel
theorem dX5_never_62 : decode cX5_never 62 = .ok (.ior, 1) := by decide +kernel
theorem dX5_never_63 : decode cX5_never 63 = .ok (.istore_n 2, 1) := by decide +kernel
theorem dX5_never_64 : decode cX5_never 64 = .ok (.iinc 3 1, 3) := by decide +kernel
theorem dX5_never_67 : decode cX5_never 67 = .ok (.goto (-55), 3) := by decide +kernel
theorem dX5_never_70 : decode cX5_never 70 = .ok (.aload_n 0, 1) := by decide +kernel
theorem dX5_never_71 : decode cX5_never 71 = .ok (.getfield 21, 3) := by decide +kernel
theorem dX5_never_74 : decode cX5_never 74 = .ok (.iload_n 1, 1) := by decide +kernel
theorem dX5_never_75 : decode cX5_never 75 = .ok (.putfield 220, 3) := by decide +kernel
theorem dX5_never_78 : decode cX5_never 78 = .ok (.iload_n 2, 1) := by decide +kernel
theorem dX5_never_79 : decode cX5_never 79 = .ok (.ireturn, 1) := by decide +kernel
theorem dX5_was_0 : decode cX5_was 0 = .ok (.iload_n 1, 1) := by decide +kernel
theorem dX5_was_1 : decode cX5_was 1 = .ok (.aload_n 0, 1) := by decide +kernel
theorem dX5_was_2 : decode cX5_was 2 = .ok (.getfield 21, 3) := by decide +kernel
theorem dX5_was_5 : decode cX5_was 5 = .ok (.getfield 90, 3) := by decide +kernel
theorem dX5_was_8 : decode cX5_was 8 = .ok (.invokestatic 66, 3) := by decide +kernel
theorem dX5_was_11 : decode cX5_was 11 = .ok (.ifCond .eq 11, 3) := by decide +kernel
theorem dX5_was_14 : decode cX5_was 14 = .ok (.iload_n 2, 1) := by decide +kernel
theorem dX5_was_15 : decode cX5_was 15 = .ok (.iconst 2, 1) := by decide +kernel
theorem dX5_was_16 : decode cX5_was 16 = .ok (.invokestatic 66, 3) := by decide +kernel
theorem dX5_was_19 : decode cX5_was 19 = .ok (.ifCond .ne 6, 3) := by decide +kernel
theorem dX5_was_22 : decode cX5_was 22 = .ok (.bipush (-2), 2) := by decide +kernel
theorem dX5_was_24 : decode cX5_was 24 = .ok (.ireturn, 1) := by decide +kernel
theorem dX5_was_25 : decode cX5_was 25 = .ok (.iload_n 2, 1) := by decide +kernel
theorem dX5_was_26 : decode cX5_was 26 = .ok (.ifCond .ne 20, 3) := by decide +kernel
theorem dX5_was_29 : decode cX5_was 29 = .ok (.aload_n 0, 1) := by decide +kernel
theorem dX5_was_30 : decode cX5_was 30 = .ok (.aload_n 0, 1) := by decide +kernel
theorem dX5_was_31 : decode cX5_was 31 = .ok (.getfield 21, 3) := by decide +kernel
theorem dX5_was_34 : decode cX5_was 34 = .ok (.getfield 93, 3) := by decide +kernel
theorem dX5_was_37 : decode cX5_was 37 = .ok (.iload_n 1, 1) := by decide +kernel
theorem dX5_was_38 : decode cX5_was 38 = .ok (.iconst 0, 1) := by decide +kernel
theorem dX5_was_39 : decode cX5_was 39 = .ok (.iconst 2, 1) := by decide +kernel
theorem dX5_was_40 : decode cX5_was 40 = .ok (.invokevirtual 227, 3) := by decide +kernel
theorem dX5_was_43 : decode cX5_was 43 = .ok (.goto 18, 3) := by decide +kernel
theorem dX5_was_46 : decode cX5_was 46 = .ok (.aload_n 0, 1) := by decide +kernel
theorem dX5_was_47 : decode cX5_was 47 = .ok (.aload_n 0, 1) := by decide +kernel
theorem dX5_was_48 : decode cX5_was 48 = .ok (.getfield 21, 3) := by decide +kernel
theorem dX5_was_51 : decode cX5_was 51 = .ok (.getfield 96, 3) := by decide +kernel
theorem dX5_was_54 : decode cX5_was 54 = .ok (.iload_n 1, 1) := by decide +kernel
theorem dX5_was_55 : decode cX5_was 55 = .ok (.iconst 1, 1) := by decide +kernel
theorem dX5_was_56 : decode cX5_was 56 = .ok (.bipush 9, 2) := by decide +kernel
theorem dX5_was_58 : decode cX5_was 58 = .ok (.invokevirtual 227, 3) := by decide +kernel
theorem dX5_was_61 : decode cX5_was 61 = .ok (.ireturn, 1) := by decide +kernel
theorem dX5_ask_0 : decode cX5_ask 0 = .ok (.iload_n 1, 1) := by decide +kernel
theorem dX5_ask_1 : decode cX5_ask 1 = .ok (.aload_n 0, 1) := by decide +kernel
theorem dX5_ask_2 : decode cX5_ask 2 = .ok (.getfield 21, 3) := by decide +kernel
theorem dX5_ask_5 : decode cX5_ask 5 = .ok (.getfield 90, 3) := by decide +kernel
theorem dX5_ask_8 : decode cX5_ask 8 = .ok (.invokestatic 66, 3) := by decide +kernel
theorem dX5_ask_11 : decode cX5_ask 11 = .ok (.ifCond .ne 6, 3) := by decide +kernel
theorem dX5_ask_14 : decode cX5_ask 14 = .ok (.bipush (-2), 2) := by decide +kernel
theorem dX5_ask_16 : decode cX5_ask 16 = .ok (.ireturn, 1) := by decide +kernel
theorem dX5_ask_17 : decode cX5_ask 17 = .ok (.aload_n 0, 1) := by decide +kernel
theorem dX5_ask_18 : decode cX5_ask 18 = .ok (.iload_n 1, 1) := by decide +kernel
theorem dX5_ask_19 : decode cX5_ask 19 = .ok (.invokevirtual 231, 3) := by decide +kernel
theorem dX5_ask_22 : decode cX5_ask 22 = .ok (.iconst 0, 1) := by decide +kernel
theorem dX5_ask_23 : decode cX5_ask 23 = .ok (.istore_n 2, 1) := by decide +kernel
theorem dX5_ask_24 : decode cX5_ask 24 = .ok (.ldc 201, 2) := by decide +kernel
theorem dX5_ask_26 : decode cX5_ask 26 = .ok (.istore_n 3, 1) := by decide +kernel
theorem dX5_ask_27 : decode cX5_ask 27 = .ok (.iconst 0, 1) := by decide +kernel
theorem dX5_ask_28 : decode cX5_ask 28 = .ok (.istore 4, 2) := by decide +kernel
theorem dX5_ask_30 : decode cX5_ask 30 = .ok (.iload 4, 2) := by decide +kernel
theorem dX5_ask_32 : decode cX5_ask 32 = .ok (.bipush 24, 2) := by decide +kernel
theorem dX5_ask_34 : decode cX5_ask 34 = .ok (.if_icmp .ge 29, 3) := by decide +kernel
theorem dX5_ask_37 : decode cX5_ask 37 = .ok (.aload_n 0, 1) := by decide +kernel
theorem dX5_ask_38 : decode cX5_ask 38 = .ok (.iload 4, 2) := by decide +kernel
theorem dX5_ask_40 : decode cX5_ask 40 = .ok (.invokevirtual 234, 3) := by decide +kernel
theorem dX5_ask_43 : decode cX5_ask 43 = .ok (.istore 5, 2) := by decide +kernel
theorem dX5_ask_45 : decode cX5_ask 45 = .ok (.iload 5, 2) := by decide +kernel
theorem dX5_ask_47 : decode cX5_ask 47 = .ok (.iload_n 3, 1) := by decide +kernel
theorem dX5_ask_48 : decode cX5_ask 48 = .ok (.if_icmp .ge 9, 3) := by decide +kernel
theorem dX5_ask_51 : decode cX5_ask 51 = .ok (.iload 4, 2) := by decide +kernel
theorem dX5_ask_53 : decode cX5_ask 53 = .ok (.istore_n 2, 1) := by decide +kernel
theorem dX5_ask_54 : decode cX5_ask 54 = .ok (.iload 5, 2) := by decide +kernel
theorem dX5_ask_56 : decode cX5_ask 56 = .ok (.istore_n 3, 1) := by decide +kernel
theorem dX5_ask_57 : decode cX5_ask 57 = .ok (.iinc 4 1, 3) := by decide +kernel
theorem dX5_ask_60 : decode cX5_ask 60 = .ok (.goto (-30), 3) := by decide +kernel
theorem dX5_ask_63 : decode cX5_ask 63 = .ok (.iload_n 2, 1) := by decide +kernel
theorem dX5_ask_64 : decode cX5_ask 64 = .ok (.ireturn, 1) := by decide +kernel
theorem dX5_chance_0 : decode cX5_chance 0 = .ok (.iload_n 1, 1) := by decide +kernel
theorem dX5_chance_1 : decode cX5_chance 1 = .ok (.bipush 17, 2) := by decide +kernel
theorem dX5_chance_3 : decode cX5_chance 3 = .ok (.invokestatic 66, 3) := by decide +kernel
theorem dX5_chance_6 : decode cX5_chance 6 = .ok (.ifCond .eq 25, 3) := by decide +kernel
theorem dX5_chance_9 : decode cX5_chance 9 = .ok (.iload_n 2, 1) := by decide +kernel
theorem dX5_chance_10 : decode cX5_chance 10 = .ok (.aload_n 0, 1) := by decide +kernel
theorem dX5_chance_11 : decode cX5_chance 11 = .ok (.getfield 21, 3) := by decide +kernel
theorem dX5_chance_14 : decode cX5_chance 14 = .ok (.getfield 99, 3) := by decide +kernel
theorem dX5_chance_17 : decode cX5_chance 17 = .ok (.invokestatic 66, 3) := by decide +kernel
theorem dX5_chance_20 : decode cX5_chance 20 = .ok (.ifCond .eq 11, 3) := by decide +kernel
theorem dX5_chance_23 : decode cX5_chance 23 = .ok (.iload_n 3, 1) := by decide +kernel
theorem dX5_chance_24 : decode cX5_chance 24 = .ok (.iconst 2, 1) := by decide +kernel
theorem dX5_chance_25 : decode cX5_chance 25 = .ok (.invokestatic 66, 3) := by decide +kernel
theorem dX5_chance_28 : decode cX5_chance 28 = .ok (.ifCond .ne 7, 3) := by decide +kernel
theorem dX5_chance_31 : decode cX5_chance 31 = .ok (.ldc2_w 237, 3) := by decide +kernel
theorem dX5_chance_34 : decode cX5_chance 34 = .ok (.lreturn, 1) := by decide +kernel
theorem dX5_chance_35 : decode cX5_chance 35 = .ok (.lconst 0, 1) := by decide +kernel
theorem dX5_chance_36 : decode cX5_chance 36 = .ok (.lstore 4, 2) := by decide +kernel
theorem dX5_chance_38 : decode cX5_chance 38 = .ok (.aload_n 0, 1) := by decide +kernel
theorem dX5_chance_39 : decode cX5_chance 39 = .ok (.getfield 21, 3) := by decide +kernel
theorem dX5_chance_42 : decode cX5_chance 42 = .ok (.invokevirtual 217, 3) := by decide +kernel
theorem dX5_chance_45 : decode cX5_chance 45 = .ok (.istore 6, 2) := by decide +kernel
theorem dX5_chance_47 : decode cX5_chance 47 = .ok (.iconst 0, 1) := by decide +kernel
theorem dX5_chance_48 : decode cX5_chance 48 = .ok (.istore 7, 2) := by decide +kernel
theorem dX5_chance_50 : decode cX5_chance 50 = .ok (.iload 7, 2) := by decide +kernel
theorem dX5_chance_52 : decode cX5_chance 52 = .ok (.iload 6, 2) := by decide +kernel
theorem dX5_chance_54 : decode cX5_chance 54 = .ok (.if_icmp .gt 35, 3) := by decide +kernel
theorem dX5_chance_57 : decode cX5_chance 57 = .ok (.aload_n 0, 1) := by decide +kernel
theorem dX5_chance_58 : decode cX5_chance 58 = .ok (.iload 7, 2) := by decide +kernel
theorem dX5_chance_60 : decode cX5_chance 60 = .ok (.invokevirtual 239, 3) := by decide +kernel
theorem dX5_chance_63 : decode cX5_chance 63 = .ok (.iload_n 2, 1) := by decide +kernel
theorem dX5_chance_64 : decode cX5_chance 64 = .ok (.ishr, 1) := by decide +kernel
theorem dX5_chance_65 : decode cX5_chance 65 = .ok (.iconst 1, 1) := by decide +kernel
theorem dX5_chance_66 : decode cX5_chance 66 = .ok (.iand, 1) := by decide +kernel
theorem dX5_chance_67 : decode cX5_chance 67 = .ok (.iconst 1, 1) := by decide +kernel
theorem dX5_chance_68 : decode cX5_chance 68 = .ok (.if_icmp .ne 15, 3) := by decide +kernel
theorem dX5_chance_71 : decode cX5_chance 71 = .ok (.lload 4, 2) := by decide +kernel
theorem dX5_chance_73 : decode cX5_chance 73 = .ok (.aload_n 0, 1) := by decide +kernel
theorem dX5_chance_74 : decode cX5_chance 74 = .ok (.iload 7, 2) := by decide +kernel
theorem dX5_chance_76 : decode cX5_chance 76 = .ok (.iload_n 1, 1) := by decide +kernel
theorem dX5_chance_77 : decode cX5_chance 77 = .ok (.invokevirtual 242, 3) := by decide +kernel
theorem dX5_chance_80 : decode cX5_chance 80 = .ok (.ladd, 1) := by decide +kernel
theorem dX5_chance_81 : decode cX5_chance 81 = .ok (.lstore 4, 2) := by decide +kernel
theorem dX5_chance_83 : decode cX5_chance 83 = .ok (.iinc 7 1, 3) := by decide +kernel
theorem dX5_chance_86 : decode cX5_chance 86 = .ok (.goto (-36), 3) := by decide +kernel
theorem dX5_chance_89 : decode cX5_chance 89 = .ok (.lload 4, 2) := by decide +kernel
theorem dX5_chance_91 : decode cX5_chance 91 = .ok (.lconst 1, 1) := by decide +kernel
theorem dX5_chance_92 : decode cX5_chance 92 = .ok (.iconst 4, 1) := by decide +kernel
theorem dX5_chance_93 : decode cX5_chance 93 = .ok (.aload_n 0, 1) := by decide +kernel
theorem dX5_chance_94 : decode cX5_chance 94 = .ok (.getfield 21, 3) := by decide +kernel
theorem dX5_chance_97 : decode cX5_chance 97 = .ok (.getfield 117, 3) := by decide +kernel
theorem dX5_chance_100 : decode cX5_chance 100 = .ok (.imul, 1) := by decide +kernel
theorem dX5_chance_101 : decode cX5_chance 101 = .ok (.lshl, 1) := by decide +kernel
theorem dX5_chance_102 : decode cX5_chance 102 = .ok (.iload_n 3, 1) := by decide +kernel
theorem dX5_chance_103 : decode cX5_chance 103 = .ok (.invokestatic 246, 3) := by decide +kernel
theorem dX5_chance_106 : decode cX5_chance 106 = .ok (.lreturn, 1) := by decide +kernel
theorem dX5_years_0 : decode cX5_years 0 = .ok (.iload_n 2, 1) := by decide +kernel
theorem dX5_years_1 : decode cX5_years 1 = .ok (.bipush 25, 2) := by decide +kernel
theorem dX5_years_3 : decode cX5_years 3 = .ok (.invokestatic 66, 3) := by decide +kernel
theorem dX5_years_6 : decode cX5_years 6 = .ok (.ifCond .eq 11, 3) := by decide +kernel
theorem dX5_years_9 : decode cX5_years 9 = .ok (.iload_n 3, 1) := by decide +kernel
theorem dX5_years_10 : decode cX5_years 10 = .ok (.iconst 2, 1) := by decide +kernel
theorem dX5_years_11 : decode cX5_years 11 = .ok (.invokestatic 66, 3) := by decide +kernel
theorem dX5_years_14 : decode cX5_years 14 = .ok (.ifCond .ne 6, 3) := by decide +kernel
theorem dX5_years_17 : decode cX5_years 17 = .ok (.bipush (-2), 2) := by decide +kernel
theorem dX5_years_19 : decode cX5_years 19 = .ok (.ireturn, 1) := by decide +kernel
theorem dX5_years_20 : decode cX5_years 20 = .ok (.aload_n 0, 1) := by decide +kernel
theorem dX5_years_21 : decode cX5_years 21 = .ok (.getfield 21, 3) := by decide +kernel
theorem dX5_years_24 : decode cX5_years 24 = .ok (.iload_n 1, 1) := by decide +kernel
theorem dX5_years_25 : decode cX5_years 25 = .ok (.iload_n 2, 1) := by decide +kernel
theorem dX5_years_26 : decode cX5_years 26 = .ok (.invokevirtual 250, 3) := by decide +kernel
theorem dX5_years_29 : decode cX5_years 29 = .ok (.aload_n 0, 1) := by decide +kernel
theorem dX5_years_30 : decode cX5_years 30 = .ok (.getfield 34, 3) := by decide +kernel
theorem dX5_years_33 : decode cX5_years 33 = .ok (.invokevirtual 184, 3) := by decide +kernel
theorem dX5_years_36 : decode cX5_years 36 = .ok (.aload_n 0, 1) := by decide +kernel
theorem dX5_years_37 : decode cX5_years 37 = .ok (.getfield 21, 3) := by decide +kernel
theorem dX5_years_40 : decode cX5_years 40 = .ok (.aload_n 0, 1) := by decide +kernel
theorem dX5_years_41 : decode cX5_years 41 = .ok (.getfield 11, 3) := by decide +kernel
theorem dX5_years_44 : decode cX5_years 44 = .ok (.iconst 2, 1) := by decide +kernel
theorem dX5_years_45 : decode cX5_years 45 = .ok (.aaload, 1) := by decide +kernel
theorem dX5_years_46 : decode cX5_years 46 = .ok (.invokevirtual 253, 3) := by decide +kernel
theorem dX5_years_49 : decode cX5_years 49 = .ok (.iload_n 3, 1) := by decide +kernel
theorem dX5_years_50 : decode cX5_years 50 = .ok (.ifCond .ne 16, 3) := by decide +kernel
theorem dX5_years_53 : decode cX5_years 53 = .ok (.aload_n 0, 1) := by decide +kernel
theorem dX5_years_54 : decode cX5_years 54 = .ok (.getfield 34, 3) := by decide +kernel
theorem dX5_years_57 : decode cX5_years 57 = .ok (.invokevirtual 181, 3) := by decide +kernel
theorem dX5_years_60 : decode cX5_years 60 = .ok (.invokestatic 196, 3) := by decide +kernel
theorem dX5_years_63 : decode cX5_years 63 = .ok (.goto 10, 3) := by decide +kernel
theorem dX5_years_66 : decode cX5_years 66 = .ok (.aload_n 0, 1) := by decide +kernel
theorem dX5_years_67 : decode cX5_years 67 = .ok (.getfield 34, 3) := by decide +kernel
theorem dX5_years_70 : decode cX5_years 70 = .ok (.invokevirtual 257, 3) := by decide +kernel
theorem dX5_years_73 : decode cX5_years 73 = .ok (.ireturn, 1) := by decide +kernel
theorem dX5_sheet_0 : decode cX5_sheet 0 = .ok (.iload_n 1, 1) := by decide +kernel
theorem dX5_sheet_1 : decode cX5_sheet 1 = .ok (.iconst 4, 1) := by decide +kernel
theorem dX5_sheet_2 : decode cX5_sheet 2 = .ok (.invokestatic 66, 3) := by decide +kernel
theorem dX5_sheet_5 : decode cX5_sheet 5 = .ok (.ifCond .eq 17, 3) := by decide +kernel
theorem dX5_sheet_8 : decode cX5_sheet 8 = .ok (.iload_n 2, 1) := by decide +kernel
theorem dX5_sheet_9 : decode cX5_sheet 9 = .ok (.iconst 3, 1) := by decide +kernel
theorem dX5_sheet_10 : decode cX5_sheet 10 = .ok (.invokestatic 66, 3) := by decide +kernel
theorem dX5_sheet_13 : decode cX5_sheet 13 = .ok (.ifCond .eq 9, 3) := by decide +kernel
theorem dX5_sheet_16 : decode cX5_sheet 16 = .ok (.iload_n 3, 1) := by decide +kernel
theorem dX5_sheet_17 : decode cX5_sheet 17 = .ok (.bipush 60, 2) := by decide +kernel
theorem dX5_sheet_19 : decode cX5_sheet 19 = .ok (.if_icmp .le 6, 3) := by decide +kernel
theorem dX5_sheet_22 : decode cX5_sheet 22 = .ok (.bipush (-2), 2) := by decide +kernel
theorem dX5_sheet_24 : decode cX5_sheet 24 = .ok (.ireturn, 1) := by decide +kernel
theorem dX5_sheet_25 : decode cX5_sheet 25 = .ok (.iload_n 3, 1) := by decide +kernel
theorem dX5_sheet_26 : decode cX5_sheet 26 = .ok (.ifCond .ge 9, 3) := by decide +kernel
theorem dX5_sheet_29 : decode cX5_sheet 29 = .ok (.aload_n 0, 1) := by decide +kernel
theorem dX5_sheet_30 : decode cX5_sheet 30 = .ok (.iconst 5, 1) := by decide +kernel
theorem dX5_sheet_31 : decode cX5_sheet 31 = .ok (.invokevirtual 133, 3) := by decide +kernel
theorem dX5_sheet_34 : decode cX5_sheet 34 = .ok (.ireturn, 1) := by decide +kernel
theorem dX5_sheet_35 : decode cX5_sheet 35 = .ok (.aload_n 0, 1) := by decide +kernel
theorem dX5_sheet_36 : decode cX5_sheet 36 = .ok (.getfield 57, 3) := by decide +kernel
theorem dX5_sheet_39 : decode cX5_sheet 39 = .ok (.iload_n 1, 1) := by decide +kernel
theorem dX5_sheet_40 : decode cX5_sheet 40 = .ok (.aaload, 1) := by decide +kernel
theorem dX5_sheet_41 : decode cX5_sheet 41 = .ok (.iload_n 2, 1) := by decide +kernel
theorem dX5_sheet_42 : decode cX5_sheet 42 = .ok (.iload_n 3, 1) := by decide +kernel
theorem dX5_sheet_43 : decode cX5_sheet 43 = .ok (.invokevirtual 260, 3) := by decide +kernel
theorem dX5_sheet_46 : decode cX5_sheet 46 = .ok (.iload_n 3, 1) := by decide +kernel
theorem dX5_sheet_47 : decode cX5_sheet 47 = .ok (.ireturn, 1) := by decide +kernel
theorem dX5_lose_0 : decode cX5_lose 0 = .ok (.iload_n 1, 1) := by decide +kernel
theorem dX5_lose_1 : decode cX5_lose 1 = .ok (.iconst 4, 1) := by decide +kernel
theorem dX5_lose_2 : decode cX5_lose 2 = .ok (.invokestatic 66, 3) := by decide +kernel
theorem dX5_lose_5 : decode cX5_lose 5 = .ok (.ifCond .ne 6, 3) := by decide +kernel
theorem dX5_lose_8 : decode cX5_lose 8 = .ok (.bipush (-2), 2) := by decide +kernel
theorem dX5_lose_10 : decode cX5_lose 10 = .ok (.ireturn, 1) := by decide +kernel
theorem dX5_lose_11 : decode cX5_lose 11 = .ok (.aload_n 0, 1) := by decide +kernel
theorem dX5_lose_12 : decode cX5_lose 12 = .ok (.getfield 57, 3) := by decide +kernel
theorem dX5_lose_15 : decode cX5_lose 15 = .ok (.iload_n 1, 1) := by decide +kernel
theorem dX5_lose_16 : decode cX5_lose 16 = .ok (.aaload, 1) := by decide +kernel
theorem dX5_lose_17 : decode cX5_lose 17 = .ok (.invokevirtual 130, 3) := by decide +kernel
theorem dX5_lose_20 : decode cX5_lose 20 = .ok (.ifCond .eq 9, 3) := by decide +kernel
theorem dX5_lose_23 : decode cX5_lose 23 = .ok (.aload_n 0, 1) := by decide +kernel
theorem dX5_lose_24 : decode cX5_lose 24 = .ok (.iconst 1, 1) := by decide +kernel
theorem dX5_lose_25 : decode cX5_lose 25 = .ok (.invokevirtual 133, 3) := by decide +kernel
theorem dX5_lose_28 : decode cX5_lose 28 = .ok (.ireturn, 1) := by decide +kernel
theorem dX5_lose_29 : decode cX5_lose 29 = .ok (.aload_n 0, 1) := by decide +kernel
theorem dX5_lose_30 : decode cX5_lose 30 = .ok (.getfield 57, 3) := by decide +kernel
theorem dX5_lose_33 : decode cX5_lose 33 = .ok (.iload_n 1, 1) := by decide +kernel
theorem dX5_lose_34 : decode cX5_lose 34 = .ok (.aaload, 1) := by decide +kernel
theorem dX5_lose_35 : decode cX5_lose 35 = .ok (.getfield 137, 3) := by decide +kernel
theorem dX5_lose_38 : decode cX5_lose 38 = .ok (.istore_n 2, 1) := by decide +kernel
theorem dX5_lose_39 : decode cX5_lose 39 = .ok (.aload_n 0, 1) := by decide +kernel
theorem dX5_lose_40 : decode cX5_lose 40 = .ok (.getfield 57, 3) := by decide +kernel
theorem dX5_lose_43 : decode cX5_lose 43 = .ok (.iload_n 1, 1) := by decide +kernel
theorem dX5_lose_44 : decode cX5_lose 44 = .ok (.aaload, 1) := by decide +kernel
theorem dX5_lose_45 : decode cX5_lose 45 = .ok (.iconst (-1), 1) := by decide +kernel
theorem dX5_lose_46 : decode cX5_lose 46 = .ok (.iconst 0, 1) := by decide +kernel
theorem dX5_lose_47 : decode cX5_lose 47 = .ok (.invokevirtual 260, 3) := by decide +kernel
theorem dX5_lose_50 : decode cX5_lose 50 = .ok (.iload_n 2, 1) := by decide +kernel
theorem dX5_lose_51 : decode cX5_lose 51 = .ok (.ireturn, 1) := by decide +kernel
theorem dX5_lay_0 : decode cX5_lay 0 = .ok (.iload_n 1, 1) := by decide +kernel
theorem dX5_lay_1 : decode cX5_lay 1 = .ok (.iconst 4, 1) := by decide +kernel
theorem dX5_lay_2 : decode cX5_lay 2 = .ok (.invokestatic 66, 3) := by decide +kernel
theorem dX5_lay_5 : decode cX5_lay 5 = .ok (.ifCond .eq 11, 3) := by decide +kernel
theorem dX5_lay_8 : decode cX5_lay 8 = .ok (.iload_n 2, 1) := by decide +kernel
theorem dX5_lay_9 : decode cX5_lay 9 = .ok (.iconst 3, 1) := by decide +kernel
theorem dX5_lay_10 : decode cX5_lay 10 = .ok (.invokestatic 66, 3) := by decide +kernel
theorem dX5_lay_13 : decode cX5_lay 13 = .ok (.ifCond .ne 6, 3) := by decide +kernel
theorem dX5_lay_16 : decode cX5_lay 16 = .ok (.bipush (-2), 2) := by decide +kernel
theorem dX5_lay_18 : decode cX5_lay 18 = .ok (.ireturn, 1) := by decide +kernel
theorem dX5_lay_19 : decode cX5_lay 19 = .ok (.aload_n 0, 1) := by decide +kernel
theorem dX5_lay_20 : decode cX5_lay 20 = .ok (.getfield 57, 3) := by decide +kernel
theorem dX5_lay_23 : decode cX5_lay 23 = .ok (.iload_n 1, 1) := by decide +kernel
theorem dX5_lay_24 : decode cX5_lay 24 = .ok (.aaload, 1) := by decide +kernel
theorem dX5_lay_25 : decode cX5_lay 25 = .ok (.iload_n 2, 1) := by decide +kernel
theorem dX5_lay_26 : decode cX5_lay 26 = .ok (.iload_n 3, 1) := by decide +kernel
theorem dX5_lay_27 : decode cX5_lay 27 = .ok (.invokevirtual 263, 3) := by decide +kernel
theorem dX5_lay_30 : decode cX5_lay 30 = .ok (.istore 5, 2) := by decide +kernel
theorem dX5_lay_32 : decode cX5_lay 32 = .ok (.iload 5, 2) := by decide +kernel
theorem dX5_lay_34 : decode cX5_lay 34 = .ok (.ifCond .eq 10, 3) := by decide +kernel
theorem dX5_lay_37 : decode cX5_lay 37 = .ok (.aload_n 0, 1) := by decide +kernel
theorem dX5_lay_38 : decode cX5_lay 38 = .ok (.iload 5, 2) := by decide +kernel
theorem dX5_lay_40 : decode cX5_lay 40 = .ok (.invokevirtual 133, 3) := by decide +kernel
theorem dX5_lay_43 : decode cX5_lay 43 = .ok (.ireturn, 1) := by decide +kernel
theorem dX5_lay_44 : decode cX5_lay 44 = .ok (.aload_n 0, 1) := by decide +kernel
theorem dX5_lay_45 : decode cX5_lay 45 = .ok (.getfield 57, 3) := by decide +kernel
theorem dX5_lay_48 : decode cX5_lay 48 = .ok (.iload_n 1, 1) := by decide +kernel
theorem dX5_lay_49 : decode cX5_lay 49 = .ok (.aaload, 1) := by decide +kernel
theorem dX5_lay_50 : decode cX5_lay 50 = .ok (.iload_n 3, 1) := by decide +kernel
theorem dX5_lay_51 : decode cX5_lay 51 = .ok (.iload 4, 2) := by decide +kernel
theorem dX5_lay_53 : decode cX5_lay 53 = .ok (.invokevirtual 266, 3) := by decide +kernel
theorem dX5_lay_56 : decode cX5_lay 56 = .ok (.iconst 1, 1) := by decide +kernel
theorem dX5_lay_57 : decode cX5_lay 57 = .ok (.ireturn, 1) := by decide +kernel
theorem dX5_get_0 : decode cX5_get 0 = .ok (.iload_n 1, 1) := by decide +kernel
theorem dX5_get_1 : decode cX5_get 1 = .ok (.iconst 4, 1) := by decide +kernel
theorem dX5_get_2 : decode cX5_get 2 = .ok (.invokestatic 66, 3) := by decide +kernel
theorem dX5_get_5 : decode cX5_get 5 = .ok (.ifCond .eq 11, 3) := by decide +kernel
theorem dX5_get_8 : decode cX5_get 8 = .ok (.iload_n 2, 1) := by decide +kernel
theorem dX5_get_9 : decode cX5_get 9 = .ok (.iconst 3, 1) := by decide +kernel
theorem dX5_get_10 : decode cX5_get 10 = .ok (.invokestatic 66, 3) := by decide +kernel
theorem dX5_get_13 : decode cX5_get 13 = .ok (.ifCond .ne 7, 3) := by decide +kernel
theorem dX5_get_16 : decode cX5_get 16 = .ok (.ldc_w 269, 3) := by decide +kernel
theorem dX5_get_19 : decode cX5_get 19 = .ok (.ireturn, 1) := by decide +kernel
theorem dX5_get_20 : decode cX5_get 20 = .ok (.aload_n 0, 1) := by decide +kernel
theorem dX5_get_21 : decode cX5_get 21 = .ok (.getfield 57, 3) := by decide +kernel
theorem dX5_get_24 : decode cX5_get 24 = .ok (.iload_n 1, 1) := by decide +kernel
theorem dX5_get_25 : decode cX5_get 25 = .ok (.aaload, 1) := by decide +kernel
theorem dX5_get_26 : decode cX5_get 26 = .ok (.iload_n 2, 1) := by decide +kernel
theorem dX5_get_27 : decode cX5_get 27 = .ok (.iload_n 3, 1) := by decide +kernel
theorem dX5_get_28 : decode cX5_get 28 = .ok (.invokevirtual 263, 3) := by decide +kernel
theorem dX5_get_31 : decode cX5_get 31 = .ok (.istore 4, 2) := by decide +kernel
theorem dX5_get_33 : decode cX5_get 33 = .ok (.iload 4, 2) := by decide +kernel
theorem dX5_get_35 : decode cX5_get 35 = .ok (.ifCond .eq 13, 3) := by decide +kernel
theorem dX5_get_38 : decode cX5_get 38 = .ok (.aload_n 0, 1) := by decide +kernel
theorem dX5_get_39 : decode cX5_get 39 = .ok (.iload 4, 2) := by decide +kernel
theorem dX5_get_41 : decode cX5_get 41 = .ok (.putfield 62, 3) := by decide +kernel
theorem dX5_get_44 : decode cX5_get 44 = .ok (.ldc_w 269, 3) := by decide +kernel
theorem dX5_get_47 : decode cX5_get 47 = .ok (.ireturn, 1) := by decide +kernel
theorem dX5_get_48 : decode cX5_get 48 = .ok (.aload_n 0, 1) := by decide +kernel
theorem dX5_get_49 : decode cX5_get 49 = .ok (.getfield 57, 3) := by decide +kernel
theorem dX5_get_52 : decode cX5_get 52 = .ok (.iload_n 1, 1) := by decide +kernel
theorem dX5_get_53 : decode cX5_get 53 = .ok (.aaload, 1) := by decide +kernel
theorem dX5_get_54 : decode cX5_get 54 = .ok (.getfield 138, 3) := by decide +kernel
theorem dX5_get_57 : decode cX5_get 57 = .ok (.iload_n 3, 1) := by decide +kernel
theorem dX5_get_58 : decode cX5_get 58 = .ok (.iaload, 1) := by decide +kernel
theorem dX5_get_59 : decode cX5_get 59 = .ok (.ireturn, 1) := by decide +kernel
theorem dX5_copy_0 : decode cX5_copy 0 = .ok (.iload_n 1, 1) := by decide +kernel
theorem dX5_copy_1 : decode cX5_copy 1 = .ok (.iconst 4, 1) := by decide +kernel
theorem dX5_copy_2 : decode cX5_copy 2 = .ok (.invokestatic 66, 3) := by decide +kernel
theorem dX5_copy_5 : decode cX5_copy 5 = .ok (.ifCond .eq 11, 3) := by decide +kernel
theorem dX5_copy_8 : decode cX5_copy 8 = .ok (.iload_n 3, 1) := by decide +kernel
theorem dX5_copy_9 : decode cX5_copy 9 = .ok (.iconst 4, 1) := by decide +kernel
theorem dX5_copy_10 : decode cX5_copy 10 = .ok (.invokestatic 66, 3) := by decide +kernel
theorem dX5_copy_13 : decode cX5_copy 13 = .ok (.ifCond .ne 6, 3) := by decide +kernel
theorem dX5_copy_16 : decode cX5_copy 16 = .ok (.bipush (-2), 2) := by decide +kernel
theorem dX5_copy_18 : decode cX5_copy 18 = .ok (.ireturn, 1) := by decide +kernel
theorem dX5_copy_19 : decode cX5_copy 19 = .ok (.aload_n 0, 1) := by decide +kernel
theorem dX5_copy_20 : decode cX5_copy 20 = .ok (.getfield 57, 3) := by decide +kernel
theorem dX5_copy_23 : decode cX5_copy 23 = .ok (.iload_n 1, 1) := by decide +kernel
theorem dX5_copy_24 : decode cX5_copy 24 = .ok (.aaload, 1) := by decide +kernel
theorem dX5_copy_25 : decode cX5_copy 25 = .ok (.invokevirtual 130, 3) := by decide +kernel
theorem dX5_copy_28 : decode cX5_copy 28 = .ok (.ifCond .ne 15, 3) := by decide +kernel
theorem dX5_copy_31 : decode cX5_copy 31 = .ok (.aload_n 0, 1) := by decide +kernel
theorem dX5_copy_32 : decode cX5_copy 32 = .ok (.getfield 57, 3) := by decide +kernel
theorem dX5_copy_35 : decode cX5_copy 35 = .ok (.iload_n 3, 1) := by decide +kernel
theorem dX5_copy_36 : decode cX5_copy 36 = .ok (.aaload, 1) := by decide +kernel
theorem dX5_copy_37 : decode cX5_copy 37 = .ok (.invokevirtual 130, 3) := by decide +kernel
theorem dX5_copy_40 : decode cX5_copy 40 = .ok (.ifCond .eq 9, 3) := by decide +kernel
theorem dX5_copy_43 : decode cX5_copy 43 = .ok (.aload_n 0, 1) := by decide +kernel
theorem dX5_copy_44 : decode cX5_copy 44 = .ok (.iconst 1, 1) := by decide +kernel
theorem dX5_copy_45 : decode cX5_copy 45 = .ok (.invokevirtual 133, 3) := by decide +kernel
theorem dX5_copy_48 : decode cX5_copy 48 = .ok (.ireturn, 1) := by decide +kernel
theorem dX5_copy_49 : decode cX5_copy 49 = .ok (.aload_n 0, 1) := by decide +kernel
theorem dX5_copy_50 : decode cX5_copy 50 = .ok (.getfield 57, 3) := by decide +kernel
theorem dX5_copy_53 : decode cX5_copy 53 = .ok (.iload_n 1, 1) := by decide +kernel
theorem dX5_copy_54 : decode cX5_copy 54 = .ok (.aaload, 1) := by decide +kernel
theorem dX5_copy_55 : decode cX5_copy 55 = .ok (.getfield 270, 3) := by decide +kernel
theorem dX5_copy_58 : decode cX5_copy 58 = .ok (.aload_n 0, 1) := by decide +kernel
theorem dX5_copy_59 : decode cX5_copy 59 = .ok (.getfield 57, 3) := by decide +kernel
theorem dX5_copy_62 : decode cX5_copy 62 = .ok (.iload_n 3, 1) := by decide +kernel
theorem dX5_copy_63 : decode cX5_copy 63 = .ok (.aaload, 1) := by decide +kernel
theorem dX5_copy_64 : decode cX5_copy 64 = .ok (.getfield 270, 3) := by decide +kernel
theorem dX5_copy_67 : decode cX5_copy 67 = .ok (.if_icmp .eq 9, 3) := by decide +kernel
theorem dX5_copy_70 : decode cX5_copy 70 = .ok (.aload_n 0, 1) := by decide +kernel
theorem dX5_copy_71 : decode cX5_copy 71 = .ok (.iconst 4, 1) := by decide +kernel
theorem dX5_copy_72 : decode cX5_copy 72 = .ok (.invokevirtual 133, 3) := by decide +kernel
theorem dX5_copy_75 : decode cX5_copy 75 = .ok (.ireturn, 1) := by decide +kernel
theorem dX5_copy_76 : decode cX5_copy 76 = .ok (.aload_n 0, 1) := by decide +kernel
theorem dX5_copy_77 : decode cX5_copy 77 = .ok (.getfield 57, 3) := by decide +kernel
theorem dX5_copy_80 : decode cX5_copy 80 = .ok (.iload_n 1, 1) := by decide +kernel
theorem dX5_copy_81 : decode cX5_copy 81 = .ok (.aaload, 1) := by decide +kernel
theorem dX5_copy_82 : decode cX5_copy 82 = .ok (.iload_n 2, 1) := by decide +kernel
theorem dX5_copy_83 : decode cX5_copy 83 = .ok (.iload 5, 2) := by decide +kernel
theorem dX5_copy_85 : decode cX5_copy 85 = .ok (.invokevirtual 273, 3) := by decide +kernel
theorem dX5_copy_88 : decode cX5_copy 88 = .ok (.ifCond .eq 19, 3) := by decide +kernel
theorem dX5_copy_91 : decode cX5_copy 91 = .ok (.aload_n 0, 1) := by decide +kernel
theorem dX5_copy_92 : decode cX5_copy 92 = .ok (.getfield 57, 3) := by decide +kernel
theorem dX5_copy_95 : decode cX5_copy 95 = .ok (.iload_n 3, 1) := by decide +kernel
theorem dX5_copy_96 : decode cX5_copy 96 = .ok (.aaload, 1) := by decide +kernel
theorem dX5_copy_97 : decode cX5_copy 97 = .ok (.iload 4, 2) := by decide +kernel
theorem dX5_copy_99 : decode cX5_copy 99 = .ok (.iload 5, 2) := by decide +kernel
theorem dX5_copy_101 : decode cX5_copy 101 = .ok (.invokevirtual 273, 3) := by decide +kernel
theorem dX5_copy_104 : decode cX5_copy 104 = .ok (.ifCond .ne 9, 3) := by decide +kernel
theorem dX5_copy_107 : decode cX5_copy 107 = .ok (.aload_n 0, 1) := by decide +kernel
theorem dX5_copy_108 : decode cX5_copy 108 = .ok (.iconst 2, 1) := by decide +kernel
theorem dX5_copy_109 : decode cX5_copy 109 = .ok (.invokevirtual 133, 3) := by decide +kernel
theorem dX5_copy_112 : decode cX5_copy 112 = .ok (.ireturn, 1) := by decide +kernel
theorem dX5_copy_113 : decode cX5_copy 113 = .ok (.aload_n 0, 1) := by decide +kernel
theorem dX5_copy_114 : decode cX5_copy 114 = .ok (.getfield 57, 3) := by decide +kernel
theorem dX5_copy_117 : decode cX5_copy 117 = .ok (.iload_n 1, 1) := by decide +kernel
theorem dX5_copy_118 : decode cX5_copy 118 = .ok (.aaload, 1) := by decide +kernel
theorem dX5_copy_119 : decode cX5_copy 119 = .ok (.getfield 138, 3) := by decide +kernel
theorem dX5_copy_122 : decode cX5_copy 122 = .ok (.iload_n 2, 1) := by decide +kernel
theorem dX5_copy_123 : decode cX5_copy 123 = .ok (.aload_n 0, 1) := by decide +kernel
theorem dX5_copy_124 : decode cX5_copy 124 = .ok (.getfield 57, 3) := by decide +kernel
theorem dX5_copy_127 : decode cX5_copy 127 = .ok (.iload_n 3, 1) := by decide +kernel
theorem dX5_copy_128 : decode cX5_copy 128 = .ok (.aaload, 1) := by decide +kernel
theorem dX5_copy_129 : decode cX5_copy 129 = .ok (.getfield 138, 3) := by decide +kernel
theorem dX5_copy_132 : decode cX5_copy 132 = .ok (.iload 4, 2) := by decide +kernel
theorem dX5_copy_134 : decode cX5_copy 134 = .ok (.iload 5, 2) := by decide +kernel
theorem dX5_copy_136 : decode cX5_copy 136 = .ok (.invokestatic 276, 3) := by decide +kernel
theorem dX5_copy_139 : decode cX5_copy 139 = .ok (.iconst 1, 1) := by decide +kernel
theorem dX5_copy_140 : decode cX5_copy 140 = .ok (.ireturn, 1) := by decide +kernel
theorem dX5_write_0 : decode cX5_write 0 = .ok (.iload_n 1, 1) := by decide +kernel
theorem dX5_write_1 : decode cX5_write 1 = .ok (.aload_n 0, 1) := by decide +kernel
theorem dX5_write_2 : decode cX5_write 2 = .ok (.getfield 21, 3) := by decide +kernel
theorem dX5_write_5 : decode cX5_write 5 = .ok (.getfield 90, 3) := by decide +kernel
theorem dX5_write_8 : decode cX5_write 8 = .ok (.invokestatic 66, 3) := by decide +kernel
theorem dX5_write_11 : decode cX5_write 11 = .ok (.ifCond .eq 11, 3) := by decide +kernel
theorem dX5_write_14 : decode cX5_write 14 = .ok (.iload_n 2, 1) := by decide +kernel
theorem dX5_write_15 : decode cX5_write 15 = .ok (.iconst 4, 1) := by decide +kernel
theorem dX5_write_16 : decode cX5_write 16 = .ok (.invokestatic 66, 3) := by decide +kernel
theorem dX5_write_19 : decode cX5_write 19 = .ok (.ifCond .ne 6, 3) := by decide +kernel
theorem dX5_write_22 : decode cX5_write 22 = .ok (.bipush (-2), 2) := by decide +kernel
theorem dX5_write_24 : decode cX5_write 24 = .ok (.ireturn, 1) := by decide +kernel
theorem dX5_write_25 : decode cX5_write 25 = .ok (.aload_n 0, 1) := by decide +kernel
theorem dX5_write_26 : decode cX5_write 26 = .ok (.getfield 57, 3) := by decide +kernel
theorem dX5_write_29 : decode cX5_write 29 = .ok (.iload_n 2, 1) := by decide +kernel
theorem dX5_write_30 : decode cX5_write 30 = .ok (.aaload, 1) := by decide +kernel
theorem dX5_write_31 : decode cX5_write 31 = .ok (.invokevirtual 130, 3) := by decide +kernel
theorem dX5_write_34 : decode cX5_write 34 = .ok (.ifCond .eq 9, 3) := by decide +kernel
theorem dX5_write_37 : decode cX5_write 37 = .ok (.aload_n 0, 1) := by decide +kernel
theorem dX5_write_38 : decode cX5_write 38 = .ok (.iconst 1, 1) := by decide +kernel
theorem dX5_write_39 : decode cX5_write 39 = .ok (.invokevirtual 133, 3) := by decide +kernel
theorem dX5_write_42 : decode cX5_write 42 = .ok (.ireturn, 1) := by decide +kernel
theorem dX5_write_43 : decode cX5_write 43 = .ok (.aload_n 0, 1) := by decide +kernel
theorem dX5_write_44 : decode cX5_write 44 = .ok (.getfield 57, 3) := by decide +kernel
theorem dX5_write_47 : decode cX5_write 47 = .ok (.iload_n 2, 1) := by decide +kernel
theorem dX5_write_48 : decode cX5_write 48 = .ok (.aaload, 1) := by decide +kernel
theorem dX5_write_49 : decode cX5_write 49 = .ok (.getfield 137, 3) := by decide +kernel
theorem dX5_write_52 : decode cX5_write 52 = .ok (.bipush 24, 2) := by decide +kernel
theorem dX5_write_54 : decode cX5_write 54 = .ok (.invokestatic 190, 3) := by decide +kernel
theorem dX5_write_57 : decode cX5_write 57 = .ok (.istore_n 3, 1) := by decide +kernel
theorem dX5_write_58 : decode cX5_write 58 = .ok (.aload_n 0, 1) := by decide +kernel
theorem dX5_write_59 : decode cX5_write 59 = .ok (.getfield 30, 3) := by decide +kernel
theorem dX5_write_62 : decode cX5_write 62 = .ok (.bipush 23, 2) := by decide +kernel
theorem dX5_write_64 : decode cX5_write 64 = .ok (.invokevirtual 141, 3) := by decide +kernel
theorem dX5_write_67 : decode cX5_write 67 = .ok (.iconst 0, 1) := by decide +kernel
theorem dX5_write_68 : decode cX5_write 68 = .ok (.istore 4, 2) := by decide +kernel
theorem dX5_write_70 : decode cX5_write 70 = .ok (.iload 4, 2) := by decide +kernel
theorem dX5_write_72 : decode cX5_write 72 = .ok (.iload_n 3, 1) := by decide +kernel
theorem dX5_write_73 : decode cX5_write 73 = .ok (.if_icmp .ge 30, 3) := by decide +kernel
theorem dX5_write_76 : decode cX5_write 76 = .ok (.aload_n 0, 1) := by decide +kernel
theorem dX5_write_77 : decode cX5_write 77 = .ok (.getfield 57, 3) := by decide +kernel
theorem dX5_write_80 : decode cX5_write 80 = .ok (.iload_n 2, 1) := by decide +kernel
theorem dX5_write_81 : decode cX5_write 81 = .ok (.aaload, 1) := by decide +kernel
theorem dX5_write_82 : decode cX5_write 82 = .ok (.iload 4, 2) := by decide +kernel
theorem dX5_write_84 : decode cX5_write 84 = .ok (.aload_n 0, 1) := by decide +kernel
theorem dX5_write_85 : decode cX5_write 85 = .ok (.getfield 30, 3) := by decide +kernel
theorem dX5_write_88 : decode cX5_write 88 = .ok (.iload 4, 2) := by decide +kernel
theorem dX5_write_90 : decode cX5_write 90 = .ok (.iload_n 1, 1) := by decide +kernel
theorem dX5_write_91 : decode cX5_write 91 = .ok (.invokevirtual 282, 3) := by decide +kernel
theorem dX5_write_94 : decode cX5_write 94 = .ok (.invokevirtual 266, 3) := by decide +kernel
theorem dX5_write_97 : decode cX5_write 97 = .ok (.iinc 4 1, 3) := by decide +kernel
theorem dX5_write_100 : decode cX5_write 100 = .ok (.goto (-30), 3) := by decide +kernel
theorem dX5_write_103 : decode cX5_write 103 = .ok (.iload_n 3, 1) := by decide +kernel
theorem dX5_write_104 : decode cX5_write 104 = .ok (.ireturn, 1) := by decide +kernel
theorem dX5_count_0 : decode cX5_count 0 = .ok (.iload_n 1, 1) := by decide +kernel
theorem dX5_count_1 : decode cX5_count 1 = .ok (.tableswitch 110 0 8 #[51, 59, 67, 77, 77, 77, 89, 97, 105], 51) := by decide +kernel
theorem dX5_count_52 : decode cX5_count 52 = .ok (.aload_n 0, 1) := by decide +kernel
theorem dX5_count_53 : decode cX5_count 53 = .ok (.getfield 21, 3) := by decide +kernel
theorem dX5_count_56 : decode cX5_count 56 = .ok (.getfield 90, 3) := by decide +kernel
theorem dX5_count_59 : decode cX5_count 59 = .ok (.ireturn, 1) := by decide +kernel
theorem dX5_count_60 : decode cX5_count 60 = .ok (.aload_n 0, 1) := by decide +kernel
theorem dX5_count_61 : decode cX5_count 61 = .ok (.getfield 21, 3) := by decide +kernel
theorem dX5_count_64 : decode cX5_count 64 = .ok (.getfield 99, 3) := by decide +kernel
theorem dX5_count_67 : decode cX5_count 67 = .ok (.ireturn, 1) := by decide +kernel
theorem dX5_count_68 : decode cX5_count 68 = .ok (.aload_n 0, 1) := by decide +kernel
theorem dX5_count_69 : decode cX5_count 69 = .ok (.getfield 11, 3) := by decide +kernel
theorem dX5_count_72 : decode cX5_count 72 = .ok (.iconst 2, 1) := by decide +kernel
theorem dX5_count_73 : decode cX5_count 73 = .ok (.aaload, 1) := by decide +kernel
theorem dX5_count_74 : decode cX5_count 74 = .ok (.invokevirtual 285, 3) := by decide +kernel
theorem dX5_count_77 : decode cX5_count 77 = .ok (.ireturn, 1) := by decide +kernel
theorem dX5_count_78 : decode cX5_count 78 = .ok (.aload_n 0, 1) := by decide +kernel
theorem dX5_count_79 : decode cX5_count 79 = .ok (.getfield 11, 3) := by decide +kernel
theorem dX5_count_82 : decode cX5_count 82 = .ok (.iload_n 1, 1) := by decide +kernel
theorem dX5_count_83 : decode cX5_count 83 = .ok (.iconst 3, 1) := by decide +kernel
theorem dX5_count_84 : decode cX5_count 84 = .ok (.isub, 1) := by decide +kernel
theorem dX5_count_85 : decode cX5_count 85 = .ok (.aaload, 1) := by decide +kernel
theorem dX5_count_86 : decode cX5_count 86 = .ok (.getfield 81, 3) := by decide +kernel
theorem dX5_count_89 : decode cX5_count 89 = .ok (.ireturn, 1) := by decide +kernel
theorem dX5_count_90 : decode cX5_count 90 = .ok (.aload_n 0, 1) := by decide +kernel
theorem dX5_count_91 : decode cX5_count 91 = .ok (.getfield 21, 3) := by decide +kernel
theorem dX5_count_94 : decode cX5_count 94 = .ok (.getfield 117, 3) := by decide +kernel
theorem dX5_count_97 : decode cX5_count 97 = .ok (.ireturn, 1) := by decide +kernel
theorem dX5_count_98 : decode cX5_count 98 = .ok (.aload_n 0, 1) := by decide +kernel
theorem dX5_count_99 : decode cX5_count 99 = .ok (.getfield 48, 3) := by decide +kernel
theorem dX5_count_102 : decode cX5_count 102 = .ok (.getfield 211, 3) := by decide +kernel
theorem dX5_count_105 : decode cX5_count 105 = .ok (.ireturn, 1) := by decide +kernel
theorem dX5_count_106 : decode cX5_count 106 = .ok (.aload_n 0, 1) := by decide +kernel
theorem dX5_count_107 : decode cX5_count 107 = .ok (.getfield 62, 3) := by decide +kernel
theorem dX5_count_110 : decode cX5_count 110 = .ok (.ireturn, 1) := by decide +kernel
theorem dX5_count_111 : decode cX5_count 111 = .ok (.bipush (-2), 2) := by decide +kernel
theorem dX5_count_113 : decode cX5_count 113 = .ok (.ireturn, 1) := by decide +kernel
theorem dX5_digest_0 : decode cX5_digest 0 = .ok (.ldc2_w 288, 3) := by decide +kernel
theorem dX5_digest_3 : decode cX5_digest 3 = .ok (.lstore_n 1, 1) := by decide +kernel
theorem dX5_digest_4 : decode cX5_digest 4 = .ok (.iconst 0, 1) := by decide +kernel
theorem dX5_digest_5 : decode cX5_digest 5 = .ok (.istore_n 3, 1) := by decide +kernel
theorem dX5_digest_6 : decode cX5_digest 6 = .ok (.iload_n 3, 1) := by decide +kernel
theorem dX5_digest_7 : decode cX5_digest 7 = .ok (.bipush 8, 2) := by decide +kernel
theorem dX5_digest_9 : decode cX5_digest 9 = .ok (.if_icmp .ge 22, 3) := by decide +kernel
theorem dX5_digest_12 : decode cX5_digest 12 = .ok (.ldc2_w 290, 3) := by decide +kernel
theorem dX5_digest_15 : decode cX5_digest 15 = .ok (.lload_n 1, 1) := by decide +kernel
theorem dX5_digest_16 : decode cX5_digest 16 = .ok (.lmul, 1) := by decide +kernel
theorem dX5_digest_17 : decode cX5_digest 17 = .ok (.aload_n 0, 1) := by decide +kernel
theorem dX5_digest_18 : decode cX5_digest 18 = .ok (.iload_n 3, 1) := by decide +kernel
theorem dX5_digest_19 : decode cX5_digest 19 = .ok (.invokevirtual 292, 3) := by decide +kernel
theorem dX5_digest_22 : decode cX5_digest 22 = .ok (.i2l, 1) := by decide +kernel
theorem dX5_digest_23 : decode cX5_digest 23 = .ok (.ladd, 1) := by decide +kernel
theorem dX5_digest_24 : decode cX5_digest 24 = .ok (.lstore_n 1, 1) := by decide +kernel
theorem dX5_digest_25 : decode cX5_digest 25 = .ok (.iinc 3 1, 3) := by decide +kernel
theorem dX5_digest_28 : decode cX5_digest 28 = .ok (.goto (-22), 3) := by decide +kernel
theorem dX5_digest_31 : decode cX5_digest 31 = .ok (.iconst 0, 1) := by decide +kernel
theorem dX5_digest_32 : decode cX5_digest 32 = .ok (.istore_n 3, 1) := by decide +kernel
theorem dX5_digest_33 : decode cX5_digest 33 = .ok (.iload_n 3, 1) := by decide +kernel
theorem dX5_digest_34 : decode cX5_digest 34 = .ok (.iconst 3, 1) := by decide +kernel
theorem dX5_digest_35 : decode cX5_digest 35 = .ok (.if_icmp .ge 22, 3) := by decide +kernel
theorem dX5_digest_38 : decode cX5_digest 38 = .ok (.ldc2_w 290, 3) := by decide +kernel
theorem dX5_digest_41 : decode cX5_digest 41 = .ok (.lload_n 1, 1) := by decide +kernel
theorem dX5_digest_42 : decode cX5_digest 42 = .ok (.lmul, 1) := by decide +kernel
theorem dX5_digest_43 : decode cX5_digest 43 = .ok (.aload_n 0, 1) := by decide +kernel
theorem dX5_digest_44 : decode cX5_digest 44 = .ok (.iload_n 3, 1) := by decide +kernel
theorem dX5_digest_45 : decode cX5_digest 45 = .ok (.invokevirtual 295, 3) := by decide +kernel
theorem dX5_digest_48 : decode cX5_digest 48 = .ok (.i2l, 1) := by decide +kernel
theorem dX5_digest_49 : decode cX5_digest 49 = .ok (.ladd, 1) := by decide +kernel
theorem dX5_digest_50 : decode cX5_digest 50 = .ok (.lstore_n 1, 1) := by decide +kernel
theorem dX5_digest_51 : decode cX5_digest 51 = .ok (.iinc 3 1, 3) := by decide +kernel
theorem dX5_digest_54 : decode cX5_digest 54 = .ok (.goto (-21), 3) := by decide +kernel
theorem dX5_digest_57 : decode cX5_digest 57 = .ok (.iconst 0, 1) := by decide +kernel
theorem dX5_digest_58 : decode cX5_digest 58 = .ok (.istore_n 3, 1) := by decide +kernel
theorem dX5_digest_59 : decode cX5_digest 59 = .ok (.iload_n 3, 1) := by decide +kernel
theorem dX5_digest_60 : decode cX5_digest 60 = .ok (.aload_n 0, 1) := by decide +kernel
theorem dX5_digest_61 : decode cX5_digest 61 = .ok (.getfield 21, 3) := by decide +kernel
theorem dX5_digest_64 : decode cX5_digest 64 = .ok (.getfield 99, 3) := by decide +kernel
theorem dX5_digest_67 : decode cX5_digest 67 = .ok (.if_icmp .ge 16, 3) := by decide +kernel
theorem dX5_digest_70 : decode cX5_digest 70 = .ok (.aload_n 0, 1) := by decide +kernel
theorem dX5_digest_71 : decode cX5_digest 71 = .ok (.lload_n 1, 1) := by decide +kernel
theorem dX5_digest_72 : decode cX5_digest 72 = .ok (.iload_n 3, 1) := by decide +kernel
theorem dX5_digest_73 : decode cX5_digest 73 = .ok (.invokevirtual 298, 3) := by decide +kernel
theorem dX5_digest_76 : decode cX5_digest 76 = .ok (.lstore_n 1, 1) := by decide +kernel
theorem dX5_digest_77 : decode cX5_digest 77 = .ok (.iinc 3 1, 3) := by decide +kernel
theorem dX5_digest_80 : decode cX5_digest 80 = .ok (.goto (-21), 3) := by decide +kernel
theorem dX5_digest_83 : decode cX5_digest 83 = .ok (.iconst 0, 1) := by decide +kernel
theorem dX5_digest_84 : decode cX5_digest 84 = .ok (.istore_n 3, 1) := by decide +kernel
theorem dX5_digest_85 : decode cX5_digest 85 = .ok (.iload_n 3, 1) := by decide +kernel
theorem dX5_digest_86 : decode cX5_digest 86 = .ok (.aload_n 0, 1) := by decide +kernel
theorem dX5_digest_87 : decode cX5_digest 87 = .ok (.getfield 21, 3) := by decide +kernel
theorem dX5_digest_90 : decode cX5_digest 90 = .ok (.getfield 90, 3) := by decide +kernel
theorem dX5_digest_93 : decode cX5_digest 93 = .ok (.if_icmp .ge 16, 3) := by decide +kernel
theorem dX5_digest_96 : decode cX5_digest 96 = .ok (.aload_n 0, 1) := by decide +kernel
theorem dX5_digest_97 : decode cX5_digest 97 = .ok (.lload_n 1, 1) := by decide +kernel
theorem dX5_digest_98 : decode cX5_digest 98 = .ok (.iload_n 3, 1) := by decide +kernel
theorem dX5_digest_99 : decode cX5_digest 99 = .ok (.invokevirtual 302, 3) := by decide +kernel
theorem dX5_digest_102 : decode cX5_digest 102 = .ok (.lstore_n 1, 1) := by decide +kernel
theorem dX5_digest_103 : decode cX5_digest 103 = .ok (.iinc 3 1, 3) := by decide +kernel
theorem dX5_digest_106 : decode cX5_digest 106 = .ok (.goto (-21), 3) := by decide +kernel
theorem dX5_digest_109 : decode cX5_digest 109 = .ok (.iconst 0, 1) := by decide +kernel
theorem dX5_digest_110 : decode cX5_digest 110 = .ok (.istore_n 3, 1) := by decide +kernel
theorem dX5_digest_111 : decode cX5_digest 111 = .ok (.iload_n 3, 1) := by decide +kernel
theorem dX5_digest_112 : decode cX5_digest 112 = .ok (.bipush 24, 2) := by decide +kernel
theorem dX5_digest_114 : decode cX5_digest 114 = .ok (.if_icmp .ge 50, 3) := by decide +kernel
theorem dX5_digest_117 : decode cX5_digest 117 = .ok (.ldc2_w 290, 3) := by decide +kernel
theorem dX5_digest_120 : decode cX5_digest 120 = .ok (.lload_n 1, 1) := by decide +kernel
theorem dX5_digest_121 : decode cX5_digest 121 = .ok (.lmul, 1) := by decide +kernel
theorem dX5_digest_122 : decode cX5_digest 122 = .ok (.aload_n 0, 1) := by decide +kernel
theorem dX5_digest_123 : decode cX5_digest 123 = .ok (.iload_n 3, 1) := by decide +kernel
theorem dX5_digest_124 : decode cX5_digest 124 = .ok (.invokevirtual 305, 3) := by decide +kernel
theorem dX5_digest_127 : decode cX5_digest 127 = .ok (.i2l, 1) := by decide +kernel
theorem dX5_digest_128 : decode cX5_digest 128 = .ok (.ladd, 1) := by decide +kernel
theorem dX5_digest_129 : decode cX5_digest 129 = .ok (.lstore_n 1, 1) := by decide +kernel
theorem dX5_digest_130 : decode cX5_digest 130 = .ok (.ldc2_w 290, 3) := by decide +kernel
theorem dX5_digest_133 : decode cX5_digest 133 = .ok (.lload_n 1, 1) := by decide +kernel
theorem dX5_digest_134 : decode cX5_digest 134 = .ok (.lmul, 1) := by decide +kernel
theorem dX5_digest_135 : decode cX5_digest 135 = .ok (.aload_n 0, 1) := by decide +kernel
theorem dX5_digest_136 : decode cX5_digest 136 = .ok (.iload_n 3, 1) := by decide +kernel
theorem dX5_digest_137 : decode cX5_digest 137 = .ok (.iconst 0, 1) := by decide +kernel
theorem dX5_digest_138 : decode cX5_digest 138 = .ok (.invokevirtual 308, 3) := by decide +kernel
theorem dX5_digest_141 : decode cX5_digest 141 = .ok (.i2l, 1) := by decide +kernel
theorem dX5_digest_142 : decode cX5_digest 142 = .ok (.ladd, 1) := by decide +kernel
theorem dX5_digest_143 : decode cX5_digest 143 = .ok (.lstore_n 1, 1) := by decide +kernel
theorem dX5_digest_144 : decode cX5_digest 144 = .ok (.ldc2_w 290, 3) := by decide +kernel
theorem dX5_digest_147 : decode cX5_digest 147 = .ok (.lload_n 1, 1) := by decide +kernel
theorem dX5_digest_148 : decode cX5_digest 148 = .ok (.lmul, 1) := by decide +kernel
theorem dX5_digest_149 : decode cX5_digest 149 = .ok (.aload_n 0, 1) := by decide +kernel
theorem dX5_digest_150 : decode cX5_digest 150 = .ok (.iload_n 3, 1) := by decide +kernel
theorem dX5_digest_151 : decode cX5_digest 151 = .ok (.iconst 1, 1) := by decide +kernel
theorem dX5_digest_152 : decode cX5_digest 152 = .ok (.invokevirtual 308, 3) := by decide +kernel
theorem dX5_digest_155 : decode cX5_digest 155 = .ok (.i2l, 1) := by decide +kernel
theorem dX5_digest_156 : decode cX5_digest 156 = .ok (.ladd, 1) := by decide +kernel
theorem dX5_digest_157 : decode cX5_digest 157 = .ok (.lstore_n 1, 1) := by decide +kernel
theorem dX5_digest_158 : decode cX5_digest 158 = .ok (.iinc 3 1, 3) := by decide +kernel
theorem dX5_digest_161 : decode cX5_digest 161 = .ok (.goto (-50), 3) := by decide +kernel
theorem dX5_digest_164 : decode cX5_digest 164 = .ok (.ldc2_w 290, 3) := by decide +kernel
theorem dX5_digest_167 : decode cX5_digest 167 = .ok (.lload_n 1, 1) := by decide +kernel
theorem dX5_digest_168 : decode cX5_digest 168 = .ok (.lmul, 1) := by decide +kernel
theorem dX5_digest_169 : decode cX5_digest 169 = .ok (.aload_n 0, 1) := by decide +kernel
theorem dX5_digest_170 : decode cX5_digest 170 = .ok (.iconst 0, 1) := by decide +kernel
theorem dX5_digest_171 : decode cX5_digest 171 = .ok (.invokevirtual 311, 3) := by decide +kernel
theorem dX5_digest_174 : decode cX5_digest 174 = .ok (.i2l, 1) := by decide +kernel
theorem dX5_digest_175 : decode cX5_digest 175 = .ok (.ladd, 1) := by decide +kernel
theorem dX5_digest_176 : decode cX5_digest 176 = .ok (.lstore_n 1, 1) := by decide +kernel
theorem dX5_digest_177 : decode cX5_digest 177 = .ok (.ldc2_w 290, 3) := by decide +kernel
theorem dX5_digest_180 : decode cX5_digest 180 = .ok (.lload_n 1, 1) := by decide +kernel
theorem dX5_digest_181 : decode cX5_digest 181 = .ok (.lmul, 1) := by decide +kernel
theorem dX5_digest_182 : decode cX5_digest 182 = .ok (.aload_n 0, 1) := by decide +kernel
theorem dX5_digest_183 : decode cX5_digest 183 = .ok (.iconst 1, 1) := by decide +kernel
theorem dX5_digest_184 : decode cX5_digest 184 = .ok (.invokevirtual 311, 3) := by decide +kernel
theorem dX5_digest_187 : decode cX5_digest 187 = .ok (.i2l, 1) := by decide +kernel
theorem dX5_digest_188 : decode cX5_digest 188 = .ok (.ladd, 1) := by decide +kernel
theorem dX5_digest_189 : decode cX5_digest 189 = .ok (.lstore_n 1, 1) := by decide +kernel
theorem dX5_digest_190 : decode cX5_digest 190 = .ok (.ldc2_w 290, 3) := by decide +kernel
theorem dX5_digest_193 : decode cX5_digest 193 = .ok (.lload_n 1, 1) := by decide +kernel
theorem dX5_digest_194 : decode cX5_digest 194 = .ok (.lmul, 1) := by decide +kernel
theorem dX5_digest_195 : decode cX5_digest 195 = .ok (.aload_n 0, 1) := by decide +kernel
theorem dX5_digest_196 : decode cX5_digest 196 = .ok (.invokevirtual 314, 3) := by decide +kernel
theorem dX5_digest_199 : decode cX5_digest 199 = .ok (.i2l, 1) := by decide +kernel
theorem dX5_digest_200 : decode cX5_digest 200 = .ok (.ladd, 1) := by decide +kernel
theorem dX5_digest_201 : decode cX5_digest 201 = .ok (.lstore_n 1, 1) := by decide +kernel
theorem dX5_digest_202 : decode cX5_digest 202 = .ok (.ldc2_w 290, 3) := by decide +kernel
theorem dX5_digest_205 : decode cX5_digest 205 = .ok (.lload_n 1, 1) := by decide +kernel
theorem dX5_digest_206 : decode cX5_digest 206 = .ok (.lmul, 1) := by decide +kernel
theorem dX5_digest_207 : decode cX5_digest 207 = .ok (.aload_n 0, 1) := by decide +kernel
theorem dX5_digest_208 : decode cX5_digest 208 = .ok (.invokevirtual 317, 3) := by decide +kernel
theorem dX5_digest_211 : decode cX5_digest 211 = .ok (.i2l, 1) := by decide +kernel
theorem dX5_digest_212 : decode cX5_digest 212 = .ok (.ladd, 1) := by decide +kernel
theorem dX5_digest_213 : decode cX5_digest 213 = .ok (.lstore_n 1, 1) := by decide +kernel
theorem dX5_digest_214 : decode cX5_digest 214 = .ok (.ldc2_w 290, 3) := by decide +kernel
theorem dX5_digest_217 : decode cX5_digest 217 = .ok (.lload_n 1, 1) := by decide +kernel
theorem dX5_digest_218 : decode cX5_digest 218 = .ok (.lmul, 1) := by decide +kernel
theorem dX5_digest_219 : decode cX5_digest 219 = .ok (.aload_n 0, 1) := by decide +kernel
theorem dX5_digest_220 : decode cX5_digest 220 = .ok (.invokevirtual 320, 3) := by decide +kernel
theorem dX5_digest_223 : decode cX5_digest 223 = .ok (.i2l, 1) := by decide +kernel
theorem dX5_digest_224 : decode cX5_digest 224 = .ok (.ladd, 1) := by decide +kernel
theorem dX5_digest_225 : decode cX5_digest 225 = .ok (.lstore_n 1, 1) := by decide +kernel
theorem dX5_digest_226 : decode cX5_digest 226 = .ok (.ldc2_w 290, 3) := by decide +kernel
theorem dX5_digest_229 : decode cX5_digest 229 = .ok (.lload_n 1, 1) := by decide +kernel
theorem dX5_digest_230 : decode cX5_digest 230 = .ok (.lmul, 1) := by decide +kernel
theorem dX5_digest_231 : decode cX5_digest 231 = .ok (.aload_n 0, 1) := by decide +kernel
theorem dX5_digest_232 : decode cX5_digest 232 = .ok (.iconst 0, 1) := by decide +kernel
theorem dX5_digest_233 : decode cX5_digest 233 = .ok (.invokevirtual 323, 3) := by decide +kernel
theorem dX5_digest_236 : decode cX5_digest 236 = .ok (.i2l, 1) := by decide +kernel
theorem dX5_digest_237 : decode cX5_digest 237 = .ok (.ladd, 1) := by decide +kernel
theorem dX5_digest_238 : decode cX5_digest 238 = .ok (.lstore_n 1, 1) := by decide +kernel
theorem dX5_digest_239 : decode cX5_digest 239 = .ok (.ldc2_w 290, 3) := by decide +kernel
theorem dX5_digest_242 : decode cX5_digest 242 = .ok (.lload_n 1, 1) := by decide +kernel
theorem dX5_digest_243 : decode cX5_digest 243 = .ok (.lmul, 1) := by decide +kernel
theorem dX5_digest_244 : decode cX5_digest 244 = .ok (.aload_n 0, 1) := by decide +kernel
theorem dX5_digest_245 : decode cX5_digest 245 = .ok (.iconst 1, 1) := by decide +kernel
theorem dX5_digest_246 : decode cX5_digest 246 = .ok (.invokevirtual 323, 3) := by decide +kernel
theorem dX5_digest_249 : decode cX5_digest 249 = .ok (.i2l, 1) := by decide +kernel
theorem dX5_digest_250 : decode cX5_digest 250 = .ok (.ladd, 1) := by decide +kernel
theorem dX5_digest_251 : decode cX5_digest 251 = .ok (.lstore_n 1, 1) := by decide +kernel
theorem dX5_digest_252 : decode cX5_digest 252 = .ok (.ldc2_w 290, 3) := by decide +kernel
theorem dX5_digest_255 : decode cX5_digest 255 = .ok (.lload_n 1, 1) := by decide +kernel
theorem dX5_digest_256 : decode cX5_digest 256 = .ok (.lmul, 1) := by decide +kernel
theorem dX5_digest_257 : decode cX5_digest 257 = .ok (.aload_n 0, 1) := by decide +kernel
theorem dX5_digest_258 : decode cX5_digest 258 = .ok (.iconst (-1), 1) := by decide +kernel
theorem dX5_digest_259 : decode cX5_digest 259 = .ok (.invokevirtual 325, 3) := by decide +kernel
theorem dX5_digest_262 : decode cX5_digest 262 = .ok (.i2l, 1) := by decide +kernel
theorem dX5_digest_263 : decode cX5_digest 263 = .ok (.ladd, 1) := by decide +kernel
theorem dX5_digest_264 : decode cX5_digest 264 = .ok (.lstore_n 1, 1) := by decide +kernel
theorem dX5_digest_265 : decode cX5_digest 265 = .ok (.ldc2_w 290, 3) := by decide +kernel
theorem dX5_digest_268 : decode cX5_digest 268 = .ok (.lload_n 1, 1) := by decide +kernel
theorem dX5_digest_269 : decode cX5_digest 269 = .ok (.lmul, 1) := by decide +kernel
theorem dX5_digest_270 : decode cX5_digest 270 = .ok (.aload_n 0, 1) := by decide +kernel
theorem dX5_digest_271 : decode cX5_digest 271 = .ok (.iconst 0, 1) := by decide +kernel
theorem dX5_digest_272 : decode cX5_digest 272 = .ok (.invokevirtual 325, 3) := by decide +kernel
theorem dX5_digest_275 : decode cX5_digest 275 = .ok (.i2l, 1) := by decide +kernel
theorem dX5_digest_276 : decode cX5_digest 276 = .ok (.ladd, 1) := by decide +kernel
theorem dX5_digest_277 : decode cX5_digest 277 = .ok (.lstore_n 1, 1) := by decide +kernel
theorem dX5_digest_278 : decode cX5_digest 278 = .ok (.ldc2_w 290, 3) := by decide +kernel
theorem dX5_digest_281 : decode cX5_digest 281 = .ok (.lload_n 1, 1) := by decide +kernel
theorem dX5_digest_282 : decode cX5_digest 282 = .ok (.lmul, 1) := by decide +kernel
theorem dX5_digest_283 : decode cX5_digest 283 = .ok (.aload_n 0, 1) := by decide +kernel
theorem dX5_digest_284 : decode cX5_digest 284 = .ok (.invokevirtual 328, 3) := by decide +kernel
theorem dX5_digest_287 : decode cX5_digest 287 = .ok (.i2l, 1) := by decide +kernel
theorem dX5_digest_288 : decode cX5_digest 288 = .ok (.ladd, 1) := by decide +kernel
theorem dX5_digest_289 : decode cX5_digest 289 = .ok (.lstore_n 1, 1) := by decide +kernel
theorem dX5_digest_290 : decode cX5_digest 290 = .ok (.ldc2_w 290, 3) := by decide +kernel
theorem dX5_digest_293 : decode cX5_digest 293 = .ok (.lload_n 1, 1) := by decide +kernel
theorem dX5_digest_294 : decode cX5_digest 294 = .ok (.lmul, 1) := by decide +kernel
theorem dX5_digest_295 : decode cX5_digest 295 = .ok (.aload_n 0, 1) := by decide +kernel
theorem dX5_digest_296 : decode cX5_digest 296 = .ok (.bipush 7, 2) := by decide +kernel
theorem dX5_digest_298 : decode cX5_digest 298 = .ok (.bipush 20, 2) := by decide +kernel
theorem dX5_digest_300 : decode cX5_digest 300 = .ok (.iconst 0, 1) := by decide +kernel
theorem dX5_digest_301 : decode cX5_digest 301 = .ok (.invokevirtual 331, 3) := by decide +kernel
theorem dX5_digest_304 : decode cX5_digest 304 = .ok (.i2l, 1) := by decide +kernel
theorem dX5_digest_305 : decode cX5_digest 305 = .ok (.ladd, 1) := by decide +kernel
theorem dX5_digest_306 : decode cX5_digest 306 = .ok (.lstore_n 1, 1) := by decide +kernel
theorem dX5_digest_307 : decode cX5_digest 307 = .ok (.ldc2_w 290, 3) := by decide +kernel
theorem dX5_digest_310 : decode cX5_digest 310 = .ok (.lload_n 1, 1) := by decide +kernel
theorem dX5_digest_311 : decode cX5_digest 311 = .ok (.lmul, 1) := by decide +kernel
theorem dX5_digest_312 : decode cX5_digest 312 = .ok (.aload_n 0, 1) := by decide +kernel
theorem dX5_digest_313 : decode cX5_digest 313 = .ok (.bipush 7, 2) := by decide +kernel
theorem dX5_digest_315 : decode cX5_digest 315 = .ok (.bipush 20, 2) := by decide +kernel
theorem dX5_digest_317 : decode cX5_digest 317 = .ok (.iconst 1, 1) := by decide +kernel
theorem dX5_digest_318 : decode cX5_digest 318 = .ok (.invokevirtual 331, 3) := by decide +kernel
theorem dX5_digest_321 : decode cX5_digest 321 = .ok (.i2l, 1) := by decide +kernel
theorem dX5_digest_322 : decode cX5_digest 322 = .ok (.ladd, 1) := by decide +kernel
theorem dX5_digest_323 : decode cX5_digest 323 = .ok (.lreturn, 1) := by decide +kernel
theorem dX5_digestQuarrel_0 : decode cX5_digestQuarrel 0 = .ok (.lload_n 1, 1) := by decide +kernel
theorem dX5_digestQuarrel_1 : decode cX5_digestQuarrel 1 = .ok (.lstore 4, 2) := by decide +kernel
theorem dX5_digestQuarrel_3 : decode cX5_digestQuarrel 3 = .ok (.iconst 0, 1) := by decide +kernel
theorem dX5_digestQuarrel_4 : decode cX5_digestQuarrel 4 = .ok (.istore 6, 2) := by decide +kernel
theorem dX5_digestQuarrel_6 : decode cX5_digestQuarrel 6 = .ok (.iload 6, 2) := by decide +kernel
theorem dX5_digestQuarrel_8 : decode cX5_digestQuarrel 8 = .ok (.iconst 3, 1) := by decide +kernel
theorem dX5_digestQuarrel_9 : decode cX5_digestQuarrel 9 = .ok (.if_icmp .ge 26, 3) := by decide +kernel
theorem dX5_digestQuarrel_12 : decode cX5_digestQuarrel 12 = .ok (.ldc2_w 290, 3) := by decide +kernel
theorem dX5_digestQuarrel_15 : decode cX5_digestQuarrel 15 = .ok (.lload 4, 2) := by decide +kernel
theorem dX5_digestQuarrel_17 : decode cX5_digestQuarrel 17 = .ok (.lmul, 1) := by decide +kernel
theorem dX5_digestQuarrel_18 : decode cX5_digestQuarrel 18 = .ok (.aload_n 0, 1) := by decide +kernel
theorem dX5_digestQuarrel_19 : decode cX5_digestQuarrel 19 = .ok (.iload_n 3, 1) := by decide +kernel
theorem dX5_digestQuarrel_20 : decode cX5_digestQuarrel 20 = .ok (.iload 6, 2) := by decide +kernel
theorem dX5_digestQuarrel_22 : decode cX5_digestQuarrel 22 = .ok (.invokevirtual 335, 3) := by decide +kernel
theorem dX5_digestQuarrel_25 : decode cX5_digestQuarrel 25 = .ok (.i2l, 1) := by decide +kernel
theorem dX5_digestQuarrel_26 : decode cX5_digestQuarrel 26 = .ok (.ladd, 1) := by decide +kernel
theorem dX5_digestQuarrel_27 : decode cX5_digestQuarrel 27 = .ok (.lstore 4, 2) := by decide +kernel
theorem dX5_digestQuarrel_29 : decode cX5_digestQuarrel 29 = .ok (.iinc 6 1, 3) := by decide +kernel
theorem dX5_digestQuarrel_32 : decode cX5_digestQuarrel 32 = .ok (.goto (-26), 3) := by decide +kernel
theorem dX5_digestQuarrel_35 : decode cX5_digestQuarrel 35 = .ok (.getstatic 338, 3) := by decide +kernel
theorem dX5_digestQuarrel_38 : decode cX5_digestQuarrel 38 = .ok (.astore 6, 2) := by decide +kernel
theorem dX5_digestQuarrel_40 : decode cX5_digestQuarrel 40 = .ok (.aload 6, 2) := by decide +kernel
theorem dX5_digestQuarrel_42 : decode cX5_digestQuarrel 42 = .ok (.arraylength, 1) := by decide +kernel
theorem dX5_digestQuarrel_43 : decode cX5_digestQuarrel 43 = .ok (.istore 7, 2) := by decide +kernel
theorem dX5_digestQuarrel_45 : decode cX5_digestQuarrel 45 = .ok (.iconst 0, 1) := by decide +kernel
theorem dX5_digestQuarrel_46 : decode cX5_digestQuarrel 46 = .ok (.istore 8, 2) := by decide +kernel
theorem dX5_digestQuarrel_48 : decode cX5_digestQuarrel 48 = .ok (.iload 8, 2) := by decide +kernel
theorem dX5_digestQuarrel_50 : decode cX5_digestQuarrel 50 = .ok (.iload 7, 2) := by decide +kernel
theorem dX5_digestQuarrel_52 : decode cX5_digestQuarrel 52 = .ok (.if_icmp .ge 50, 3) := by decide +kernel
theorem dX5_digestQuarrel_55 : decode cX5_digestQuarrel 55 = .ok (.aload 6, 2) := by decide +kernel
theorem dX5_digestQuarrel_57 : decode cX5_digestQuarrel 57 = .ok (.iload 8, 2) := by decide +kernel
theorem dX5_digestQuarrel_59 : decode cX5_digestQuarrel 59 = .ok (.iaload, 1) := by decide +kernel
theorem dX5_digestQuarrel_60 : decode cX5_digestQuarrel 60 = .ok (.istore 9, 2) := by decide +kernel
theorem dX5_digestQuarrel_62 : decode cX5_digestQuarrel 62 = .ok (.iconst 0, 1) := by decide +kernel
theorem dX5_digestQuarrel_63 : decode cX5_digestQuarrel 63 = .ok (.istore 10, 2) := by decide +kernel
theorem dX5_digestQuarrel_65 : decode cX5_digestQuarrel 65 = .ok (.iload 10, 2) := by decide +kernel
theorem dX5_digestQuarrel_67 : decode cX5_digestQuarrel 67 = .ok (.iconst 3, 1) := by decide +kernel
theorem dX5_digestQuarrel_68 : decode cX5_digestQuarrel 68 = .ok (.if_icmp .ge 28, 3) := by decide +kernel
theorem dX5_digestQuarrel_71 : decode cX5_digestQuarrel 71 = .ok (.ldc2_w 290, 3) := by decide +kernel
theorem dX5_digestQuarrel_74 : decode cX5_digestQuarrel 74 = .ok (.lload 4, 2) := by decide +kernel
theorem dX5_digestQuarrel_76 : decode cX5_digestQuarrel 76 = .ok (.lmul, 1) := by decide +kernel
theorem dX5_digestQuarrel_77 : decode cX5_digestQuarrel 77 = .ok (.aload_n 0, 1) := by decide +kernel
theorem dX5_digestQuarrel_78 : decode cX5_digestQuarrel 78 = .ok (.iload 9, 2) := by decide +kernel
theorem dX5_digestQuarrel_80 : decode cX5_digestQuarrel 80 = .ok (.iload_n 3, 1) := by decide +kernel
theorem dX5_digestQuarrel_81 : decode cX5_digestQuarrel 81 = .ok (.iload 10, 2) := by decide +kernel
theorem dX5_digestQuarrel_83 : decode cX5_digestQuarrel 83 = .ok (.invokevirtual 341, 3) := by decide +kernel
theorem dX5_digestQuarrel_86 : decode cX5_digestQuarrel 86 = .ok (.i2l, 1) := by decide +kernel
theorem dX5_digestQuarrel_87 : decode cX5_digestQuarrel 87 = .ok (.ladd, 1) := by decide +kernel
theorem dX5_digestQuarrel_88 : decode cX5_digestQuarrel 88 = .ok (.lstore 4, 2) := by decide +kernel
theorem dX5_digestQuarrel_90 : decode cX5_digestQuarrel 90 = .ok (.iinc 10 1, 3) := by decide +kernel
theorem dX5_digestQuarrel_93 : decode cX5_digestQuarrel 93 = .ok (.goto (-28), 3) := by decide +kernel
theorem dX5_digestQuarrel_96 : decode cX5_digestQuarrel 96 = .ok (.iinc 8 1, 3) := by decide +kernel
theorem dX5_digestQuarrel_99 : decode cX5_digestQuarrel 99 = .ok (.goto (-51), 3) := by decide +kernel
theorem dX5_digestQuarrel_102 : decode cX5_digestQuarrel 102 = .ok (.ldc2_w 290, 3) := by decide +kernel
theorem dX5_digestQuarrel_105 : decode cX5_digestQuarrel 105 = .ok (.lload 4, 2) := by decide +kernel
theorem dX5_digestQuarrel_107 : decode cX5_digestQuarrel 107 = .ok (.lmul, 1) := by decide +kernel
theorem dX5_digestQuarrel_108 : decode cX5_digestQuarrel 108 = .ok (.aload_n 0, 1) := by decide +kernel
theorem dX5_digestQuarrel_109 : decode cX5_digestQuarrel 109 = .ok (.iload_n 3, 1) := by decide +kernel
theorem dX5_digestQuarrel_110 : decode cX5_digestQuarrel 110 = .ok (.invokevirtual 344, 3) := by decide +kernel
theorem dX5_digestQuarrel_113 : decode cX5_digestQuarrel 113 = .ok (.i2l, 1) := by decide +kernel
theorem dX5_digestQuarrel_114 : decode cX5_digestQuarrel 114 = .ok (.ladd, 1) := by decide +kernel
theorem dX5_digestQuarrel_115 : decode cX5_digestQuarrel 115 = .ok (.lstore 4, 2) := by decide +kernel
theorem dX5_digestQuarrel_117 : decode cX5_digestQuarrel 117 = .ok (.ldc2_w 290, 3) := by decide +kernel
theorem dX5_digestQuarrel_120 : decode cX5_digestQuarrel 120 = .ok (.lload 4, 2) := by decide +kernel
theorem dX5_digestQuarrel_122 : decode cX5_digestQuarrel 122 = .ok (.lmul, 1) := by decide +kernel
theorem dX5_digestQuarrel_123 : decode cX5_digestQuarrel 123 = .ok (.aload_n 0, 1) := by decide +kernel
theorem dX5_digestQuarrel_124 : decode cX5_digestQuarrel 124 = .ok (.iload_n 3, 1) := by decide +kernel
theorem dX5_digestQuarrel_125 : decode cX5_digestQuarrel 125 = .ok (.iconst 0, 1) := by decide +kernel
theorem dX5_digestQuarrel_126 : decode cX5_digestQuarrel 126 = .ok (.invokevirtual 347, 3) := by decide +kernel
theorem dX5_digestQuarrel_129 : decode cX5_digestQuarrel 129 = .ok (.i2l, 1) := by decide +kernel
theorem dX5_digestQuarrel_130 : decode cX5_digestQuarrel 130 = .ok (.ladd, 1) := by decide +kernel
theorem dX5_digestQuarrel_131 : decode cX5_digestQuarrel 131 = .ok (.lstore 4, 2) := by decide +kernel
theorem dX5_digestQuarrel_133 : decode cX5_digestQuarrel 133 = .ok (.ldc2_w 290, 3) := by decide +kernel
theorem dX5_digestQuarrel_136 : decode cX5_digestQuarrel 136 = .ok (.lload 4, 2) := by decide +kernel
theorem dX5_digestQuarrel_138 : decode cX5_digestQuarrel 138 = .ok (.lmul, 1) := by decide +kernel
theorem dX5_digestQuarrel_139 : decode cX5_digestQuarrel 139 = .ok (.aload_n 0, 1) := by decide +kernel
theorem dX5_digestQuarrel_140 : decode cX5_digestQuarrel 140 = .ok (.iload_n 3, 1) := by decide +kernel
theorem dX5_digestQuarrel_141 : decode cX5_digestQuarrel 141 = .ok (.iconst 1, 1) := by decide +kernel
theorem dX5_digestQuarrel_142 : decode cX5_digestQuarrel 142 = .ok (.invokevirtual 347, 3) := by decide +kernel
theorem dX5_digestQuarrel_145 : decode cX5_digestQuarrel 145 = .ok (.i2l, 1) := by decide +kernel
theorem dX5_digestQuarrel_146 : decode cX5_digestQuarrel 146 = .ok (.ladd, 1) := by decide +kernel
theorem dX5_digestQuarrel_147 : decode cX5_digestQuarrel 147 = .ok (.lstore 4, 2) := by decide +kernel
theorem dX5_digestQuarrel_149 : decode cX5_digestQuarrel 149 = .ok (.ldc2_w 290, 3) := by decide +kernel
theorem dX5_digestQuarrel_152 : decode cX5_digestQuarrel 152 = .ok (.lload 4, 2) := by decide +kernel
theorem dX5_digestQuarrel_154 : decode cX5_digestQuarrel 154 = .ok (.lmul, 1) := by decide +kernel
theorem dX5_digestQuarrel_155 : decode cX5_digestQuarrel 155 = .ok (.aload_n 0, 1) := by decide +kernel
theorem dX5_digestQuarrel_156 : decode cX5_digestQuarrel 156 = .ok (.iload_n 3, 1) := by decide +kernel
theorem dX5_digestQuarrel_157 : decode cX5_digestQuarrel 157 = .ok (.iconst 0, 1) := by decide +kernel
theorem dX5_digestQuarrel_158 : decode cX5_digestQuarrel 158 = .ok (.invokevirtual 350, 3) := by decide +kernel
theorem dX5_digestQuarrel_161 : decode cX5_digestQuarrel 161 = .ok (.i2l, 1) := by decide +kernel
theorem dX5_digestQuarrel_162 : decode cX5_digestQuarrel 162 = .ok (.ladd, 1) := by decide +kernel
theorem dX5_digestQuarrel_163 : decode cX5_digestQuarrel 163 = .ok (.lstore 4, 2) := by decide +kernel
theorem dX5_digestQuarrel_165 : decode cX5_digestQuarrel 165 = .ok (.ldc2_w 290, 3) := by decide +kernel
theorem dX5_digestQuarrel_168 : decode cX5_digestQuarrel 168 = .ok (.lload 4, 2) := by decide +kernel
theorem dX5_digestQuarrel_170 : decode cX5_digestQuarrel 170 = .ok (.lmul, 1) := by decide +kernel
theorem dX5_digestQuarrel_171 : decode cX5_digestQuarrel 171 = .ok (.aload_n 0, 1) := by decide +kernel
theorem dX5_digestQuarrel_172 : decode cX5_digestQuarrel 172 = .ok (.iload_n 3, 1) := by decide +kernel
theorem dX5_digestQuarrel_173 : decode cX5_digestQuarrel 173 = .ok (.iconst 1, 1) := by decide +kernel
theorem dX5_digestQuarrel_174 : decode cX5_digestQuarrel 174 = .ok (.invokevirtual 350, 3) := by decide +kernel
theorem dX5_digestQuarrel_177 : decode cX5_digestQuarrel 177 = .ok (.i2l, 1) := by decide +kernel
theorem dX5_digestQuarrel_178 : decode cX5_digestQuarrel 178 = .ok (.ladd, 1) := by decide +kernel
theorem dX5_digestQuarrel_179 : decode cX5_digestQuarrel 179 = .ok (.lstore 4, 2) := by decide +kernel
theorem dX5_digestQuarrel_181 : decode cX5_digestQuarrel 181 = .ok (.ldc2_w 290, 3) := by decide +kernel
theorem dX5_digestQuarrel_184 : decode cX5_digestQuarrel 184 = .ok (.lload 4, 2) := by decide +kernel
theorem dX5_digestQuarrel_186 : decode cX5_digestQuarrel 186 = .ok (.lmul, 1) := by decide +kernel
theorem dX5_digestQuarrel_187 : decode cX5_digestQuarrel 187 = .ok (.aload_n 0, 1) := by decide +kernel
theorem dX5_digestQuarrel_188 : decode cX5_digestQuarrel 188 = .ok (.iconst 5, 1) := by decide +kernel
theorem dX5_digestQuarrel_189 : decode cX5_digestQuarrel 189 = .ok (.iload_n 3, 1) := by decide +kernel
theorem dX5_digestQuarrel_190 : decode cX5_digestQuarrel 190 = .ok (.iconst 0, 1) := by decide +kernel
theorem dX5_digestQuarrel_191 : decode cX5_digestQuarrel 191 = .ok (.invokevirtual 353, 3) := by decide +kernel
theorem dX5_digestQuarrel_194 : decode cX5_digestQuarrel 194 = .ok (.ladd, 1) := by decide +kernel
theorem dX5_digestQuarrel_195 : decode cX5_digestQuarrel 195 = .ok (.lstore 4, 2) := by decide +kernel
theorem dX5_digestQuarrel_197 : decode cX5_digestQuarrel 197 = .ok (.ldc2_w 290, 3) := by decide +kernel
theorem dX5_digestQuarrel_200 : decode cX5_digestQuarrel 200 = .ok (.lload 4, 2) := by decide +kernel
theorem dX5_digestQuarrel_202 : decode cX5_digestQuarrel 202 = .ok (.lmul, 1) := by decide +kernel
theorem dX5_digestQuarrel_203 : decode cX5_digestQuarrel 203 = .ok (.aload_n 0, 1) := by decide +kernel
theorem dX5_digestQuarrel_204 : decode cX5_digestQuarrel 204 = .ok (.iconst 5, 1) := by decide +kernel
theorem dX5_digestQuarrel_205 : decode cX5_digestQuarrel 205 = .ok (.iload_n 3, 1) := by decide +kernel
theorem dX5_digestQuarrel_206 : decode cX5_digestQuarrel 206 = .ok (.iconst 1, 1) := by decide +kernel
theorem dX5_digestQuarrel_207 : decode cX5_digestQuarrel 207 = .ok (.invokevirtual 353, 3) := by decide +kernel
theorem dX5_digestQuarrel_210 : decode cX5_digestQuarrel 210 = .ok (.ladd, 1) := by decide +kernel
theorem dX5_digestQuarrel_211 : decode cX5_digestQuarrel 211 = .ok (.lreturn, 1) := by decide +kernel
theorem dX5_digestPerson_0 : decode cX5_digestPerson 0 = .ok (.lload_n 1, 1) := by decide +kernel
theorem dX5_digestPerson_1 : decode cX5_digestPerson 1 = .ok (.lstore 4, 2) := by decide +kernel
theorem dX5_digestPerson_3 : decode cX5_digestPerson 3 = .ok (.ldc2_w 290, 3) := by decide +kernel
theorem dX5_digestPerson_6 : decode cX5_digestPerson 6 = .ok (.lload 4, 2) := by decide +kernel
theorem dX5_digestPerson_8 : decode cX5_digestPerson 8 = .ok (.lmul, 1) := by decide +kernel
theorem dX5_digestPerson_9 : decode cX5_digestPerson 9 = .ok (.aload_n 0, 1) := by decide +kernel
theorem dX5_digestPerson_10 : decode cX5_digestPerson 10 = .ok (.iload_n 3, 1) := by decide +kernel
theorem dX5_digestPerson_11 : decode cX5_digestPerson 11 = .ok (.iconst 0, 1) := by decide +kernel
theorem dX5_digestPerson_12 : decode cX5_digestPerson 12 = .ok (.invokevirtual 357, 3) := by decide +kernel
theorem dX5_digestPerson_15 : decode cX5_digestPerson 15 = .ok (.i2l, 1) := by decide +kernel
theorem dX5_digestPerson_16 : decode cX5_digestPerson 16 = .ok (.ladd, 1) := by decide +kernel
theorem dX5_digestPerson_17 : decode cX5_digestPerson 17 = .ok (.lstore 4, 2) := by decide +kernel
theorem dX5_digestPerson_19 : decode cX5_digestPerson 19 = .ok (.ldc2_w 290, 3) := by decide +kernel
theorem dX5_digestPerson_22 : decode cX5_digestPerson 22 = .ok (.lload 4, 2) := by decide +kernel
theorem dX5_digestPerson_24 : decode cX5_digestPerson 24 = .ok (.lmul, 1) := by decide +kernel
theorem dX5_digestPerson_25 : decode cX5_digestPerson 25 = .ok (.aload_n 0, 1) := by decide +kernel
theorem dX5_digestPerson_26 : decode cX5_digestPerson 26 = .ok (.iload_n 3, 1) := by decide +kernel
theorem dX5_digestPerson_27 : decode cX5_digestPerson 27 = .ok (.iconst 1, 1) := by decide +kernel
theorem dX5_digestPerson_28 : decode cX5_digestPerson 28 = .ok (.invokevirtual 357, 3) := by decide +kernel
theorem dX5_digestPerson_31 : decode cX5_digestPerson 31 = .ok (.i2l, 1) := by decide +kernel
theorem dX5_digestPerson_32 : decode cX5_digestPerson 32 = .ok (.ladd, 1) := by decide +kernel
theorem dX5_digestPerson_33 : decode cX5_digestPerson 33 = .ok (.lstore 4, 2) := by decide +kernel
theorem dX5_digestPerson_35 : decode cX5_digestPerson 35 = .ok (.getstatic 338, 3) := by decide +kernel
theorem dX5_digestPerson_38 : decode cX5_digestPerson 38 = .ok (.astore 6, 2) := by decide +kernel
theorem dX5_digestPerson_40 : decode cX5_digestPerson 40 = .ok (.aload 6, 2) := by decide +kernel
theorem dX5_digestPerson_42 : decode cX5_digestPerson 42 = .ok (.arraylength, 1) := by decide +kernel
theorem dX5_digestPerson_43 : decode cX5_digestPerson 43 = .ok (.istore 7, 2) := by decide +kernel
theorem dX5_digestPerson_45 : decode cX5_digestPerson 45 = .ok (.iconst 0, 1) := by decide +kernel
theorem dX5_digestPerson_46 : decode cX5_digestPerson 46 = .ok (.istore 8, 2) := by decide +kernel
theorem dX5_digestPerson_48 : decode cX5_digestPerson 48 = .ok (.iload 8, 2) := by decide +kernel
theorem dX5_digestPerson_50 : decode cX5_digestPerson 50 = .ok (.iload 7, 2) := by decide +kernel
theorem dX5_digestPerson_52 : decode cX5_digestPerson 52 = .ok (.if_icmp .ge 50, 3) := by decide +kernel
theorem dX5_digestPerson_55 : decode cX5_digestPerson 55 = .ok (.aload 6, 2) := by decide +kernel
theorem dX5_digestPerson_57 : decode cX5_digestPerson 57 = .ok (.iload 8, 2) := by decide +kernel
theorem dX5_digestPerson_59 : decode cX5_digestPerson 59 = .ok (.iaload, 1) := by decide +kernel
theorem dX5_digestPerson_60 : decode cX5_digestPerson 60 = .ok (.istore 9, 2) := by decide +kernel
theorem dX5_digestPerson_62 : decode cX5_digestPerson 62 = .ok (.iconst 0, 1) := by decide +kernel
theorem dX5_digestPerson_63 : decode cX5_digestPerson 63 = .ok (.istore 10, 2) := by decide +kernel
theorem dX5_digestPerson_65 : decode cX5_digestPerson 65 = .ok (.iload 10, 2) := by decide +kernel
theorem dX5_digestPerson_67 : decode cX5_digestPerson 67 = .ok (.iconst 3, 1) := by decide +kernel
theorem dX5_digestPerson_68 : decode cX5_digestPerson 68 = .ok (.if_icmp .ge 28, 3) := by decide +kernel
theorem dX5_digestPerson_71 : decode cX5_digestPerson 71 = .ok (.ldc2_w 290, 3) := by decide +kernel
theorem dX5_digestPerson_74 : decode cX5_digestPerson 74 = .ok (.lload 4, 2) := by decide +kernel
theorem dX5_digestPerson_76 : decode cX5_digestPerson 76 = .ok (.lmul, 1) := by decide +kernel
theorem dX5_digestPerson_77 : decode cX5_digestPerson 77 = .ok (.aload_n 0, 1) := by decide +kernel
theorem dX5_digestPerson_78 : decode cX5_digestPerson 78 = .ok (.iload 9, 2) := by decide +kernel
theorem dX5_digestPerson_80 : decode cX5_digestPerson 80 = .ok (.iload_n 3, 1) := by decide +kernel
theorem dX5_digestPerson_81 : decode cX5_digestPerson 81 = .ok (.iload 10, 2) := by decide +kernel
theorem dX5_digestPerson_83 : decode cX5_digestPerson 83 = .ok (.invokevirtual 360, 3) := by decide +kernel
theorem dX5_digestPerson_86 : decode cX5_digestPerson 86 = .ok (.i2l, 1) := by decide +kernel
theorem dX5_digestPerson_87 : decode cX5_digestPerson 87 = .ok (.ladd, 1) := by decide +kernel
theorem dX5_digestPerson_88 : decode cX5_digestPerson 88 = .ok (.lstore 4, 2) := by decide +kernel
theorem dX5_digestPerson_90 : decode cX5_digestPerson 90 = .ok (.iinc 10 1, 3) := by decide +kernel
theorem dX5_digestPerson_93 : decode cX5_digestPerson 93 = .ok (.goto (-28), 3) := by decide +kernel
theorem dX5_digestPerson_96 : decode cX5_digestPerson 96 = .ok (.iinc 8 1, 3) := by decide +kernel
theorem dX5_digestPerson_99 : decode cX5_digestPerson 99 = .ok (.goto (-51), 3) := by decide +kernel
theorem dX5_digestPerson_102 : decode cX5_digestPerson 102 = .ok (.ldc2_w 290, 3) := by decide +kernel
theorem dX5_digestPerson_105 : decode cX5_digestPerson 105 = .ok (.lload 4, 2) := by decide +kernel
theorem dX5_digestPerson_107 : decode cX5_digestPerson 107 = .ok (.lmul, 1) := by decide +kernel
theorem dX5_digestPerson_108 : decode cX5_digestPerson 108 = .ok (.aload_n 0, 1) := by decide +kernel
theorem dX5_digestPerson_109 : decode cX5_digestPerson 109 = .ok (.iload_n 3, 1) := by decide +kernel
theorem dX5_digestPerson_110 : decode cX5_digestPerson 110 = .ok (.iconst 0, 1) := by decide +kernel
theorem dX5_digestPerson_111 : decode cX5_digestPerson 111 = .ok (.invokevirtual 363, 3) := by decide +kernel
theorem dX5_digestPerson_114 : decode cX5_digestPerson 114 = .ok (.i2l, 1) := by decide +kernel
theorem dX5_digestPerson_115 : decode cX5_digestPerson 115 = .ok (.ladd, 1) := by decide +kernel
theorem dX5_digestPerson_116 : decode cX5_digestPerson 116 = .ok (.lstore 4, 2) := by decide +kernel
theorem dX5_digestPerson_118 : decode cX5_digestPerson 118 = .ok (.ldc2_w 290, 3) := by decide +kernel
theorem dX5_digestPerson_121 : decode cX5_digestPerson 121 = .ok (.lload 4, 2) := by decide +kernel
theorem dX5_digestPerson_123 : decode cX5_digestPerson 123 = .ok (.lmul, 1) := by decide +kernel
theorem dX5_digestPerson_124 : decode cX5_digestPerson 124 = .ok (.aload_n 0, 1) := by decide +kernel
theorem dX5_digestPerson_125 : decode cX5_digestPerson 125 = .ok (.iload_n 3, 1) := by decide +kernel
theorem dX5_digestPerson_126 : decode cX5_digestPerson 126 = .ok (.iconst 1, 1) := by decide +kernel
theorem dX5_digestPerson_127 : decode cX5_digestPerson 127 = .ok (.invokevirtual 363, 3) := by decide +kernel
theorem dX5_digestPerson_130 : decode cX5_digestPerson 130 = .ok (.i2l, 1) := by decide +kernel
theorem dX5_digestPerson_131 : decode cX5_digestPerson 131 = .ok (.ladd, 1) := by decide +kernel
theorem dX5_digestPerson_132 : decode cX5_digestPerson 132 = .ok (.lstore 4, 2) := by decide +kernel
theorem dX5_digestPerson_134 : decode cX5_digestPerson 134 = .ok (.ldc2_w 290, 3) := by decide +kernel
theorem dX5_digestPerson_137 : decode cX5_digestPerson 137 = .ok (.lload 4, 2) := by decide +kernel
theorem dX5_digestPerson_139 : decode cX5_digestPerson 139 = .ok (.lmul, 1) := by decide +kernel
theorem dX5_digestPerson_140 : decode cX5_digestPerson 140 = .ok (.aload_n 0, 1) := by decide +kernel
theorem dX5_digestPerson_141 : decode cX5_digestPerson 141 = .ok (.iload_n 3, 1) := by decide +kernel
theorem dX5_digestPerson_142 : decode cX5_digestPerson 142 = .ok (.invokevirtual 366, 3) := by decide +kernel
theorem dX5_digestPerson_145 : decode cX5_digestPerson 145 = .ok (.i2l, 1) := by decide +kernel
theorem dX5_digestPerson_146 : decode cX5_digestPerson 146 = .ok (.ladd, 1) := by decide +kernel
theorem dX5_digestPerson_147 : decode cX5_digestPerson 147 = .ok (.lreturn, 1) := by decide +kernel
theorem dX5_isBelow_0 : decode cX5_isBelow 0 = .ok (.iload_n 0, 1) := by decide +kernel
theorem dX5_isBelow_1 : decode cX5_isBelow 1 = .ok (.ifCond .lt 12, 3) := by decide +kernel
theorem dX5_isBelow_4 : decode cX5_isBelow 4 = .ok (.iload_n 0, 1) := by decide +kernel
theorem dX5_isBelow_5 : decode cX5_isBelow 5 = .ok (.iload_n 1, 1) := by decide +kernel
theorem dX5_isBelow_6 : decode cX5_isBelow 6 = .ok (.if_icmp .ge 7, 3) := by decide +kernel
theorem dX5_isBelow_9 : decode cX5_isBelow 9 = .ok (.iconst 1, 1) := by decide +kernel
theorem dX5_isBelow_10 : decode cX5_isBelow 10 = .ok (.goto 4, 3) := by decide +kernel
theorem dX5_isBelow_13 : decode cX5_isBelow 13 = .ok (.iconst 0, 1) := by decide +kernel
theorem dX5_isBelow_14 : decode cX5_isBelow 14 = .ok (.ireturn, 1) := by decide +kernel
theorem dX5_lowestBit_0 : decode cX5_lowestBit 0 = .ok (.iconst 0, 1) := by decide +kernel
theorem dX5_lowestBit_1 : decode cX5_lowestBit 1 = .ok (.istore_n 1, 1) := by decide +kernel
theorem dX5_lowestBit_2 : decode cX5_lowestBit 2 = .ok (.iload_n 1, 1) := by decide +kernel
theorem dX5_lowestBit_3 : decode cX5_lowestBit 3 = .ok (.bipush 8, 2) := by decide +kernel
theorem dX5_lowestBit_5 : decode cX5_lowestBit 5 = .ok (.if_icmp .ge 20, 3) := by decide +kernel
theorem dX5_lowestBit_8 : decode cX5_lowestBit 8 = .ok (.iload_n 0, 1) := by decide +kernel
theorem dX5_lowestBit_9 : decode cX5_lowestBit 9 = .ok (.iload_n 1, 1) := by decide +kernel
theorem dX5_lowestBit_10 : decode cX5_lowestBit 10 = .ok (.ishr, 1) := by decide +kernel
theorem dX5_lowestBit_11 : decode cX5_lowestBit 11 = .ok (.iconst 1, 1) := by decide +kernel
theorem dX5_lowestBit_12 : decode cX5_lowestBit 12 = .ok (.iand, 1) := by decide +kernel
theorem dX5_lowestBit_13 : decode cX5_lowestBit 13 = .ok (.iconst 1, 1) := by decide +kernel
theorem dX5_lowestBit_14 : decode cX5_lowestBit 14 = .ok (.if_icmp .ne 5, 3) := by decide +kernel
theorem dX5_lowestBit_17 : decode cX5_lowestBit 17 = .ok (.iload_n 1, 1) := by decide +kernel
theorem dX5_lowestBit_18 : decode cX5_lowestBit 18 = .ok (.ireturn, 1) := by decide +kernel
theorem dX5_lowestBit_19 : decode cX5_lowestBit 19 = .ok (.iinc 1 1, 3) := by decide +kernel
theorem dX5_lowestBit_22 : decode cX5_lowestBit 22 = .ok (.goto (-20), 3) := by decide +kernel
theorem dX5_lowestBit_25 : decode cX5_lowestBit 25 = .ok (.iconst (-1), 1) := by decide +kernel
theorem dX5_lowestBit_26 : decode cX5_lowestBit 26 = .ok (.ireturn, 1) := by decide +kernel
theorem dX5_found_0 : decode cX5_found 0 = .ok (.aload_n 0, 1) := by decide +kernel
theorem dX5_found_1 : decode cX5_found 1 = .ok (.iload_n 1, 1) := by decide +kernel
theorem dX5_found_2 : decode cX5_found 2 = .ok (.putfield 62, 3) := by decide +kernel
theorem dX5_found_5 : decode cX5_found 5 = .ok (.bipush (-10), 2) := by decide +kernel
theorem dX5_found_7 : decode cX5_found 7 = .ok (.iload_n 1, 1) := by decide +kernel
theorem dX5_found_8 : decode cX5_found 8 = .ok (.isub, 1) := by decide +kernel
theorem dX5_found_9 : decode cX5_found 9 = .ok (.ireturn, 1) := by decide +kernel
theorem dX5_takeIn_0 : decode cX5_takeIn 0 = .ok (.iload_n 1, 1) := by decide +kernel
theorem dX5_takeIn_1 : decode cX5_takeIn 1 = .ok (.ifCond .ne 19, 3) := by decide +kernel
theorem dX5_takeIn_4 : decode cX5_takeIn 4 = .ok (.aload_n 0, 1) := by decide +kernel
theorem dX5_takeIn_5 : decode cX5_takeIn 5 = .ok (.getfield 21, 3) := by decide +kernel
theorem dX5_takeIn_8 : decode cX5_takeIn 8 = .ok (.aload_n 0, 1) := by decide +kernel
theorem dX5_takeIn_9 : decode cX5_takeIn 9 = .ok (.getfield 11, 3) := by decide +kernel
theorem dX5_takeIn_12 : decode cX5_takeIn 12 = .ok (.iconst 0, 1) := by decide +kernel
theorem dX5_takeIn_13 : decode cX5_takeIn 13 = .ok (.aaload, 1) := by decide +kernel
theorem dX5_takeIn_14 : decode cX5_takeIn 14 = .ok (.invokevirtual 369, 3) := by decide +kernel
theorem dX5_takeIn_17 : decode cX5_takeIn 17 = .ok (.goto 37, 3) := by decide +kernel
theorem dX5_takeIn_20 : decode cX5_takeIn 20 = .ok (.iload_n 1, 1) := by decide +kernel
theorem dX5_takeIn_21 : decode cX5_takeIn 21 = .ok (.iconst 1, 1) := by decide +kernel
theorem dX5_takeIn_22 : decode cX5_takeIn 22 = .ok (.if_icmp .ne 19, 3) := by decide +kernel
theorem dX5_takeIn_25 : decode cX5_takeIn 25 = .ok (.aload_n 0, 1) := by decide +kernel
theorem dX5_takeIn_26 : decode cX5_takeIn 26 = .ok (.getfield 21, 3) := by decide +kernel
theorem dX5_takeIn_29 : decode cX5_takeIn 29 = .ok (.aload_n 0, 1) := by decide +kernel
theorem dX5_takeIn_30 : decode cX5_takeIn 30 = .ok (.getfield 11, 3) := by decide +kernel
theorem dX5_takeIn_33 : decode cX5_takeIn 33 = .ok (.iconst 1, 1) := by decide +kernel
theorem dX5_takeIn_34 : decode cX5_takeIn 34 = .ok (.aaload, 1) := by decide +kernel
theorem dX5_takeIn_35 : decode cX5_takeIn 35 = .ok (.invokevirtual 372, 3) := by decide +kernel
theorem dX5_takeIn_38 : decode cX5_takeIn 38 = .ok (.goto 16, 3) := by decide +kernel
theorem dX5_takeIn_41 : decode cX5_takeIn 41 = .ok (.aload_n 0, 1) := by decide +kernel
theorem dX5_takeIn_42 : decode cX5_takeIn 42 = .ok (.getfield 21, 3) := by decide +kernel
theorem dX5_takeIn_45 : decode cX5_takeIn 45 = .ok (.aload_n 0, 1) := by decide +kernel
theorem dX5_takeIn_46 : decode cX5_takeIn 46 = .ok (.getfield 11, 3) := by decide +kernel
theorem dX5_takeIn_49 : decode cX5_takeIn 49 = .ok (.iconst 2, 1) := by decide +kernel
theorem dX5_takeIn_50 : decode cX5_takeIn 50 = .ok (.aaload, 1) := by decide +kernel
theorem dX5_takeIn_51 : decode cX5_takeIn 51 = .ok (.invokevirtual 253, 3) := by decide +kernel
theorem dX5_takeIn_54 : decode cX5_takeIn 54 = .ok (.aload_n 0, 1) := by decide +kernel
theorem dX5_takeIn_55 : decode cX5_takeIn 55 = .ok (.invokevirtual 124, 3) := by decide +kernel
theorem dX5_takeIn_58 : decode cX5_takeIn 58 = .ok (.return_, 1) := by decide +kernel
theorem dX5_forgetCourses_0 : decode cX5_forgetCourses 0 = .ok (.aload_n 0, 1) := by decide +kernel
theorem dX5_forgetCourses_1 : decode cX5_forgetCourses 1 = .ok (.getfield 30, 3) := by decide +kernel
theorem dX5_forgetCourses_4 : decode cX5_forgetCourses 4 = .ok (.invokevirtual 375, 3) := by decide +kernel
theorem dX5_forgetCourses_7 : decode cX5_forgetCourses 7 = .ok (.aload_n 0, 1) := by decide +kernel
theorem dX5_forgetCourses_8 : decode cX5_forgetCourses 8 = .ok (.iconst 1, 1) := by decide +kernel
theorem dX5_forgetCourses_9 : decode cX5_forgetCourses 9 = .ok (.putfield 41, 3) := by decide +kernel
theorem dX5_forgetCourses_12 : decode cX5_forgetCourses 12 = .ok (.return_, 1) := by decide +kernel
theorem dX5_peaceWith_0 : decode cX5_peaceWith 0 = .ok (.aload_n 0, 1) := by decide +kernel
theorem dX5_peaceWith_1 : decode cX5_peaceWith 1 = .ok (.getfield 41, 3) := by decide +kernel
theorem dX5_peaceWith_4 : decode cX5_peaceWith 4 = .ok (.ifCond .eq 16, 3) := by decide +kernel
theorem dX5_peaceWith_7 : decode cX5_peaceWith 7 = .ok (.aload_n 0, 1) := by decide +kernel
theorem dX5_peaceWith_8 : decode cX5_peaceWith 8 = .ok (.getfield 37, 3) := by decide +kernel
theorem dX5_peaceWith_11 : decode cX5_peaceWith 11 = .ok (.iconst (-1), 1) := by decide +kernel
theorem dX5_peaceWith_12 : decode cX5_peaceWith 12 = .ok (.invokestatic 378, 3) := by decide +kernel
theorem dX5_peaceWith_15 : decode cX5_peaceWith 15 = .ok (.aload_n 0, 1) := by decide +kernel
theorem dX5_peaceWith_16 : decode cX5_peaceWith 16 = .ok (.iconst 0, 1) := by decide +kernel
theorem dX5_peaceWith_17 : decode cX5_peaceWith 17 = .ok (.putfield 41, 3) := by decide +kernel
theorem dX5_peaceWith_20 : decode cX5_peaceWith 20 = .ok (.iload_n 1, 1) := by decide +kernel
theorem dX5_peaceWith_21 : decode cX5_peaceWith 21 = .ok (.aload_n 0, 1) := by decide +kernel
theorem dX5_peaceWith_22 : decode cX5_peaceWith 22 = .ok (.getfield 37, 3) := by decide +kernel
theorem dX5_peaceWith_25 : decode cX5_peaceWith 25 = .ok (.arraylength, 1) := by decide +kernel
theorem dX5_peaceWith_26 : decode cX5_peaceWith 26 = .ok (.iconst 1, 1) := by decide +kernel
theorem dX5_peaceWith_27 : decode cX5_peaceWith 27 = .ok (.isub, 1) := by decide +kernel
theorem dX5_peaceWith_28 : decode cX5_peaceWith 28 = .ok (.iand, 1) := by decide +kernel
theorem dX5_peaceWith_29 : decode cX5_peaceWith 29 = .ok (.istore_n 2, 1) := by decide +kernel
theorem dX5_peaceWith_30 : decode cX5_peaceWith 30 = .ok (.aload_n 0, 1) := by decide +kernel
theorem dX5_peaceWith_31 : decode cX5_peaceWith 31 = .ok (.getfield 37, 3) := by decide +kernel
theorem dX5_peaceWith_34 : decode cX5_peaceWith 34 = .ok (.iload_n 2, 1) := by decide +kernel
theorem dX5_peaceWith_35 : decode cX5_peaceWith 35 = .ok (.iaload, 1) := by decide +kernel
theorem dX5_peaceWith_36 : decode cX5_peaceWith 36 = .ok (.iconst (-1), 1) := by decide +kernel
theorem dX5_peaceWith_37 : decode cX5_peaceWith 37 = .ok (.if_icmp .ne 45, 3) := by decide +kernel
theorem dX5_peaceWith_40 : decode cX5_peaceWith 40 = .ok (.aload_n 0, 1) := by decide +kernel
theorem dX5_peaceWith_41 : decode cX5_peaceWith 41 = .ok (.getfield 21, 3) := by decide +kernel
theorem dX5_peaceWith_44 : decode cX5_peaceWith 44 = .ok (.iload_n 2, 1) := by decide +kernel
theorem dX5_peaceWith_45 : decode cX5_peaceWith 45 = .ok (.putfield 220, 3) := by decide +kernel
theorem dX5_peaceWith_48 : decode cX5_peaceWith 48 = .ok (.aload_n 0, 1) := by decide +kernel
theorem dX5_peaceWith_49 : decode cX5_peaceWith 49 = .ok (.getfield 34, 3) := by decide +kernel
theorem dX5_peaceWith_52 : decode cX5_peaceWith 52 = .ok (.invokevirtual 184, 3) := by decide +kernel
theorem dX5_peaceWith_55 : decode cX5_peaceWith 55 = .ok (.aload_n 0, 1) := by decide +kernel
theorem dX5_peaceWith_56 : decode cX5_peaceWith 56 = .ok (.getfield 37, 3) := by decide +kernel
theorem dX5_peaceWith_59 : decode cX5_peaceWith 59 = .ok (.iload_n 2, 1) := by decide +kernel
theorem dX5_peaceWith_60 : decode cX5_peaceWith 60 = .ok (.aload_n 0, 1) := by decide +kernel
theorem dX5_peaceWith_61 : decode cX5_peaceWith 61 = .ok (.getfield 34, 3) := by decide +kernel
theorem dX5_peaceWith_64 : decode cX5_peaceWith 64 = .ok (.invokevirtual 181, 3) := by decide +kernel
theorem dX5_peaceWith_67 : decode cX5_peaceWith 67 = .ok (.iastore, 1) := by decide +kernel
theorem dX5_peaceWith_68 : decode cX5_peaceWith 68 = .ok (.aload_n 0, 1) := by decide +kernel
theorem dX5_peaceWith_69 : decode cX5_peaceWith 69 = .ok (.getfield 21, 3) := by decide +kernel
theorem dX5_peaceWith_72 : decode cX5_peaceWith 72 = .ok (.aload_n 0, 1) := by decide +kernel
theorem dX5_peaceWith_73 : decode cX5_peaceWith 73 = .ok (.getfield 21, 3) := by decide +kernel
theorem dX5_peaceWith_76 : decode cX5_peaceWith 76 = .ok (.invokevirtual 217, 3) := by decide +kernel
theorem dX5_peaceWith_79 : decode cX5_peaceWith 79 = .ok (.putfield 220, 3) := by decide +kernel
theorem dX5_peaceWith_82 : decode cX5_peaceWith 82 = .ok (.aload_n 0, 1) := by decide +kernel
theorem dX5_peaceWith_83 : decode cX5_peaceWith 83 = .ok (.getfield 37, 3) := by decide +kernel
theorem dX5_peaceWith_86 : decode cX5_peaceWith 86 = .ok (.iload_n 2, 1) := by decide +kernel
theorem dX5_peaceWith_87 : decode cX5_peaceWith 87 = .ok (.iaload, 1) := by decide +kernel
theorem dX5_peaceWith_88 : decode cX5_peaceWith 88 = .ok (.ireturn, 1) := by decide +kernel
theorem dX5_sparedEvents_0 : decode cX5_sparedEvents 0 = .ok (.aload_n 0, 1) := by decide +kernel
theorem dX5_sparedEvents_1 : decode cX5_sparedEvents 1 = .ok (.getfield 21, 3) := by decide +kernel
theorem dX5_sparedEvents_4 : decode cX5_sparedEvents 4 = .ok (.invokevirtual 217, 3) := by decide +kernel
theorem dX5_sparedEvents_7 : decode cX5_sparedEvents 7 = .ok (.istore_n 1, 1) := by decide +kernel
theorem dX5_sparedEvents_8 : decode cX5_sparedEvents 8 = .ok (.aload_n 0, 1) := by decide +kernel
theorem dX5_sparedEvents_9 : decode cX5_sparedEvents 9 = .ok (.getfield 21, 3) := by decide +kernel
theorem dX5_sparedEvents_12 : decode cX5_sparedEvents 12 = .ok (.invokevirtual 384, 3) := by decide +kernel
theorem dX5_sparedEvents_15 : decode cX5_sparedEvents 15 = .ok (.istore_n 2, 1) := by decide +kernel
theorem dX5_sparedEvents_16 : decode cX5_sparedEvents 16 = .ok (.aload_n 0, 1) := by decide +kernel
theorem dX5_sparedEvents_17 : decode cX5_sparedEvents 17 = .ok (.iload_n 1, 1) := by decide +kernel
theorem dX5_sparedEvents_18 : decode cX5_sparedEvents 18 = .ok (.invokevirtual 239, 3) := by decide +kernel
theorem dX5_sparedEvents_21 : decode cX5_sparedEvents 21 = .ok (.iload_n 2, 1) := by decide +kernel
theorem dX5_sparedEvents_22 : decode cX5_sparedEvents 22 = .ok (.if_icmp .ne 5, 3) := by decide +kernel
theorem dX5_sparedEvents_25 : decode cX5_sparedEvents 25 = .ok (.iconst 0, 1) := by decide +kernel
theorem dX5_sparedEvents_26 : decode cX5_sparedEvents 26 = .ok (.ireturn, 1) := by decide +kernel
theorem dX5_sparedEvents_27 : decode cX5_sparedEvents 27 = .ok (.iconst 0, 1) := by decide +kernel
theorem dX5_sparedEvents_28 : decode cX5_sparedEvents 28 = .ok (.istore_n 3, 1) := by decide +kernel
theorem dX5_sparedEvents_29 : decode cX5_sparedEvents 29 = .ok (.iload_n 3, 1) := by decide +kernel
theorem dX5_sparedEvents_30 : decode cX5_sparedEvents 30 = .ok (.aload_n 0, 1) := by decide +kernel
theorem dX5_sparedEvents_31 : decode cX5_sparedEvents 31 = .ok (.getfield 21, 3) := by decide +kernel
theorem dX5_sparedEvents_34 : decode cX5_sparedEvents 34 = .ok (.getfield 117, 3) := by decide +kernel
theorem dX5_sparedEvents_37 : decode cX5_sparedEvents 37 = .ok (.if_icmp .ge 28, 3) := by decide +kernel
theorem dX5_sparedEvents_40 : decode cX5_sparedEvents 40 = .ok (.aload_n 0, 1) := by decide +kernel
theorem dX5_sparedEvents_41 : decode cX5_sparedEvents 41 = .ok (.iload_n 1, 1) := by decide +kernel
theorem dX5_sparedEvents_42 : decode cX5_sparedEvents 42 = .ok (.iconst 1, 1) := by decide +kernel
theorem dX5_sparedEvents_43 : decode cX5_sparedEvents 43 = .ok (.iload_n 3, 1) := by decide +kernel
theorem dX5_sparedEvents_44 : decode cX5_sparedEvents 44 = .ok (.ishl, 1) := by decide +kernel
theorem dX5_sparedEvents_45 : decode cX5_sparedEvents 45 = .ok (.iconst (-1), 1) := by decide +kernel
theorem dX5_sparedEvents_46 : decode cX5_sparedEvents 46 = .ok (.ixor, 1) := by decide +kernel
theorem dX5_sparedEvents_47 : decode cX5_sparedEvents 47 = .ok (.iand, 1) := by decide +kernel
theorem dX5_sparedEvents_48 : decode cX5_sparedEvents 48 = .ok (.invokevirtual 239, 3) := by decide +kernel
theorem dX5_sparedEvents_51 : decode cX5_sparedEvents 51 = .ok (.iload_n 2, 1) := by decide +kernel
theorem dX5_sparedEvents_52 : decode cX5_sparedEvents 52 = .ok (.if_icmp .ne 7, 3) := by decide +kernel
theorem dX5_sparedEvents_55 : decode cX5_sparedEvents 55 = .ok (.iconst 1, 1) := by decide +kernel
theorem dX5_sparedEvents_56 : decode cX5_sparedEvents 56 = .ok (.iload_n 3, 1) := by decide +kernel
theorem dX5_sparedEvents_57 : decode cX5_sparedEvents 57 = .ok (.ishl, 1) := by decide +kernel
theorem dX5_sparedEvents_58 : decode cX5_sparedEvents 58 = .ok (.ireturn, 1) := by decide +kernel
theorem dX5_sparedEvents_59 : decode cX5_sparedEvents 59 = .ok (.iinc 3 1, 3) := by decide +kernel
theorem dX5_sparedEvents_62 : decode cX5_sparedEvents 62 = .ok (.goto (-33), 3) := by decide +kernel
theorem dX5_sparedEvents_65 : decode cX5_sparedEvents 65 = .ok (.iconst 0, 1) := by decide +kernel
theorem dX5_sparedEvents_66 : decode cX5_sparedEvents 66 = .ok (.istore_n 3, 1) := by decide +kernel
theorem dX5_sparedEvents_67 : decode cX5_sparedEvents 67 = .ok (.iload_n 3, 1) := by decide +kernel
theorem dX5_sparedEvents_68 : decode cX5_sparedEvents 68 = .ok (.aload_n 0, 1) := by decide +kernel
theorem dX5_sparedEvents_69 : decode cX5_sparedEvents 69 = .ok (.getfield 21, 3) := by decide +kernel
theorem dX5_sparedEvents_72 : decode cX5_sparedEvents 72 = .ok (.getfield 117, 3) := by decide +kernel
theorem dX5_sparedEvents_75 : decode cX5_sparedEvents 75 = .ok (.if_icmp .ge 59, 3) := by decide +kernel
theorem dX5_sparedEvents_78 : decode cX5_sparedEvents 78 = .ok (.iload_n 3, 1) := by decide +kernel
theorem dX5_sparedEvents_79 : decode cX5_sparedEvents 79 = .ok (.iconst 1, 1) := by decide +kernel
theorem dX5_sparedEvents_80 : decode cX5_sparedEvents 80 = .ok (.iadd, 1) := by decide +kernel
theorem dX5_sparedEvents_81 : decode cX5_sparedEvents 81 = .ok (.istore 4, 2) := by decide +kernel
theorem dX5_sparedEvents_83 : decode cX5_sparedEvents 83 = .ok (.iload 4, 2) := by decide +kernel
theorem dX5_sparedEvents_85 : decode cX5_sparedEvents 85 = .ok (.aload_n 0, 1) := by decide +kernel
theorem dX5_sparedEvents_86 : decode cX5_sparedEvents 86 = .ok (.getfield 21, 3) := by decide +kernel
theorem dX5_sparedEvents_89 : decode cX5_sparedEvents 89 = .ok (.getfield 117, 3) := by decide +kernel
theorem dX5_sparedEvents_92 : decode cX5_sparedEvents 92 = .ok (.if_icmp .ge 36, 3) := by decide +kernel
theorem dX5_sparedEvents_95 : decode cX5_sparedEvents 95 = .ok (.iconst 1, 1) := by decide +kernel
theorem dX5_sparedEvents_96 : decode cX5_sparedEvents 96 = .ok (.iload_n 3, 1) := by decide +kernel
theorem dX5_sparedEvents_97 : decode cX5_sparedEvents 97 = .ok (.ishl, 1) := by decide +kernel
theorem dX5_sparedEvents_98 : decode cX5_sparedEvents 98 = .ok (.iconst 1, 1) := by decide +kernel
theorem dX5_sparedEvents_99 : decode cX5_sparedEvents 99 = .ok (.iload 4, 2) := by decide +kernel
theorem dX5_sparedEvents_101 : decode cX5_sparedEvents 101 = .ok (.ishl, 1) := by decide +kernel
theorem dX5_sparedEvents_102 : decode cX5_sparedEvents 102 = .ok (.ior, 1) := by decide +kernel
theorem dX5_sparedEvents_103 : decode cX5_sparedEvents 103 = .ok (.istore 5, 2) := by decide +kernel
theorem dX5_sparedEvents_105 : decode cX5_sparedEvents 105 = .ok (.aload_n 0, 1) := by decide +kernel
theorem dX5_sparedEvents_106 : decode cX5_sparedEvents 106 = .ok (.iload_n 1, 1) := by decide +kernel
theorem dX5_sparedEvents_107 : decode cX5_sparedEvents 107 = .ok (.iload 5, 2) := by decide +kernel
theorem dX5_sparedEvents_109 : decode cX5_sparedEvents 109 = .ok (.iconst (-1), 1) := by decide +kernel
theorem dX5_sparedEvents_110 : decode cX5_sparedEvents 110 = .ok (.ixor, 1) := by decide +kernel
theorem dX5_sparedEvents_111 : decode cX5_sparedEvents 111 = .ok (.iand, 1) := by decide +kernel
theorem dX5_sparedEvents_112 : decode cX5_sparedEvents 112 = .ok (.invokevirtual 239, 3) := by decide +kernel
theorem dX5_sparedEvents_115 : decode cX5_sparedEvents 115 = .ok (.iload_n 2, 1) := by decide +kernel
theorem dX5_sparedEvents_116 : decode cX5_sparedEvents 116 = .ok (.if_icmp .ne 6, 3) := by decide +kernel
theorem dX5_sparedEvents_119 : decode cX5_sparedEvents 119 = .ok (.iload 5, 2) := by decide +kernel
theorem dX5_sparedEvents_121 : decode cX5_sparedEvents 121 = .ok (.ireturn, 1) := by decide +kernel
theorem dX5_sparedEvents_122 : decode cX5_sparedEvents 122 = .ok (.iinc 4 1, 3) := by decide +kernel
theorem dX5_sparedEvents_125 : decode cX5_sparedEvents 125 = .ok (.goto (-42), 3) := by decide +kernel
theorem dX5_sparedEvents_128 : decode cX5_sparedEvents 128 = .ok (.iinc 3 1, 3) := by decide +kernel
theorem dX5_sparedEvents_131 : decode cX5_sparedEvents 131 = .ok (.goto (-64), 3) := by decide +kernel
theorem dX5_sparedEvents_134 : decode cX5_sparedEvents 134 = .ok (.iconst (-1), 1) := by decide +kernel
theorem dX5_sparedEvents_135 : decode cX5_sparedEvents 135 = .ok (.ireturn, 1) := by decide +kernel
theorem dX5_fittingValues_0 : decode cX5_fittingValues 0 = .ok (.aload_n 1, 1) := by decide +kernel
theorem dX5_fittingValues_1 : decode cX5_fittingValues 1 = .ok (.iload_n 2, 1) := by decide +kernel
theorem dX5_fittingValues_2 : decode cX5_fittingValues 2 = .ok (.iaload, 1) := by decide +kernel
theorem dX5_fittingValues_3 : decode cX5_fittingValues 3 = .ok (.istore 5, 2) := by decide +kernel
theorem dX5_fittingValues_5 : decode cX5_fittingValues 5 = .ok (.iconst 0, 1) := by decide +kernel
theorem dX5_fittingValues_6 : decode cX5_fittingValues 6 = .ok (.istore 6, 2) := by decide +kernel
theorem dX5_fittingValues_8 : decode cX5_fittingValues 8 = .ok (.iload_n 3, 1) := by decide +kernel
theorem dX5_fittingValues_9 : decode cX5_fittingValues 9 = .ok (.istore 7, 2) := by decide +kernel
theorem dX5_fittingValues_11 : decode cX5_fittingValues 11 = .ok (.iload 7, 2) := by decide +kernel
theorem dX5_fittingValues_13 : decode cX5_fittingValues 13 = .ok (.iload 4, 2) := by decide +kernel
theorem dX5_fittingValues_15 : decode cX5_fittingValues 15 = .ok (.if_icmp .gt 44, 3) := by decide +kernel
theorem dX5_fittingValues_18 : decode cX5_fittingValues 18 = .ok (.aload_n 1, 1) := by decide +kernel
theorem dX5_fittingValues_19 : decode cX5_fittingValues 19 = .ok (.iload_n 2, 1) := by decide +kernel
theorem dX5_fittingValues_20 : decode cX5_fittingValues 20 = .ok (.iload 7, 2) := by decide +kernel
theorem dX5_fittingValues_22 : decode cX5_fittingValues 22 = .ok (.iastore, 1) := by decide +kernel
theorem dX5_fittingValues_23 : decode cX5_fittingValues 23 = .ok (.aload_n 0, 1) := by decide +kernel
theorem dX5_fittingValues_24 : decode cX5_fittingValues 24 = .ok (.getfield 34, 3) := by decide +kernel
theorem dX5_fittingValues_27 : decode cX5_fittingValues 27 = .ok (.invokevirtual 184, 3) := by decide +kernel
theorem dX5_fittingValues_30 : decode cX5_fittingValues 30 = .ok (.aload_n 0, 1) := by decide +kernel
theorem dX5_fittingValues_31 : decode cX5_fittingValues 31 = .ok (.getfield 48, 3) := by decide +kernel
theorem dX5_fittingValues_34 : decode cX5_fittingValues 34 = .ok (.aload_n 0, 1) := by decide +kernel
theorem dX5_fittingValues_35 : decode cX5_fittingValues 35 = .ok (.getfield 34, 3) := by decide +kernel
theorem dX5_fittingValues_38 : decode cX5_fittingValues 38 = .ok (.invokevirtual 223, 3) := by decide +kernel
theorem dX5_fittingValues_41 : decode cX5_fittingValues 41 = .ok (.ifCond .eq 12, 3) := by decide +kernel
theorem dX5_fittingValues_44 : decode cX5_fittingValues 44 = .ok (.iload 6, 2) := by decide +kernel
theorem dX5_fittingValues_46 : decode cX5_fittingValues 46 = .ok (.iconst 1, 1) := by decide +kernel
theorem dX5_fittingValues_47 : decode cX5_fittingValues 47 = .ok (.iload 7, 2) := by decide +kernel
theorem dX5_fittingValues_49 : decode cX5_fittingValues 49 = .ok (.ishl, 1) := by decide +kernel
theorem dX5_fittingValues_50 : decode cX5_fittingValues 50 = .ok (.ior, 1) := by decide +kernel
theorem dX5_fittingValues_51 : decode cX5_fittingValues 51 = .ok (.istore 6, 2) := by decide +kernel
theorem dX5_fittingValues_53 : decode cX5_fittingValues 53 = .ok (.iinc 7 1, 3) := by decide +kernel
theorem dX5_fittingValues_56 : decode cX5_fittingValues 56 = .ok (.goto (-45), 3) := by decide +kernel
theorem dX5_fittingValues_59 : decode cX5_fittingValues 59 = .ok (.aload_n 1, 1) := by decide +kernel
theorem dX5_fittingValues_60 : decode cX5_fittingValues 60 = .ok (.iload_n 2, 1) := by decide +kernel
theorem dX5_fittingValues_61 : decode cX5_fittingValues 61 = .ok (.iload 5, 2) := by decide +kernel
theorem dX5_fittingValues_63 : decode cX5_fittingValues 63 = .ok (.iastore, 1) := by decide +kernel
theorem dX5_fittingValues_64 : decode cX5_fittingValues 64 = .ok (.iload 6, 2) := by decide +kernel
theorem dX5_fittingValues_66 : decode cX5_fittingValues 66 = .ok (.ireturn, 1) := by decide +kernel
theorem dX5_tallyGold_0 : decode cX5_tallyGold 0 = .ok (.aload_n 0, 1) := by decide +kernel
theorem dX5_tallyGold_1 : decode cX5_tallyGold 1 = .ok (.getfield 52, 3) := by decide +kernel
theorem dX5_tallyGold_4 : decode cX5_tallyGold 4 = .ok (.iconst 0, 1) := by decide +kernel
theorem dX5_tallyGold_5 : decode cX5_tallyGold 5 = .ok (.invokestatic 378, 3) := by decide +kernel
theorem dX5_tallyGold_8 : decode cX5_tallyGold 8 = .ok (.aload_n 0, 1) := by decide +kernel
theorem dX5_tallyGold_9 : decode cX5_tallyGold 9 = .ok (.getfield 21, 3) := by decide +kernel
theorem dX5_tallyGold_12 : decode cX5_tallyGold 12 = .ok (.getfield 96, 3) := by decide +kernel
theorem dX5_tallyGold_15 : decode cX5_tallyGold 15 = .ok (.iload_n 1, 1) := by decide +kernel
theorem dX5_tallyGold_16 : decode cX5_tallyGold 16 = .ok (.iaload, 1) := by decide +kernel
theorem dX5_tallyGold_17 : decode cX5_tallyGold 17 = .ok (.istore_n 2, 1) := by decide +kernel
theorem dX5_tallyGold_18 : decode cX5_tallyGold 18 = .ok (.iconst 1, 1) := by decide +kernel
theorem dX5_tallyGold_19 : decode cX5_tallyGold 19 = .ok (.istore_n 3, 1) := by decide +kernel
theorem dX5_tallyGold_20 : decode cX5_tallyGold 20 = .ok (.iload_n 3, 1) := by decide +kernel
theorem dX5_tallyGold_21 : decode cX5_tallyGold 21 = .ok (.bipush 9, 2) := by decide +kernel
theorem dX5_tallyGold_23 : decode cX5_tallyGold 23 = .ok (.if_icmp .gt 81, 3) := by decide +kernel
theorem dX5_tallyGold_26 : decode cX5_tallyGold 26 = .ok (.aload_n 0, 1) := by decide +kernel
theorem dX5_tallyGold_27 : decode cX5_tallyGold 27 = .ok (.getfield 21, 3) := by decide +kernel
theorem dX5_tallyGold_30 : decode cX5_tallyGold 30 = .ok (.getfield 96, 3) := by decide +kernel
theorem dX5_tallyGold_33 : decode cX5_tallyGold 33 = .ok (.iload_n 1, 1) := by decide +kernel
theorem dX5_tallyGold_34 : decode cX5_tallyGold 34 = .ok (.iload_n 3, 1) := by decide +kernel
theorem dX5_tallyGold_35 : decode cX5_tallyGold 35 = .ok (.iastore, 1) := by decide +kernel
theorem dX5_tallyGold_36 : decode cX5_tallyGold 36 = .ok (.aload_n 0, 1) := by decide +kernel
theorem dX5_tallyGold_37 : decode cX5_tallyGold 37 = .ok (.getfield 34, 3) := by decide +kernel
theorem dX5_tallyGold_40 : decode cX5_tallyGold 40 = .ok (.invokevirtual 184, 3) := by decide +kernel
theorem dX5_tallyGold_43 : decode cX5_tallyGold 43 = .ok (.aload_n 0, 1) := by decide +kernel
theorem dX5_tallyGold_44 : decode cX5_tallyGold 44 = .ok (.getfield 48, 3) := by decide +kernel
theorem dX5_tallyGold_47 : decode cX5_tallyGold 47 = .ok (.aload_n 0, 1) := by decide +kernel
theorem dX5_tallyGold_48 : decode cX5_tallyGold 48 = .ok (.getfield 34, 3) := by decide +kernel
theorem dX5_tallyGold_51 : decode cX5_tallyGold 51 = .ok (.invokevirtual 223, 3) := by decide +kernel
theorem dX5_tallyGold_54 : decode cX5_tallyGold 54 = .ok (.ifCond .eq 44, 3) := by decide +kernel
theorem dX5_tallyGold_57 : decode cX5_tallyGold 57 = .ok (.iconst 0, 1) := by decide +kernel
theorem dX5_tallyGold_58 : decode cX5_tallyGold 58 = .ok (.istore 4, 2) := by decide +kernel
theorem dX5_tallyGold_60 : decode cX5_tallyGold 60 = .ok (.iload 4, 2) := by decide +kernel
theorem dX5_tallyGold_62 : decode cX5_tallyGold 62 = .ok (.bipush 24, 2) := by decide +kernel
theorem dX5_tallyGold_64 : decode cX5_tallyGold 64 = .ok (.if_icmp .ge 34, 3) := by decide +kernel
theorem dX5_tallyGold_67 : decode cX5_tallyGold 67 = .ok (.aload_n 0, 1) := by decide +kernel
theorem dX5_tallyGold_68 : decode cX5_tallyGold 68 = .ok (.getfield 52, 3) := by decide +kernel
theorem dX5_tallyGold_71 : decode cX5_tallyGold 71 = .ok (.iload 4, 2) := by decide +kernel
theorem dX5_tallyGold_73 : decode cX5_tallyGold 73 = .ok (.bipush 10, 2) := by decide +kernel
theorem dX5_tallyGold_75 : decode cX5_tallyGold 75 = .ok (.imul, 1) := by decide +kernel
theorem dX5_tallyGold_76 : decode cX5_tallyGold 76 = .ok (.aload_n 0, 1) := by decide +kernel
theorem dX5_tallyGold_77 : decode cX5_tallyGold 77 = .ok (.getfield 34, 3) := by decide +kernel
theorem dX5_tallyGold_80 : decode cX5_tallyGold 80 = .ok (.iload 4, 2) := by decide +kernel
theorem dX5_tallyGold_82 : decode cX5_tallyGold 82 = .ok (.iload_n 1, 1) := by decide +kernel
theorem dX5_tallyGold_83 : decode cX5_tallyGold 83 = .ok (.invokevirtual 282, 3) := by decide +kernel
theorem dX5_tallyGold_86 : decode cX5_tallyGold 86 = .ok (.iadd, 1) := by decide +kernel
theorem dX5_tallyGold_87 : decode cX5_tallyGold 87 = .ok (.dup2, 1) := by decide +kernel
theorem dX5_tallyGold_88 : decode cX5_tallyGold 88 = .ok (.iaload, 1) := by decide +kernel
theorem dX5_tallyGold_89 : decode cX5_tallyGold 89 = .ok (.iconst 1, 1) := by decide +kernel
theorem dX5_tallyGold_90 : decode cX5_tallyGold 90 = .ok (.iadd, 1) := by decide +kernel
theorem dX5_tallyGold_91 : decode cX5_tallyGold 91 = .ok (.iastore, 1) := by decide +kernel
theorem dX5_tallyGold_92 : decode cX5_tallyGold 92 = .ok (.iinc 4 1, 3) := by decide +kernel
theorem dX5_tallyGold_95 : decode cX5_tallyGold 95 = .ok (.goto (-35), 3) := by decide +kernel
theorem dX5_tallyGold_98 : decode cX5_tallyGold 98 = .ok (.iinc 3 1, 3) := by decide +kernel
theorem dX5_tallyGold_101 : decode cX5_tallyGold 101 = .ok (.goto (-81), 3) := by decide +kernel
theorem dX5_tallyGold_104 : decode cX5_tallyGold 104 = .ok (.aload_n 0, 1) := by decide +kernel
theorem dX5_tallyGold_105 : decode cX5_tallyGold 105 = .ok (.getfield 21, 3) := by decide +kernel
theorem dX5_tallyGold_108 : decode cX5_tallyGold 108 = .ok (.getfield 96, 3) := by decide +kernel
theorem dX5_tallyGold_111 : decode cX5_tallyGold 111 = .ok (.iload_n 1, 1) := by decide +kernel
theorem dX5_tallyGold_112 : decode cX5_tallyGold 112 = .ok (.iload_n 2, 1) := by decide +kernel
theorem dX5_tallyGold_113 : decode cX5_tallyGold 113 = .ok (.iastore, 1) := by decide +kernel
theorem dX5_tallyGold_114 : decode cX5_tallyGold 114 = .ok (.return_, 1) := by decide +kernel
theorem dX5_mostAlike_0 : decode cX5_mostAlike 0 = .ok (.iconst 0, 1) := by decide +kernel
theorem dX5_mostAlike_1 : decode cX5_mostAlike 1 = .ok (.istore_n 2, 1) := by decide +kernel
theorem dX5_mostAlike_2 : decode cX5_mostAlike 2 = .ok (.iconst 0, 1) := by decide +kernel
theorem dX5_mostAlike_3 : decode cX5_mostAlike 3 = .ok (.istore_n 3, 1) := by decide +kernel
theorem dX5_mostAlike_4 : decode cX5_mostAlike 4 = .ok (.iload_n 3, 1) := by decide +kernel
theorem dX5_mostAlike_5 : decode cX5_mostAlike 5 = .ok (.bipush 9, 2) := by decide +kernel
theorem dX5_mostAlike_7 : decode cX5_mostAlike 7 = .ok (.if_icmp .gt 25, 3) := by decide +kernel
theorem dX5_mostAlike_10 : decode cX5_mostAlike 10 = .ok (.iload_n 2, 1) := by decide +kernel
theorem dX5_mostAlike_11 : decode cX5_mostAlike 11 = .ok (.aload_n 0, 1) := by decide +kernel
theorem dX5_mostAlike_12 : decode cX5_mostAlike 12 = .ok (.getfield 52, 3) := by decide +kernel
theorem dX5_mostAlike_15 : decode cX5_mostAlike 15 = .ok (.iload_n 1, 1) := by decide +kernel
theorem dX5_mostAlike_16 : decode cX5_mostAlike 16 = .ok (.bipush 10, 2) := by decide +kernel
theorem dX5_mostAlike_18 : decode cX5_mostAlike 18 = .ok (.imul, 1) := by decide +kernel
theorem dX5_mostAlike_19 : decode cX5_mostAlike 19 = .ok (.iload_n 3, 1) := by decide +kernel
theorem dX5_mostAlike_20 : decode cX5_mostAlike 20 = .ok (.iadd, 1) := by decide +kernel
theorem dX5_mostAlike_21 : decode cX5_mostAlike 21 = .ok (.iaload, 1) := by decide +kernel
theorem dX5_mostAlike_22 : decode cX5_mostAlike 22 = .ok (.invokestatic 387, 3) := by decide +kernel
theorem dX5_mostAlike_25 : decode cX5_mostAlike 25 = .ok (.istore_n 2, 1) := by decide +kernel
theorem dX5_mostAlike_26 : decode cX5_mostAlike 26 = .ok (.iinc 3 1, 3) := by decide +kernel
theorem dX5_mostAlike_29 : decode cX5_mostAlike 29 = .ok (.goto (-25), 3) := by decide +kernel
theorem dX5_mostAlike_32 : decode cX5_mostAlike 32 = .ok (.iload_n 2, 1) := by decide +kernel
theorem dX5_mostAlike_33 : decode cX5_mostAlike 33 = .ok (.ireturn, 1) := by decide +kernel
theorem dX5_weightOf_0 : decode cX5_weightOf 0 = .ok (.lconst 1, 1) := by decide +kernel
theorem dX5_weightOf_1 : decode cX5_weightOf 1 = .ok (.lstore_n 3, 1) := by decide +kernel
theorem dX5_weightOf_2 : decode cX5_weightOf 2 = .ok (.iconst 0, 1) := by decide +kernel
theorem dX5_weightOf_3 : decode cX5_weightOf 3 = .ok (.istore 5, 2) := by decide +kernel
theorem dX5_weightOf_5 : decode cX5_weightOf 5 = .ok (.iload 5, 2) := by decide +kernel
theorem dX5_weightOf_7 : decode cX5_weightOf 7 = .ok (.aload_n 0, 1) := by decide +kernel
theorem dX5_weightOf_8 : decode cX5_weightOf 8 = .ok (.getfield 21, 3) := by decide +kernel
theorem dX5_weightOf_11 : decode cX5_weightOf 11 = .ok (.getfield 117, 3) := by decide +kernel
theorem dX5_weightOf_14 : decode cX5_weightOf 14 = .ok (.if_icmp .ge 32, 3) := by decide +kernel
theorem dX5_weightOf_17 : decode cX5_weightOf 17 = .ok (.lload_n 3, 1) := by decide +kernel
theorem dX5_weightOf_18 : decode cX5_weightOf 18 = .ok (.iload_n 1, 1) := by decide +kernel
theorem dX5_weightOf_19 : decode cX5_weightOf 19 = .ok (.iload 5, 2) := by decide +kernel
theorem dX5_weightOf_21 : decode cX5_weightOf 21 = .ok (.ishr, 1) := by decide +kernel
theorem dX5_weightOf_22 : decode cX5_weightOf 22 = .ok (.iconst 1, 1) := by decide +kernel
theorem dX5_weightOf_23 : decode cX5_weightOf 23 = .ok (.iand, 1) := by decide +kernel
theorem dX5_weightOf_24 : decode cX5_weightOf 24 = .ok (.iconst 1, 1) := by decide +kernel
theorem dX5_weightOf_25 : decode cX5_weightOf 25 = .ok (.if_icmp .ne 8, 3) := by decide +kernel
theorem dX5_weightOf_28 : decode cX5_weightOf 28 = .ok (.iload_n 2, 1) := by decide +kernel
theorem dX5_weightOf_29 : decode cX5_weightOf 29 = .ok (.i2l, 1) := by decide +kernel
theorem dX5_weightOf_30 : decode cX5_weightOf 30 = .ok (.goto 8, 3) := by decide +kernel
theorem dX5_weightOf_33 : decode cX5_weightOf 33 = .ok (.bipush 16, 2) := by decide +kernel
theorem dX5_weightOf_35 : decode cX5_weightOf 35 = .ok (.iload_n 2, 1) := by decide +kernel
theorem dX5_weightOf_36 : decode cX5_weightOf 36 = .ok (.isub, 1) := by decide +kernel
theorem dX5_weightOf_37 : decode cX5_weightOf 37 = .ok (.i2l, 1) := by decide +kernel
theorem dX5_weightOf_38 : decode cX5_weightOf 38 = .ok (.lmul, 1) := by decide +kernel
theorem dX5_weightOf_39 : decode cX5_weightOf 39 = .ok (.lstore_n 3, 1) := by decide +kernel
theorem dX5_weightOf_40 : decode cX5_weightOf 40 = .ok (.iinc 5 1, 3) := by decide +kernel
theorem dX5_weightOf_43 : decode cX5_weightOf 43 = .ok (.goto (-38), 3) := by decide +kernel
theorem dX5_weightOf_46 : decode cX5_weightOf 46 = .ok (.lload_n 3, 1) := by decide +kernel
theorem dX5_weightOf_47 : decode cX5_weightOf 47 = .ok (.lreturn, 1) := by decide +kernel
theorem dX5_lowestTerm_0 : decode cX5_lowestTerm 0 = .ok (.lload_n 0, 1) := by decide +kernel
theorem dX5_lowestTerm_1 : decode cX5_lowestTerm 1 = .ok (.lconst 0, 1) := by decide +kernel
theorem dX5_lowestTerm_2 : decode cX5_lowestTerm 2 = .ok (.lcmp, 1) := by decide +kernel
theorem dX5_lowestTerm_3 : decode cX5_lowestTerm 3 = .ok (.ifCond .ne 14, 3) := by decide +kernel
theorem dX5_lowestTerm_6 : decode cX5_lowestTerm 6 = .ok (.iload 4, 2) := by decide +kernel
theorem dX5_lowestTerm_8 : decode cX5_lowestTerm 8 = .ok (.ifCond .ne 7, 3) := by decide +kernel
theorem dX5_lowestTerm_11 : decode cX5_lowestTerm 11 = .ok (.lconst 0, 1) := by decide +kernel
theorem dX5_lowestTerm_12 : decode cX5_lowestTerm 12 = .ok (.goto 4, 3) := by decide +kernel
theorem dX5_lowestTerm_15 : decode cX5_lowestTerm 15 = .ok (.lconst 1, 1) := by decide +kernel
theorem dX5_lowestTerm_16 : decode cX5_lowestTerm 16 = .ok (.lreturn, 1) := by decide +kernel
theorem dX5_lowestTerm_17 : decode cX5_lowestTerm 17 = .ok (.lload_n 0, 1) := by decide +kernel
theorem dX5_lowestTerm_18 : decode cX5_lowestTerm 18 = .ok (.lstore 5, 2) := by decide +kernel
theorem dX5_lowestTerm_20 : decode cX5_lowestTerm 20 = .ok (.lload_n 2, 1) := by decide +kernel
theorem dX5_lowestTerm_21 : decode cX5_lowestTerm 21 = .ok (.lstore 7, 2) := by decide +kernel
theorem dX5_lowestTerm_23 : decode cX5_lowestTerm 23 = .ok (.iconst 0, 1) := by decide +kernel
theorem dX5_lowestTerm_24 : decode cX5_lowestTerm 24 = .ok (.istore 9, 2) := by decide +kernel
theorem dX5_lowestTerm_26 : decode cX5_lowestTerm 26 = .ok (.iload 9, 2) := by decide +kernel
theorem dX5_lowestTerm_28 : decode cX5_lowestTerm 28 = .ok (.bipush 32, 2) := by decide +kernel
theorem dX5_lowestTerm_30 : decode cX5_lowestTerm 30 = .ok (.if_icmp .ge 39, 3) := by decide +kernel
theorem dX5_lowestTerm_33 : decode cX5_lowestTerm 33 = .ok (.lload 5, 2) := by decide +kernel
theorem dX5_lowestTerm_35 : decode cX5_lowestTerm 35 = .ok (.lconst 1, 1) := by decide +kernel
theorem dX5_lowestTerm_36 : decode cX5_lowestTerm 36 = .ok (.land, 1) := by decide +kernel
theorem dX5_lowestTerm_37 : decode cX5_lowestTerm 37 = .ok (.lconst 0, 1) := by decide +kernel
theorem dX5_lowestTerm_38 : decode cX5_lowestTerm 38 = .ok (.lcmp, 1) := by decide +kernel
theorem dX5_lowestTerm_39 : decode cX5_lowestTerm 39 = .ok (.ifCond .ne 30, 3) := by decide +kernel
theorem dX5_lowestTerm_42 : decode cX5_lowestTerm 42 = .ok (.lload 7, 2) := by decide +kernel
theorem dX5_lowestTerm_44 : decode cX5_lowestTerm 44 = .ok (.lconst 1, 1) := by decide +kernel
theorem dX5_lowestTerm_45 : decode cX5_lowestTerm 45 = .ok (.land, 1) := by decide +kernel
theorem dX5_lowestTerm_46 : decode cX5_lowestTerm 46 = .ok (.lconst 0, 1) := by decide +kernel
theorem dX5_lowestTerm_47 : decode cX5_lowestTerm 47 = .ok (.lcmp, 1) := by decide +kernel
theorem dX5_lowestTerm_48 : decode cX5_lowestTerm 48 = .ok (.ifCond .ne 21, 3) := by decide +kernel
theorem dX5_lowestTerm_51 : decode cX5_lowestTerm 51 = .ok (.lload 5, 2) := by decide +kernel
theorem dX5_lowestTerm_53 : decode cX5_lowestTerm 53 = .ok (.iconst 1, 1) := by decide +kernel
theorem dX5_lowestTerm_54 : decode cX5_lowestTerm 54 = .ok (.lshr, 1) := by decide +kernel
theorem dX5_lowestTerm_55 : decode cX5_lowestTerm 55 = .ok (.lstore 5, 2) := by decide +kernel
theorem dX5_lowestTerm_57 : decode cX5_lowestTerm 57 = .ok (.lload 7, 2) := by decide +kernel
theorem dX5_lowestTerm_59 : decode cX5_lowestTerm 59 = .ok (.iconst 1, 1) := by decide +kernel
theorem dX5_lowestTerm_60 : decode cX5_lowestTerm 60 = .ok (.lshr, 1) := by decide +kernel
theorem dX5_lowestTerm_61 : decode cX5_lowestTerm 61 = .ok (.lstore 7, 2) := by decide +kernel
theorem dX5_lowestTerm_63 : decode cX5_lowestTerm 63 = .ok (.iinc 9 1, 3) := by decide +kernel
theorem dX5_lowestTerm_66 : decode cX5_lowestTerm 66 = .ok (.goto (-40), 3) := by decide +kernel
theorem dX5_lowestTerm_69 : decode cX5_lowestTerm 69 = .ok (.iload 4, 2) := by decide +kernel
theorem dX5_lowestTerm_71 : decode cX5_lowestTerm 71 = .ok (.ifCond .ne 8, 3) := by decide +kernel
theorem dX5_lowestTerm_74 : decode cX5_lowestTerm 74 = .ok (.lload 5, 2) := by decide +kernel
theorem dX5_lowestTerm_76 : decode cX5_lowestTerm 76 = .ok (.goto 5, 3) := by decide +kernel
theorem dX5_lowestTerm_79 : decode cX5_lowestTerm 79 = .ok (.lload 7, 2) := by decide +kernel
theorem dX5_lowestTerm_81 : decode cX5_lowestTerm 81 = .ok (.lreturn, 1) := by decide +kernel
