theorem dX0_init_0 : decode cX0_init 0 = .ok (.aload_n 0, 1) := by decide +kernel
theorem dX0_init_1 : decode cX0_init 1 = .ok (.invokespecial 3, 3) := by decide +kernel
theorem dX0_init_4 : decode cX0_init 4 = .ok (.aload_n 0, 1) := by decide +kernel
theorem dX0_init_5 : decode cX0_init 5 = .ok (.iconst 0, 1) := by decide +kernel
theorem dX0_init_6 : decode cX0_init 6 = .ok (.putfield 9, 3) := by decide +kernel
theorem dX0_init_9 : decode cX0_init 9 = .ok (.aload_n 0, 1) := by decide +kernel
theorem dX0_init_10 : decode cX0_init 10 = .ok (.iconst 0, 1) := by decide +kernel
theorem dX0_init_11 : decode cX0_init 11 = .ok (.putfield 15, 3) := by decide +kernel
theorem dX0_init_14 : decode cX0_init 14 = .ok (.aload_n 0, 1) := by decide +kernel
theorem dX0_init_15 : decode cX0_init 15 = .ok (.iconst 0, 1) := by decide +kernel
theorem dX0_init_16 : decode cX0_init 16 = .ok (.putfield 18, 3) := by decide +kernel
theorem dX0_init_19 : decode cX0_init 19 = .ok (.return_, 1) := by decide +kernel
theorem dX0_load_0 : decode cX0_load 0 = .ok (.aload_n 0, 1) := by decide +kernel
theorem dX0_load_1 : decode cX0_load 1 = .ok (.aload_n 1, 1) := by decide +kernel
theorem dX0_load_2 : decode cX0_load 2 = .ok (.ifnull 14, 3) := by decide +kernel
theorem dX0_load_5 : decode cX0_load 5 = .ok (.aload_n 1, 1) := by decide +kernel
theorem dX0_load_6 : decode cX0_load 6 = .ok (.getfield 22, 3) := by decide +kernel
theorem dX0_load_9 : decode cX0_load 9 = .ok (.ifCond .eq 7, 3) := by decide +kernel
theorem dX0_load_12 : decode cX0_load 12 = .ok (.iconst 1, 1) := by decide +kernel
theorem dX0_load_13 : decode cX0_load 13 = .ok (.goto 4, 3) := by decide +kernel
theorem dX0_load_16 : decode cX0_load 16 = .ok (.iconst 0, 1) := by decide +kernel
theorem dX0_load_17 : decode cX0_load 17 = .ok (.putfield 9, 3) := by decide +kernel
theorem dX0_load_20 : decode cX0_load 20 = .ok (.aload_n 0, 1) := by decide +kernel
theorem dX0_load_21 : decode cX0_load 21 = .ok (.aload_n 1, 1) := by decide +kernel
theorem dX0_load_22 : decode cX0_load 22 = .ok (.ifnull 17, 3) := by decide +kernel
theorem dX0_load_25 : decode cX0_load 25 = .ok (.aload_n 1, 1) := by decide +kernel
theorem dX0_load_26 : decode cX0_load 26 = .ok (.getfield 22, 3) := by decide +kernel
theorem dX0_load_29 : decode cX0_load 29 = .ok (.ifCond .eq 10, 3) := by decide +kernel
theorem dX0_load_32 : decode cX0_load 32 = .ok (.aload_n 1, 1) := by decide +kernel
theorem dX0_load_33 : decode cX0_load 33 = .ok (.getfield 25, 3) := by decide +kernel
theorem dX0_load_36 : decode cX0_load 36 = .ok (.goto 4, 3) := by decide +kernel
theorem dX0_load_39 : decode cX0_load 39 = .ok (.iconst 0, 1) := by decide +kernel
theorem dX0_load_40 : decode cX0_load 40 = .ok (.putfield 18, 3) := by decide +kernel
theorem dX0_load_43 : decode cX0_load 43 = .ok (.aload_n 0, 1) := by decide +kernel
theorem dX0_load_44 : decode cX0_load 44 = .ok (.iconst 0, 1) := by decide +kernel
theorem dX0_load_45 : decode cX0_load 45 = .ok (.putfield 15, 3) := by decide +kernel
theorem dX0_load_48 : decode cX0_load 48 = .ok (.return_, 1) := by decide +kernel
theorem dX0_apply_0 : decode cX0_apply 0 = .ok (.iload_n 1, 1) := by decide +kernel
theorem dX0_apply_1 : decode cX0_apply 1 = .ok (.tableswitch 127 1 5 #[35, 43, 67, 93, 119], 35) := by decide +kernel
theorem dX0_apply_36 : decode cX0_apply 36 = .ok (.aload_n 0, 1) := by decide +kernel
theorem dX0_apply_37 : decode cX0_apply 37 = .ok (.iconst 0, 1) := by decide +kernel
theorem dX0_apply_38 : decode cX0_apply 38 = .ok (.putfield 18, 3) := by decide +kernel
theorem dX0_apply_41 : decode cX0_apply 41 = .ok (.goto 92, 3) := by decide +kernel
theorem dX0_apply_44 : decode cX0_apply 44 = .ok (.aload_n 0, 1) := by decide +kernel
theorem dX0_apply_45 : decode cX0_apply 45 = .ok (.aload_n 0, 1) := by decide +kernel
theorem dX0_apply_46 : decode cX0_apply 46 = .ok (.getfield 9, 3) := by decide +kernel
theorem dX0_apply_49 : decode cX0_apply 49 = .ok (.ifCond .eq 12, 3) := by decide +kernel
theorem dX0_apply_52 : decode cX0_apply 52 = .ok (.aload_n 0, 1) := by decide +kernel
theorem dX0_apply_53 : decode cX0_apply 53 = .ok (.getfield 18, 3) := by decide +kernel
theorem dX0_apply_56 : decode cX0_apply 56 = .ok (.iload_n 2, 1) := by decide +kernel
theorem dX0_apply_57 : decode cX0_apply 57 = .ok (.iadd, 1) := by decide +kernel
theorem dX0_apply_58 : decode cX0_apply 58 = .ok (.goto 4, 3) := by decide +kernel
theorem dX0_apply_61 : decode cX0_apply 61 = .ok (.iload_n 2, 1) := by decide +kernel
theorem dX0_apply_62 : decode cX0_apply 62 = .ok (.putfield 18, 3) := by decide +kernel
theorem dX0_apply_65 : decode cX0_apply 65 = .ok (.goto 68, 3) := by decide +kernel
theorem dX0_apply_68 : decode cX0_apply 68 = .ok (.aload_n 0, 1) := by decide +kernel
theorem dX0_apply_69 : decode cX0_apply 69 = .ok (.aload_n 0, 1) := by decide +kernel
theorem dX0_apply_70 : decode cX0_apply 70 = .ok (.getfield 9, 3) := by decide +kernel
theorem dX0_apply_73 : decode cX0_apply 73 = .ok (.ifCond .eq 14, 3) := by decide +kernel
theorem dX0_apply_76 : decode cX0_apply 76 = .ok (.aload_n 0, 1) := by decide +kernel
theorem dX0_apply_77 : decode cX0_apply 77 = .ok (.getfield 18, 3) := by decide +kernel
theorem dX0_apply_80 : decode cX0_apply 80 = .ok (.iload_n 2, 1) := by decide +kernel
theorem dX0_apply_81 : decode cX0_apply 81 = .ok (.invokestatic 26, 3) := by decide +kernel
theorem dX0_apply_84 : decode cX0_apply 84 = .ok (.goto 4, 3) := by decide +kernel
theorem dX0_apply_87 : decode cX0_apply 87 = .ok (.iload_n 2, 1) := by decide +kernel
theorem dX0_apply_88 : decode cX0_apply 88 = .ok (.putfield 18, 3) := by decide +kernel
theorem dX0_apply_91 : decode cX0_apply 91 = .ok (.goto 42, 3) := by decide +kernel
theorem dX0_apply_94 : decode cX0_apply 94 = .ok (.aload_n 0, 1) := by decide +kernel
theorem dX0_apply_95 : decode cX0_apply 95 = .ok (.aload_n 0, 1) := by decide +kernel
theorem dX0_apply_96 : decode cX0_apply 96 = .ok (.getfield 9, 3) := by decide +kernel
theorem dX0_apply_99 : decode cX0_apply 99 = .ok (.ifCond .eq 14, 3) := by decide +kernel
theorem dX0_apply_102 : decode cX0_apply 102 = .ok (.aload_n 0, 1) := by decide +kernel
theorem dX0_apply_103 : decode cX0_apply 103 = .ok (.getfield 18, 3) := by decide +kernel
theorem dX0_apply_106 : decode cX0_apply 106 = .ok (.iload_n 2, 1) := by decide +kernel
theorem dX0_apply_107 : decode cX0_apply 107 = .ok (.invokestatic 32, 3) := by decide +kernel
theorem dX0_apply_110 : decode cX0_apply 110 = .ok (.goto 4, 3) := by decide +kernel
theorem dX0_apply_113 : decode cX0_apply 113 = .ok (.iload_n 2, 1) := by decide +kernel
theorem dX0_apply_114 : decode cX0_apply 114 = .ok (.putfield 18, 3) := by decide +kernel
theorem dX0_apply_117 : decode cX0_apply 117 = .ok (.goto 16, 3) := by decide +kernel
theorem dX0_apply_120 : decode cX0_apply 120 = .ok (.aload_n 0, 1) := by decide +kernel
theorem dX0_apply_121 : decode cX0_apply 121 = .ok (.iload_n 3, 1) := by decide +kernel
theorem dX0_apply_122 : decode cX0_apply 122 = .ok (.putfield 18, 3) := by decide +kernel
theorem dX0_apply_125 : decode cX0_apply 125 = .ok (.goto 8, 3) := by decide +kernel
theorem dX0_apply_128 : decode cX0_apply 128 = .ok (.aload_n 0, 1) := by decide +kernel
theorem dX0_apply_129 : decode cX0_apply 129 = .ok (.iload_n 2, 1) := by decide +kernel
theorem dX0_apply_130 : decode cX0_apply 130 = .ok (.putfield 18, 3) := by decide +kernel
theorem dX0_apply_133 : decode cX0_apply 133 = .ok (.aload_n 0, 1) := by decide +kernel
theorem dX0_apply_134 : decode cX0_apply 134 = .ok (.iload_n 1, 1) := by decide +kernel
theorem dX0_apply_135 : decode cX0_apply 135 = .ok (.iconst 5, 1) := by decide +kernel
theorem dX0_apply_136 : decode cX0_apply 136 = .ok (.if_icmp .eq 19, 3) := by decide +kernel
theorem dX0_apply_139 : decode cX0_apply 139 = .ok (.aload_n 0, 1) := by decide +kernel
theorem dX0_apply_140 : decode cX0_apply 140 = .ok (.getfield 15, 3) := by decide +kernel
theorem dX0_apply_143 : decode cX0_apply 143 = .ok (.ifCond .eq 16, 3) := by decide +kernel
theorem dX0_apply_146 : decode cX0_apply 146 = .ok (.iload_n 1, 1) := by decide +kernel
theorem dX0_apply_147 : decode cX0_apply 147 = .ok (.ifCond .eq 12, 3) := by decide +kernel
theorem dX0_apply_150 : decode cX0_apply 150 = .ok (.iload_n 1, 1) := by decide +kernel
theorem dX0_apply_151 : decode cX0_apply 151 = .ok (.iconst 1, 1) := by decide +kernel
theorem dX0_apply_152 : decode cX0_apply 152 = .ok (.if_icmp .eq 7, 3) := by decide +kernel
theorem dX0_apply_155 : decode cX0_apply 155 = .ok (.iconst 1, 1) := by decide +kernel
theorem dX0_apply_156 : decode cX0_apply 156 = .ok (.goto 4, 3) := by decide +kernel
theorem dX0_apply_159 : decode cX0_apply 159 = .ok (.iconst 0, 1) := by decide +kernel
theorem dX0_apply_160 : decode cX0_apply 160 = .ok (.putfield 15, 3) := by decide +kernel
theorem dX0_apply_163 : decode cX0_apply 163 = .ok (.aload_n 0, 1) := by decide +kernel
theorem dX0_apply_164 : decode cX0_apply 164 = .ok (.iload_n 1, 1) := by decide +kernel
theorem dX0_apply_165 : decode cX0_apply 165 = .ok (.iconst 1, 1) := by decide +kernel
theorem dX0_apply_166 : decode cX0_apply 166 = .ok (.if_icmp .eq 7, 3) := by decide +kernel
theorem dX0_apply_169 : decode cX0_apply 169 = .ok (.iconst 1, 1) := by decide +kernel
theorem dX0_apply_170 : decode cX0_apply 170 = .ok (.goto 4, 3) := by decide +kernel
theorem dX0_apply_173 : decode cX0_apply 173 = .ok (.iconst 0, 1) := by decide +kernel
theorem dX0_apply_174 : decode cX0_apply 174 = .ok (.putfield 9, 3) := by decide +kernel
theorem dX0_apply_177 : decode cX0_apply 177 = .ok (.return_, 1) := by decide +kernel
theorem dX0_told_0 : decode cX0_told 0 = .ok (.aload_n 0, 1) := by decide +kernel
theorem dX0_told_1 : decode cX0_told 1 = .ok (.getfield 9, 3) := by decide +kernel
theorem dX0_told_4 : decode cX0_told 4 = .ok (.ifCond .eq 10, 3) := by decide +kernel
theorem dX0_told_7 : decode cX0_told 7 = .ok (.aload_n 0, 1) := by decide +kernel
theorem dX0_told_8 : decode cX0_told 8 = .ok (.getfield 18, 3) := by decide +kernel
theorem dX0_told_11 : decode cX0_told 11 = .ok (.goto 5, 3) := by decide +kernel
theorem dX0_told_14 : decode cX0_told 14 = .ok (.ldc 35, 2) := by decide +kernel
theorem dX0_told_16 : decode cX0_told 16 = .ok (.ireturn, 1) := by decide +kernel
theorem dX1_init_0 : decode cX1_init 0 = .ok (.aload_n 0, 1) := by decide +kernel
theorem dX1_init_1 : decode cX1_init 1 = .ok (.invokespecial 3, 3) := by decide +kernel
theorem dX1_init_4 : decode cX1_init 4 = .ok (.aload_n 0, 1) := by decide +kernel
theorem dX1_init_5 : decode cX1_init 5 = .ok (.iload_n 1, 1) := by decide +kernel
theorem dX1_init_6 : decode cX1_init 6 = .ok (.putfield 9, 3) := by decide +kernel
theorem dX1_init_9 : decode cX1_init 9 = .ok (.aload_n 0, 1) := by decide +kernel
theorem dX1_init_10 : decode cX1_init 10 = .ok (.lload_n 2, 1) := by decide +kernel
theorem dX1_init_11 : decode cX1_init 11 = .ok (.putfield 15, 3) := by decide +kernel
theorem dX1_init_14 : decode cX1_init 14 = .ok (.aload_n 0, 1) := by decide +kernel
theorem dX1_init_15 : decode cX1_init 15 = .ok (.lload 4, 2) := by decide +kernel
theorem dX1_init_17 : decode cX1_init 17 = .ok (.putfield 19, 3) := by decide +kernel
theorem dX1_init_20 : decode cX1_init 20 = .ok (.aload_n 0, 1) := by decide +kernel
theorem dX1_init_21 : decode cX1_init 21 = .ok (.iload 6, 2) := by decide +kernel
theorem dX1_init_23 : decode cX1_init 23 = .ok (.putfield 22, 3) := by decide +kernel
theorem dX1_init_26 : decode cX1_init 26 = .ok (.aload_n 0, 1) := by decide +kernel
theorem dX1_init_27 : decode cX1_init 27 = .ok (.iload 7, 2) := by decide +kernel
theorem dX1_init_29 : decode cX1_init 29 = .ok (.putfield 25, 3) := by decide +kernel
theorem dX1_init_32 : decode cX1_init 32 = .ok (.return_, 1) := by decide +kernel
theorem dX1_isInOrder_0 : decode cX1_isInOrder 0 = .ok (.aload_n 0, 1) := by decide +kernel
theorem dX1_isInOrder_1 : decode cX1_isInOrder 1 = .ok (.getfield 9, 3) := by decide +kernel
theorem dX1_isInOrder_4 : decode cX1_isInOrder 4 = .ok (.bipush 6, 2) := by decide +kernel
theorem dX1_isInOrder_6 : decode cX1_isInOrder 6 = .ok (.if_icmp .eq 16, 3) := by decide +kernel
theorem dX1_isInOrder_9 : decode cX1_isInOrder 9 = .ok (.aload_n 0, 1) := by decide +kernel
theorem dX1_isInOrder_10 : decode cX1_isInOrder 10 = .ok (.getfield 9, 3) := by decide +kernel
theorem dX1_isInOrder_13 : decode cX1_isInOrder 13 = .ok (.bipush 7, 2) := by decide +kernel
theorem dX1_isInOrder_15 : decode cX1_isInOrder 15 = .ok (.if_icmp .eq 7, 3) := by decide +kernel
theorem dX1_isInOrder_18 : decode cX1_isInOrder 18 = .ok (.iconst 1, 1) := by decide +kernel
theorem dX1_isInOrder_19 : decode cX1_isInOrder 19 = .ok (.goto 4, 3) := by decide +kernel
theorem dX1_isInOrder_22 : decode cX1_isInOrder 22 = .ok (.iconst 0, 1) := by decide +kernel
theorem dX1_isInOrder_23 : decode cX1_isInOrder 23 = .ok (.ireturn, 1) := by decide +kernel
theorem dX1_isRange_0 : decode cX1_isRange 0 = .ok (.aload_n 0, 1) := by decide +kernel
theorem dX1_isRange_1 : decode cX1_isRange 1 = .ok (.getfield 19, 3) := by decide +kernel
theorem dX1_isRange_4 : decode cX1_isRange 4 = .ok (.aload_n 0, 1) := by decide +kernel
theorem dX1_isRange_5 : decode cX1_isRange 5 = .ok (.getfield 15, 3) := by decide +kernel
theorem dX1_isRange_8 : decode cX1_isRange 8 = .ok (.lsub, 1) := by decide +kernel
theorem dX1_isRange_9 : decode cX1_isRange 9 = .ok (.lconst 1, 1) := by decide +kernel
theorem dX1_isRange_10 : decode cX1_isRange 10 = .ok (.lcmp, 1) := by decide +kernel
theorem dX1_isRange_11 : decode cX1_isRange 11 = .ok (.ifCond .le 7, 3) := by decide +kernel
theorem dX1_isRange_14 : decode cX1_isRange 14 = .ok (.iconst 1, 1) := by decide +kernel
theorem dX1_isRange_15 : decode cX1_isRange 15 = .ok (.goto 4, 3) := by decide +kernel
theorem dX1_isRange_18 : decode cX1_isRange 18 = .ok (.iconst 0, 1) := by decide +kernel
theorem dX1_isRange_19 : decode cX1_isRange 19 = .ok (.ireturn, 1) := by decide +kernel
theorem dX1_saysAll_0 : decode cX1_saysAll 0 = .ok (.aload_n 0, 1) := by decide +kernel
theorem dX1_saysAll_1 : decode cX1_saysAll 1 = .ok (.getfield 9, 3) := by decide +kernel
theorem dX1_saysAll_4 : decode cX1_saysAll 4 = .ok (.ifCond .eq 19, 3) := by decide +kernel
theorem dX1_saysAll_7 : decode cX1_saysAll 7 = .ok (.aload_n 0, 1) := by decide +kernel
theorem dX1_saysAll_8 : decode cX1_saysAll 8 = .ok (.getfield 9, 3) := by decide +kernel
theorem dX1_saysAll_11 : decode cX1_saysAll 11 = .ok (.iconst 1, 1) := by decide +kernel
theorem dX1_saysAll_12 : decode cX1_saysAll 12 = .ok (.if_icmp .eq 11, 3) := by decide +kernel
theorem dX1_saysAll_15 : decode cX1_saysAll 15 = .ok (.aload_n 0, 1) := by decide +kernel
theorem dX1_saysAll_16 : decode cX1_saysAll 16 = .ok (.getfield 9, 3) := by decide +kernel
theorem dX1_saysAll_19 : decode cX1_saysAll 19 = .ok (.iconst 5, 1) := by decide +kernel
theorem dX1_saysAll_20 : decode cX1_saysAll 20 = .ok (.if_icmp .ne 7, 3) := by decide +kernel
theorem dX1_saysAll_23 : decode cX1_saysAll 23 = .ok (.iconst 1, 1) := by decide +kernel
theorem dX1_saysAll_24 : decode cX1_saysAll 24 = .ok (.goto 4, 3) := by decide +kernel
theorem dX1_saysAll_27 : decode cX1_saysAll 27 = .ok (.iconst 0, 1) := by decide +kernel
theorem dX1_saysAll_28 : decode cX1_saysAll 28 = .ok (.ireturn, 1) := by decide +kernel
theorem dX1_covers_0 : decode cX1_covers 0 = .ok (.aload_n 0, 1) := by decide +kernel
theorem dX1_covers_1 : decode cX1_covers 1 = .ok (.invokevirtual 28, 3) := by decide +kernel
theorem dX1_covers_4 : decode cX1_covers 4 = .ok (.ifCond .eq 25, 3) := by decide +kernel
theorem dX1_covers_7 : decode cX1_covers 7 = .ok (.aload_n 0, 1) := by decide +kernel
theorem dX1_covers_8 : decode cX1_covers 8 = .ok (.getfield 15, 3) := by decide +kernel
theorem dX1_covers_11 : decode cX1_covers 11 = .ok (.lload_n 1, 1) := by decide +kernel
theorem dX1_covers_12 : decode cX1_covers 12 = .ok (.lcmp, 1) := by decide +kernel
theorem dX1_covers_13 : decode cX1_covers 13 = .ok (.ifCond .gt 16, 3) := by decide +kernel
theorem dX1_covers_16 : decode cX1_covers 16 = .ok (.lload_n 1, 1) := by decide +kernel
theorem dX1_covers_17 : decode cX1_covers 17 = .ok (.aload_n 0, 1) := by decide +kernel
theorem dX1_covers_18 : decode cX1_covers 18 = .ok (.getfield 19, 3) := by decide +kernel
theorem dX1_covers_21 : decode cX1_covers 21 = .ok (.lcmp, 1) := by decide +kernel
theorem dX1_covers_22 : decode cX1_covers 22 = .ok (.ifCond .ge 7, 3) := by decide +kernel
theorem dX1_covers_25 : decode cX1_covers 25 = .ok (.iconst 1, 1) := by decide +kernel
theorem dX1_covers_26 : decode cX1_covers 26 = .ok (.goto 4, 3) := by decide +kernel
theorem dX1_covers_29 : decode cX1_covers 29 = .ok (.iconst 0, 1) := by decide +kernel
theorem dX1_covers_30 : decode cX1_covers 30 = .ok (.ireturn, 1) := by decide +kernel
theorem dX2_init_0 : decode cX2_init 0 = .ok (.aload_n 0, 1) := by decide +kernel
theorem dX2_init_1 : decode cX2_init 1 = .ok (.invokespecial 3, 3) := by decide +kernel
theorem dX2_init_4 : decode cX2_init 4 = .ok (.aload_n 0, 1) := by decide +kernel
theorem dX2_init_5 : decode cX2_init 5 = .ok (.iload_n 1, 1) := by decide +kernel
theorem dX2_init_6 : decode cX2_init 6 = .ok (.putfield 9, 3) := by decide +kernel
theorem dX2_init_9 : decode cX2_init 9 = .ok (.aload_n 0, 1) := by decide +kernel
theorem dX2_init_10 : decode cX2_init 10 = .ok (.aload_n 2, 1) := by decide +kernel
theorem dX2_init_11 : decode cX2_init 11 = .ok (.putfield 15, 3) := by decide +kernel
theorem dX2_init_14 : decode cX2_init 14 = .ok (.aload_n 0, 1) := by decide +kernel
theorem dX2_init_15 : decode cX2_init 15 = .ok (.iload_n 3, 1) := by decide +kernel
theorem dX2_init_16 : decode cX2_init 16 = .ok (.putfield 19, 3) := by decide +kernel
theorem dX2_init_19 : decode cX2_init 19 = .ok (.aload_n 0, 1) := by decide +kernel
theorem dX2_init_20 : decode cX2_init 20 = .ok (.iload 4, 2) := by decide +kernel
theorem dX2_init_22 : decode cX2_init 22 = .ok (.putfield 22, 3) := by decide +kernel
theorem dX2_init_25 : decode cX2_init 25 = .ok (.return_, 1) := by decide +kernel
theorem dX2_low_0 : decode cX2_low 0 = .ok (.aload_n 0, 1) := by decide +kernel
theorem dX2_low_1 : decode cX2_low 1 = .ok (.getfield 22, 3) := by decide +kernel
theorem dX2_low_4 : decode cX2_low 4 = .ok (.sipush 10000, 3) := by decide +kernel
theorem dX2_low_7 : decode cX2_low 7 = .ok (.invokestatic 25, 3) := by decide +kernel
theorem dX2_low_10 : decode cX2_low 10 = .ok (.lreturn, 1) := by decide +kernel
theorem dX2_high_0 : decode cX2_high 0 = .ok (.aload_n 0, 1) := by decide +kernel
theorem dX2_high_1 : decode cX2_high 1 = .ok (.getfield 22, 3) := by decide +kernel
theorem dX2_high_4 : decode cX2_high 4 = .ok (.sipush 10000, 3) := by decide +kernel
theorem dX2_high_7 : decode cX2_high 7 = .ok (.invokestatic 29, 3) := by decide +kernel
theorem dX2_high_10 : decode cX2_high 10 = .ok (.lreturn, 1) := by decide +kernel
theorem dX3_init_0 : decode cX3_init 0 = .ok (.aload_n 0, 1) := by decide +kernel
theorem dX3_init_1 : decode cX3_init 1 = .ok (.invokespecial 1, 3) := by decide +kernel
theorem dX3_init_4 : decode cX3_init 4 = .ok (.aload_n 0, 1) := by decide +kernel
theorem dX3_init_5 : decode cX3_init 5 = .ok (.aload_n 1, 1) := by decide +kernel
theorem dX3_init_6 : decode cX3_init 6 = .ok (.putfield 7, 3) := by decide +kernel
theorem dX3_init_9 : decode cX3_init 9 = .ok (.aload_n 0, 1) := by decide +kernel
theorem dX3_init_10 : decode cX3_init 10 = .ok (.iload_n 2, 1) := by decide +kernel
theorem dX3_init_11 : decode cX3_init 11 = .ok (.putfield 13, 3) := by decide +kernel
theorem dX3_init_14 : decode cX3_init 14 = .ok (.aload_n 0, 1) := by decide +kernel
theorem dX3_init_15 : decode cX3_init 15 = .ok (.aload_n 3, 1) := by decide +kernel
theorem dX3_init_16 : decode cX3_init 16 = .ok (.putfield 17, 3) := by decide +kernel
theorem dX3_init_19 : decode cX3_init 19 = .ok (.aload_n 0, 1) := by decide +kernel
theorem dX3_init_20 : decode cX3_init 20 = .ok (.aload 4, 2) := by decide +kernel
theorem dX3_init_22 : decode cX3_init 22 = .ok (.putfield 21, 3) := by decide +kernel
theorem dX3_init_25 : decode cX3_init 25 = .ok (.return_, 1) := by decide +kernel
theorem dX3_alike_0 : decode cX3_alike 0 = .ok (.aload_n 0, 1) := by decide +kernel
theorem dX3_alike_1 : decode cX3_alike 1 = .ok (.ifnull 10, 3) := by decide +kernel
theorem dX3_alike_4 : decode cX3_alike 4 = .ok (.aload_n 0, 1) := by decide +kernel
theorem dX3_alike_5 : decode cX3_alike 5 = .ok (.getfield 24, 3) := by decide +kernel
theorem dX3_alike_8 : decode cX3_alike 8 = .ok (.ifCond .ne 20, 3) := by decide +kernel
theorem dX3_alike_11 : decode cX3_alike 11 = .ok (.aload_n 1, 1) := by decide +kernel
theorem dX3_alike_12 : decode cX3_alike 12 = .ok (.ifnull 10, 3) := by decide +kernel
theorem dX3_alike_15 : decode cX3_alike 15 = .ok (.aload_n 1, 1) := by decide +kernel
theorem dX3_alike_16 : decode cX3_alike 16 = .ok (.getfield 24, 3) := by decide +kernel
theorem dX3_alike_19 : decode cX3_alike 19 = .ok (.ifCond .ne 7, 3) := by decide +kernel
theorem dX3_alike_22 : decode cX3_alike 22 = .ok (.iconst 1, 1) := by decide +kernel
theorem dX3_alike_23 : decode cX3_alike 23 = .ok (.goto 4, 3) := by decide +kernel
theorem dX3_alike_26 : decode cX3_alike 26 = .ok (.iconst 0, 1) := by decide +kernel
theorem dX3_alike_27 : decode cX3_alike 27 = .ok (.ireturn, 1) := by decide +kernel
theorem dX3_alike_28 : decode cX3_alike 28 = .ok (.aload_n 1, 1) := by decide +kernel
theorem dX3_alike_29 : decode cX3_alike 29 = .ok (.ifnull 25, 3) := by decide +kernel
theorem dX3_alike_32 : decode cX3_alike 32 = .ok (.aload_n 1, 1) := by decide +kernel
theorem dX3_alike_33 : decode cX3_alike 33 = .ok (.getfield 24, 3) := by decide +kernel
theorem dX3_alike_36 : decode cX3_alike 36 = .ok (.ifCond .eq 18, 3) := by decide +kernel
theorem dX3_alike_39 : decode cX3_alike 39 = .ok (.aload_n 0, 1) := by decide +kernel
theorem dX3_alike_40 : decode cX3_alike 40 = .ok (.getfield 28, 3) := by decide +kernel
theorem dX3_alike_43 : decode cX3_alike 43 = .ok (.aload_n 1, 1) := by decide +kernel
theorem dX3_alike_44 : decode cX3_alike 44 = .ok (.getfield 28, 3) := by decide +kernel
theorem dX3_alike_47 : decode cX3_alike 47 = .ok (.if_icmp .ne 7, 3) := by decide +kernel
theorem dX3_alike_50 : decode cX3_alike 50 = .ok (.iconst 1, 1) := by decide +kernel
theorem dX3_alike_51 : decode cX3_alike 51 = .ok (.goto 4, 3) := by decide +kernel
theorem dX3_alike_54 : decode cX3_alike 54 = .ok (.iconst 0, 1) := by decide +kernel
theorem dX3_alike_55 : decode cX3_alike 55 = .ok (.ireturn, 1) := by decide +kernel
theorem dX4_init_0 : decode cX4_init 0 = .ok (.aload_n 0, 1) := by decide +kernel
theorem dX4_init_1 : decode cX4_init 1 = .ok (.invokespecial 1, 3) := by decide +kernel
theorem dX4_init_4 : decode cX4_init 4 = .ok (.aload_n 0, 1) := by decide +kernel
theorem dX4_init_5 : decode cX4_init 5 = .ok (.aconst_null, 1) := by decide +kernel
theorem dX4_init_6 : decode cX4_init 6 = .ok (.putfield 7, 3) := by decide +kernel
theorem dX4_init_9 : decode cX4_init 9 = .ok (.aload_n 0, 1) := by decide +kernel
theorem dX4_init_10 : decode cX4_init 10 = .ok (.lload_n 1, 1) := by decide +kernel
theorem dX4_init_11 : decode cX4_init 11 = .ok (.putfield 13, 3) := by decide +kernel
theorem dX4_init_14 : decode cX4_init 14 = .ok (.return_, 1) := by decide +kernel
theorem dX4_entryIn_0 : decode cX4_entryIn 0 = .ok (.aload_n 0, 1) := by decide +kernel
theorem dX4_entryIn_1 : decode cX4_entryIn 1 = .ok (.getfield 7, 3) := by decide +kernel
theorem dX4_entryIn_4 : decode cX4_entryIn 4 = .ok (.astore_n 2, 1) := by decide +kernel
theorem dX4_entryIn_5 : decode cX4_entryIn 5 = .ok (.aload_n 2, 1) := by decide +kernel
theorem dX4_entryIn_6 : decode cX4_entryIn 6 = .ok (.ifnull 19, 3) := by decide +kernel
theorem dX4_entryIn_9 : decode cX4_entryIn 9 = .ok (.aload_n 2, 1) := by decide +kernel
theorem dX4_entryIn_10 : decode cX4_entryIn 10 = .ok (.getfield 17, 3) := by decide +kernel
theorem dX4_entryIn_13 : decode cX4_entryIn 13 = .ok (.iload_n 1, 1) := by decide +kernel
theorem dX4_entryIn_14 : decode cX4_entryIn 14 = .ok (.if_icmp .le 11, 3) := by decide +kernel
theorem dX4_entryIn_17 : decode cX4_entryIn 17 = .ok (.aload_n 2, 1) := by decide +kernel
theorem dX4_entryIn_18 : decode cX4_entryIn 18 = .ok (.getfield 23, 3) := by decide +kernel
theorem dX4_entryIn_21 : decode cX4_entryIn 21 = .ok (.astore_n 2, 1) := by decide +kernel
theorem dX4_entryIn_22 : decode cX4_entryIn 22 = .ok (.goto (-17), 3) := by decide +kernel
theorem dX4_entryIn_25 : decode cX4_entryIn 25 = .ok (.aload_n 2, 1) := by decide +kernel
theorem dX4_entryIn_26 : decode cX4_entryIn 26 = .ok (.areturn, 1) := by decide +kernel
theorem dX4_isHeld_0 : decode cX4_isHeld 0 = .ok (.aload_n 0, 1) := by decide +kernel
theorem dX4_isHeld_1 : decode cX4_isHeld 1 = .ok (.getfield 7, 3) := by decide +kernel
theorem dX4_isHeld_4 : decode cX4_isHeld 4 = .ok (.ifnull 17, 3) := by decide +kernel
theorem dX4_isHeld_7 : decode cX4_isHeld 7 = .ok (.aload_n 0, 1) := by decide +kernel
theorem dX4_isHeld_8 : decode cX4_isHeld 8 = .ok (.getfield 7, 3) := by decide +kernel
theorem dX4_isHeld_11 : decode cX4_isHeld 11 = .ok (.getfield 26, 3) := by decide +kernel
theorem dX4_isHeld_14 : decode cX4_isHeld 14 = .ok (.ifCond .eq 7, 3) := by decide +kernel
theorem dX4_isHeld_17 : decode cX4_isHeld 17 = .ok (.iconst 1, 1) := by decide +kernel
theorem dX4_isHeld_18 : decode cX4_isHeld 18 = .ok (.goto 4, 3) := by decide +kernel
theorem dX4_isHeld_21 : decode cX4_isHeld 21 = .ok (.iconst 0, 1) := by decide +kernel
theorem dX4_isHeld_22 : decode cX4_isHeld 22 = .ok (.ireturn, 1) := by decide +kernel
theorem dX4_turnedIn_0 : decode cX4_turnedIn 0 = .ok (.aload_n 0, 1) := by decide +kernel
theorem dX4_turnedIn_1 : decode cX4_turnedIn 1 = .ok (.iload_n 1, 1) := by decide +kernel
theorem dX4_turnedIn_2 : decode cX4_turnedIn 2 = .ok (.invokevirtual 30, 3) := by decide +kernel
theorem dX4_turnedIn_5 : decode cX4_turnedIn 5 = .ok (.aload_n 0, 1) := by decide +kernel
theorem dX4_turnedIn_6 : decode cX4_turnedIn 6 = .ok (.iload_n 1, 1) := by decide +kernel
theorem dX4_turnedIn_7 : decode cX4_turnedIn 7 = .ok (.iconst 1, 1) := by decide +kernel
theorem dX4_turnedIn_8 : decode cX4_turnedIn 8 = .ok (.isub, 1) := by decide +kernel
theorem dX4_turnedIn_9 : decode cX4_turnedIn 9 = .ok (.invokevirtual 30, 3) := by decide +kernel
theorem dX4_turnedIn_12 : decode cX4_turnedIn 12 = .ok (.invokestatic 34, 3) := by decide +kernel
theorem dX4_turnedIn_15 : decode cX4_turnedIn 15 = .ok (.ifCond .ne 7, 3) := by decide +kernel
theorem dX4_turnedIn_18 : decode cX4_turnedIn 18 = .ok (.iconst 1, 1) := by decide +kernel
theorem dX4_turnedIn_19 : decode cX4_turnedIn 19 = .ok (.goto 4, 3) := by decide +kernel
theorem dX4_turnedIn_22 : decode cX4_turnedIn 22 = .ok (.iconst 0, 1) := by decide +kernel
theorem dX4_turnedIn_23 : decode cX4_turnedIn 23 = .ok (.ireturn, 1) := by decide +kernel
theorem dX5_init_0 : decode cX5_init 0 = .ok (.aload_n 0, 1) := by decide +kernel
theorem dX5_init_1 : decode cX5_init 1 = .ok (.invokespecial 1, 3) := by decide +kernel
theorem dX5_init_4 : decode cX5_init 4 = .ok (.aload_n 0, 1) := by decide +kernel
theorem dX5_init_5 : decode cX5_init 5 = .ok (.iconst 0, 1) := by decide +kernel
theorem dX5_init_6 : decode cX5_init 6 = .ok (.putfield 7, 3) := by decide +kernel
theorem dX5_init_9 : decode cX5_init 9 = .ok (.aload_n 0, 1) := by decide +kernel
theorem dX5_init_10 : decode cX5_init 10 = .ok (.lload_n 1, 1) := by decide +kernel
theorem dX5_init_11 : decode cX5_init 11 = .ok (.putfield 13, 3) := by decide +kernel
theorem dX5_init_14 : decode cX5_init 14 = .ok (.aload_n 0, 1) := by decide +kernel
theorem dX5_init_15 : decode cX5_init 15 = .ok (.iload_n 3, 1) := by decide +kernel
theorem dX5_init_16 : decode cX5_init 16 = .ok (.putfield 17, 3) := by decide +kernel
theorem dX5_init_19 : decode cX5_init 19 = .ok (.return_, 1) := by decide +kernel
theorem dX6_init_0 : decode cX6_init 0 = .ok (.aload_n 0, 1) := by decide +kernel
theorem dX6_init_1 : decode cX6_init 1 = .ok (.invokespecial 3, 3) := by decide +kernel
theorem dX6_init_4 : decode cX6_init 4 = .ok (.aload_n 0, 1) := by decide +kernel
theorem dX6_init_5 : decode cX6_init 5 = .ok (.new 9, 3) := by decide +kernel
theorem dX6_init_8 : decode cX6_init 8 = .ok (.dup, 1) := by decide +kernel
theorem dX6_init_9 : decode cX6_init 9 = .ok (.invokespecial 11, 3) := by decide +kernel
theorem dX6_init_12 : decode cX6_init 12 = .ok (.putfield 12, 3) := by decide +kernel
theorem dX6_init_15 : decode cX6_init 15 = .ok (.aload_n 0, 1) := by decide +kernel
theorem dX6_init_16 : decode cX6_init 16 = .ok (.getfield 12, 3) := by decide +kernel
theorem dX6_init_19 : decode cX6_init 19 = .ok (.new 18, 3) := by decide +kernel
theorem dX6_init_22 : decode cX6_init 22 = .ok (.dup, 1) := by decide +kernel
theorem dX6_init_23 : decode cX6_init 23 = .ok (.lconst 0, 1) := by decide +kernel
theorem dX6_init_24 : decode cX6_init 24 = .ok (.iconst 0, 1) := by decide +kernel
theorem dX6_init_25 : decode cX6_init 25 = .ok (.invokespecial 20, 3) := by decide +kernel
theorem dX6_init_28 : decode cX6_init 28 = .ok (.invokevirtual 23, 3) := by decide +kernel
theorem dX6_init_31 : decode cX6_init 31 = .ok (.pop, 1) := by decide +kernel
theorem dX6_init_32 : decode cX6_init 32 = .ok (.return_, 1) := by decide +kernel
theorem dX6_split_0 : decode cX6_split 0 = .ok (.iconst 0, 1) := by decide +kernel
theorem dX6_split_1 : decode cX6_split 1 = .ok (.istore_n 2, 1) := by decide +kernel
theorem dX6_split_2 : decode cX6_split 2 = .ok (.iconst 0, 1) := by decide +kernel
theorem dX6_split_3 : decode cX6_split 3 = .ok (.istore_n 3, 1) := by decide +kernel
theorem dX6_split_4 : decode cX6_split 4 = .ok (.iload_n 3, 1) := by decide +kernel
theorem dX6_split_5 : decode cX6_split 5 = .ok (.aload_n 0, 1) := by decide +kernel
theorem dX6_split_6 : decode cX6_split 6 = .ok (.getfield 12, 3) := by decide +kernel
theorem dX6_split_9 : decode cX6_split 9 = .ok (.invokevirtual 27, 3) := by decide +kernel
theorem dX6_split_12 : decode cX6_split 12 = .ok (.if_icmp .ge 107, 3) := by decide +kernel
theorem dX6_split_15 : decode cX6_split 15 = .ok (.iload_n 3, 1) := by decide +kernel
theorem dX6_split_16 : decode cX6_split 16 = .ok (.ldc 31, 2) := by decide +kernel
theorem dX6_split_18 : decode cX6_split 18 = .ok (.if_icmp .gt 101, 3) := by decide +kernel
theorem dX6_split_21 : decode cX6_split 21 = .ok (.aload_n 0, 1) := by decide +kernel
theorem dX6_split_22 : decode cX6_split 22 = .ok (.getfield 12, 3) := by decide +kernel
theorem dX6_split_25 : decode cX6_split 25 = .ok (.iload_n 3, 1) := by decide +kernel
theorem dX6_split_26 : decode cX6_split 26 = .ok (.invokevirtual 32, 3) := by decide +kernel
theorem dX6_split_29 : decode cX6_split 29 = .ok (.checkcast 18, 3) := by decide +kernel
theorem dX6_split_32 : decode cX6_split 32 = .ok (.astore 4, 2) := by decide +kernel
theorem dX6_split_34 : decode cX6_split 34 = .ok (.aload_n 0, 1) := by decide +kernel
theorem dX6_split_35 : decode cX6_split 35 = .ok (.iload_n 3, 1) := by decide +kernel
theorem dX6_split_36 : decode cX6_split 36 = .ok (.iload_n 2, 1) := by decide +kernel
theorem dX6_split_37 : decode cX6_split 37 = .ok (.aload_n 1, 1) := by decide +kernel
theorem dX6_split_38 : decode cX6_split 38 = .ok (.invokevirtual 36, 3) := by decide +kernel
theorem dX6_split_41 : decode cX6_split 41 = .ok (.istore 5, 2) := by decide +kernel
theorem dX6_split_43 : decode cX6_split 43 = .ok (.iload 5, 2) := by decide +kernel
theorem dX6_split_45 : decode cX6_split 45 = .ok (.iload_n 2, 1) := by decide +kernel
theorem dX6_split_46 : decode cX6_split 46 = .ok (.isub, 1) := by decide +kernel
theorem dX6_split_47 : decode cX6_split 47 = .ok (.bipush 8, 2) := by decide +kernel
theorem dX6_split_49 : decode cX6_split 49 = .ok (.if_icmp .le 52, 3) := by decide +kernel
theorem dX6_split_52 : decode cX6_split 52 = .ok (.iload_n 2, 1) := by decide +kernel
theorem dX6_split_53 : decode cX6_split 53 = .ok (.iconst 4, 1) := by decide +kernel
theorem dX6_split_54 : decode cX6_split 54 = .ok (.iadd, 1) := by decide +kernel
theorem dX6_split_55 : decode cX6_split 55 = .ok (.aload_n 1, 1) := by decide +kernel
theorem dX6_split_56 : decode cX6_split 56 = .ok (.invokevirtual 27, 3) := by decide +kernel
theorem dX6_split_59 : decode cX6_split 59 = .ok (.if_icmp .ge 42, 3) := by decide +kernel
theorem dX6_split_62 : decode cX6_split 62 = .ok (.aload_n 0, 1) := by decide +kernel
theorem dX6_split_63 : decode cX6_split 63 = .ok (.getfield 12, 3) := by decide +kernel
theorem dX6_split_66 : decode cX6_split 66 = .ok (.iload_n 3, 1) := by decide +kernel
theorem dX6_split_67 : decode cX6_split 67 = .ok (.iconst 1, 1) := by decide +kernel
theorem dX6_split_68 : decode cX6_split 68 = .ok (.iadd, 1) := by decide +kernel
theorem dX6_split_69 : decode cX6_split 69 = .ok (.new 18, 3) := by decide +kernel
theorem dX6_split_72 : decode cX6_split 72 = .ok (.dup, 1) := by decide +kernel
theorem dX6_split_73 : decode cX6_split 73 = .ok (.aload_n 1, 1) := by decide +kernel
theorem dX6_split_74 : decode cX6_split 74 = .ok (.iload_n 2, 1) := by decide +kernel
theorem dX6_split_75 : decode cX6_split 75 = .ok (.iconst 4, 1) := by decide +kernel
theorem dX6_split_76 : decode cX6_split 76 = .ok (.iadd, 1) := by decide +kernel
theorem dX6_split_77 : decode cX6_split 77 = .ok (.invokevirtual 32, 3) := by decide +kernel
theorem dX6_split_80 : decode cX6_split 80 = .ok (.checkcast 40, 3) := by decide +kernel
theorem dX6_split_83 : decode cX6_split 83 = .ok (.getfield 42, 3) := by decide +kernel
theorem dX6_split_86 : decode cX6_split 86 = .ok (.aload_n 0, 1) := by decide +kernel
theorem dX6_split_87 : decode cX6_split 87 = .ok (.invokevirtual 46, 3) := by decide +kernel
theorem dX6_split_90 : decode cX6_split 90 = .ok (.invokespecial 20, 3) := by decide +kernel
theorem dX6_split_93 : decode cX6_split 93 = .ok (.invokevirtual 49, 3) := by decide +kernel
theorem dX6_split_96 : decode cX6_split 96 = .ok (.iload_n 2, 1) := by decide +kernel
theorem dX6_split_97 : decode cX6_split 97 = .ok (.iconst 4, 1) := by decide +kernel
theorem dX6_split_98 : decode cX6_split 98 = .ok (.iadd, 1) := by decide +kernel
theorem dX6_split_99 : decode cX6_split 99 = .ok (.istore 5, 2) := by decide +kernel
theorem dX6_split_101 : decode cX6_split 101 = .ok (.aload 4, 2) := by decide +kernel
theorem dX6_split_103 : decode cX6_split 103 = .ok (.iload 5, 2) := by decide +kernel
theorem dX6_split_105 : decode cX6_split 105 = .ok (.iload_n 2, 1) := by decide +kernel
theorem dX6_split_106 : decode cX6_split 106 = .ok (.isub, 1) := by decide +kernel
theorem dX6_split_107 : decode cX6_split 107 = .ok (.putfield 52, 3) := by decide +kernel
theorem dX6_split_110 : decode cX6_split 110 = .ok (.iload 5, 2) := by decide +kernel
theorem dX6_split_112 : decode cX6_split 112 = .ok (.istore_n 2, 1) := by decide +kernel
theorem dX6_split_113 : decode cX6_split 113 = .ok (.iinc 3 1, 3) := by decide +kernel
theorem dX6_split_116 : decode cX6_split 116 = .ok (.goto (-112), 3) := by decide +kernel
theorem dX6_split_119 : decode cX6_split 119 = .ok (.return_, 1) := by decide +kernel
theorem dX6_endOf_0 : decode cX6_endOf 0 = .ok (.iload_n 1, 1) := by decide +kernel
theorem dX6_endOf_1 : decode cX6_endOf 1 = .ok (.iconst 1, 1) := by decide +kernel
theorem dX6_endOf_2 : decode cX6_endOf 2 = .ok (.iadd, 1) := by decide +kernel
theorem dX6_endOf_3 : decode cX6_endOf 3 = .ok (.aload_n 0, 1) := by decide +kernel
theorem dX6_endOf_4 : decode cX6_endOf 4 = .ok (.getfield 12, 3) := by decide +kernel
theorem dX6_endOf_7 : decode cX6_endOf 7 = .ok (.invokevirtual 27, 3) := by decide +kernel
theorem dX6_endOf_10 : decode cX6_endOf 10 = .ok (.if_icmp .lt 8, 3) := by decide +kernel
theorem dX6_endOf_13 : decode cX6_endOf 13 = .ok (.aload_n 3, 1) := by decide +kernel
theorem dX6_endOf_14 : decode cX6_endOf 14 = .ok (.invokevirtual 27, 3) := by decide +kernel
theorem dX6_endOf_17 : decode cX6_endOf 17 = .ok (.ireturn, 1) := by decide +kernel
theorem dX6_endOf_18 : decode cX6_endOf 18 = .ok (.aload_n 0, 1) := by decide +kernel
theorem dX6_endOf_19 : decode cX6_endOf 19 = .ok (.getfield 12, 3) := by decide +kernel
theorem dX6_endOf_22 : decode cX6_endOf 22 = .ok (.iload_n 1, 1) := by decide +kernel
theorem dX6_endOf_23 : decode cX6_endOf 23 = .ok (.iconst 1, 1) := by decide +kernel
theorem dX6_endOf_24 : decode cX6_endOf 24 = .ok (.iadd, 1) := by decide +kernel
theorem dX6_endOf_25 : decode cX6_endOf 25 = .ok (.invokevirtual 32, 3) := by decide +kernel
theorem dX6_endOf_28 : decode cX6_endOf 28 = .ok (.checkcast 18, 3) := by decide +kernel
theorem dX6_endOf_31 : decode cX6_endOf 31 = .ok (.getfield 56, 3) := by decide +kernel
theorem dX6_endOf_34 : decode cX6_endOf 34 = .ok (.lstore 4, 2) := by decide +kernel
theorem dX6_endOf_36 : decode cX6_endOf 36 = .ok (.iload_n 2, 1) := by decide +kernel
theorem dX6_endOf_37 : decode cX6_endOf 37 = .ok (.istore 6, 2) := by decide +kernel
theorem dX6_endOf_39 : decode cX6_endOf 39 = .ok (.iload 6, 2) := by decide +kernel
theorem dX6_endOf_41 : decode cX6_endOf 41 = .ok (.aload_n 3, 1) := by decide +kernel
theorem dX6_endOf_42 : decode cX6_endOf 42 = .ok (.invokevirtual 27, 3) := by decide +kernel
theorem dX6_endOf_45 : decode cX6_endOf 45 = .ok (.if_icmp .ge 27, 3) := by decide +kernel
theorem dX6_endOf_48 : decode cX6_endOf 48 = .ok (.aload_n 3, 1) := by decide +kernel
theorem dX6_endOf_49 : decode cX6_endOf 49 = .ok (.iload 6, 2) := by decide +kernel
theorem dX6_endOf_51 : decode cX6_endOf 51 = .ok (.invokevirtual 32, 3) := by decide +kernel
theorem dX6_endOf_54 : decode cX6_endOf 54 = .ok (.checkcast 40, 3) := by decide +kernel
theorem dX6_endOf_57 : decode cX6_endOf 57 = .ok (.getfield 42, 3) := by decide +kernel
theorem dX6_endOf_60 : decode cX6_endOf 60 = .ok (.lload 4, 2) := by decide +kernel
theorem dX6_endOf_62 : decode cX6_endOf 62 = .ok (.lcmp, 1) := by decide +kernel
theorem dX6_endOf_63 : decode cX6_endOf 63 = .ok (.ifCond .ge 9, 3) := by decide +kernel
theorem dX6_endOf_66 : decode cX6_endOf 66 = .ok (.iinc 6 1, 3) := by decide +kernel
theorem dX6_endOf_69 : decode cX6_endOf 69 = .ok (.goto (-30), 3) := by decide +kernel
theorem dX6_endOf_72 : decode cX6_endOf 72 = .ok (.iload 6, 2) := by decide +kernel
theorem dX6_endOf_74 : decode cX6_endOf 74 = .ok (.ireturn, 1) := by decide +kernel
theorem dX6_join_0 : decode cX6_join 0 = .ok (.iconst 0, 1) := by decide +kernel
theorem dX6_join_1 : decode cX6_join 1 = .ok (.istore_n 1, 1) := by decide +kernel
theorem dX6_join_2 : decode cX6_join 2 = .ok (.iload_n 1, 1) := by decide +kernel
theorem dX6_join_3 : decode cX6_join 3 = .ok (.iconst 1, 1) := by decide +kernel
theorem dX6_join_4 : decode cX6_join 4 = .ok (.iadd, 1) := by decide +kernel
theorem dX6_join_5 : decode cX6_join 5 = .ok (.aload_n 0, 1) := by decide +kernel
theorem dX6_join_6 : decode cX6_join 6 = .ok (.getfield 12, 3) := by decide +kernel
theorem dX6_join_9 : decode cX6_join 9 = .ok (.invokevirtual 27, 3) := by decide +kernel
theorem dX6_join_12 : decode cX6_join 12 = .ok (.if_icmp .ge 67, 3) := by decide +kernel
theorem dX6_join_15 : decode cX6_join 15 = .ok (.aload_n 0, 1) := by decide +kernel
theorem dX6_join_16 : decode cX6_join 16 = .ok (.getfield 12, 3) := by decide +kernel
theorem dX6_join_19 : decode cX6_join 19 = .ok (.iload_n 1, 1) := by decide +kernel
theorem dX6_join_20 : decode cX6_join 20 = .ok (.invokevirtual 32, 3) := by decide +kernel
theorem dX6_join_23 : decode cX6_join 23 = .ok (.checkcast 18, 3) := by decide +kernel
theorem dX6_join_26 : decode cX6_join 26 = .ok (.astore_n 2, 1) := by decide +kernel
theorem dX6_join_27 : decode cX6_join 27 = .ok (.aload_n 2, 1) := by decide +kernel
theorem dX6_join_28 : decode cX6_join 28 = .ok (.getfield 52, 3) := by decide +kernel
theorem dX6_join_31 : decode cX6_join 31 = .ok (.aload_n 0, 1) := by decide +kernel
theorem dX6_join_32 : decode cX6_join 32 = .ok (.getfield 12, 3) := by decide +kernel
theorem dX6_join_35 : decode cX6_join 35 = .ok (.iload_n 1, 1) := by decide +kernel
theorem dX6_join_36 : decode cX6_join 36 = .ok (.iconst 1, 1) := by decide +kernel
theorem dX6_join_37 : decode cX6_join 37 = .ok (.iadd, 1) := by decide +kernel
theorem dX6_join_38 : decode cX6_join 38 = .ok (.invokevirtual 32, 3) := by decide +kernel
theorem dX6_join_41 : decode cX6_join 41 = .ok (.checkcast 18, 3) := by decide +kernel
theorem dX6_join_44 : decode cX6_join 44 = .ok (.getfield 52, 3) := by decide +kernel
theorem dX6_join_47 : decode cX6_join 47 = .ok (.iadd, 1) := by decide +kernel
theorem dX6_join_48 : decode cX6_join 48 = .ok (.istore_n 3, 1) := by decide +kernel
theorem dX6_join_49 : decode cX6_join 49 = .ok (.iload_n 3, 1) := by decide +kernel
theorem dX6_join_50 : decode cX6_join 50 = .ok (.iconst 4, 1) := by decide +kernel
theorem dX6_join_51 : decode cX6_join 51 = .ok (.if_icmp .ge 22, 3) := by decide +kernel
theorem dX6_join_54 : decode cX6_join 54 = .ok (.aload_n 2, 1) := by decide +kernel
theorem dX6_join_55 : decode cX6_join 55 = .ok (.iload_n 3, 1) := by decide +kernel
theorem dX6_join_56 : decode cX6_join 56 = .ok (.putfield 52, 3) := by decide +kernel
theorem dX6_join_59 : decode cX6_join 59 = .ok (.aload_n 0, 1) := by decide +kernel
theorem dX6_join_60 : decode cX6_join 60 = .ok (.getfield 12, 3) := by decide +kernel
theorem dX6_join_63 : decode cX6_join 63 = .ok (.iload_n 1, 1) := by decide +kernel
theorem dX6_join_64 : decode cX6_join 64 = .ok (.iconst 1, 1) := by decide +kernel
theorem dX6_join_65 : decode cX6_join 65 = .ok (.iadd, 1) := by decide +kernel
theorem dX6_join_66 : decode cX6_join 66 = .ok (.invokevirtual 59, 3) := by decide +kernel
theorem dX6_join_69 : decode cX6_join 69 = .ok (.pop, 1) := by decide +kernel
theorem dX6_join_70 : decode cX6_join 70 = .ok (.goto 6, 3) := by decide +kernel
theorem dX6_join_73 : decode cX6_join 73 = .ok (.iinc 1 1, 3) := by decide +kernel
theorem dX6_join_76 : decode cX6_join 76 = .ok (.goto (-74), 3) := by decide +kernel
theorem dX6_join_79 : decode cX6_join 79 = .ok (.return_, 1) := by decide +kernel
theorem dX6_idlest_0 : decode cX6_idlest 0 = .ok (.iconst 0, 1) := by decide +kernel
theorem dX6_idlest_1 : decode cX6_idlest 1 = .ok (.istore_n 1, 1) := by decide +kernel
theorem dX6_idlest_2 : decode cX6_idlest 2 = .ok (.iconst 1, 1) := by decide +kernel
theorem dX6_idlest_3 : decode cX6_idlest 3 = .ok (.istore_n 2, 1) := by decide +kernel
theorem dX6_idlest_4 : decode cX6_idlest 4 = .ok (.iload_n 2, 1) := by decide +kernel
theorem dX6_idlest_5 : decode cX6_idlest 5 = .ok (.iconst 3, 1) := by decide +kernel
theorem dX6_idlest_6 : decode cX6_idlest 6 = .ok (.if_icmp .ge 24, 3) := by decide +kernel
theorem dX6_idlest_9 : decode cX6_idlest 9 = .ok (.aload_n 0, 1) := by decide +kernel
theorem dX6_idlest_10 : decode cX6_idlest 10 = .ok (.iload_n 2, 1) := by decide +kernel
theorem dX6_idlest_11 : decode cX6_idlest 11 = .ok (.invokevirtual 62, 3) := by decide +kernel
theorem dX6_idlest_14 : decode cX6_idlest 14 = .ok (.aload_n 0, 1) := by decide +kernel
theorem dX6_idlest_15 : decode cX6_idlest 15 = .ok (.iload_n 1, 1) := by decide +kernel
theorem dX6_idlest_16 : decode cX6_idlest 16 = .ok (.invokevirtual 62, 3) := by decide +kernel
theorem dX6_idlest_19 : decode cX6_idlest 19 = .ok (.if_icmp .ge 5, 3) := by decide +kernel
theorem dX6_idlest_22 : decode cX6_idlest 22 = .ok (.iload_n 2, 1) := by decide +kernel
theorem dX6_idlest_23 : decode cX6_idlest 23 = .ok (.istore_n 1, 1) := by decide +kernel
theorem dX6_idlest_24 : decode cX6_idlest 24 = .ok (.iinc 2 1, 3) := by decide +kernel
theorem dX6_idlest_27 : decode cX6_idlest 27 = .ok (.goto (-23), 3) := by decide +kernel
theorem dX6_idlest_30 : decode cX6_idlest 30 = .ok (.iload_n 1, 1) := by decide +kernel
theorem dX6_idlest_31 : decode cX6_idlest 31 = .ok (.ireturn, 1) := by decide +kernel
theorem dX6_countOf_0 : decode cX6_countOf 0 = .ok (.iconst 0, 1) := by decide +kernel
theorem dX6_countOf_1 : decode cX6_countOf 1 = .ok (.istore_n 2, 1) := by decide +kernel
theorem dX6_countOf_2 : decode cX6_countOf 2 = .ok (.iconst 0, 1) := by decide +kernel
theorem dX6_countOf_3 : decode cX6_countOf 3 = .ok (.istore_n 3, 1) := by decide +kernel
theorem dX6_countOf_4 : decode cX6_countOf 4 = .ok (.iload_n 3, 1) := by decide +kernel
theorem dX6_countOf_5 : decode cX6_countOf 5 = .ok (.aload_n 0, 1) := by decide +kernel
theorem dX6_countOf_6 : decode cX6_countOf 6 = .ok (.getfield 12, 3) := by decide +kernel
theorem dX6_countOf_9 : decode cX6_countOf 9 = .ok (.invokevirtual 27, 3) := by decide +kernel
theorem dX6_countOf_12 : decode cX6_countOf 12 = .ok (.if_icmp .ge 30, 3) := by decide +kernel
theorem dX6_countOf_15 : decode cX6_countOf 15 = .ok (.aload_n 0, 1) := by decide +kernel
theorem dX6_countOf_16 : decode cX6_countOf 16 = .ok (.getfield 12, 3) := by decide +kernel
theorem dX6_countOf_19 : decode cX6_countOf 19 = .ok (.iload_n 3, 1) := by decide +kernel
theorem dX6_countOf_20 : decode cX6_countOf 20 = .ok (.invokevirtual 32, 3) := by decide +kernel
theorem dX6_countOf_23 : decode cX6_countOf 23 = .ok (.checkcast 18, 3) := by decide +kernel
theorem dX6_countOf_26 : decode cX6_countOf 26 = .ok (.getfield 66, 3) := by decide +kernel
theorem dX6_countOf_29 : decode cX6_countOf 29 = .ok (.iload_n 1, 1) := by decide +kernel
theorem dX6_countOf_30 : decode cX6_countOf 30 = .ok (.if_icmp .ne 6, 3) := by decide +kernel
theorem dX6_countOf_33 : decode cX6_countOf 33 = .ok (.iinc 2 1, 3) := by decide +kernel
theorem dX6_countOf_36 : decode cX6_countOf 36 = .ok (.iinc 3 1, 3) := by decide +kernel
theorem dX6_countOf_39 : decode cX6_countOf 39 = .ok (.goto (-35), 3) := by decide +kernel
theorem dX6_countOf_42 : decode cX6_countOf 42 = .ok (.iload_n 2, 1) := by decide +kernel
theorem dX6_countOf_43 : decode cX6_countOf 43 = .ok (.ireturn, 1) := by decide +kernel
theorem dX7_init_0 : decode cX7_init 0 = .ok (.aload_n 0, 1) := by decide +kernel
theorem dX7_init_1 : decode cX7_init 1 = .ok (.invokespecial 1, 3) := by decide +kernel
theorem dX7_init_4 : decode cX7_init 4 = .ok (.aload_n 0, 1) := by decide +kernel
theorem dX7_init_5 : decode cX7_init 5 = .ok (.lload_n 1, 1) := by decide +kernel
theorem dX7_init_6 : decode cX7_init 6 = .ok (.putfield 7, 3) := by decide +kernel
theorem dX7_init_9 : decode cX7_init 9 = .ok (.aload_n 0, 1) := by decide +kernel
theorem dX7_init_10 : decode cX7_init 10 = .ok (.lload_n 3, 1) := by decide +kernel
theorem dX7_init_11 : decode cX7_init 11 = .ok (.putfield 13, 3) := by decide +kernel
theorem dX7_init_14 : decode cX7_init 14 = .ok (.aload_n 0, 1) := by decide +kernel
theorem dX7_init_15 : decode cX7_init 15 = .ok (.iload 5, 2) := by decide +kernel
theorem dX7_init_17 : decode cX7_init 17 = .ok (.putfield 16, 3) := by decide +kernel
theorem dX7_init_20 : decode cX7_init 20 = .ok (.return_, 1) := by decide +kernel
theorem dX8_init_0 : decode cX8_init 0 = .ok (.aload_n 0, 1) := by decide +kernel
theorem dX8_init_1 : decode cX8_init 1 = .ok (.invokespecial 3, 3) := by decide +kernel
theorem dX8_init_4 : decode cX8_init 4 = .ok (.aload_n 0, 1) := by decide +kernel
theorem dX8_init_5 : decode cX8_init 5 = .ok (.new 9, 3) := by decide +kernel
theorem dX8_init_8 : decode cX8_init 8 = .ok (.dup, 1) := by decide +kernel
theorem dX8_init_9 : decode cX8_init 9 = .ok (.invokespecial 11, 3) := by decide +kernel
theorem dX8_init_12 : decode cX8_init 12 = .ok (.putfield 12, 3) := by decide +kernel
theorem dX8_init_15 : decode cX8_init 15 = .ok (.aload_n 0, 1) := by decide +kernel
theorem dX8_init_16 : decode cX8_init 16 = .ok (.new 9, 3) := by decide +kernel
theorem dX8_init_19 : decode cX8_init 19 = .ok (.dup, 1) := by decide +kernel
theorem dX8_init_20 : decode cX8_init 20 = .ok (.invokespecial 11, 3) := by decide +kernel
theorem dX8_init_23 : decode cX8_init 23 = .ok (.putfield 18, 3) := by decide +kernel
theorem dX8_init_26 : decode cX8_init 26 = .ok (.aload_n 0, 1) := by decide +kernel
theorem dX8_init_27 : decode cX8_init 27 = .ok (.new 9, 3) := by decide +kernel
theorem dX8_init_30 : decode cX8_init 30 = .ok (.dup, 1) := by decide +kernel
theorem dX8_init_31 : decode cX8_init 31 = .ok (.invokespecial 11, 3) := by decide +kernel
theorem dX8_init_34 : decode cX8_init 34 = .ok (.putfield 21, 3) := by decide +kernel
theorem dX8_init_37 : decode cX8_init 37 = .ok (.aload_n 0, 1) := by decide +kernel
theorem dX8_init_38 : decode cX8_init 38 = .ok (.new 24, 3) := by decide +kernel
theorem dX8_init_41 : decode cX8_init 41 = .ok (.dup, 1) := by decide +kernel
theorem dX8_init_42 : decode cX8_init 42 = .ok (.invokespecial 26, 3) := by decide +kernel
theorem dX8_init_45 : decode cX8_init 45 = .ok (.putfield 27, 3) := by decide +kernel
theorem dX8_init_48 : decode cX8_init 48 = .ok (.aload_n 0, 1) := by decide +kernel
theorem dX8_init_49 : decode cX8_init 49 = .ok (.iconst 0, 1) := by decide +kernel
theorem dX8_init_50 : decode cX8_init 50 = .ok (.putfield 31, 3) := by decide +kernel
theorem dX8_init_53 : decode cX8_init 53 = .ok (.aload_n 0, 1) := by decide +kernel
theorem dX8_init_54 : decode cX8_init 54 = .ok (.aconst_null, 1) := by decide +kernel
theorem dX8_init_55 : decode cX8_init 55 = .ok (.putfield 35, 3) := by decide +kernel
theorem dX8_init_58 : decode cX8_init 58 = .ok (.aload_n 0, 1) := by decide +kernel
theorem dX8_init_59 : decode cX8_init 59 = .ok (.iconst 0, 1) := by decide +kernel
theorem dX8_init_60 : decode cX8_init 60 = .ok (.putfield 39, 3) := by decide +kernel
theorem dX8_init_63 : decode cX8_init 63 = .ok (.return_, 1) := by decide +kernel
theorem dX8_advance_0 : decode cX8_advance 0 = .ok (.aload_n 0, 1) := by decide +kernel
theorem dX8_advance_1 : decode cX8_advance 1 = .ok (.aload_n 0, 1) := by decide +kernel
theorem dX8_advance_2 : decode cX8_advance 2 = .ok (.getfield 39, 3) := by decide +kernel
theorem dX8_advance_5 : decode cX8_advance 5 = .ok (.iload_n 1, 1) := by decide +kernel
theorem dX8_advance_6 : decode cX8_advance 6 = .ok (.iadd, 1) := by decide +kernel
theorem dX8_advance_7 : decode cX8_advance 7 = .ok (.sipush 9000, 3) := by decide +kernel
theorem dX8_advance_10 : decode cX8_advance 10 = .ok (.invokestatic 42, 3) := by decide +kernel
theorem dX8_advance_13 : decode cX8_advance 13 = .ok (.putfield 39, 3) := by decide +kernel
theorem dX8_advance_16 : decode cX8_advance 16 = .ok (.return_, 1) := by decide +kernel
theorem dX8_placeFrom_0 : decode cX8_placeFrom 0 = .ok (.iconst 0, 1) := by decide +kernel
theorem dX8_placeFrom_1 : decode cX8_placeFrom 1 = .ok (.istore_n 3, 1) := by decide +kernel
theorem dX8_placeFrom_2 : decode cX8_placeFrom 2 = .ok (.aload_n 0, 1) := by decide +kernel
theorem dX8_placeFrom_3 : decode cX8_placeFrom 3 = .ok (.getfield 12, 3) := by decide +kernel
theorem dX8_placeFrom_6 : decode cX8_placeFrom 6 = .ok (.invokevirtual 48, 3) := by decide +kernel
theorem dX8_placeFrom_9 : decode cX8_placeFrom 9 = .ok (.istore 4, 2) := by decide +kernel
theorem dX8_placeFrom_11 : decode cX8_placeFrom 11 = .ok (.iload_n 3, 1) := by decide +kernel
theorem dX8_placeFrom_12 : decode cX8_placeFrom 12 = .ok (.iload 4, 2) := by decide +kernel
theorem dX8_placeFrom_14 : decode cX8_placeFrom 14 = .ok (.if_icmp .ge 46, 3) := by decide +kernel
theorem dX8_placeFrom_17 : decode cX8_placeFrom 17 = .ok (.iload_n 3, 1) := by decide +kernel
theorem dX8_placeFrom_18 : decode cX8_placeFrom 18 = .ok (.iload 4, 2) := by decide +kernel
theorem dX8_placeFrom_20 : decode cX8_placeFrom 20 = .ok (.iadd, 1) := by decide +kernel
theorem dX8_placeFrom_21 : decode cX8_placeFrom 21 = .ok (.iconst 1, 1) := by decide +kernel
theorem dX8_placeFrom_22 : decode cX8_placeFrom 22 = .ok (.iushr, 1) := by decide +kernel
theorem dX8_placeFrom_23 : decode cX8_placeFrom 23 = .ok (.istore 5, 2) := by decide +kernel
theorem dX8_placeFrom_25 : decode cX8_placeFrom 25 = .ok (.aload_n 0, 1) := by decide +kernel
theorem dX8_placeFrom_26 : decode cX8_placeFrom 26 = .ok (.getfield 12, 3) := by decide +kernel
theorem dX8_placeFrom_29 : decode cX8_placeFrom 29 = .ok (.iload 5, 2) := by decide +kernel
theorem dX8_placeFrom_31 : decode cX8_placeFrom 31 = .ok (.invokevirtual 52, 3) := by decide +kernel
theorem dX8_placeFrom_34 : decode cX8_placeFrom 34 = .ok (.checkcast 56, 3) := by decide +kernel
theorem dX8_placeFrom_37 : decode cX8_placeFrom 37 = .ok (.getfield 58, 3) := by decide +kernel
theorem dX8_placeFrom_40 : decode cX8_placeFrom 40 = .ok (.lload_n 1, 1) := by decide +kernel
theorem dX8_placeFrom_41 : decode cX8_placeFrom 41 = .ok (.lcmp, 1) := by decide +kernel
theorem dX8_placeFrom_42 : decode cX8_placeFrom 42 = .ok (.ifCond .ge 11, 3) := by decide +kernel
theorem dX8_placeFrom_45 : decode cX8_placeFrom 45 = .ok (.iload 5, 2) := by decide +kernel
theorem dX8_placeFrom_47 : decode cX8_placeFrom 47 = .ok (.iconst 1, 1) := by decide +kernel
theorem dX8_placeFrom_48 : decode cX8_placeFrom 48 = .ok (.iadd, 1) := by decide +kernel
theorem dX8_placeFrom_49 : decode cX8_placeFrom 49 = .ok (.istore_n 3, 1) := by decide +kernel
theorem dX8_placeFrom_50 : decode cX8_placeFrom 50 = .ok (.goto 7, 3) := by decide +kernel
theorem dX8_placeFrom_53 : decode cX8_placeFrom 53 = .ok (.iload 5, 2) := by decide +kernel
theorem dX8_placeFrom_55 : decode cX8_placeFrom 55 = .ok (.istore 4, 2) := by decide +kernel
theorem dX8_placeFrom_57 : decode cX8_placeFrom 57 = .ok (.goto (-46), 3) := by decide +kernel
theorem dX8_placeFrom_60 : decode cX8_placeFrom 60 = .ok (.iload_n 3, 1) := by decide +kernel
theorem dX8_placeFrom_61 : decode cX8_placeFrom 61 = .ok (.ireturn, 1) := by decide +kernel
theorem dX8_find_0 : decode cX8_find 0 = .ok (.aload_n 0, 1) := by decide +kernel
theorem dX8_find_1 : decode cX8_find 1 = .ok (.lload_n 1, 1) := by decide +kernel
theorem dX8_find_2 : decode cX8_find 2 = .ok (.invokevirtual 62, 3) := by decide +kernel
theorem dX8_find_5 : decode cX8_find 5 = .ok (.istore_n 3, 1) := by decide +kernel
theorem dX8_find_6 : decode cX8_find 6 = .ok (.iload_n 3, 1) := by decide +kernel
theorem dX8_find_7 : decode cX8_find 7 = .ok (.aload_n 0, 1) := by decide +kernel
theorem dX8_find_8 : decode cX8_find 8 = .ok (.getfield 12, 3) := by decide +kernel
theorem dX8_find_11 : decode cX8_find 11 = .ok (.invokevirtual 48, 3) := by decide +kernel
theorem dX8_find_14 : decode cX8_find 14 = .ok (.if_icmp .lt 5, 3) := by decide +kernel
theorem dX8_find_17 : decode cX8_find 17 = .ok (.aconst_null, 1) := by decide +kernel
theorem dX8_find_18 : decode cX8_find 18 = .ok (.areturn, 1) := by decide +kernel
theorem dX8_find_19 : decode cX8_find 19 = .ok (.aload_n 0, 1) := by decide +kernel
theorem dX8_find_20 : decode cX8_find 20 = .ok (.getfield 12, 3) := by decide +kernel
theorem dX8_find_23 : decode cX8_find 23 = .ok (.iload_n 3, 1) := by decide +kernel
theorem dX8_find_24 : decode cX8_find 24 = .ok (.invokevirtual 52, 3) := by decide +kernel
theorem dX8_find_27 : decode cX8_find 27 = .ok (.checkcast 56, 3) := by decide +kernel
theorem dX8_find_30 : decode cX8_find 30 = .ok (.astore 4, 2) := by decide +kernel
theorem dX8_find_32 : decode cX8_find 32 = .ok (.aload 4, 2) := by decide +kernel
theorem dX8_find_34 : decode cX8_find 34 = .ok (.getfield 58, 3) := by decide +kernel
theorem dX8_find_37 : decode cX8_find 37 = .ok (.lload_n 1, 1) := by decide +kernel
theorem dX8_find_38 : decode cX8_find 38 = .ok (.lcmp, 1) := by decide +kernel
theorem dX8_find_39 : decode cX8_find 39 = .ok (.ifCond .ne 8, 3) := by decide +kernel
theorem dX8_find_42 : decode cX8_find 42 = .ok (.aload 4, 2) := by decide +kernel
theorem dX8_find_44 : decode cX8_find 44 = .ok (.goto 4, 3) := by decide +kernel
theorem dX8_find_47 : decode cX8_find 47 = .ok (.aconst_null, 1) := by decide +kernel
theorem dX8_find_48 : decode cX8_find 48 = .ok (.areturn, 1) := by decide +kernel
theorem dX8_keyFor_0 : decode cX8_keyFor 0 = .ok (.aload_n 0, 1) := by decide +kernel
theorem dX8_keyFor_1 : decode cX8_keyFor 1 = .ok (.lload_n 1, 1) := by decide +kernel
theorem dX8_keyFor_2 : decode cX8_keyFor 2 = .ok (.invokevirtual 62, 3) := by decide +kernel
theorem dX8_keyFor_5 : decode cX8_keyFor 5 = .ok (.istore_n 3, 1) := by decide +kernel
theorem dX8_keyFor_6 : decode cX8_keyFor 6 = .ok (.iload_n 3, 1) := by decide +kernel
theorem dX8_keyFor_7 : decode cX8_keyFor 7 = .ok (.aload_n 0, 1) := by decide +kernel
theorem dX8_keyFor_8 : decode cX8_keyFor 8 = .ok (.getfield 12, 3) := by decide +kernel
theorem dX8_keyFor_11 : decode cX8_keyFor 11 = .ok (.invokevirtual 48, 3) := by decide +kernel
theorem dX8_keyFor_14 : decode cX8_keyFor 14 = .ok (.if_icmp .ge 17, 3) := by decide +kernel
theorem dX8_keyFor_17 : decode cX8_keyFor 17 = .ok (.aload_n 0, 1) := by decide +kernel
theorem dX8_keyFor_18 : decode cX8_keyFor 18 = .ok (.getfield 12, 3) := by decide +kernel
theorem dX8_keyFor_21 : decode cX8_keyFor 21 = .ok (.iload_n 3, 1) := by decide +kernel
theorem dX8_keyFor_22 : decode cX8_keyFor 22 = .ok (.invokevirtual 52, 3) := by decide +kernel
theorem dX8_keyFor_25 : decode cX8_keyFor 25 = .ok (.checkcast 56, 3) := by decide +kernel
theorem dX8_keyFor_28 : decode cX8_keyFor 28 = .ok (.goto 4, 3) := by decide +kernel
theorem dX8_keyFor_31 : decode cX8_keyFor 31 = .ok (.aconst_null, 1) := by decide +kernel
theorem dX8_keyFor_32 : decode cX8_keyFor 32 = .ok (.astore 4, 2) := by decide +kernel
theorem dX8_keyFor_34 : decode cX8_keyFor 34 = .ok (.aload 4, 2) := by decide +kernel
theorem dX8_keyFor_36 : decode cX8_keyFor 36 = .ok (.ifnull 16, 3) := by decide +kernel
theorem dX8_keyFor_39 : decode cX8_keyFor 39 = .ok (.aload 4, 2) := by decide +kernel
theorem dX8_keyFor_41 : decode cX8_keyFor 41 = .ok (.getfield 58, 3) := by decide +kernel
theorem dX8_keyFor_44 : decode cX8_keyFor 44 = .ok (.lload_n 1, 1) := by decide +kernel
theorem dX8_keyFor_45 : decode cX8_keyFor 45 = .ok (.lcmp, 1) := by decide +kernel
theorem dX8_keyFor_46 : decode cX8_keyFor 46 = .ok (.ifCond .ne 6, 3) := by decide +kernel
theorem dX8_keyFor_49 : decode cX8_keyFor 49 = .ok (.aload 4, 2) := by decide +kernel
theorem dX8_keyFor_51 : decode cX8_keyFor 51 = .ok (.areturn, 1) := by decide +kernel
theorem dX8_keyFor_52 : decode cX8_keyFor 52 = .ok (.aload_n 0, 1) := by decide +kernel
theorem dX8_keyFor_53 : decode cX8_keyFor 53 = .ok (.getfield 12, 3) := by decide +kernel
theorem dX8_keyFor_56 : decode cX8_keyFor 56 = .ok (.invokevirtual 48, 3) := by decide +kernel
theorem dX8_keyFor_59 : decode cX8_keyFor 59 = .ok (.ldc 66, 2) := by decide +kernel
theorem dX8_keyFor_61 : decode cX8_keyFor 61 = .ok (.if_icmp .lt 5, 3) := by decide +kernel
theorem dX8_keyFor_64 : decode cX8_keyFor 64 = .ok (.aconst_null, 1) := by decide +kernel
theorem dX8_keyFor_65 : decode cX8_keyFor 65 = .ok (.areturn, 1) := by decide +kernel
theorem dX8_keyFor_66 : decode cX8_keyFor 66 = .ok (.new 56, 3) := by decide +kernel
theorem dX8_keyFor_69 : decode cX8_keyFor 69 = .ok (.dup, 1) := by decide +kernel
theorem dX8_keyFor_70 : decode cX8_keyFor 70 = .ok (.lload_n 1, 1) := by decide +kernel
theorem dX8_keyFor_71 : decode cX8_keyFor 71 = .ok (.invokespecial 67, 3) := by decide +kernel
theorem dX8_keyFor_74 : decode cX8_keyFor 74 = .ok (.astore 5, 2) := by decide +kernel
theorem dX8_keyFor_76 : decode cX8_keyFor 76 = .ok (.aload_n 0, 1) := by decide +kernel
theorem dX8_keyFor_77 : decode cX8_keyFor 77 = .ok (.getfield 12, 3) := by decide +kernel
theorem dX8_keyFor_80 : decode cX8_keyFor 80 = .ok (.iload_n 3, 1) := by decide +kernel
theorem dX8_keyFor_81 : decode cX8_keyFor 81 = .ok (.aload 5, 2) := by decide +kernel
theorem dX8_keyFor_83 : decode cX8_keyFor 83 = .ok (.invokevirtual 70, 3) := by decide +kernel
theorem dX8_keyFor_86 : decode cX8_keyFor 86 = .ok (.aload 5, 2) := by decide +kernel
theorem dX8_keyFor_88 : decode cX8_keyFor 88 = .ok (.areturn, 1) := by decide +kernel
theorem dX8_entryIn_0 : decode cX8_entryIn 0 = .ok (.aload_n 0, 1) := by decide +kernel
theorem dX8_entryIn_1 : decode cX8_entryIn 1 = .ok (.lload_n 1, 1) := by decide +kernel
theorem dX8_entryIn_2 : decode cX8_entryIn 2 = .ok (.invokevirtual 74, 3) := by decide +kernel
theorem dX8_entryIn_5 : decode cX8_entryIn 5 = .ok (.astore 4, 2) := by decide +kernel
theorem dX8_entryIn_7 : decode cX8_entryIn 7 = .ok (.aload 4, 2) := by decide +kernel
theorem dX8_entryIn_9 : decode cX8_entryIn 9 = .ok (.ifnonnull 7, 3) := by decide +kernel
theorem dX8_entryIn_12 : decode cX8_entryIn 12 = .ok (.aconst_null, 1) := by decide +kernel
theorem dX8_entryIn_13 : decode cX8_entryIn 13 = .ok (.goto 9, 3) := by decide +kernel
theorem dX8_entryIn_16 : decode cX8_entryIn 16 = .ok (.aload 4, 2) := by decide +kernel
theorem dX8_entryIn_18 : decode cX8_entryIn 18 = .ok (.iload_n 3, 1) := by decide +kernel
theorem dX8_entryIn_19 : decode cX8_entryIn 19 = .ok (.invokevirtual 78, 3) := by decide +kernel
theorem dX8_entryIn_22 : decode cX8_entryIn 22 = .ok (.areturn, 1) := by decide +kernel
theorem dX8_valueNow_0 : decode cX8_valueNow 0 = .ok (.aload_n 0, 1) := by decide +kernel
theorem dX8_valueNow_1 : decode cX8_valueNow 1 = .ok (.getfield 27, 3) := by decide +kernel
theorem dX8_valueNow_4 : decode cX8_valueNow 4 = .ok (.aload_n 0, 1) := by decide +kernel
theorem dX8_valueNow_5 : decode cX8_valueNow 5 = .ok (.lload_n 1, 1) := by decide +kernel
theorem dX8_valueNow_6 : decode cX8_valueNow 6 = .ok (.aload_n 0, 1) := by decide +kernel
theorem dX8_valueNow_7 : decode cX8_valueNow 7 = .ok (.getfield 39, 3) := by decide +kernel
theorem dX8_valueNow_10 : decode cX8_valueNow 10 = .ok (.invokevirtual 82, 3) := by decide +kernel
theorem dX8_valueNow_13 : decode cX8_valueNow 13 = .ok (.invokevirtual 85, 3) := by decide +kernel
theorem dX8_valueNow_16 : decode cX8_valueNow 16 = .ok (.aload_n 0, 1) := by decide +kernel
theorem dX8_valueNow_17 : decode cX8_valueNow 17 = .ok (.getfield 27, 3) := by decide +kernel
theorem dX8_valueNow_20 : decode cX8_valueNow 20 = .ok (.invokevirtual 89, 3) := by decide +kernel
theorem dX8_valueNow_23 : decode cX8_valueNow 23 = .ok (.ireturn, 1) := by decide +kernel
theorem dX8_listHeld_0 : decode cX8_listHeld 0 = .ok (.aload_n 0, 1) := by decide +kernel
theorem dX8_listHeld_1 : decode cX8_listHeld 1 = .ok (.getfield 21, 3) := by decide +kernel
theorem dX8_listHeld_4 : decode cX8_listHeld 4 = .ok (.invokevirtual 92, 3) := by decide +kernel
theorem dX8_listHeld_7 : decode cX8_listHeld 7 = .ok (.aload_n 0, 1) := by decide +kernel
theorem dX8_listHeld_8 : decode cX8_listHeld 8 = .ok (.lload_n 1, 1) := by decide +kernel
theorem dX8_listHeld_9 : decode cX8_listHeld 9 = .ok (.invokevirtual 62, 3) := by decide +kernel
theorem dX8_listHeld_12 : decode cX8_listHeld 12 = .ok (.istore 5, 2) := by decide +kernel
theorem dX8_listHeld_14 : decode cX8_listHeld 14 = .ok (.iload 5, 2) := by decide +kernel
theorem dX8_listHeld_16 : decode cX8_listHeld 16 = .ok (.aload_n 0, 1) := by decide +kernel
theorem dX8_listHeld_17 : decode cX8_listHeld 17 = .ok (.getfield 12, 3) := by decide +kernel
theorem dX8_listHeld_20 : decode cX8_listHeld 20 = .ok (.invokevirtual 48, 3) := by decide +kernel
theorem dX8_listHeld_23 : decode cX8_listHeld 23 = .ok (.if_icmp .ge 56, 3) := by decide +kernel
theorem dX8_listHeld_26 : decode cX8_listHeld 26 = .ok (.aload_n 0, 1) := by decide +kernel
theorem dX8_listHeld_27 : decode cX8_listHeld 27 = .ok (.getfield 12, 3) := by decide +kernel
theorem dX8_listHeld_30 : decode cX8_listHeld 30 = .ok (.iload 5, 2) := by decide +kernel
theorem dX8_listHeld_32 : decode cX8_listHeld 32 = .ok (.invokevirtual 52, 3) := by decide +kernel
theorem dX8_listHeld_35 : decode cX8_listHeld 35 = .ok (.checkcast 56, 3) := by decide +kernel
theorem dX8_listHeld_38 : decode cX8_listHeld 38 = .ok (.astore 6, 2) := by decide +kernel
theorem dX8_listHeld_40 : decode cX8_listHeld 40 = .ok (.aload 6, 2) := by decide +kernel
theorem dX8_listHeld_42 : decode cX8_listHeld 42 = .ok (.getfield 58, 3) := by decide +kernel
theorem dX8_listHeld_45 : decode cX8_listHeld 45 = .ok (.lload_n 3, 1) := by decide +kernel
theorem dX8_listHeld_46 : decode cX8_listHeld 46 = .ok (.lcmp, 1) := by decide +kernel
theorem dX8_listHeld_47 : decode cX8_listHeld 47 = .ok (.ifCond .lt 8, 3) := by decide +kernel
theorem dX8_listHeld_50 : decode cX8_listHeld 50 = .ok (.aload_n 0, 1) := by decide +kernel
theorem dX8_listHeld_51 : decode cX8_listHeld 51 = .ok (.getfield 21, 3) := by decide +kernel
theorem dX8_listHeld_54 : decode cX8_listHeld 54 = .ok (.areturn, 1) := by decide +kernel
theorem dX8_listHeld_55 : decode cX8_listHeld 55 = .ok (.aload 6, 2) := by decide +kernel
theorem dX8_listHeld_57 : decode cX8_listHeld 57 = .ok (.invokevirtual 95, 3) := by decide +kernel
theorem dX8_listHeld_60 : decode cX8_listHeld 60 = .ok (.ifCond .eq 13, 3) := by decide +kernel
theorem dX8_listHeld_63 : decode cX8_listHeld 63 = .ok (.aload_n 0, 1) := by decide +kernel
theorem dX8_listHeld_64 : decode cX8_listHeld 64 = .ok (.getfield 21, 3) := by decide +kernel
theorem dX8_listHeld_67 : decode cX8_listHeld 67 = .ok (.aload 6, 2) := by decide +kernel
theorem dX8_listHeld_69 : decode cX8_listHeld 69 = .ok (.invokevirtual 99, 3) := by decide +kernel
theorem dX8_listHeld_72 : decode cX8_listHeld 72 = .ok (.pop, 1) := by decide +kernel
theorem dX8_listHeld_73 : decode cX8_listHeld 73 = .ok (.iinc 5 1, 3) := by decide +kernel
theorem dX8_listHeld_76 : decode cX8_listHeld 76 = .ok (.goto (-62), 3) := by decide +kernel
theorem dX8_listHeld_79 : decode cX8_listHeld 79 = .ok (.aload_n 0, 1) := by decide +kernel
theorem dX8_listHeld_80 : decode cX8_listHeld 80 = .ok (.getfield 21, 3) := by decide +kernel
theorem dX8_listHeld_83 : decode cX8_listHeld 83 = .ok (.areturn, 1) := by decide +kernel
theorem dX8_applyInOrder_0 : decode cX8_applyInOrder 0 = .ok (.aload_n 1, 1) := by decide +kernel
theorem dX8_applyInOrder_1 : decode cX8_applyInOrder 1 = .ok (.invokevirtual 102, 3) := by decide +kernel
theorem dX8_applyInOrder_4 : decode cX8_applyInOrder 4 = .ok (.ifCond .ne 4, 3) := by decide +kernel
theorem dX8_applyInOrder_7 : decode cX8_applyInOrder 7 = .ok (.return_, 1) := by decide +kernel
theorem dX8_applyInOrder_8 : decode cX8_applyInOrder 8 = .ok (.aload_n 1, 1) := by decide +kernel
theorem dX8_applyInOrder_9 : decode cX8_applyInOrder 9 = .ok (.invokevirtual 107, 3) := by decide +kernel
theorem dX8_applyInOrder_12 : decode cX8_applyInOrder 12 = .ok (.ifCond .eq 18, 3) := by decide +kernel
theorem dX8_applyInOrder_15 : decode cX8_applyInOrder 15 = .ok (.aload_n 0, 1) := by decide +kernel
theorem dX8_applyInOrder_16 : decode cX8_applyInOrder 16 = .ok (.aload_n 1, 1) := by decide +kernel
theorem dX8_applyInOrder_17 : decode cX8_applyInOrder 17 = .ok (.getfield 110, 3) := by decide +kernel
theorem dX8_applyInOrder_20 : decode cX8_applyInOrder 20 = .ok (.aload_n 1, 1) := by decide +kernel
theorem dX8_applyInOrder_21 : decode cX8_applyInOrder 21 = .ok (.getfield 113, 3) := by decide +kernel
theorem dX8_applyInOrder_24 : decode cX8_applyInOrder 24 = .ok (.invokevirtual 116, 3) := by decide +kernel
theorem dX8_applyInOrder_27 : decode cX8_applyInOrder 27 = .ok (.goto 19, 3) := by decide +kernel
theorem dX8_applyInOrder_30 : decode cX8_applyInOrder 30 = .ok (.aload_n 0, 1) := by decide +kernel
theorem dX8_applyInOrder_31 : decode cX8_applyInOrder 31 = .ok (.aload_n 1, 1) := by decide +kernel
theorem dX8_applyInOrder_32 : decode cX8_applyInOrder 32 = .ok (.getfield 120, 3) := by decide +kernel
theorem dX8_applyInOrder_35 : decode cX8_applyInOrder 35 = .ok (.aload_n 1, 1) := by decide +kernel
theorem dX8_applyInOrder_36 : decode cX8_applyInOrder 36 = .ok (.getfield 110, 3) := by decide +kernel
theorem dX8_applyInOrder_39 : decode cX8_applyInOrder 39 = .ok (.aload_n 1, 1) := by decide +kernel
theorem dX8_applyInOrder_40 : decode cX8_applyInOrder 40 = .ok (.getfield 123, 3) := by decide +kernel
theorem dX8_applyInOrder_43 : decode cX8_applyInOrder 43 = .ok (.invokevirtual 126, 3) := by decide +kernel
theorem dX8_applyInOrder_46 : decode cX8_applyInOrder 46 = .ok (.return_, 1) := by decide +kernel
theorem dX8_applyStamped_0 : decode cX8_applyStamped 0 = .ok (.aload_n 1, 1) := by decide +kernel
theorem dX8_applyStamped_1 : decode cX8_applyStamped 1 = .ok (.getfield 120, 3) := by decide +kernel
theorem dX8_applyStamped_4 : decode cX8_applyStamped 4 = .ok (.bipush 6, 2) := by decide +kernel
theorem dX8_applyStamped_6 : decode cX8_applyStamped 6 = .ok (.if_icmp .ne 27, 3) := by decide +kernel
theorem dX8_applyStamped_9 : decode cX8_applyStamped 9 = .ok (.aload_n 0, 1) := by decide +kernel
theorem dX8_applyStamped_10 : decode cX8_applyStamped 10 = .ok (.iconst 0, 1) := by decide +kernel
theorem dX8_applyStamped_11 : decode cX8_applyStamped 11 = .ok (.aload_n 1, 1) := by decide +kernel
theorem dX8_applyStamped_12 : decode cX8_applyStamped 12 = .ok (.getfield 110, 3) := by decide +kernel
theorem dX8_applyStamped_15 : decode cX8_applyStamped 15 = .ok (.aload_n 1, 1) := by decide +kernel
theorem dX8_applyStamped_16 : decode cX8_applyStamped 16 = .ok (.getfield 130, 3) := by decide +kernel
theorem dX8_applyStamped_19 : decode cX8_applyStamped 19 = .ok (.aload_n 0, 1) := by decide +kernel
theorem dX8_applyStamped_20 : decode cX8_applyStamped 20 = .ok (.getfield 39, 3) := by decide +kernel
theorem dX8_applyStamped_23 : decode cX8_applyStamped 23 = .ok (.invokestatic 133, 3) := by decide +kernel
theorem dX8_applyStamped_26 : decode cX8_applyStamped 26 = .ok (.aload_n 1, 1) := by decide +kernel
theorem dX8_applyStamped_27 : decode cX8_applyStamped 27 = .ok (.getfield 123, 3) := by decide +kernel
theorem dX8_applyStamped_30 : decode cX8_applyStamped 30 = .ok (.invokevirtual 126, 3) := by decide +kernel
theorem dX8_applyStamped_33 : decode cX8_applyStamped 33 = .ok (.return_, 1) := by decide +kernel
theorem dX8_alter_0 : decode cX8_alter 0 = .ok (.aload_n 0, 1) := by decide +kernel
theorem dX8_alter_1 : decode cX8_alter 1 = .ok (.lload_n 2, 1) := by decide +kernel
theorem dX8_alter_2 : decode cX8_alter 2 = .ok (.invokevirtual 137, 3) := by decide +kernel
theorem dX8_alter_5 : decode cX8_alter 5 = .ok (.astore 5, 2) := by decide +kernel
theorem dX8_alter_7 : decode cX8_alter 7 = .ok (.aload 5, 2) := by decide +kernel
theorem dX8_alter_9 : decode cX8_alter 9 = .ok (.ifnull 39, 3) := by decide +kernel
theorem dX8_alter_12 : decode cX8_alter 12 = .ok (.aload_n 0, 1) := by decide +kernel
theorem dX8_alter_13 : decode cX8_alter 13 = .ok (.getfield 27, 3) := by decide +kernel
theorem dX8_alter_16 : decode cX8_alter 16 = .ok (.aload 5, 2) := by decide +kernel
theorem dX8_alter_18 : decode cX8_alter 18 = .ok (.getfield 140, 3) := by decide +kernel
theorem dX8_alter_21 : decode cX8_alter 21 = .ok (.invokevirtual 85, 3) := by decide +kernel
theorem dX8_alter_24 : decode cX8_alter 24 = .ok (.aload_n 0, 1) := by decide +kernel
theorem dX8_alter_25 : decode cX8_alter 25 = .ok (.getfield 27, 3) := by decide +kernel
theorem dX8_alter_28 : decode cX8_alter 28 = .ok (.iload_n 1, 1) := by decide +kernel
theorem dX8_alter_29 : decode cX8_alter 29 = .ok (.iload 4, 2) := by decide +kernel
theorem dX8_alter_31 : decode cX8_alter 31 = .ok (.aload_n 0, 1) := by decide +kernel
theorem dX8_alter_32 : decode cX8_alter 32 = .ok (.getfield 39, 3) := by decide +kernel
theorem dX8_alter_35 : decode cX8_alter 35 = .ok (.invokevirtual 143, 3) := by decide +kernel
theorem dX8_alter_38 : decode cX8_alter 38 = .ok (.aload_n 0, 1) := by decide +kernel
theorem dX8_alter_39 : decode cX8_alter 39 = .ok (.aload 5, 2) := by decide +kernel
theorem dX8_alter_41 : decode cX8_alter 41 = .ok (.aload_n 0, 1) := by decide +kernel
theorem dX8_alter_42 : decode cX8_alter 42 = .ok (.getfield 27, 3) := by decide +kernel
theorem dX8_alter_45 : decode cX8_alter 45 = .ok (.invokevirtual 147, 3) := by decide +kernel
theorem dX8_alter_48 : decode cX8_alter 48 = .ok (.return_, 1) := by decide +kernel
theorem dX8_wipe_0 : decode cX8_wipe 0 = .ok (.aload_n 0, 1) := by decide +kernel
theorem dX8_wipe_1 : decode cX8_wipe 1 = .ok (.lload_n 1, 1) := by decide +kernel
theorem dX8_wipe_2 : decode cX8_wipe 2 = .ok (.lload_n 3, 1) := by decide +kernel
theorem dX8_wipe_3 : decode cX8_wipe 3 = .ok (.invokevirtual 151, 3) := by decide +kernel
theorem dX8_wipe_6 : decode cX8_wipe 6 = .ok (.astore 5, 2) := by decide +kernel
theorem dX8_wipe_8 : decode cX8_wipe 8 = .ok (.iconst 0, 1) := by decide +kernel
theorem dX8_wipe_9 : decode cX8_wipe 9 = .ok (.istore 6, 2) := by decide +kernel
theorem dX8_wipe_11 : decode cX8_wipe 11 = .ok (.iload 6, 2) := by decide +kernel
theorem dX8_wipe_13 : decode cX8_wipe 13 = .ok (.aload 5, 2) := by decide +kernel
theorem dX8_wipe_15 : decode cX8_wipe 15 = .ok (.invokevirtual 48, 3) := by decide +kernel
theorem dX8_wipe_18 : decode cX8_wipe 18 = .ok (.if_icmp .ge 35, 3) := by decide +kernel
theorem dX8_wipe_21 : decode cX8_wipe 21 = .ok (.aload_n 0, 1) := by decide +kernel
theorem dX8_wipe_22 : decode cX8_wipe 22 = .ok (.getfield 27, 3) := by decide +kernel
theorem dX8_wipe_25 : decode cX8_wipe 25 = .ok (.aconst_null, 1) := by decide +kernel
theorem dX8_wipe_26 : decode cX8_wipe 26 = .ok (.invokevirtual 85, 3) := by decide +kernel
theorem dX8_wipe_29 : decode cX8_wipe 29 = .ok (.aload_n 0, 1) := by decide +kernel
theorem dX8_wipe_30 : decode cX8_wipe 30 = .ok (.aload 5, 2) := by decide +kernel
theorem dX8_wipe_32 : decode cX8_wipe 32 = .ok (.iload 6, 2) := by decide +kernel
theorem dX8_wipe_34 : decode cX8_wipe 34 = .ok (.invokevirtual 52, 3) := by decide +kernel
theorem dX8_wipe_37 : decode cX8_wipe 37 = .ok (.checkcast 56, 3) := by decide +kernel
theorem dX8_wipe_40 : decode cX8_wipe 40 = .ok (.aload_n 0, 1) := by decide +kernel
theorem dX8_wipe_41 : decode cX8_wipe 41 = .ok (.getfield 27, 3) := by decide +kernel
theorem dX8_wipe_44 : decode cX8_wipe 44 = .ok (.invokevirtual 147, 3) := by decide +kernel
theorem dX8_wipe_47 : decode cX8_wipe 47 = .ok (.iinc 6 1, 3) := by decide +kernel
theorem dX8_wipe_50 : decode cX8_wipe 50 = .ok (.goto (-39), 3) := by decide +kernel
theorem dX8_wipe_53 : decode cX8_wipe 53 = .ok (.aload_n 0, 1) := by decide +kernel
theorem dX8_wipe_54 : decode cX8_wipe 54 = .ok (.getfield 18, 3) := by decide +kernel
theorem dX8_wipe_57 : decode cX8_wipe 57 = .ok (.invokevirtual 48, 3) := by decide +kernel
theorem dX8_wipe_60 : decode cX8_wipe 60 = .ok (.sipush 16384, 3) := by decide +kernel
theorem dX8_wipe_63 : decode cX8_wipe 63 = .ok (.if_icmp .ge 24, 3) := by decide +kernel
theorem dX8_wipe_66 : decode cX8_wipe 66 = .ok (.aload_n 0, 1) := by decide +kernel
theorem dX8_wipe_67 : decode cX8_wipe 67 = .ok (.getfield 18, 3) := by decide +kernel
theorem dX8_wipe_70 : decode cX8_wipe 70 = .ok (.new 155, 3) := by decide +kernel
theorem dX8_wipe_73 : decode cX8_wipe 73 = .ok (.dup, 1) := by decide +kernel
theorem dX8_wipe_74 : decode cX8_wipe 74 = .ok (.lload_n 1, 1) := by decide +kernel
theorem dX8_wipe_75 : decode cX8_wipe 75 = .ok (.lload_n 3, 1) := by decide +kernel
theorem dX8_wipe_76 : decode cX8_wipe 76 = .ok (.aload_n 0, 1) := by decide +kernel
theorem dX8_wipe_77 : decode cX8_wipe 77 = .ok (.getfield 39, 3) := by decide +kernel
theorem dX8_wipe_80 : decode cX8_wipe 80 = .ok (.invokespecial 157, 3) := by decide +kernel
theorem dX8_wipe_83 : decode cX8_wipe 83 = .ok (.invokevirtual 99, 3) := by decide +kernel
theorem dX8_wipe_86 : decode cX8_wipe 86 = .ok (.pop, 1) := by decide +kernel
theorem dX8_wipe_87 : decode cX8_wipe 87 = .ok (.return_, 1) := by decide +kernel
theorem dX8_write_0 : decode cX8_write 0 = .ok (.aload_n 1, 1) := by decide +kernel
theorem dX8_write_1 : decode cX8_write 1 = .ok (.getfield 140, 3) := by decide +kernel
theorem dX8_write_4 : decode cX8_write 4 = .ok (.astore_n 3, 1) := by decide +kernel
theorem dX8_write_5 : decode cX8_write 5 = .ok (.aload_n 3, 1) := by decide +kernel
theorem dX8_write_6 : decode cX8_write 6 = .ok (.ifnull 14, 3) := by decide +kernel
theorem dX8_write_9 : decode cX8_write 9 = .ok (.aload_n 3, 1) := by decide +kernel
theorem dX8_write_10 : decode cX8_write 10 = .ok (.getfield 160, 3) := by decide +kernel
theorem dX8_write_13 : decode cX8_write 13 = .ok (.aload_n 0, 1) := by decide +kernel
theorem dX8_write_14 : decode cX8_write 14 = .ok (.getfield 39, 3) := by decide +kernel
theorem dX8_write_17 : decode cX8_write 17 = .ok (.if_icmp .eq 54, 3) := by decide +kernel
theorem dX8_write_20 : decode cX8_write 20 = .ok (.aload_n 0, 1) := by decide +kernel
theorem dX8_write_21 : decode cX8_write 21 = .ok (.getfield 31, 3) := by decide +kernel
theorem dX8_write_24 : decode cX8_write 24 = .ok (.ldc 165, 2) := by decide +kernel
theorem dX8_write_26 : decode cX8_write 26 = .ok (.if_icmp .lt 4, 3) := by decide +kernel
theorem dX8_write_29 : decode cX8_write 29 = .ok (.return_, 1) := by decide +kernel
theorem dX8_write_30 : decode cX8_write 30 = .ok (.new 161, 3) := by decide +kernel
theorem dX8_write_33 : decode cX8_write 33 = .ok (.dup, 1) := by decide +kernel
theorem dX8_write_34 : decode cX8_write 34 = .ok (.aload_n 1, 1) := by decide +kernel
theorem dX8_write_35 : decode cX8_write 35 = .ok (.aload_n 0, 1) := by decide +kernel
theorem dX8_write_36 : decode cX8_write 36 = .ok (.getfield 39, 3) := by decide +kernel
theorem dX8_write_39 : decode cX8_write 39 = .ok (.aload_n 1, 1) := by decide +kernel
theorem dX8_write_40 : decode cX8_write 40 = .ok (.getfield 140, 3) := by decide +kernel
theorem dX8_write_43 : decode cX8_write 43 = .ok (.aload_n 0, 1) := by decide +kernel
theorem dX8_write_44 : decode cX8_write 44 = .ok (.getfield 35, 3) := by decide +kernel
theorem dX8_write_47 : decode cX8_write 47 = .ok (.invokespecial 166, 3) := by decide +kernel
theorem dX8_write_50 : decode cX8_write 50 = .ok (.astore_n 3, 1) := by decide +kernel
theorem dX8_write_51 : decode cX8_write 51 = .ok (.aload_n 1, 1) := by decide +kernel
theorem dX8_write_52 : decode cX8_write 52 = .ok (.aload_n 3, 1) := by decide +kernel
theorem dX8_write_53 : decode cX8_write 53 = .ok (.putfield 140, 3) := by decide +kernel
theorem dX8_write_56 : decode cX8_write 56 = .ok (.aload_n 0, 1) := by decide +kernel
theorem dX8_write_57 : decode cX8_write 57 = .ok (.aload_n 3, 1) := by decide +kernel
theorem dX8_write_58 : decode cX8_write 58 = .ok (.putfield 35, 3) := by decide +kernel
theorem dX8_write_61 : decode cX8_write 61 = .ok (.aload_n 0, 1) := by decide +kernel
theorem dX8_write_62 : decode cX8_write 62 = .ok (.dup, 1) := by decide +kernel
theorem dX8_write_63 : decode cX8_write 63 = .ok (.getfield 31, 3) := by decide +kernel
theorem dX8_write_66 : decode cX8_write 66 = .ok (.iconst 1, 1) := by decide +kernel
theorem dX8_write_67 : decode cX8_write 67 = .ok (.iadd, 1) := by decide +kernel
theorem dX8_write_68 : decode cX8_write 68 = .ok (.putfield 31, 3) := by decide +kernel
theorem dX8_write_71 : decode cX8_write 71 = .ok (.aload_n 3, 1) := by decide +kernel
theorem dX8_write_72 : decode cX8_write 72 = .ok (.aload_n 2, 1) := by decide +kernel
theorem dX8_write_73 : decode cX8_write 73 = .ok (.getfield 169, 3) := by decide +kernel
theorem dX8_write_76 : decode cX8_write 76 = .ok (.putfield 173, 3) := by decide +kernel
theorem dX8_write_79 : decode cX8_write 79 = .ok (.aload_n 3, 1) := by decide +kernel
theorem dX8_write_80 : decode cX8_write 80 = .ok (.aload_n 2, 1) := by decide +kernel
theorem dX8_write_81 : decode cX8_write 81 = .ok (.getfield 174, 3) := by decide +kernel
theorem dX8_write_84 : decode cX8_write 84 = .ok (.putfield 175, 3) := by decide +kernel
theorem dX8_write_87 : decode cX8_write 87 = .ok (.return_, 1) := by decide +kernel
theorem dX8_countDiffering_0 : decode cX8_countDiffering 0 = .ok (.iconst 0, 1) := by decide +kernel
theorem dX8_countDiffering_1 : decode cX8_countDiffering 1 = .ok (.istore_n 2, 1) := by decide +kernel
theorem dX8_countDiffering_2 : decode cX8_countDiffering 2 = .ok (.iconst 0, 1) := by decide +kernel
theorem dX8_countDiffering_3 : decode cX8_countDiffering 3 = .ok (.istore_n 3, 1) := by decide +kernel
theorem dX8_countDiffering_4 : decode cX8_countDiffering 4 = .ok (.iload_n 3, 1) := by decide +kernel
theorem dX8_countDiffering_5 : decode cX8_countDiffering 5 = .ok (.aload_n 0, 1) := by decide +kernel
theorem dX8_countDiffering_6 : decode cX8_countDiffering 6 = .ok (.getfield 12, 3) := by decide +kernel
theorem dX8_countDiffering_9 : decode cX8_countDiffering 9 = .ok (.invokevirtual 48, 3) := by decide +kernel
theorem dX8_countDiffering_12 : decode cX8_countDiffering 12 = .ok (.if_icmp .ge 42, 3) := by decide +kernel
theorem dX8_countDiffering_15 : decode cX8_countDiffering 15 = .ok (.aload_n 0, 1) := by decide +kernel
theorem dX8_countDiffering_16 : decode cX8_countDiffering 16 = .ok (.getfield 12, 3) := by decide +kernel
theorem dX8_countDiffering_19 : decode cX8_countDiffering 19 = .ok (.iload_n 3, 1) := by decide +kernel
theorem dX8_countDiffering_20 : decode cX8_countDiffering 20 = .ok (.invokevirtual 52, 3) := by decide +kernel
theorem dX8_countDiffering_23 : decode cX8_countDiffering 23 = .ok (.checkcast 56, 3) := by decide +kernel
theorem dX8_countDiffering_26 : decode cX8_countDiffering 26 = .ok (.astore 4, 2) := by decide +kernel
theorem dX8_countDiffering_28 : decode cX8_countDiffering 28 = .ok (.aload 4, 2) := by decide +kernel
theorem dX8_countDiffering_30 : decode cX8_countDiffering 30 = .ok (.getfield 140, 3) := by decide +kernel
theorem dX8_countDiffering_33 : decode cX8_countDiffering 33 = .ok (.aload 4, 2) := by decide +kernel
theorem dX8_countDiffering_35 : decode cX8_countDiffering 35 = .ok (.iload_n 1, 1) := by decide +kernel
theorem dX8_countDiffering_36 : decode cX8_countDiffering 36 = .ok (.invokevirtual 78, 3) := by decide +kernel
theorem dX8_countDiffering_39 : decode cX8_countDiffering 39 = .ok (.invokestatic 176, 3) := by decide +kernel
theorem dX8_countDiffering_42 : decode cX8_countDiffering 42 = .ok (.ifCond .ne 6, 3) := by decide +kernel
theorem dX8_countDiffering_45 : decode cX8_countDiffering 45 = .ok (.iinc 2 1, 3) := by decide +kernel
theorem dX8_countDiffering_48 : decode cX8_countDiffering 48 = .ok (.iinc 3 1, 3) := by decide +kernel
theorem dX8_countDiffering_51 : decode cX8_countDiffering 51 = .ok (.goto (-47), 3) := by decide +kernel
theorem dX8_countDiffering_54 : decode cX8_countDiffering 54 = .ok (.iload_n 2, 1) := by decide +kernel
theorem dX8_countDiffering_55 : decode cX8_countDiffering 55 = .ok (.ireturn, 1) := by decide +kernel
theorem dX8_restore_0 : decode cX8_restore 0 = .ok (.iconst 0, 1) := by decide +kernel
theorem dX8_restore_1 : decode cX8_restore 1 = .ok (.istore_n 2, 1) := by decide +kernel
theorem dX8_restore_2 : decode cX8_restore 2 = .ok (.iload_n 2, 1) := by decide +kernel
theorem dX8_restore_3 : decode cX8_restore 3 = .ok (.aload_n 0, 1) := by decide +kernel
theorem dX8_restore_4 : decode cX8_restore 4 = .ok (.getfield 12, 3) := by decide +kernel
theorem dX8_restore_7 : decode cX8_restore 7 = .ok (.invokevirtual 48, 3) := by decide +kernel
theorem dX8_restore_10 : decode cX8_restore 10 = .ok (.if_icmp .ge 58, 3) := by decide +kernel
theorem dX8_restore_13 : decode cX8_restore 13 = .ok (.aload_n 0, 1) := by decide +kernel
theorem dX8_restore_14 : decode cX8_restore 14 = .ok (.getfield 12, 3) := by decide +kernel
theorem dX8_restore_17 : decode cX8_restore 17 = .ok (.iload_n 2, 1) := by decide +kernel
theorem dX8_restore_18 : decode cX8_restore 18 = .ok (.invokevirtual 52, 3) := by decide +kernel
theorem dX8_restore_21 : decode cX8_restore 21 = .ok (.checkcast 56, 3) := by decide +kernel
theorem dX8_restore_24 : decode cX8_restore 24 = .ok (.astore_n 3, 1) := by decide +kernel
theorem dX8_restore_25 : decode cX8_restore 25 = .ok (.aload_n 3, 1) := by decide +kernel
theorem dX8_restore_26 : decode cX8_restore 26 = .ok (.iload_n 1, 1) := by decide +kernel
theorem dX8_restore_27 : decode cX8_restore 27 = .ok (.invokevirtual 78, 3) := by decide +kernel
theorem dX8_restore_30 : decode cX8_restore 30 = .ok (.astore 4, 2) := by decide +kernel
theorem dX8_restore_32 : decode cX8_restore 32 = .ok (.aload_n 3, 1) := by decide +kernel
theorem dX8_restore_33 : decode cX8_restore 33 = .ok (.getfield 140, 3) := by decide +kernel
theorem dX8_restore_36 : decode cX8_restore 36 = .ok (.aload 4, 2) := by decide +kernel
theorem dX8_restore_38 : decode cX8_restore 38 = .ok (.invokestatic 176, 3) := by decide +kernel
theorem dX8_restore_41 : decode cX8_restore 41 = .ok (.ifCond .ne 21, 3) := by decide +kernel
theorem dX8_restore_44 : decode cX8_restore 44 = .ok (.aload_n 0, 1) := by decide +kernel
theorem dX8_restore_45 : decode cX8_restore 45 = .ok (.getfield 27, 3) := by decide +kernel
theorem dX8_restore_48 : decode cX8_restore 48 = .ok (.aload 4, 2) := by decide +kernel
theorem dX8_restore_50 : decode cX8_restore 50 = .ok (.invokevirtual 85, 3) := by decide +kernel
theorem dX8_restore_53 : decode cX8_restore 53 = .ok (.aload_n 0, 1) := by decide +kernel
theorem dX8_restore_54 : decode cX8_restore 54 = .ok (.aload_n 3, 1) := by decide +kernel
theorem dX8_restore_55 : decode cX8_restore 55 = .ok (.aload_n 0, 1) := by decide +kernel
theorem dX8_restore_56 : decode cX8_restore 56 = .ok (.getfield 27, 3) := by decide +kernel
theorem dX8_restore_59 : decode cX8_restore 59 = .ok (.invokevirtual 147, 3) := by decide +kernel
theorem dX8_restore_62 : decode cX8_restore 62 = .ok (.iinc 2 1, 3) := by decide +kernel
theorem dX8_restore_65 : decode cX8_restore 65 = .ok (.goto (-63), 3) := by decide +kernel
theorem dX8_restore_68 : decode cX8_restore 68 = .ok (.return_, 1) := by decide +kernel
theorem dX9_init_0 : decode cX9_init 0 = .ok (.aload_n 0, 1) := by decide +kernel
theorem dX9_init_1 : decode cX9_init 1 = .ok (.invokespecial 3, 3) := by decide +kernel
theorem dX9_init_4 : decode cX9_init 4 = .ok (.aload_n 0, 1) := by decide +kernel
theorem dX9_init_5 : decode cX9_init 5 = .ok (.new 9, 3) := by decide +kernel
theorem dX9_init_8 : decode cX9_init 8 = .ok (.dup, 1) := by decide +kernel
theorem dX9_init_9 : decode cX9_init 9 = .ok (.invokespecial 11, 3) := by decide +kernel
theorem dX9_init_12 : decode cX9_init 12 = .ok (.putfield 12, 3) := by decide +kernel
theorem dX9_init_15 : decode cX9_init 15 = .ok (.aload_n 0, 1) := by decide +kernel
theorem dX9_init_16 : decode cX9_init 16 = .ok (.new 9, 3) := by decide +kernel
theorem dX9_init_19 : decode cX9_init 19 = .ok (.dup, 1) := by decide +kernel
theorem dX9_init_20 : decode cX9_init 20 = .ok (.invokespecial 11, 3) := by decide +kernel
theorem dX9_init_23 : decode cX9_init 23 = .ok (.putfield 18, 3) := by decide +kernel
theorem dX9_init_26 : decode cX9_init 26 = .ok (.aload_n 0, 1) := by decide +kernel
theorem dX9_init_27 : decode cX9_init 27 = .ok (.iconst 0, 1) := by decide +kernel
theorem dX9_init_28 : decode cX9_init 28 = .ok (.putfield 21, 3) := by decide +kernel
theorem dX9_init_31 : decode cX9_init 31 = .ok (.aload_n 0, 1) := by decide +kernel
theorem dX9_init_32 : decode cX9_init 32 = .ok (.iconst 0, 1) := by decide +kernel
theorem dX9_init_33 : decode cX9_init 33 = .ok (.putfield 25, 3) := by decide +kernel
theorem dX9_init_36 : decode cX9_init 36 = .ok (.aload_n 0, 1) := by decide +kernel
theorem dX9_init_37 : decode cX9_init 37 = .ok (.iconst 0, 1) := by decide +kernel
theorem dX9_init_38 : decode cX9_init 38 = .ok (.putfield 28, 3) := by decide +kernel
theorem dX9_init_41 : decode cX9_init 41 = .ok (.aload_n 0, 1) := by decide +kernel
theorem dX9_init_42 : decode cX9_init 42 = .ok (.iconst 0, 1) := by decide +kernel
theorem dX9_init_43 : decode cX9_init 43 = .ok (.putfield 32, 3) := by decide +kernel
theorem dX9_init_46 : decode cX9_init 46 = .ok (.aload_n 0, 1) := by decide +kernel
theorem dX9_init_47 : decode cX9_init 47 = .ok (.ldc 35, 2) := by decide +kernel
theorem dX9_init_49 : decode cX9_init 49 = .ok (.putfield 36, 3) := by decide +kernel
theorem dX9_init_52 : decode cX9_init 52 = .ok (.aload_n 0, 1) := by decide +kernel
theorem dX9_init_53 : decode cX9_init 53 = .ok (.iconst 0, 1) := by decide +kernel
theorem dX9_init_54 : decode cX9_init 54 = .ok (.putfield 39, 3) := by decide +kernel
theorem dX9_init_57 : decode cX9_init 57 = .ok (.return_, 1) := by decide +kernel
theorem dX9_start_0 : decode cX9_start 0 = .ok (.aload_n 0, 1) := by decide +kernel
theorem dX9_start_1 : decode cX9_start 1 = .ok (.getfield 12, 3) := by decide +kernel
theorem dX9_start_4 : decode cX9_start 4 = .ok (.invokevirtual 42, 3) := by decide +kernel
theorem dX9_start_7 : decode cX9_start 7 = .ok (.aload_n 0, 1) := by decide +kernel
theorem dX9_start_8 : decode cX9_start 8 = .ok (.getfield 18, 3) := by decide +kernel
theorem dX9_start_11 : decode cX9_start 11 = .ok (.invokevirtual 42, 3) := by decide +kernel
theorem dX9_start_14 : decode cX9_start 14 = .ok (.aload_n 0, 1) := by decide +kernel
theorem dX9_start_15 : decode cX9_start 15 = .ok (.iconst 1, 1) := by decide +kernel
theorem dX9_start_16 : decode cX9_start 16 = .ok (.putfield 21, 3) := by decide +kernel
theorem dX9_start_19 : decode cX9_start 19 = .ok (.aload_n 0, 1) := by decide +kernel
theorem dX9_start_20 : decode cX9_start 20 = .ok (.iload_n 3, 1) := by decide +kernel
theorem dX9_start_21 : decode cX9_start 21 = .ok (.putfield 25, 3) := by decide +kernel
theorem dX9_start_24 : decode cX9_start 24 = .ok (.aload_n 0, 1) := by decide +kernel
theorem dX9_start_25 : decode cX9_start 25 = .ok (.iload_n 1, 1) := by decide +kernel
theorem dX9_start_26 : decode cX9_start 26 = .ok (.putfield 28, 3) := by decide +kernel
theorem dX9_start_29 : decode cX9_start 29 = .ok (.aload_n 0, 1) := by decide +kernel
theorem dX9_start_30 : decode cX9_start 30 = .ok (.iload_n 2, 1) := by decide +kernel
theorem dX9_start_31 : decode cX9_start 31 = .ok (.putfield 32, 3) := by decide +kernel
theorem dX9_start_34 : decode cX9_start 34 = .ok (.aload_n 0, 1) := by decide +kernel
theorem dX9_start_35 : decode cX9_start 35 = .ok (.ldc 35, 2) := by decide +kernel
theorem dX9_start_37 : decode cX9_start 37 = .ok (.putfield 36, 3) := by decide +kernel
theorem dX9_start_40 : decode cX9_start 40 = .ok (.aload_n 0, 1) := by decide +kernel
theorem dX9_start_41 : decode cX9_start 41 = .ok (.iconst 0, 1) := by decide +kernel
theorem dX9_start_42 : decode cX9_start 42 = .ok (.putfield 39, 3) := by decide +kernel
theorem dX9_start_45 : decode cX9_start 45 = .ok (.return_, 1) := by decide +kernel
theorem dX9_keepKey_0 : decode cX9_keepKey 0 = .ok (.aload_n 0, 1) := by decide +kernel
theorem dX9_keepKey_1 : decode cX9_keepKey 1 = .ok (.getfield 12, 3) := by decide +kernel
theorem dX9_keepKey_4 : decode cX9_keepKey 4 = .ok (.new 45, 3) := by decide +kernel
theorem dX9_keepKey_7 : decode cX9_keepKey 7 = .ok (.dup, 1) := by decide +kernel
theorem dX9_keepKey_8 : decode cX9_keepKey 8 = .ok (.iload_n 1, 1) := by decide +kernel
theorem dX9_keepKey_9 : decode cX9_keepKey 9 = .ok (.lload_n 2, 1) := by decide +kernel
theorem dX9_keepKey_10 : decode cX9_keepKey 10 = .ok (.lload_n 2, 1) := by decide +kernel
theorem dX9_keepKey_11 : decode cX9_keepKey 11 = .ok (.lconst 1, 1) := by decide +kernel
theorem dX9_keepKey_12 : decode cX9_keepKey 12 = .ok (.ladd, 1) := by decide +kernel
theorem dX9_keepKey_13 : decode cX9_keepKey 13 = .ok (.iload 4, 2) := by decide +kernel
theorem dX9_keepKey_15 : decode cX9_keepKey 15 = .ok (.iconst 0, 1) := by decide +kernel
theorem dX9_keepKey_16 : decode cX9_keepKey 16 = .ok (.invokespecial 47, 3) := by decide +kernel
theorem dX9_keepKey_19 : decode cX9_keepKey 19 = .ok (.invokevirtual 50, 3) := by decide +kernel
theorem dX9_keepKey_22 : decode cX9_keepKey 22 = .ok (.pop, 1) := by decide +kernel
theorem dX9_keepKey_23 : decode cX9_keepKey 23 = .ok (.aload_n 0, 1) := by decide +kernel
theorem dX9_keepKey_24 : decode cX9_keepKey 24 = .ok (.dup, 1) := by decide +kernel
theorem dX9_keepKey_25 : decode cX9_keepKey 25 = .ok (.getfield 39, 3) := by decide +kernel
theorem dX9_keepKey_28 : decode cX9_keepKey 28 = .ok (.iconst 1, 1) := by decide +kernel
theorem dX9_keepKey_29 : decode cX9_keepKey 29 = .ok (.iadd, 1) := by decide +kernel
theorem dX9_keepKey_30 : decode cX9_keepKey 30 = .ok (.putfield 39, 3) := by decide +kernel
theorem dX9_keepKey_33 : decode cX9_keepKey 33 = .ok (.return_, 1) := by decide +kernel
theorem dX9_keepRange_0 : decode cX9_keepRange 0 = .ok (.aload_n 0, 1) := by decide +kernel
theorem dX9_keepRange_1 : decode cX9_keepRange 1 = .ok (.getfield 12, 3) := by decide +kernel
theorem dX9_keepRange_4 : decode cX9_keepRange 4 = .ok (.new 45, 3) := by decide +kernel
theorem dX9_keepRange_7 : decode cX9_keepRange 7 = .ok (.dup, 1) := by decide +kernel
theorem dX9_keepRange_8 : decode cX9_keepRange 8 = .ok (.iconst 1, 1) := by decide +kernel
theorem dX9_keepRange_9 : decode cX9_keepRange 9 = .ok (.lload_n 1, 1) := by decide +kernel
theorem dX9_keepRange_10 : decode cX9_keepRange 10 = .ok (.lload_n 3, 1) := by decide +kernel
theorem dX9_keepRange_11 : decode cX9_keepRange 11 = .ok (.iconst 0, 1) := by decide +kernel
theorem dX9_keepRange_12 : decode cX9_keepRange 12 = .ok (.iconst 0, 1) := by decide +kernel
theorem dX9_keepRange_13 : decode cX9_keepRange 13 = .ok (.invokespecial 47, 3) := by decide +kernel
theorem dX9_keepRange_16 : decode cX9_keepRange 16 = .ok (.invokevirtual 50, 3) := by decide +kernel
theorem dX9_keepRange_19 : decode cX9_keepRange 19 = .ok (.pop, 1) := by decide +kernel
theorem dX9_keepRange_20 : decode cX9_keepRange 20 = .ok (.aload_n 0, 1) := by decide +kernel
theorem dX9_keepRange_21 : decode cX9_keepRange 21 = .ok (.dup, 1) := by decide +kernel
theorem dX9_keepRange_22 : decode cX9_keepRange 22 = .ok (.getfield 39, 3) := by decide +kernel
theorem dX9_keepRange_25 : decode cX9_keepRange 25 = .ok (.iconst 1, 1) := by decide +kernel
theorem dX9_keepRange_26 : decode cX9_keepRange 26 = .ok (.iadd, 1) := by decide +kernel
theorem dX9_keepRange_27 : decode cX9_keepRange 27 = .ok (.putfield 39, 3) := by decide +kernel
theorem dX9_keepRange_30 : decode cX9_keepRange 30 = .ok (.return_, 1) := by decide +kernel
theorem dX9_keepStamped_0 : decode cX9_keepStamped 0 = .ok (.aload_n 0, 1) := by decide +kernel
theorem dX9_keepStamped_1 : decode cX9_keepStamped 1 = .ok (.getfield 12, 3) := by decide +kernel
theorem dX9_keepStamped_4 : decode cX9_keepStamped 4 = .ok (.new 45, 3) := by decide +kernel
theorem dX9_keepStamped_7 : decode cX9_keepStamped 7 = .ok (.dup, 1) := by decide +kernel
theorem dX9_keepStamped_8 : decode cX9_keepStamped 8 = .ok (.bipush 6, 2) := by decide +kernel
theorem dX9_keepStamped_10 : decode cX9_keepStamped 10 = .ok (.lload_n 1, 1) := by decide +kernel
theorem dX9_keepStamped_11 : decode cX9_keepStamped 11 = .ok (.lload_n 1, 1) := by decide +kernel
theorem dX9_keepStamped_12 : decode cX9_keepStamped 12 = .ok (.lconst 1, 1) := by decide +kernel
theorem dX9_keepStamped_13 : decode cX9_keepStamped 13 = .ok (.ladd, 1) := by decide +kernel
theorem dX9_keepStamped_14 : decode cX9_keepStamped 14 = .ok (.iload 4, 2) := by decide +kernel
theorem dX9_keepStamped_16 : decode cX9_keepStamped 16 = .ok (.iload_n 3, 1) := by decide +kernel
theorem dX9_keepStamped_17 : decode cX9_keepStamped 17 = .ok (.invokespecial 47, 3) := by decide +kernel
theorem dX9_keepStamped_20 : decode cX9_keepStamped 20 = .ok (.invokevirtual 50, 3) := by decide +kernel
theorem dX9_keepStamped_23 : decode cX9_keepStamped 23 = .ok (.pop, 1) := by decide +kernel
theorem dX9_keepStamped_24 : decode cX9_keepStamped 24 = .ok (.aload_n 0, 1) := by decide +kernel
theorem dX9_keepStamped_25 : decode cX9_keepStamped 25 = .ok (.dup, 1) := by decide +kernel
theorem dX9_keepStamped_26 : decode cX9_keepStamped 26 = .ok (.getfield 39, 3) := by decide +kernel
theorem dX9_keepStamped_29 : decode cX9_keepStamped 29 = .ok (.iconst 1, 1) := by decide +kernel
theorem dX9_keepStamped_30 : decode cX9_keepStamped 30 = .ok (.iadd, 1) := by decide +kernel
theorem dX9_keepStamped_31 : decode cX9_keepStamped 31 = .ok (.putfield 39, 3) := by decide +kernel
theorem dX9_keepStamped_34 : decode cX9_keepStamped 34 = .ok (.return_, 1) := by decide +kernel
theorem dX9_forgetStamped_0 : decode cX9_forgetStamped 0 = .ok (.iconst 0, 1) := by decide +kernel
theorem dX9_forgetStamped_1 : decode cX9_forgetStamped 1 = .ok (.istore_n 3, 1) := by decide +kernel
theorem dX9_forgetStamped_2 : decode cX9_forgetStamped 2 = .ok (.iload_n 3, 1) := by decide +kernel
theorem dX9_forgetStamped_3 : decode cX9_forgetStamped 3 = .ok (.aload_n 0, 1) := by decide +kernel
theorem dX9_forgetStamped_4 : decode cX9_forgetStamped 4 = .ok (.getfield 12, 3) := by decide +kernel
theorem dX9_forgetStamped_7 : decode cX9_forgetStamped 7 = .ok (.invokevirtual 54, 3) := by decide +kernel
theorem dX9_forgetStamped_10 : decode cX9_forgetStamped 10 = .ok (.if_icmp .ge 59, 3) := by decide +kernel
theorem dX9_forgetStamped_13 : decode cX9_forgetStamped 13 = .ok (.aload_n 0, 1) := by decide +kernel
theorem dX9_forgetStamped_14 : decode cX9_forgetStamped 14 = .ok (.getfield 12, 3) := by decide +kernel
theorem dX9_forgetStamped_17 : decode cX9_forgetStamped 17 = .ok (.iload_n 3, 1) := by decide +kernel
theorem dX9_forgetStamped_18 : decode cX9_forgetStamped 18 = .ok (.invokevirtual 58, 3) := by decide +kernel
theorem dX9_forgetStamped_21 : decode cX9_forgetStamped 21 = .ok (.checkcast 45, 3) := by decide +kernel
theorem dX9_forgetStamped_24 : decode cX9_forgetStamped 24 = .ok (.astore 4, 2) := by decide +kernel
theorem dX9_forgetStamped_26 : decode cX9_forgetStamped 26 = .ok (.aload 4, 2) := by decide +kernel
theorem dX9_forgetStamped_28 : decode cX9_forgetStamped 28 = .ok (.getfield 62, 3) := by decide +kernel
theorem dX9_forgetStamped_31 : decode cX9_forgetStamped 31 = .ok (.bipush 6, 2) := by decide +kernel
theorem dX9_forgetStamped_33 : decode cX9_forgetStamped 33 = .ok (.if_icmp .ne 30, 3) := by decide +kernel
theorem dX9_forgetStamped_36 : decode cX9_forgetStamped 36 = .ok (.aload 4, 2) := by decide +kernel
theorem dX9_forgetStamped_38 : decode cX9_forgetStamped 38 = .ok (.getfield 65, 3) := by decide +kernel
theorem dX9_forgetStamped_41 : decode cX9_forgetStamped 41 = .ok (.lload_n 1, 1) := by decide +kernel
theorem dX9_forgetStamped_42 : decode cX9_forgetStamped 42 = .ok (.lcmp, 1) := by decide +kernel
theorem dX9_forgetStamped_43 : decode cX9_forgetStamped 43 = .ok (.ifCond .ne 20, 3) := by decide +kernel
theorem dX9_forgetStamped_46 : decode cX9_forgetStamped 46 = .ok (.aload 4, 2) := by decide +kernel
theorem dX9_forgetStamped_48 : decode cX9_forgetStamped 48 = .ok (.bipush 7, 2) := by decide +kernel
theorem dX9_forgetStamped_50 : decode cX9_forgetStamped 50 = .ok (.putfield 62, 3) := by decide +kernel
theorem dX9_forgetStamped_53 : decode cX9_forgetStamped 53 = .ok (.aload_n 0, 1) := by decide +kernel
theorem dX9_forgetStamped_54 : decode cX9_forgetStamped 54 = .ok (.dup, 1) := by decide +kernel
theorem dX9_forgetStamped_55 : decode cX9_forgetStamped 55 = .ok (.getfield 39, 3) := by decide +kernel
theorem dX9_forgetStamped_58 : decode cX9_forgetStamped 58 = .ok (.iconst 1, 1) := by decide +kernel
theorem dX9_forgetStamped_59 : decode cX9_forgetStamped 59 = .ok (.isub, 1) := by decide +kernel
theorem dX9_forgetStamped_60 : decode cX9_forgetStamped 60 = .ok (.putfield 39, 3) := by decide +kernel
theorem dX9_forgetStamped_63 : decode cX9_forgetStamped 63 = .ok (.iinc 3 1, 3) := by decide +kernel
theorem dX9_forgetStamped_66 : decode cX9_forgetStamped 66 = .ok (.goto (-64), 3) := by decide +kernel
theorem dX9_forgetStamped_69 : decode cX9_forgetStamped 69 = .ok (.return_, 1) := by decide +kernel
theorem dX9_look_0 : decode cX9_look 0 = .ok (.aload_n 1, 1) := by decide +kernel
theorem dX9_look_1 : decode cX9_look 1 = .ok (.aload 4, 2) := by decide +kernel
theorem dX9_look_3 : decode cX9_look 3 = .ok (.invokevirtual 69, 3) := by decide +kernel
theorem dX9_look_6 : decode cX9_look 6 = .ok (.iconst 0, 1) := by decide +kernel
theorem dX9_look_7 : decode cX9_look 7 = .ok (.istore 5, 2) := by decide +kernel
theorem dX9_look_9 : decode cX9_look 9 = .ok (.iload 5, 2) := by decide +kernel
theorem dX9_look_11 : decode cX9_look 11 = .ok (.aload_n 0, 1) := by decide +kernel
theorem dX9_look_12 : decode cX9_look 12 = .ok (.getfield 12, 3) := by decide +kernel
theorem dX9_look_15 : decode cX9_look 15 = .ok (.invokevirtual 54, 3) := by decide +kernel
theorem dX9_look_18 : decode cX9_look 18 = .ok (.if_icmp .ge 47, 3) := by decide +kernel
theorem dX9_look_21 : decode cX9_look 21 = .ok (.aload_n 0, 1) := by decide +kernel
theorem dX9_look_22 : decode cX9_look 22 = .ok (.getfield 12, 3) := by decide +kernel
theorem dX9_look_25 : decode cX9_look 25 = .ok (.iload 5, 2) := by decide +kernel
theorem dX9_look_27 : decode cX9_look 27 = .ok (.invokevirtual 58, 3) := by decide +kernel
theorem dX9_look_30 : decode cX9_look 30 = .ok (.checkcast 45, 3) := by decide +kernel
theorem dX9_look_33 : decode cX9_look 33 = .ok (.astore 6, 2) := by decide +kernel
theorem dX9_look_35 : decode cX9_look 35 = .ok (.aload 6, 2) := by decide +kernel
theorem dX9_look_37 : decode cX9_look 37 = .ok (.lload_n 2, 1) := by decide +kernel
theorem dX9_look_38 : decode cX9_look 38 = .ok (.invokevirtual 75, 3) := by decide +kernel
theorem dX9_look_41 : decode cX9_look 41 = .ok (.ifCond .eq 18, 3) := by decide +kernel
theorem dX9_look_44 : decode cX9_look 44 = .ok (.aload_n 1, 1) := by decide +kernel
theorem dX9_look_45 : decode cX9_look 45 = .ok (.aload 6, 2) := by decide +kernel
theorem dX9_look_47 : decode cX9_look 47 = .ok (.getfield 62, 3) := by decide +kernel
theorem dX9_look_50 : decode cX9_look 50 = .ok (.aload 6, 2) := by decide +kernel
theorem dX9_look_52 : decode cX9_look 52 = .ok (.getfield 79, 3) := by decide +kernel
theorem dX9_look_55 : decode cX9_look 55 = .ok (.iconst 0, 1) := by decide +kernel
theorem dX9_look_56 : decode cX9_look 56 = .ok (.invokevirtual 82, 3) := by decide +kernel
theorem dX9_look_59 : decode cX9_look 59 = .ok (.iinc 5 1, 3) := by decide +kernel
theorem dX9_look_62 : decode cX9_look 62 = .ok (.goto (-53), 3) := by decide +kernel
theorem dX9_look_65 : decode cX9_look 65 = .ok (.return_, 1) := by decide +kernel
theorem dX9_owns_0 : decode cX9_owns 0 = .ok (.iconst 0, 1) := by decide +kernel
theorem dX9_owns_1 : decode cX9_owns 1 = .ok (.istore 6, 2) := by decide +kernel
theorem dX9_owns_3 : decode cX9_owns 3 = .ok (.iload 6, 2) := by decide +kernel
theorem dX9_owns_5 : decode cX9_owns 5 = .ok (.aload_n 0, 1) := by decide +kernel
theorem dX9_owns_6 : decode cX9_owns 6 = .ok (.getfield 12, 3) := by decide +kernel
theorem dX9_owns_9 : decode cX9_owns 9 = .ok (.invokevirtual 54, 3) := by decide +kernel
theorem dX9_owns_12 : decode cX9_owns 12 = .ok (.if_icmp .ge 60, 3) := by decide +kernel
theorem dX9_owns_15 : decode cX9_owns 15 = .ok (.iload 6, 2) := by decide +kernel
theorem dX9_owns_17 : decode cX9_owns 17 = .ok (.iload 5, 2) := by decide +kernel
theorem dX9_owns_19 : decode cX9_owns 19 = .ok (.if_icmp .ge 53, 3) := by decide +kernel
theorem dX9_owns_22 : decode cX9_owns 22 = .ok (.aload_n 0, 1) := by decide +kernel
theorem dX9_owns_23 : decode cX9_owns 23 = .ok (.getfield 12, 3) := by decide +kernel
theorem dX9_owns_26 : decode cX9_owns 26 = .ok (.iload 6, 2) := by decide +kernel
theorem dX9_owns_28 : decode cX9_owns 28 = .ok (.invokevirtual 58, 3) := by decide +kernel
theorem dX9_owns_31 : decode cX9_owns 31 = .ok (.checkcast 45, 3) := by decide +kernel
theorem dX9_owns_34 : decode cX9_owns 34 = .ok (.astore 7, 2) := by decide +kernel
theorem dX9_owns_36 : decode cX9_owns 36 = .ok (.aload 7, 2) := by decide +kernel
theorem dX9_owns_38 : decode cX9_owns 38 = .ok (.invokevirtual 86, 3) := by decide +kernel
theorem dX9_owns_41 : decode cX9_owns 41 = .ok (.ifCond .eq 25, 3) := by decide +kernel
theorem dX9_owns_44 : decode cX9_owns 44 = .ok (.aload 7, 2) := by decide +kernel
theorem dX9_owns_46 : decode cX9_owns 46 = .ok (.getfield 65, 3) := by decide +kernel
theorem dX9_owns_49 : decode cX9_owns 49 = .ok (.lload_n 1, 1) := by decide +kernel
theorem dX9_owns_50 : decode cX9_owns 50 = .ok (.lcmp, 1) := by decide +kernel
theorem dX9_owns_51 : decode cX9_owns 51 = .ok (.ifCond .gt 15, 3) := by decide +kernel
theorem dX9_owns_54 : decode cX9_owns 54 = .ok (.lload_n 3, 1) := by decide +kernel
theorem dX9_owns_55 : decode cX9_owns 55 = .ok (.aload 7, 2) := by decide +kernel
theorem dX9_owns_57 : decode cX9_owns 57 = .ok (.getfield 90, 3) := by decide +kernel
theorem dX9_owns_60 : decode cX9_owns 60 = .ok (.lcmp, 1) := by decide +kernel
theorem dX9_owns_61 : decode cX9_owns 61 = .ok (.ifCond .gt 5, 3) := by decide +kernel
theorem dX9_owns_64 : decode cX9_owns 64 = .ok (.iconst 1, 1) := by decide +kernel
theorem dX9_owns_65 : decode cX9_owns 65 = .ok (.ireturn, 1) := by decide +kernel
theorem dX9_owns_66 : decode cX9_owns 66 = .ok (.iinc 6 1, 3) := by decide +kernel
theorem dX9_owns_69 : decode cX9_owns 69 = .ok (.goto (-66), 3) := by decide +kernel
theorem dX9_owns_72 : decode cX9_owns 72 = .ok (.iconst 0, 1) := by decide +kernel
theorem dX9_owns_73 : decode cX9_owns 73 = .ok (.ireturn, 1) := by decide +kernel
theorem dX9_putDown_0 : decode cX9_putDown 0 = .ok (.aload_n 0, 1) := by decide +kernel
theorem dX9_putDown_1 : decode cX9_putDown 1 = .ok (.getfield 18, 3) := by decide +kernel
theorem dX9_putDown_4 : decode cX9_putDown 4 = .ok (.invokevirtual 54, 3) := by decide +kernel
theorem dX9_putDown_7 : decode cX9_putDown 7 = .ok (.sipush 16384, 3) := by decide +kernel
theorem dX9_putDown_10 : decode cX9_putDown 10 = .ok (.if_icmp .ge 27, 3) := by decide +kernel
theorem dX9_putDown_13 : decode cX9_putDown 13 = .ok (.aload_n 0, 1) := by decide +kernel
theorem dX9_putDown_14 : decode cX9_putDown 14 = .ok (.getfield 18, 3) := by decide +kernel
theorem dX9_putDown_17 : decode cX9_putDown 17 = .ok (.new 93, 3) := by decide +kernel
theorem dX9_putDown_20 : decode cX9_putDown 20 = .ok (.dup, 1) := by decide +kernel
theorem dX9_putDown_21 : decode cX9_putDown 21 = .ok (.lload_n 1, 1) := by decide +kernel
theorem dX9_putDown_22 : decode cX9_putDown 22 = .ok (.lload_n 3, 1) := by decide +kernel
theorem dX9_putDown_23 : decode cX9_putDown 23 = .ok (.aload_n 0, 1) := by decide +kernel
theorem dX9_putDown_24 : decode cX9_putDown 24 = .ok (.getfield 12, 3) := by decide +kernel
theorem dX9_putDown_27 : decode cX9_putDown 27 = .ok (.invokevirtual 54, 3) := by decide +kernel
theorem dX9_putDown_30 : decode cX9_putDown 30 = .ok (.invokespecial 95, 3) := by decide +kernel
theorem dX9_putDown_33 : decode cX9_putDown 33 = .ok (.invokevirtual 50, 3) := by decide +kernel
theorem dX9_putDown_36 : decode cX9_putDown 36 = .ok (.pop, 1) := by decide +kernel
theorem dX9_putDown_37 : decode cX9_putDown 37 = .ok (.return_, 1) := by decide +kernel
theorem dX9_putDownKey_0 : decode cX9_putDownKey 0 = .ok (.aload_n 0, 1) := by decide +kernel
theorem dX9_putDownKey_1 : decode cX9_putDownKey 1 = .ok (.lload_n 1, 1) := by decide +kernel
theorem dX9_putDownKey_2 : decode cX9_putDownKey 2 = .ok (.lload_n 1, 1) := by decide +kernel
theorem dX9_putDownKey_3 : decode cX9_putDownKey 3 = .ok (.lconst 1, 1) := by decide +kernel
theorem dX9_putDownKey_4 : decode cX9_putDownKey 4 = .ok (.ladd, 1) := by decide +kernel
theorem dX9_putDownKey_5 : decode cX9_putDownKey 5 = .ok (.aload_n 0, 1) := by decide +kernel
theorem dX9_putDownKey_6 : decode cX9_putDownKey 6 = .ok (.getfield 12, 3) := by decide +kernel
theorem dX9_putDownKey_9 : decode cX9_putDownKey 9 = .ok (.invokevirtual 54, 3) := by decide +kernel
theorem dX9_putDownKey_12 : decode cX9_putDownKey 12 = .ok (.invokevirtual 98, 3) := by decide +kernel
theorem dX9_putDownKey_15 : decode cX9_putDownKey 15 = .ok (.ifCond .ne 11, 3) := by decide +kernel
theorem dX9_putDownKey_18 : decode cX9_putDownKey 18 = .ok (.aload_n 0, 1) := by decide +kernel
theorem dX9_putDownKey_19 : decode cX9_putDownKey 19 = .ok (.lload_n 1, 1) := by decide +kernel
theorem dX9_putDownKey_20 : decode cX9_putDownKey 20 = .ok (.lload_n 1, 1) := by decide +kernel
theorem dX9_putDownKey_21 : decode cX9_putDownKey 21 = .ok (.lconst 1, 1) := by decide +kernel
theorem dX9_putDownKey_22 : decode cX9_putDownKey 22 = .ok (.ladd, 1) := by decide +kernel
theorem dX9_putDownKey_23 : decode cX9_putDownKey 23 = .ok (.invokevirtual 102, 3) := by decide +kernel
theorem dX9_putDownKey_26 : decode cX9_putDownKey 26 = .ok (.return_, 1) := by decide +kernel
theorem dX10_init_0 : decode cX10_init 0 = .ok (.aload_n 0, 1) := by decide +kernel
theorem dX10_init_1 : decode cX10_init 1 = .ok (.invokespecial 3, 3) := by decide +kernel
theorem dX10_init_4 : decode cX10_init 4 = .ok (.aload_n 0, 1) := by decide +kernel
theorem dX10_init_5 : decode cX10_init 5 = .ok (.ldc 9, 2) := by decide +kernel
theorem dX10_init_7 : decode cX10_init 7 = .ok (.putfield 10, 3) := by decide +kernel
theorem dX10_init_10 : decode cX10_init 10 = .ok (.aload_n 0, 1) := by decide +kernel
theorem dX10_init_11 : decode cX10_init 11 = .ok (.aload_n 1, 1) := by decide +kernel
theorem dX10_init_12 : decode cX10_init 12 = .ok (.putfield 16, 3) := by decide +kernel
theorem dX10_init_15 : decode cX10_init 15 = .ok (.return_, 1) := by decide +kernel
theorem dX11_init_0 : decode cX11_init 0 = .ok (.aload_n 0, 1) := by decide +kernel
theorem dX11_init_1 : decode cX11_init 1 = .ok (.invokespecial 5, 3) := by decide +kernel
theorem dX11_init_4 : decode cX11_init 4 = .ok (.aload_n 0, 1) := by decide +kernel
theorem dX11_init_5 : decode cX11_init 5 = .ok (.new 11, 3) := by decide +kernel
theorem dX11_init_8 : decode cX11_init 8 = .ok (.dup, 1) := by decide +kernel
theorem dX11_init_9 : decode cX11_init 9 = .ok (.invokespecial 13, 3) := by decide +kernel
theorem dX11_init_12 : decode cX11_init 12 = .ok (.putfield 14, 3) := by decide +kernel
theorem dX11_init_15 : decode cX11_init 15 = .ok (.aload_n 0, 1) := by decide +kernel
theorem dX11_init_16 : decode cX11_init 16 = .ok (.new 18, 3) := by decide +kernel
theorem dX11_init_19 : decode cX11_init 19 = .ok (.dup, 1) := by decide +kernel
theorem dX11_init_20 : decode cX11_init 20 = .ok (.invokespecial 20, 3) := by decide +kernel
theorem dX11_init_23 : decode cX11_init 23 = .ok (.putfield 21, 3) := by decide +kernel
theorem dX11_init_26 : decode cX11_init 26 = .ok (.aload_n 0, 1) := by decide +kernel
theorem dX11_init_27 : decode cX11_init 27 = .ok (.new 25, 3) := by decide +kernel
theorem dX11_init_30 : decode cX11_init 30 = .ok (.dup, 1) := by decide +kernel
theorem dX11_init_31 : decode cX11_init 31 = .ok (.invokespecial 27, 3) := by decide +kernel
theorem dX11_init_34 : decode cX11_init 34 = .ok (.putfield 28, 3) := by decide +kernel
theorem dX11_init_37 : decode cX11_init 37 = .ok (.aload_n 0, 1) := by decide +kernel
theorem dX11_init_38 : decode cX11_init 38 = .ok (.new 32, 3) := by decide +kernel
theorem dX11_init_41 : decode cX11_init 41 = .ok (.dup, 1) := by decide +kernel
theorem dX11_init_42 : decode cX11_init 42 = .ok (.invokespecial 34, 3) := by decide +kernel
theorem dX11_init_45 : decode cX11_init 45 = .ok (.putfield 35, 3) := by decide +kernel
theorem dX11_init_48 : decode cX11_init 48 = .ok (.aload_n 0, 1) := by decide +kernel
theorem dX11_init_49 : decode cX11_init 49 = .ok (.new 32, 3) := by decide +kernel
theorem dX11_init_52 : decode cX11_init 52 = .ok (.dup, 1) := by decide +kernel
theorem dX11_init_53 : decode cX11_init 53 = .ok (.invokespecial 34, 3) := by decide +kernel
theorem dX11_init_56 : decode cX11_init 56 = .ok (.putfield 39, 3) := by decide +kernel
theorem dX11_init_59 : decode cX11_init 59 = .ok (.aload_n 0, 1) := by decide +kernel
theorem dX11_init_60 : decode cX11_init 60 = .ok (.new 32, 3) := by decide +kernel
theorem dX11_init_63 : decode cX11_init 63 = .ok (.dup, 1) := by decide +kernel
theorem dX11_init_64 : decode cX11_init 64 = .ok (.invokespecial 34, 3) := by decide +kernel
theorem dX11_init_67 : decode cX11_init 67 = .ok (.putfield 42, 3) := by decide +kernel
theorem dX11_init_70 : decode cX11_init 70 = .ok (.aload_n 0, 1) := by decide +kernel
theorem dX11_init_71 : decode cX11_init 71 = .ok (.new 32, 3) := by decide +kernel
theorem dX11_init_74 : decode cX11_init 74 = .ok (.dup, 1) := by decide +kernel
theorem dX11_init_75 : decode cX11_init 75 = .ok (.invokespecial 34, 3) := by decide +kernel
theorem dX11_init_78 : decode cX11_init 78 = .ok (.putfield 45, 3) := by decide +kernel
theorem dX11_init_81 : decode cX11_init 81 = .ok (.aload_n 0, 1) := by decide +kernel
theorem dX11_init_82 : decode cX11_init 82 = .ok (.bipush 10, 2) := by decide +kernel
theorem dX11_init_84 : decode cX11_init 84 = .ok (.newarray .int, 2) := by decide +kernel
theorem dX11_init_86 : decode cX11_init 86 = .ok (.putfield 48, 3) := by decide +kernel
theorem dX11_init_89 : decode cX11_init 89 = .ok (.aload_n 0, 1) := by decide +kernel
theorem dX11_init_90 : decode cX11_init 90 = .ok (.iconst 0, 1) := by decide +kernel
theorem dX11_init_91 : decode cX11_init 91 = .ok (.putfield 52, 3) := by decide +kernel
theorem dX11_init_94 : decode cX11_init 94 = .ok (.aload_n 0, 1) := by decide +kernel
theorem dX11_init_95 : decode cX11_init 95 = .ok (.iconst 0, 1) := by decide +kernel
theorem dX11_init_96 : decode cX11_init 96 = .ok (.putfield 56, 3) := by decide +kernel
theorem dX11_init_99 : decode cX11_init 99 = .ok (.aload_n 0, 1) := by decide +kernel
theorem dX11_init_100 : decode cX11_init 100 = .ok (.iconst 0, 1) := by decide +kernel
theorem dX11_init_101 : decode cX11_init 101 = .ok (.putfield 59, 3) := by decide +kernel
theorem dX11_init_104 : decode cX11_init 104 = .ok (.aload_n 0, 1) := by decide +kernel
theorem dX11_init_105 : decode cX11_init 105 = .ok (.ldc 62, 2) := by decide +kernel
theorem dX11_init_107 : decode cX11_init 107 = .ok (.putfield 63, 3) := by decide +kernel
theorem dX11_init_110 : decode cX11_init 110 = .ok (.aload_n 0, 1) := by decide +kernel
theorem dX11_init_111 : decode cX11_init 111 = .ok (.iconst 0, 1) := by decide +kernel
theorem dX11_init_112 : decode cX11_init 112 = .ok (.putfield 66, 3) := by decide +kernel
theorem dX11_init_115 : decode cX11_init 115 = .ok (.iconst 0, 1) := by decide +kernel
theorem dX11_init_116 : decode cX11_init 116 = .ok (.istore_n 1, 1) := by decide +kernel
theorem dX11_init_117 : decode cX11_init 117 = .ok (.iload_n 1, 1) := by decide +kernel
theorem dX11_init_118 : decode cX11_init 118 = .ok (.iconst 4, 1) := by decide +kernel
theorem dX11_init_119 : decode cX11_init 119 = .ok (.if_icmp .ge 24, 3) := by decide +kernel
theorem dX11_init_122 : decode cX11_init 122 = .ok (.aload_n 0, 1) := by decide +kernel
theorem dX11_init_123 : decode cX11_init 123 = .ok (.getfield 35, 3) := by decide +kernel
theorem dX11_init_126 : decode cX11_init 126 = .ok (.new 69, 3) := by decide +kernel
theorem dX11_init_129 : decode cX11_init 129 = .ok (.dup, 1) := by decide +kernel
theorem dX11_init_130 : decode cX11_init 130 = .ok (.invokespecial 71, 3) := by decide +kernel
theorem dX11_init_133 : decode cX11_init 133 = .ok (.invokevirtual 72, 3) := by decide +kernel
theorem dX11_init_136 : decode cX11_init 136 = .ok (.pop, 1) := by decide +kernel
theorem dX11_init_137 : decode cX11_init 137 = .ok (.iinc 1 1, 3) := by decide +kernel
theorem dX11_init_140 : decode cX11_init 140 = .ok (.goto (-23), 3) := by decide +kernel
theorem dX11_init_143 : decode cX11_init 143 = .ok (.aload_n 0, 1) := by decide +kernel
theorem dX11_init_144 : decode cX11_init 144 = .ok (.getfield 42, 3) := by decide +kernel
theorem dX11_init_147 : decode cX11_init 147 = .ok (.new 76, 3) := by decide +kernel
theorem dX11_init_150 : decode cX11_init 150 = .ok (.dup, 1) := by decide +kernel
theorem dX11_init_151 : decode cX11_init 151 = .ok (.iconst 0, 1) := by decide +kernel
theorem dX11_init_152 : decode cX11_init 152 = .ok (.aconst_null, 1) := by decide +kernel
theorem dX11_init_153 : decode cX11_init 153 = .ok (.iconst 0, 1) := by decide +kernel
theorem dX11_init_154 : decode cX11_init 154 = .ok (.iconst 0, 1) := by decide +kernel
theorem dX11_init_155 : decode cX11_init 155 = .ok (.invokespecial 78, 3) := by decide +kernel
theorem dX11_init_158 : decode cX11_init 158 = .ok (.invokevirtual 72, 3) := by decide +kernel
theorem dX11_init_161 : decode cX11_init 161 = .ok (.pop, 1) := by decide +kernel
theorem dX11_init_162 : decode cX11_init 162 = .ok (.return_, 1) := by decide +kernel
theorem dX11_begin_0 : decode cX11_begin 0 = .ok (.aload_n 0, 1) := by decide +kernel
theorem dX11_begin_1 : decode cX11_begin 1 = .ok (.iload_n 1, 1) := by decide +kernel
theorem dX11_begin_2 : decode cX11_begin 2 = .ok (.invokevirtual 81, 3) := by decide +kernel
theorem dX11_begin_5 : decode cX11_begin 5 = .ok (.astore_n 3, 1) := by decide +kernel
theorem dX11_begin_6 : decode cX11_begin 6 = .ok (.aload_n 3, 1) := by decide +kernel
theorem dX11_begin_7 : decode cX11_begin 7 = .ok (.aload_n 0, 1) := by decide +kernel
theorem dX11_begin_8 : decode cX11_begin 8 = .ok (.getfield 14, 3) := by decide +kernel
theorem dX11_begin_11 : decode cX11_begin 11 = .ok (.getfield 85, 3) := by decide +kernel
theorem dX11_begin_14 : decode cX11_begin 14 = .ok (.aload_n 0, 1) := by decide +kernel
theorem dX11_begin_15 : decode cX11_begin 15 = .ok (.getfield 56, 3) := by decide +kernel
theorem dX11_begin_18 : decode cX11_begin 18 = .ok (.iload_n 2, 1) := by decide +kernel
theorem dX11_begin_19 : decode cX11_begin 19 = .ok (.invokevirtual 88, 3) := by decide +kernel
theorem dX11_begin_22 : decode cX11_begin 22 = .ok (.aload_n 0, 1) := by decide +kernel
theorem dX11_begin_23 : decode cX11_begin 23 = .ok (.getfield 14, 3) := by decide +kernel
theorem dX11_begin_26 : decode cX11_begin 26 = .ok (.getfield 85, 3) := by decide +kernel
theorem dX11_begin_29 : decode cX11_begin 29 = .ok (.ireturn, 1) := by decide +kernel
theorem dX11_get_0 : decode cX11_get 0 = .ok (.aload_n 0, 1) := by decide +kernel
theorem dX11_get_1 : decode cX11_get 1 = .ok (.iload_n 1, 1) := by decide +kernel
theorem dX11_get_2 : decode cX11_get 2 = .ok (.invokevirtual 81, 3) := by decide +kernel
theorem dX11_get_5 : decode cX11_get 5 = .ok (.astore 6, 2) := by decide +kernel
theorem dX11_get_7 : decode cX11_get 7 = .ok (.iload_n 2, 1) := by decide +kernel
theorem dX11_get_8 : decode cX11_get 8 = .ok (.iload_n 3, 1) := by decide +kernel
theorem dX11_get_9 : decode cX11_get 9 = .ok (.iload 4, 2) := by decide +kernel
theorem dX11_get_11 : decode cX11_get 11 = .ok (.invokestatic 92, 3) := by decide +kernel
theorem dX11_get_14 : decode cX11_get 14 = .ok (.aload 6, 2) := by decide +kernel
theorem dX11_get_16 : decode cX11_get 16 = .ok (.invokestatic 96, 3) := by decide +kernel
theorem dX11_get_19 : decode cX11_get 19 = .ok (.iload_n 2, 1) := by decide +kernel
theorem dX11_get_20 : decode cX11_get 20 = .ok (.iload_n 3, 1) := by decide +kernel
theorem dX11_get_21 : decode cX11_get 21 = .ok (.iload 4, 2) := by decide +kernel
theorem dX11_get_23 : decode cX11_get 23 = .ok (.invokestatic 100, 3) := by decide +kernel
theorem dX11_get_26 : decode cX11_get 26 = .ok (.lstore 7, 2) := by decide +kernel
theorem dX11_get_28 : decode cX11_get 28 = .ok (.aload 6, 2) := by decide +kernel
theorem dX11_get_30 : decode cX11_get 30 = .ok (.aload_n 0, 1) := by decide +kernel
theorem dX11_get_31 : decode cX11_get 31 = .ok (.getfield 28, 3) := by decide +kernel
theorem dX11_get_34 : decode cX11_get 34 = .ok (.lload 7, 2) := by decide +kernel
theorem dX11_get_36 : decode cX11_get 36 = .ok (.aload_n 0, 1) := by decide +kernel
theorem dX11_get_37 : decode cX11_get 37 = .ok (.getfield 14, 3) := by decide +kernel
theorem dX11_get_40 : decode cX11_get 40 = .ok (.lload 7, 2) := by decide +kernel
theorem dX11_get_42 : decode cX11_get 42 = .ok (.aload 6, 2) := by decide +kernel
theorem dX11_get_44 : decode cX11_get 44 = .ok (.getfield 104, 3) := by decide +kernel
theorem dX11_get_47 : decode cX11_get 47 = .ok (.invokevirtual 107, 3) := by decide +kernel
theorem dX11_get_50 : decode cX11_get 50 = .ok (.invokevirtual 111, 3) := by decide +kernel
theorem dX11_get_53 : decode cX11_get 53 = .ok (.aload_n 0, 1) := by decide +kernel
theorem dX11_get_54 : decode cX11_get 54 = .ok (.getfield 28, 3) := by decide +kernel
theorem dX11_get_57 : decode cX11_get 57 = .ok (.getfield 115, 3) := by decide +kernel
theorem dX11_get_60 : decode cX11_get 60 = .ok (.ifCond .eq 13, 3) := by decide +kernel
theorem dX11_get_63 : decode cX11_get 63 = .ok (.new 119, 3) := by decide +kernel
theorem dX11_get_66 : decode cX11_get 66 = .ok (.dup, 1) := by decide +kernel
theorem dX11_get_67 : decode cX11_get 67 = .ok (.ldc 121, 2) := by decide +kernel
theorem dX11_get_69 : decode cX11_get 69 = .ok (.invokespecial 123, 3) := by decide +kernel
theorem dX11_get_72 : decode cX11_get 72 = .ok (.athrow, 1) := by decide +kernel
theorem dX11_get_73 : decode cX11_get 73 = .ok (.iload 5, 2) := by decide +kernel
theorem dX11_get_75 : decode cX11_get 75 = .ok (.ifCond .eq 10, 3) := by decide +kernel
theorem dX11_get_78 : decode cX11_get 78 = .ok (.aload 6, 2) := by decide +kernel
theorem dX11_get_80 : decode cX11_get 80 = .ok (.lload 7, 2) := by decide +kernel
theorem dX11_get_82 : decode cX11_get 82 = .ok (.invokevirtual 126, 3) := by decide +kernel
theorem dX11_get_85 : decode cX11_get 85 = .ok (.aload_n 0, 1) := by decide +kernel
theorem dX11_get_86 : decode cX11_get 86 = .ok (.getfield 28, 3) := by decide +kernel
theorem dX11_get_89 : decode cX11_get 89 = .ok (.invokevirtual 130, 3) := by decide +kernel
theorem dX11_get_92 : decode cX11_get 92 = .ok (.ireturn, 1) := by decide +kernel
theorem dX11_range_0 : decode cX11_range 0 = .ok (.aload_n 0, 1) := by decide +kernel
theorem dX11_range_1 : decode cX11_range 1 = .ok (.iload_n 1, 1) := by decide +kernel
theorem dX11_range_2 : decode cX11_range 2 = .ok (.invokevirtual 81, 3) := by decide +kernel
theorem dX11_range_5 : decode cX11_range 5 = .ok (.astore 5, 2) := by decide +kernel
theorem dX11_range_7 : decode cX11_range 7 = .ok (.iload_n 2, 1) := by decide +kernel
theorem dX11_range_8 : decode cX11_range 8 = .ok (.iload_n 3, 1) := by decide +kernel
theorem dX11_range_9 : decode cX11_range 9 = .ok (.invokestatic 134, 3) := by decide +kernel
theorem dX11_range_12 : decode cX11_range 12 = .ok (.aload 5, 2) := by decide +kernel
theorem dX11_range_14 : decode cX11_range 14 = .ok (.invokestatic 96, 3) := by decide +kernel
theorem dX11_range_17 : decode cX11_range 17 = .ok (.aload_n 0, 1) := by decide +kernel
theorem dX11_range_18 : decode cX11_range 18 = .ok (.aload 5, 2) := by decide +kernel
theorem dX11_range_20 : decode cX11_range 20 = .ok (.iload_n 2, 1) := by decide +kernel
theorem dX11_range_21 : decode cX11_range 21 = .ok (.iload_n 3, 1) := by decide +kernel
theorem dX11_range_22 : decode cX11_range 22 = .ok (.invokestatic 138, 3) := by decide +kernel
theorem dX11_range_25 : decode cX11_range 25 = .ok (.iload_n 2, 1) := by decide +kernel
theorem dX11_range_26 : decode cX11_range 26 = .ok (.iload_n 3, 1) := by decide +kernel
theorem dX11_range_27 : decode cX11_range 27 = .ok (.invokestatic 142, 3) := by decide +kernel
theorem dX11_range_30 : decode cX11_range 30 = .ok (.invokevirtual 145, 3) := by decide +kernel
theorem dX11_range_33 : decode cX11_range 33 = .ok (.iload 4, 2) := by decide +kernel
theorem dX11_range_35 : decode cX11_range 35 = .ok (.ifCond .eq 18, 3) := by decide +kernel
theorem dX11_range_38 : decode cX11_range 38 = .ok (.aload 5, 2) := by decide +kernel
theorem dX11_range_40 : decode cX11_range 40 = .ok (.iload_n 2, 1) := by decide +kernel
theorem dX11_range_41 : decode cX11_range 41 = .ok (.iload_n 3, 1) := by decide +kernel
theorem dX11_range_42 : decode cX11_range 42 = .ok (.invokestatic 138, 3) := by decide +kernel
theorem dX11_range_45 : decode cX11_range 45 = .ok (.iload_n 2, 1) := by decide +kernel
theorem dX11_range_46 : decode cX11_range 46 = .ok (.iload_n 3, 1) := by decide +kernel
theorem dX11_range_47 : decode cX11_range 47 = .ok (.invokestatic 142, 3) := by decide +kernel
theorem dX11_range_50 : decode cX11_range 50 = .ok (.invokevirtual 149, 3) := by decide +kernel
theorem dX11_range_53 : decode cX11_range 53 = .ok (.aload_n 0, 1) := by decide +kernel
theorem dX11_range_54 : decode cX11_range 54 = .ok (.getfield 39, 3) := by decide +kernel
theorem dX11_range_57 : decode cX11_range 57 = .ok (.invokevirtual 153, 3) := by decide +kernel
theorem dX11_range_60 : decode cX11_range 60 = .ok (.ireturn, 1) := by decide +kernel
theorem dX11_rangeAt_0 : decode cX11_rangeAt 0 = .ok (.aload_n 0, 1) := by decide +kernel
theorem dX11_rangeAt_1 : decode cX11_rangeAt 1 = .ok (.iload_n 1, 1) := by decide +kernel
theorem dX11_rangeAt_2 : decode cX11_rangeAt 2 = .ok (.invokevirtual 81, 3) := by decide +kernel
theorem dX11_rangeAt_5 : decode cX11_rangeAt 5 = .ok (.astore 6, 2) := by decide +kernel
theorem dX11_rangeAt_7 : decode cX11_rangeAt 7 = .ok (.iload 4, 2) := by decide +kernel
theorem dX11_rangeAt_9 : decode cX11_rangeAt 9 = .ok (.ifCond .ge 13, 3) := by decide +kernel
theorem dX11_rangeAt_12 : decode cX11_rangeAt 12 = .ok (.new 156, 3) := by decide +kernel
theorem dX11_rangeAt_15 : decode cX11_rangeAt 15 = .ok (.dup, 1) := by decide +kernel
theorem dX11_rangeAt_16 : decode cX11_rangeAt 16 = .ok (.ldc 158, 2) := by decide +kernel
theorem dX11_rangeAt_18 : decode cX11_rangeAt 18 = .ok (.invokespecial 160, 3) := by decide +kernel
theorem dX11_rangeAt_21 : decode cX11_rangeAt 21 = .ok (.athrow, 1) := by decide +kernel
theorem dX11_rangeAt_22 : decode cX11_rangeAt 22 = .ok (.iload_n 2, 1) := by decide +kernel
theorem dX11_rangeAt_23 : decode cX11_rangeAt 23 = .ok (.iload_n 3, 1) := by decide +kernel
theorem dX11_rangeAt_24 : decode cX11_rangeAt 24 = .ok (.invokestatic 134, 3) := by decide +kernel
theorem dX11_rangeAt_27 : decode cX11_rangeAt 27 = .ok (.iload 5, 2) := by decide +kernel
theorem dX11_rangeAt_29 : decode cX11_rangeAt 29 = .ok (.ifCond .lt 9, 3) := by decide +kernel
theorem dX11_rangeAt_32 : decode cX11_rangeAt 32 = .ok (.iload 5, 2) := by decide +kernel
theorem dX11_rangeAt_34 : decode cX11_rangeAt 34 = .ok (.iconst 2, 1) := by decide +kernel
theorem dX11_rangeAt_35 : decode cX11_rangeAt 35 = .ok (.if_icmp .le 13, 3) := by decide +kernel
theorem dX11_rangeAt_38 : decode cX11_rangeAt 38 = .ok (.new 161, 3) := by decide +kernel
theorem dX11_rangeAt_41 : decode cX11_rangeAt 41 = .ok (.dup, 1) := by decide +kernel
theorem dX11_rangeAt_42 : decode cX11_rangeAt 42 = .ok (.ldc 163, 2) := by decide +kernel
theorem dX11_rangeAt_44 : decode cX11_rangeAt 44 = .ok (.invokespecial 165, 3) := by decide +kernel
theorem dX11_rangeAt_47 : decode cX11_rangeAt 47 = .ok (.athrow, 1) := by decide +kernel
theorem dX11_rangeAt_48 : decode cX11_rangeAt 48 = .ok (.aload 6, 2) := by decide +kernel
theorem dX11_rangeAt_50 : decode cX11_rangeAt 50 = .ok (.invokestatic 96, 3) := by decide +kernel
theorem dX11_rangeAt_53 : decode cX11_rangeAt 53 = .ok (.aload_n 0, 1) := by decide +kernel
theorem dX11_rangeAt_54 : decode cX11_rangeAt 54 = .ok (.aload 6, 2) := by decide +kernel
theorem dX11_rangeAt_56 : decode cX11_rangeAt 56 = .ok (.iload_n 2, 1) := by decide +kernel
theorem dX11_rangeAt_57 : decode cX11_rangeAt 57 = .ok (.iload_n 3, 1) := by decide +kernel
theorem dX11_rangeAt_58 : decode cX11_rangeAt 58 = .ok (.invokestatic 138, 3) := by decide +kernel
theorem dX11_rangeAt_61 : decode cX11_rangeAt 61 = .ok (.iload_n 2, 1) := by decide +kernel
theorem dX11_rangeAt_62 : decode cX11_rangeAt 62 = .ok (.iload_n 3, 1) := by decide +kernel
theorem dX11_rangeAt_63 : decode cX11_rangeAt 63 = .ok (.invokestatic 142, 3) := by decide +kernel
theorem dX11_rangeAt_66 : decode cX11_rangeAt 66 = .ok (.invokevirtual 145, 3) := by decide +kernel
theorem dX11_rangeAt_69 : decode cX11_rangeAt 69 = .ok (.aload 6, 2) := by decide +kernel
theorem dX11_rangeAt_71 : decode cX11_rangeAt 71 = .ok (.iload_n 2, 1) := by decide +kernel
theorem dX11_rangeAt_72 : decode cX11_rangeAt 72 = .ok (.iload_n 3, 1) := by decide +kernel
theorem dX11_rangeAt_73 : decode cX11_rangeAt 73 = .ok (.invokestatic 138, 3) := by decide +kernel
theorem dX11_rangeAt_76 : decode cX11_rangeAt 76 = .ok (.iload_n 2, 1) := by decide +kernel
theorem dX11_rangeAt_77 : decode cX11_rangeAt 77 = .ok (.iload_n 3, 1) := by decide +kernel
theorem dX11_rangeAt_78 : decode cX11_rangeAt 78 = .ok (.invokestatic 142, 3) := by decide +kernel
theorem dX11_rangeAt_81 : decode cX11_rangeAt 81 = .ok (.invokevirtual 149, 3) := by decide +kernel
theorem dX11_rangeAt_84 : decode cX11_rangeAt 84 = .ok (.iload 4, 2) := by decide +kernel
theorem dX11_rangeAt_86 : decode cX11_rangeAt 86 = .ok (.aload_n 0, 1) := by decide +kernel
theorem dX11_rangeAt_87 : decode cX11_rangeAt 87 = .ok (.getfield 39, 3) := by decide +kernel
theorem dX11_rangeAt_90 : decode cX11_rangeAt 90 = .ok (.invokevirtual 153, 3) := by decide +kernel
theorem dX11_rangeAt_93 : decode cX11_rangeAt 93 = .ok (.if_icmp .ge 26, 3) := by decide +kernel
theorem dX11_rangeAt_96 : decode cX11_rangeAt 96 = .ok (.aload_n 0, 1) := by decide +kernel
theorem dX11_rangeAt_97 : decode cX11_rangeAt 97 = .ok (.getfield 39, 3) := by decide +kernel
theorem dX11_rangeAt_100 : decode cX11_rangeAt 100 = .ok (.iload 4, 2) := by decide +kernel
theorem dX11_rangeAt_102 : decode cX11_rangeAt 102 = .ok (.invokevirtual 166, 3) := by decide +kernel
theorem dX11_rangeAt_105 : decode cX11_rangeAt 105 = .ok (.checkcast 170, 3) := by decide +kernel
theorem dX11_rangeAt_108 : decode cX11_rangeAt 108 = .ok (.getfield 172, 3) := by decide +kernel
theorem dX11_rangeAt_111 : decode cX11_rangeAt 111 = .ok (.iload 5, 2) := by decide +kernel
theorem dX11_rangeAt_113 : decode cX11_rangeAt 113 = .ok (.invokestatic 176, 3) := by decide +kernel
theorem dX11_rangeAt_116 : decode cX11_rangeAt 116 = .ok (.goto 5, 3) := by decide +kernel
theorem dX11_rangeAt_119 : decode cX11_rangeAt 119 = .ok (.ldc 62, 2) := by decide +kernel
theorem dX11_rangeAt_121 : decode cX11_rangeAt 121 = .ok (.ireturn, 1) := by decide +kernel
theorem dX11_change_0 : decode cX11_change 0 = .ok (.aload_n 0, 1) := by decide +kernel
theorem dX11_change_1 : decode cX11_change 1 = .ok (.iload_n 1, 1) := by decide +kernel
theorem dX11_change_2 : decode cX11_change 2 = .ok (.invokevirtual 81, 3) := by decide +kernel
theorem dX11_change_5 : decode cX11_change 5 = .ok (.astore 7, 2) := by decide +kernel
theorem dX11_change_7 : decode cX11_change 7 = .ok (.iload_n 2, 1) := by decide +kernel
theorem dX11_change_8 : decode cX11_change 8 = .ok (.ifCond .lt 9, 3) := by decide +kernel
theorem dX11_change_11 : decode cX11_change 11 = .ok (.iload_n 2, 1) := by decide +kernel
theorem dX11_change_12 : decode cX11_change 12 = .ok (.bipush 6, 2) := by decide +kernel
theorem dX11_change_14 : decode cX11_change 14 = .ok (.if_icmp .le 13, 3) := by decide +kernel
theorem dX11_change_17 : decode cX11_change 17 = .ok (.new 161, 3) := by decide +kernel
theorem dX11_change_20 : decode cX11_change 20 = .ok (.dup, 1) := by decide +kernel
theorem dX11_change_21 : decode cX11_change 21 = .ok (.ldc 180, 2) := by decide +kernel
theorem dX11_change_23 : decode cX11_change 23 = .ok (.invokespecial 165, 3) := by decide +kernel
theorem dX11_change_26 : decode cX11_change 26 = .ok (.athrow, 1) := by decide +kernel
theorem dX11_change_27 : decode cX11_change 27 = .ok (.iload_n 2, 1) := by decide +kernel
theorem dX11_change_28 : decode cX11_change 28 = .ok (.iconst 1, 1) := by decide +kernel
theorem dX11_change_29 : decode cX11_change 29 = .ok (.if_icmp .eq 32, 3) := by decide +kernel
theorem dX11_change_32 : decode cX11_change 32 = .ok (.iload_n 2, 1) := by decide +kernel
theorem dX11_change_33 : decode cX11_change 33 = .ok (.iconst 5, 1) := by decide +kernel
theorem dX11_change_34 : decode cX11_change 34 = .ok (.if_icmp .eq 27, 3) := by decide +kernel
theorem dX11_change_37 : decode cX11_change 37 = .ok (.iload 6, 2) := by decide +kernel
theorem dX11_change_39 : decode cX11_change 39 = .ok (.ldc 182, 2) := by decide +kernel
theorem dX11_change_41 : decode cX11_change 41 = .ok (.if_icmp .lt 10, 3) := by decide +kernel
theorem dX11_change_44 : decode cX11_change 44 = .ok (.iload 6, 2) := by decide +kernel
theorem dX11_change_46 : decode cX11_change 46 = .ok (.ldc 183, 2) := by decide +kernel
theorem dX11_change_48 : decode cX11_change 48 = .ok (.if_icmp .le 13, 3) := by decide +kernel
theorem dX11_change_51 : decode cX11_change 51 = .ok (.new 161, 3) := by decide +kernel
theorem dX11_change_54 : decode cX11_change 54 = .ok (.dup, 1) := by decide +kernel
theorem dX11_change_55 : decode cX11_change 55 = .ok (.ldc 184, 2) := by decide +kernel
theorem dX11_change_57 : decode cX11_change 57 = .ok (.invokespecial 165, 3) := by decide +kernel
theorem dX11_change_60 : decode cX11_change 60 = .ok (.athrow, 1) := by decide +kernel
theorem dX11_change_61 : decode cX11_change 61 = .ok (.iload_n 3, 1) := by decide +kernel
theorem dX11_change_62 : decode cX11_change 62 = .ok (.iload 4, 2) := by decide +kernel
theorem dX11_change_64 : decode cX11_change 64 = .ok (.iload 5, 2) := by decide +kernel
theorem dX11_change_66 : decode cX11_change 66 = .ok (.invokestatic 92, 3) := by decide +kernel
theorem dX11_change_69 : decode cX11_change 69 = .ok (.iload_n 3, 1) := by decide +kernel
theorem dX11_change_70 : decode cX11_change 70 = .ok (.invokestatic 186, 3) := by decide +kernel
theorem dX11_change_73 : decode cX11_change 73 = .ok (.aload 7, 2) := by decide +kernel
theorem dX11_change_75 : decode cX11_change 75 = .ok (.invokestatic 190, 3) := by decide +kernel
theorem dX11_change_78 : decode cX11_change 78 = .ok (.iload_n 3, 1) := by decide +kernel
theorem dX11_change_79 : decode cX11_change 79 = .ok (.iload 4, 2) := by decide +kernel
theorem dX11_change_81 : decode cX11_change 81 = .ok (.iload 5, 2) := by decide +kernel
theorem dX11_change_83 : decode cX11_change 83 = .ok (.invokestatic 100, 3) := by decide +kernel
theorem dX11_change_86 : decode cX11_change 86 = .ok (.lstore 8, 2) := by decide +kernel
theorem dX11_change_88 : decode cX11_change 88 = .ok (.iload_n 2, 1) := by decide +kernel
theorem dX11_change_89 : decode cX11_change 89 = .ok (.bipush 6, 2) := by decide +kernel
theorem dX11_change_91 : decode cX11_change 91 = .ok (.if_icmp .ne 22, 3) := by decide +kernel
theorem dX11_change_94 : decode cX11_change 94 = .ok (.aload 7, 2) := by decide +kernel
theorem dX11_change_96 : decode cX11_change 96 = .ok (.lload 8, 2) := by decide +kernel
theorem dX11_change_98 : decode cX11_change 98 = .ok (.iload 4, 2) := by decide +kernel
theorem dX11_change_100 : decode cX11_change 100 = .ok (.iload 5, 2) := by decide +kernel
theorem dX11_change_102 : decode cX11_change 102 = .ok (.invokestatic 193, 3) := by decide +kernel
theorem dX11_change_105 : decode cX11_change 105 = .ok (.iload 6, 2) := by decide +kernel
theorem dX11_change_107 : decode cX11_change 107 = .ok (.invokevirtual 197, 3) := by decide +kernel
theorem dX11_change_110 : decode cX11_change 110 = .ok (.goto 14, 3) := by decide +kernel
theorem dX11_change_113 : decode cX11_change 113 = .ok (.aload_n 0, 1) := by decide +kernel
theorem dX11_change_114 : decode cX11_change 114 = .ok (.aload 7, 2) := by decide +kernel
theorem dX11_change_116 : decode cX11_change 116 = .ok (.iload_n 2, 1) := by decide +kernel
theorem dX11_change_117 : decode cX11_change 117 = .ok (.lload 8, 2) := by decide +kernel
theorem dX11_change_119 : decode cX11_change 119 = .ok (.iload 6, 2) := by decide +kernel
theorem dX11_change_121 : decode cX11_change 121 = .ok (.invokevirtual 201, 3) := by decide +kernel
theorem dX11_change_124 : decode cX11_change 124 = .ok (.aload 7, 2) := by decide +kernel
theorem dX11_change_126 : decode cX11_change 126 = .ok (.getfield 205, 3) := by decide +kernel
theorem dX11_change_129 : decode cX11_change 129 = .ok (.ireturn, 1) := by decide +kernel
theorem dX11_clear_0 : decode cX11_clear 0 = .ok (.aload_n 0, 1) := by decide +kernel
theorem dX11_clear_1 : decode cX11_clear 1 = .ok (.iload_n 1, 1) := by decide +kernel
theorem dX11_clear_2 : decode cX11_clear 2 = .ok (.invokevirtual 81, 3) := by decide +kernel
theorem dX11_clear_5 : decode cX11_clear 5 = .ok (.astore 4, 2) := by decide +kernel
theorem dX11_clear_7 : decode cX11_clear 7 = .ok (.iload_n 2, 1) := by decide +kernel
theorem dX11_clear_8 : decode cX11_clear 8 = .ok (.iload_n 3, 1) := by decide +kernel
theorem dX11_clear_9 : decode cX11_clear 9 = .ok (.invokestatic 134, 3) := by decide +kernel
theorem dX11_clear_12 : decode cX11_clear 12 = .ok (.iload_n 2, 1) := by decide +kernel
theorem dX11_clear_13 : decode cX11_clear 13 = .ok (.sipush 10000, 3) := by decide +kernel
theorem dX11_clear_16 : decode cX11_clear 16 = .ok (.if_icmp .ne 13, 3) := by decide +kernel
theorem dX11_clear_19 : decode cX11_clear 19 = .ok (.new 161, 3) := by decide +kernel
theorem dX11_clear_22 : decode cX11_clear 22 = .ok (.dup, 1) := by decide +kernel
theorem dX11_clear_23 : decode cX11_clear 23 = .ok (.ldc 208, 2) := by decide +kernel
theorem dX11_clear_25 : decode cX11_clear 25 = .ok (.invokespecial 165, 3) := by decide +kernel
theorem dX11_clear_28 : decode cX11_clear 28 = .ok (.athrow, 1) := by decide +kernel
theorem dX11_clear_29 : decode cX11_clear 29 = .ok (.iload_n 2, 1) := by decide +kernel
theorem dX11_clear_30 : decode cX11_clear 30 = .ok (.invokestatic 186, 3) := by decide +kernel
theorem dX11_clear_33 : decode cX11_clear 33 = .ok (.aload 4, 2) := by decide +kernel
theorem dX11_clear_35 : decode cX11_clear 35 = .ok (.invokestatic 190, 3) := by decide +kernel
theorem dX11_clear_38 : decode cX11_clear 38 = .ok (.aload 4, 2) := by decide +kernel
theorem dX11_clear_40 : decode cX11_clear 40 = .ok (.iload_n 2, 1) := by decide +kernel
theorem dX11_clear_41 : decode cX11_clear 41 = .ok (.iload_n 3, 1) := by decide +kernel
theorem dX11_clear_42 : decode cX11_clear 42 = .ok (.invokestatic 138, 3) := by decide +kernel
theorem dX11_clear_45 : decode cX11_clear 45 = .ok (.iload_n 2, 1) := by decide +kernel
theorem dX11_clear_46 : decode cX11_clear 46 = .ok (.iload_n 3, 1) := by decide +kernel
theorem dX11_clear_47 : decode cX11_clear 47 = .ok (.invokestatic 142, 3) := by decide +kernel
theorem dX11_clear_50 : decode cX11_clear 50 = .ok (.invokevirtual 210, 3) := by decide +kernel
theorem dX11_clear_53 : decode cX11_clear 53 = .ok (.aload 4, 2) := by decide +kernel
theorem dX11_clear_55 : decode cX11_clear 55 = .ok (.getfield 205, 3) := by decide +kernel
theorem dX11_clear_58 : decode cX11_clear 58 = .ok (.ireturn, 1) := by decide +kernel
theorem dX11_commit_0 : decode cX11_commit 0 = .ok (.aload_n 0, 1) := by decide +kernel
theorem dX11_commit_1 : decode cX11_commit 1 = .ok (.iload_n 1, 1) := by decide +kernel
theorem dX11_commit_2 : decode cX11_commit 2 = .ok (.invokevirtual 81, 3) := by decide +kernel
theorem dX11_commit_5 : decode cX11_commit 5 = .ok (.astore_n 2, 1) := by decide +kernel
theorem dX11_commit_6 : decode cX11_commit 6 = .ok (.aload_n 2, 1) := by decide +kernel
theorem dX11_commit_7 : decode cX11_commit 7 = .ok (.invokestatic 96, 3) := by decide +kernel
theorem dX11_commit_10 : decode cX11_commit 10 = .ok (.aload_n 0, 1) := by decide +kernel
theorem dX11_commit_11 : decode cX11_commit 11 = .ok (.aload_n 2, 1) := by decide +kernel
theorem dX11_commit_12 : decode cX11_commit 12 = .ok (.invokevirtual 213, 3) := by decide +kernel
theorem dX11_commit_15 : decode cX11_commit 15 = .ok (.istore_n 3, 1) := by decide +kernel
theorem dX11_commit_16 : decode cX11_commit 16 = .ok (.iload_n 3, 1) := by decide +kernel
theorem dX11_commit_17 : decode cX11_commit 17 = .ok (.ldc 62, 2) := by decide +kernel
theorem dX11_commit_19 : decode cX11_commit 19 = .ok (.if_icmp .eq 10, 3) := by decide +kernel
theorem dX11_commit_22 : decode cX11_commit 22 = .ok (.aload_n 2, 1) := by decide +kernel
theorem dX11_commit_23 : decode cX11_commit 23 = .ok (.iconst 0, 1) := by decide +kernel
theorem dX11_commit_24 : decode cX11_commit 24 = .ok (.putfield 217, 3) := by decide +kernel
theorem dX11_commit_27 : decode cX11_commit 27 = .ok (.iload_n 3, 1) := by decide +kernel
theorem dX11_commit_28 : decode cX11_commit 28 = .ok (.ireturn, 1) := by decide +kernel
theorem dX11_commit_29 : decode cX11_commit 29 = .ok (.aload_n 0, 1) := by decide +kernel
theorem dX11_commit_30 : decode cX11_commit 30 = .ok (.getfield 59, 3) := by decide +kernel
theorem dX11_commit_33 : decode cX11_commit 33 = .ok (.ifCond .eq 7, 3) := by decide +kernel
theorem dX11_commit_36 : decode cX11_commit 36 = .ok (.iconst 1, 1) := by decide +kernel
theorem dX11_commit_37 : decode cX11_commit 37 = .ok (.goto 4, 3) := by decide +kernel
theorem dX11_commit_40 : decode cX11_commit 40 = .ok (.iconst 0, 1) := by decide +kernel
theorem dX11_commit_41 : decode cX11_commit 41 = .ok (.istore 4, 2) := by decide +kernel
theorem dX11_commit_43 : decode cX11_commit 43 = .ok (.aload_n 0, 1) := by decide +kernel
theorem dX11_commit_44 : decode cX11_commit 44 = .ok (.getfield 59, 3) := by decide +kernel
theorem dX11_commit_47 : decode cX11_commit 47 = .ok (.iconst 2, 1) := by decide +kernel
theorem dX11_commit_48 : decode cX11_commit 48 = .ok (.if_icmp .eq 7, 3) := by decide +kernel
theorem dX11_commit_51 : decode cX11_commit 51 = .ok (.iconst 1, 1) := by decide +kernel
theorem dX11_commit_52 : decode cX11_commit 52 = .ok (.goto 4, 3) := by decide +kernel
theorem dX11_commit_55 : decode cX11_commit 55 = .ok (.iconst 0, 1) := by decide +kernel
theorem dX11_commit_56 : decode cX11_commit 56 = .ok (.istore 5, 2) := by decide +kernel
theorem dX11_commit_58 : decode cX11_commit 58 = .ok (.aload_n 0, 1) := by decide +kernel
theorem dX11_commit_59 : decode cX11_commit 59 = .ok (.iconst 0, 1) := by decide +kernel
theorem dX11_commit_60 : decode cX11_commit 60 = .ok (.putfield 59, 3) := by decide +kernel
theorem dX11_commit_63 : decode cX11_commit 63 = .ok (.iload 5, 2) := by decide +kernel
theorem dX11_commit_65 : decode cX11_commit 65 = .ok (.ifCond .eq 8, 3) := by decide +kernel
theorem dX11_commit_68 : decode cX11_commit 68 = .ok (.aload_n 0, 1) := by decide +kernel
theorem dX11_commit_69 : decode cX11_commit 69 = .ok (.aload_n 2, 1) := by decide +kernel
theorem dX11_commit_70 : decode cX11_commit 70 = .ok (.invokevirtual 220, 3) := by decide +kernel
theorem dX11_commit_73 : decode cX11_commit 73 = .ok (.aload_n 2, 1) := by decide +kernel
theorem dX11_commit_74 : decode cX11_commit 74 = .ok (.iload 4, 2) := by decide +kernel
theorem dX11_commit_76 : decode cX11_commit 76 = .ok (.putfield 217, 3) := by decide +kernel
theorem dX11_commit_79 : decode cX11_commit 79 = .ok (.iload 4, 2) := by decide +kernel
theorem dX11_commit_81 : decode cX11_commit 81 = .ok (.ifCond .eq 8, 3) := by decide +kernel
theorem dX11_commit_84 : decode cX11_commit 84 = .ok (.bipush (-3), 2) := by decide +kernel
theorem dX11_commit_86 : decode cX11_commit 86 = .ok (.goto 10, 3) := by decide +kernel
theorem dX11_commit_89 : decode cX11_commit 89 = .ok (.aload_n 0, 1) := by decide +kernel
theorem dX11_commit_90 : decode cX11_commit 90 = .ok (.getfield 14, 3) := by decide +kernel
theorem dX11_commit_93 : decode cX11_commit 93 = .ok (.getfield 85, 3) := by decide +kernel
theorem dX11_commit_96 : decode cX11_commit 96 = .ok (.ireturn, 1) := by decide +kernel
theorem dX11_why_0 : decode cX11_why 0 = .ok (.aload_n 0, 1) := by decide +kernel
theorem dX11_why_1 : decode cX11_why 1 = .ok (.getfield 63, 3) := by decide +kernel
theorem dX11_why_4 : decode cX11_why 4 = .ok (.ireturn, 1) := by decide +kernel
theorem dX11_lose_0 : decode cX11_lose 0 = .ok (.aload_n 0, 1) := by decide +kernel
theorem dX11_lose_1 : decode cX11_lose 1 = .ok (.iload_n 1, 1) := by decide +kernel
theorem dX11_lose_2 : decode cX11_lose 2 = .ok (.ifCond .eq 7, 3) := by decide +kernel
theorem dX11_lose_5 : decode cX11_lose 5 = .ok (.iconst 1, 1) := by decide +kernel
theorem dX11_lose_6 : decode cX11_lose 6 = .ok (.goto 4, 3) := by decide +kernel
theorem dX11_lose_9 : decode cX11_lose 9 = .ok (.iconst 2, 1) := by decide +kernel
theorem dX11_lose_10 : decode cX11_lose 10 = .ok (.putfield 59, 3) := by decide +kernel
theorem dX11_lose_13 : decode cX11_lose 13 = .ok (.return_, 1) := by decide +kernel
theorem dX11_recover_0 : decode cX11_recover 0 = .ok (.aload_n 0, 1) := by decide +kernel
theorem dX11_recover_1 : decode cX11_recover 1 = .ok (.dup, 1) := by decide +kernel
theorem dX11_recover_2 : decode cX11_recover 2 = .ok (.getfield 56, 3) := by decide +kernel
theorem dX11_recover_5 : decode cX11_recover 5 = .ok (.iconst 1, 1) := by decide +kernel
theorem dX11_recover_6 : decode cX11_recover 6 = .ok (.iadd, 1) := by decide +kernel
theorem dX11_recover_7 : decode cX11_recover 7 = .ok (.putfield 56, 3) := by decide +kernel
theorem dX11_recover_10 : decode cX11_recover 10 = .ok (.aload_n 0, 1) := by decide +kernel
theorem dX11_recover_11 : decode cX11_recover 11 = .ok (.getfield 14, 3) := by decide +kernel
theorem dX11_recover_14 : decode cX11_recover 14 = .ok (.bipush 10, 2) := by decide +kernel
theorem dX11_recover_16 : decode cX11_recover 16 = .ok (.invokevirtual 223, 3) := by decide +kernel
theorem dX11_recover_19 : decode cX11_recover 19 = .ok (.aload_n 0, 1) := by decide +kernel
theorem dX11_recover_20 : decode cX11_recover 20 = .ok (.getfield 14, 3) := by decide +kernel
theorem dX11_recover_23 : decode cX11_recover 23 = .ok (.getfield 85, 3) := by decide +kernel
theorem dX11_recover_26 : decode cX11_recover 26 = .ok (.ireturn, 1) := by decide +kernel
theorem dX11_pass_0 : decode cX11_pass 0 = .ok (.iload_n 1, 1) := by decide +kernel
theorem dX11_pass_1 : decode cX11_pass 1 = .ok (.iconst 1, 1) := by decide +kernel
theorem dX11_pass_2 : decode cX11_pass 2 = .ok (.if_icmp .lt 9, 3) := by decide +kernel
theorem dX11_pass_5 : decode cX11_pass 5 = .ok (.iload_n 1, 1) := by decide +kernel
theorem dX11_pass_6 : decode cX11_pass 6 = .ok (.bipush 10, 2) := by decide +kernel
theorem dX11_pass_8 : decode cX11_pass 8 = .ok (.if_icmp .le 13, 3) := by decide +kernel
theorem dX11_pass_11 : decode cX11_pass 11 = .ok (.new 161, 3) := by decide +kernel
theorem dX11_pass_14 : decode cX11_pass 14 = .ok (.dup, 1) := by decide +kernel
theorem dX11_pass_15 : decode cX11_pass 15 = .ok (.ldc 226, 2) := by decide +kernel
theorem dX11_pass_17 : decode cX11_pass 17 = .ok (.invokespecial 165, 3) := by decide +kernel
theorem dX11_pass_20 : decode cX11_pass 20 = .ok (.athrow, 1) := by decide +kernel
theorem dX11_pass_21 : decode cX11_pass 21 = .ok (.aload_n 0, 1) := by decide +kernel
theorem dX11_pass_22 : decode cX11_pass 22 = .ok (.getfield 14, 3) := by decide +kernel
theorem dX11_pass_25 : decode cX11_pass 25 = .ok (.iload_n 1, 1) := by decide +kernel
theorem dX11_pass_26 : decode cX11_pass 26 = .ok (.invokevirtual 223, 3) := by decide +kernel
theorem dX11_pass_29 : decode cX11_pass 29 = .ok (.aload_n 0, 1) := by decide +kernel
theorem dX11_pass_30 : decode cX11_pass 30 = .ok (.getfield 14, 3) := by decide +kernel
theorem dX11_pass_33 : decode cX11_pass 33 = .ok (.getfield 85, 3) := by decide +kernel
theorem dX11_pass_36 : decode cX11_pass 36 = .ok (.ireturn, 1) := by decide +kernel
theorem dX11_value_0 : decode cX11_value 0 = .ok (.iload_n 1, 1) := by decide +kernel
theorem dX11_value_1 : decode cX11_value 1 = .ok (.ifCond .lt 14, 3) := by decide +kernel
theorem dX11_value_4 : decode cX11_value 4 = .ok (.iload_n 1, 1) := by decide +kernel
theorem dX11_value_5 : decode cX11_value 5 = .ok (.aload_n 0, 1) := by decide +kernel
theorem dX11_value_6 : decode cX11_value 6 = .ok (.getfield 14, 3) := by decide +kernel
theorem dX11_value_9 : decode cX11_value 9 = .ok (.getfield 85, 3) := by decide +kernel
theorem dX11_value_12 : decode cX11_value 12 = .ok (.if_icmp .le 13, 3) := by decide +kernel
theorem dX11_value_15 : decode cX11_value 15 = .ok (.new 161, 3) := by decide +kernel
theorem dX11_value_18 : decode cX11_value 18 = .ok (.dup, 1) := by decide +kernel
theorem dX11_value_19 : decode cX11_value 19 = .ok (.ldc 228, 2) := by decide +kernel
theorem dX11_value_21 : decode cX11_value 21 = .ok (.invokespecial 165, 3) := by decide +kernel
theorem dX11_value_24 : decode cX11_value 24 = .ok (.athrow, 1) := by decide +kernel
theorem dX11_value_25 : decode cX11_value 25 = .ok (.iload_n 2, 1) := by decide +kernel
theorem dX11_value_26 : decode cX11_value 26 = .ok (.iload_n 3, 1) := by decide +kernel
theorem dX11_value_27 : decode cX11_value 27 = .ok (.iload 4, 2) := by decide +kernel
theorem dX11_value_29 : decode cX11_value 29 = .ok (.invokestatic 92, 3) := by decide +kernel
theorem dX11_value_32 : decode cX11_value 32 = .ok (.aload_n 0, 1) := by decide +kernel
theorem dX11_value_33 : decode cX11_value 33 = .ok (.getfield 28, 3) := by decide +kernel
theorem dX11_value_36 : decode cX11_value 36 = .ok (.aload_n 0, 1) := by decide +kernel
theorem dX11_value_37 : decode cX11_value 37 = .ok (.getfield 14, 3) := by decide +kernel
theorem dX11_value_40 : decode cX11_value 40 = .ok (.iload_n 2, 1) := by decide +kernel
theorem dX11_value_41 : decode cX11_value 41 = .ok (.iload_n 3, 1) := by decide +kernel
theorem dX11_value_42 : decode cX11_value 42 = .ok (.iload 4, 2) := by decide +kernel
theorem dX11_value_44 : decode cX11_value 44 = .ok (.invokestatic 100, 3) := by decide +kernel
theorem dX11_value_47 : decode cX11_value 47 = .ok (.iload_n 1, 1) := by decide +kernel
theorem dX11_value_48 : decode cX11_value 48 = .ok (.invokevirtual 107, 3) := by decide +kernel
theorem dX11_value_51 : decode cX11_value 51 = .ok (.invokevirtual 230, 3) := by decide +kernel
theorem dX11_value_54 : decode cX11_value 54 = .ok (.aload_n 0, 1) := by decide +kernel
theorem dX11_value_55 : decode cX11_value 55 = .ok (.getfield 28, 3) := by decide +kernel
theorem dX11_value_58 : decode cX11_value 58 = .ok (.invokevirtual 130, 3) := by decide +kernel
theorem dX11_value_61 : decode cX11_value 61 = .ok (.ireturn, 1) := by decide +kernel
theorem dX11_packed_0 : decode cX11_packed 0 = .ok (.iload 4, 2) := by decide +kernel
theorem dX11_packed_2 : decode cX11_packed 2 = .ok (.ifCond .ge 13, 3) := by decide +kernel
theorem dX11_packed_5 : decode cX11_packed 5 = .ok (.new 156, 3) := by decide +kernel
theorem dX11_packed_8 : decode cX11_packed 8 = .ok (.dup, 1) := by decide +kernel
theorem dX11_packed_9 : decode cX11_packed 9 = .ok (.ldc 158, 2) := by decide +kernel
theorem dX11_packed_11 : decode cX11_packed 11 = .ok (.invokespecial 160, 3) := by decide +kernel
theorem dX11_packed_14 : decode cX11_packed 14 = .ok (.athrow, 1) := by decide +kernel
theorem dX11_packed_15 : decode cX11_packed 15 = .ok (.iload_n 1, 1) := by decide +kernel
theorem dX11_packed_16 : decode cX11_packed 16 = .ok (.iload_n 2, 1) := by decide +kernel
theorem dX11_packed_17 : decode cX11_packed 17 = .ok (.iload_n 3, 1) := by decide +kernel
theorem dX11_packed_18 : decode cX11_packed 18 = .ok (.invokestatic 92, 3) := by decide +kernel
theorem dX11_packed_21 : decode cX11_packed 21 = .ok (.iload 4, 2) := by decide +kernel
theorem dX11_packed_23 : decode cX11_packed 23 = .ok (.iconst 3, 1) := by decide +kernel
theorem dX11_packed_24 : decode cX11_packed 24 = .ok (.idiv, 1) := by decide +kernel
theorem dX11_packed_25 : decode cX11_packed 25 = .ok (.iload_n 2, 1) := by decide +kernel
theorem dX11_packed_26 : decode cX11_packed 26 = .ok (.iload_n 3, 1) := by decide +kernel
theorem dX11_packed_27 : decode cX11_packed 27 = .ok (.invokestatic 193, 3) := by decide +kernel
theorem dX11_packed_30 : decode cX11_packed 30 = .ok (.if_icmp .le 6, 3) := by decide +kernel
theorem dX11_packed_33 : decode cX11_packed 33 = .ok (.ldc 62, 2) := by decide +kernel
theorem dX11_packed_35 : decode cX11_packed 35 = .ok (.ireturn, 1) := by decide +kernel
theorem dX11_packed_36 : decode cX11_packed 36 = .ok (.iload_n 1, 1) := by decide +kernel
theorem dX11_packed_37 : decode cX11_packed 37 = .ok (.iload_n 2, 1) := by decide +kernel
theorem dX11_packed_38 : decode cX11_packed 38 = .ok (.iload_n 3, 1) := by decide +kernel
theorem dX11_packed_39 : decode cX11_packed 39 = .ok (.invokestatic 100, 3) := by decide +kernel
theorem dX11_packed_42 : decode cX11_packed 42 = .ok (.iload 4, 2) := by decide +kernel
theorem dX11_packed_44 : decode cX11_packed 44 = .ok (.iconst 3, 1) := by decide +kernel
theorem dX11_packed_45 : decode cX11_packed 45 = .ok (.idiv, 1) := by decide +kernel
theorem dX11_packed_46 : decode cX11_packed 46 = .ok (.invokestatic 176, 3) := by decide +kernel
theorem dX11_packed_49 : decode cX11_packed 49 = .ok (.iload 4, 2) := by decide +kernel
theorem dX11_packed_51 : decode cX11_packed 51 = .ok (.iconst 3, 1) := by decide +kernel
theorem dX11_packed_52 : decode cX11_packed 52 = .ok (.irem, 1) := by decide +kernel
theorem dX11_packed_53 : decode cX11_packed 53 = .ok (.invokestatic 234, 3) := by decide +kernel
theorem dX11_packed_56 : decode cX11_packed 56 = .ok (.ireturn, 1) := by decide +kernel
theorem dX11_version_0 : decode cX11_version 0 = .ok (.aload_n 0, 1) := by decide +kernel
theorem dX11_version_1 : decode cX11_version 1 = .ok (.getfield 14, 3) := by decide +kernel
theorem dX11_version_4 : decode cX11_version 4 = .ok (.getfield 85, 3) := by decide +kernel
theorem dX11_version_7 : decode cX11_version 7 = .ok (.ireturn, 1) := by decide +kernel
theorem dX11_directory_0 : decode cX11_directory 0 = .ok (.aload_n 0, 1) := by decide +kernel
theorem dX11_directory_1 : decode cX11_directory 1 = .ok (.iload_n 1, 1) := by decide +kernel
theorem dX11_directory_2 : decode cX11_directory 2 = .ok (.invokevirtual 237, 3) := by decide +kernel
theorem dX11_directory_5 : decode cX11_directory 5 = .ok (.astore_n 3, 1) := by decide +kernel
theorem dX11_directory_6 : decode cX11_directory 6 = .ok (.iload_n 2, 1) := by decide +kernel
theorem dX11_directory_7 : decode cX11_directory 7 = .ok (.invokestatic 241, 3) := by decide +kernel
theorem dX11_directory_10 : decode cX11_directory 10 = .ok (.aload_n 0, 1) := by decide +kernel
theorem dX11_directory_11 : decode cX11_directory 11 = .ok (.aload_n 3, 1) := by decide +kernel
theorem dX11_directory_12 : decode cX11_directory 12 = .ok (.iload_n 2, 1) := by decide +kernel
theorem dX11_directory_13 : decode cX11_directory 13 = .ok (.invokevirtual 244, 3) := by decide +kernel
theorem dX11_directory_16 : decode cX11_directory 16 = .ok (.ifnonnull 15, 3) := by decide +kernel
theorem dX11_directory_19 : decode cX11_directory 19 = .ok (.aload_n 0, 1) := by decide +kernel
theorem dX11_directory_20 : decode cX11_directory 20 = .ok (.getfield 42, 3) := by decide +kernel
theorem dX11_directory_23 : decode cX11_directory 23 = .ok (.invokevirtual 153, 3) := by decide +kernel
theorem dX11_directory_26 : decode cX11_directory 26 = .ok (.bipush 9, 2) := by decide +kernel
theorem dX11_directory_28 : decode cX11_directory 28 = .ok (.if_icmp .le 13, 3) := by decide +kernel
theorem dX11_directory_31 : decode cX11_directory 31 = .ok (.new 119, 3) := by decide +kernel
theorem dX11_directory_34 : decode cX11_directory 34 = .ok (.dup, 1) := by decide +kernel
theorem dX11_directory_35 : decode cX11_directory 35 = .ok (.ldc 248, 2) := by decide +kernel
theorem dX11_directory_37 : decode cX11_directory 37 = .ok (.invokespecial 123, 3) := by decide +kernel
theorem dX11_directory_40 : decode cX11_directory 40 = .ok (.athrow, 1) := by decide +kernel
theorem dX11_directory_41 : decode cX11_directory 41 = .ok (.aload_n 0, 1) := by decide +kernel
theorem dX11_directory_42 : decode cX11_directory 42 = .ok (.dup, 1) := by decide +kernel
theorem dX11_directory_43 : decode cX11_directory 43 = .ok (.getfield 66, 3) := by decide +kernel
theorem dX11_directory_46 : decode cX11_directory 46 = .ok (.iconst 1, 1) := by decide +kernel
theorem dX11_directory_47 : decode cX11_directory 47 = .ok (.iadd, 1) := by decide +kernel
theorem dX11_directory_48 : decode cX11_directory 48 = .ok (.putfield 66, 3) := by decide +kernel
theorem dX11_directory_51 : decode cX11_directory 51 = .ok (.aload_n 0, 1) := by decide +kernel
theorem dX11_directory_52 : decode cX11_directory 52 = .ok (.getfield 42, 3) := by decide +kernel
theorem dX11_directory_55 : decode cX11_directory 55 = .ok (.new 76, 3) := by decide +kernel
theorem dX11_directory_58 : decode cX11_directory 58 = .ok (.dup, 1) := by decide +kernel
theorem dX11_directory_59 : decode cX11_directory 59 = .ok (.aload_n 0, 1) := by decide +kernel
theorem dX11_directory_60 : decode cX11_directory 60 = .ok (.getfield 66, 3) := by decide +kernel
theorem dX11_directory_63 : decode cX11_directory 63 = .ok (.aload_n 3, 1) := by decide +kernel
theorem dX11_directory_64 : decode cX11_directory 64 = .ok (.iload_n 2, 1) := by decide +kernel
theorem dX11_directory_65 : decode cX11_directory 65 = .ok (.aload_n 0, 1) := by decide +kernel
theorem dX11_directory_66 : decode cX11_directory 66 = .ok (.invokevirtual 250, 3) := by decide +kernel
theorem dX11_directory_69 : decode cX11_directory 69 = .ok (.invokespecial 78, 3) := by decide +kernel
theorem dX11_directory_72 : decode cX11_directory 72 = .ok (.invokevirtual 72, 3) := by decide +kernel
theorem dX11_directory_75 : decode cX11_directory 75 = .ok (.pop, 1) := by decide +kernel
theorem dX11_directory_76 : decode cX11_directory 76 = .ok (.aload_n 0, 1) := by decide +kernel
theorem dX11_directory_77 : decode cX11_directory 77 = .ok (.getfield 66, 3) := by decide +kernel
theorem dX11_directory_80 : decode cX11_directory 80 = .ok (.ireturn, 1) := by decide +kernel
theorem dX11_move_0 : decode cX11_move 0 = .ok (.aload_n 0, 1) := by decide +kernel
theorem dX11_move_1 : decode cX11_move 1 = .ok (.iload_n 1, 1) := by decide +kernel
theorem dX11_move_2 : decode cX11_move 2 = .ok (.invokevirtual 237, 3) := by decide +kernel
theorem dX11_move_5 : decode cX11_move 5 = .ok (.astore 4, 2) := by decide +kernel
theorem dX11_move_7 : decode cX11_move 7 = .ok (.aload_n 0, 1) := by decide +kernel
theorem dX11_move_8 : decode cX11_move 8 = .ok (.iload_n 2, 1) := by decide +kernel
theorem dX11_move_9 : decode cX11_move 9 = .ok (.invokevirtual 237, 3) := by decide +kernel
theorem dX11_move_12 : decode cX11_move 12 = .ok (.astore 5, 2) := by decide +kernel
theorem dX11_move_14 : decode cX11_move 14 = .ok (.iload_n 3, 1) := by decide +kernel
theorem dX11_move_15 : decode cX11_move 15 = .ok (.invokestatic 241, 3) := by decide +kernel
theorem dX11_move_18 : decode cX11_move 18 = .ok (.aload 4, 2) := by decide +kernel
theorem dX11_move_20 : decode cX11_move 20 = .ok (.getfield 253, 3) := by decide +kernel
theorem dX11_move_23 : decode cX11_move 23 = .ok (.ifCond .eq 13, 3) := by decide +kernel
theorem dX11_move_26 : decode cX11_move 26 = .ok (.aload 5, 2) := by decide +kernel
theorem dX11_move_28 : decode cX11_move 28 = .ok (.aload 4, 2) := by decide +kernel
theorem dX11_move_30 : decode cX11_move 30 = .ok (.invokestatic 256, 3) := by decide +kernel
theorem dX11_move_33 : decode cX11_move 33 = .ok (.ifCond .eq 14, 3) := by decide +kernel
theorem dX11_move_36 : decode cX11_move 36 = .ok (.new 119, 3) := by decide +kernel
theorem dX11_move_39 : decode cX11_move 39 = .ok (.dup, 1) := by decide +kernel
theorem dX11_move_40 : decode cX11_move 40 = .ok (.ldc_w 260, 3) := by decide +kernel
theorem dX11_move_43 : decode cX11_move 43 = .ok (.invokespecial 123, 3) := by decide +kernel
theorem dX11_move_46 : decode cX11_move 46 = .ok (.athrow, 1) := by decide +kernel
theorem dX11_move_47 : decode cX11_move 47 = .ok (.aload_n 0, 1) := by decide +kernel
theorem dX11_move_48 : decode cX11_move 48 = .ok (.aload 5, 2) := by decide +kernel
theorem dX11_move_50 : decode cX11_move 50 = .ok (.iload_n 3, 1) := by decide +kernel
theorem dX11_move_51 : decode cX11_move 51 = .ok (.invokevirtual 244, 3) := by decide +kernel
theorem dX11_move_54 : decode cX11_move 54 = .ok (.astore 6, 2) := by decide +kernel
theorem dX11_move_56 : decode cX11_move 56 = .ok (.aload 6, 2) := by decide +kernel
theorem dX11_move_58 : decode cX11_move 58 = .ok (.ifnull 21, 3) := by decide +kernel
theorem dX11_move_61 : decode cX11_move 61 = .ok (.aload 6, 2) := by decide +kernel
theorem dX11_move_63 : decode cX11_move 63 = .ok (.aload 4, 2) := by decide +kernel
theorem dX11_move_65 : decode cX11_move 65 = .ok (.if_acmp .eq 14, 3) := by decide +kernel
theorem dX11_move_68 : decode cX11_move 68 = .ok (.new 119, 3) := by decide +kernel
theorem dX11_move_71 : decode cX11_move 71 = .ok (.dup, 1) := by decide +kernel
theorem dX11_move_72 : decode cX11_move 72 = .ok (.ldc_w 262, 3) := by decide +kernel
theorem dX11_move_75 : decode cX11_move 75 = .ok (.invokespecial 123, 3) := by decide +kernel
theorem dX11_move_78 : decode cX11_move 78 = .ok (.athrow, 1) := by decide +kernel
theorem dX11_move_79 : decode cX11_move 79 = .ok (.aload 4, 2) := by decide +kernel
theorem dX11_move_81 : decode cX11_move 81 = .ok (.aload 5, 2) := by decide +kernel
theorem dX11_move_83 : decode cX11_move 83 = .ok (.putfield 264, 3) := by decide +kernel
theorem dX11_move_86 : decode cX11_move 86 = .ok (.aload 4, 2) := by decide +kernel
theorem dX11_move_88 : decode cX11_move 88 = .ok (.iload_n 3, 1) := by decide +kernel
theorem dX11_move_89 : decode cX11_move 89 = .ok (.putfield 268, 3) := by decide +kernel
theorem dX11_move_92 : decode cX11_move 92 = .ok (.return_, 1) := by decide +kernel
theorem dX11_remove_0 : decode cX11_remove 0 = .ok (.aload_n 0, 1) := by decide +kernel
theorem dX11_remove_1 : decode cX11_remove 1 = .ok (.iload_n 1, 1) := by decide +kernel
theorem dX11_remove_2 : decode cX11_remove 2 = .ok (.invokevirtual 237, 3) := by decide +kernel
theorem dX11_remove_5 : decode cX11_remove 5 = .ok (.astore_n 2, 1) := by decide +kernel
theorem dX11_remove_6 : decode cX11_remove 6 = .ok (.aload_n 2, 1) := by decide +kernel
theorem dX11_remove_7 : decode cX11_remove 7 = .ok (.getfield 253, 3) := by decide +kernel
theorem dX11_remove_10 : decode cX11_remove 10 = .ok (.ifCond .ne 14, 3) := by decide +kernel
theorem dX11_remove_13 : decode cX11_remove 13 = .ok (.new 119, 3) := by decide +kernel
theorem dX11_remove_16 : decode cX11_remove 16 = .ok (.dup, 1) := by decide +kernel
theorem dX11_remove_17 : decode cX11_remove 17 = .ok (.ldc_w 271, 3) := by decide +kernel
theorem dX11_remove_20 : decode cX11_remove 20 = .ok (.invokespecial 123, 3) := by decide +kernel
theorem dX11_remove_23 : decode cX11_remove 23 = .ok (.athrow, 1) := by decide +kernel
theorem dX11_remove_24 : decode cX11_remove 24 = .ok (.aload_n 0, 1) := by decide +kernel
theorem dX11_remove_25 : decode cX11_remove 25 = .ok (.aload_n 2, 1) := by decide +kernel
theorem dX11_remove_26 : decode cX11_remove 26 = .ok (.invokevirtual 273, 3) := by decide +kernel
theorem dX11_remove_29 : decode cX11_remove 29 = .ok (.istore_n 3, 1) := by decide +kernel
theorem dX11_remove_30 : decode cX11_remove 30 = .ok (.iload_n 3, 1) := by decide +kernel
theorem dX11_remove_31 : decode cX11_remove 31 = .ok (.ifCond .le 8, 3) := by decide +kernel
theorem dX11_remove_34 : decode cX11_remove 34 = .ok (.aload_n 0, 1) := by decide +kernel
theorem dX11_remove_35 : decode cX11_remove 35 = .ok (.aload_n 2, 1) := by decide +kernel
theorem dX11_remove_36 : decode cX11_remove 36 = .ok (.invokevirtual 277, 3) := by decide +kernel
theorem dX11_remove_39 : decode cX11_remove 39 = .ok (.aload_n 0, 1) := by decide +kernel
theorem dX11_remove_40 : decode cX11_remove 40 = .ok (.getfield 42, 3) := by decide +kernel
theorem dX11_remove_43 : decode cX11_remove 43 = .ok (.invokevirtual 153, 3) := by decide +kernel
theorem dX11_remove_46 : decode cX11_remove 46 = .ok (.iconst 1, 1) := by decide +kernel
theorem dX11_remove_47 : decode cX11_remove 47 = .ok (.isub, 1) := by decide +kernel
theorem dX11_remove_48 : decode cX11_remove 48 = .ok (.istore 4, 2) := by decide +kernel
theorem dX11_remove_50 : decode cX11_remove 50 = .ok (.iload 4, 2) := by decide +kernel
theorem dX11_remove_52 : decode cX11_remove 52 = .ok (.ifCond .lt 38, 3) := by decide +kernel
theorem dX11_remove_55 : decode cX11_remove 55 = .ok (.aload_n 0, 1) := by decide +kernel
theorem dX11_remove_56 : decode cX11_remove 56 = .ok (.getfield 42, 3) := by decide +kernel
theorem dX11_remove_59 : decode cX11_remove 59 = .ok (.iload 4, 2) := by decide +kernel
theorem dX11_remove_61 : decode cX11_remove 61 = .ok (.invokevirtual 166, 3) := by decide +kernel
theorem dX11_remove_64 : decode cX11_remove 64 = .ok (.checkcast 76, 3) := by decide +kernel
theorem dX11_remove_67 : decode cX11_remove 67 = .ok (.aload_n 2, 1) := by decide +kernel
theorem dX11_remove_68 : decode cX11_remove 68 = .ok (.invokestatic 256, 3) := by decide +kernel
theorem dX11_remove_71 : decode cX11_remove 71 = .ok (.ifCond .eq 13, 3) := by decide +kernel
theorem dX11_remove_74 : decode cX11_remove 74 = .ok (.aload_n 0, 1) := by decide +kernel
theorem dX11_remove_75 : decode cX11_remove 75 = .ok (.getfield 42, 3) := by decide +kernel
theorem dX11_remove_78 : decode cX11_remove 78 = .ok (.iload 4, 2) := by decide +kernel
theorem dX11_remove_80 : decode cX11_remove 80 = .ok (.invokevirtual 281, 3) := by decide +kernel
theorem dX11_remove_83 : decode cX11_remove 83 = .ok (.pop, 1) := by decide +kernel
theorem dX11_remove_84 : decode cX11_remove 84 = .ok (.iinc 4 (-1), 3) := by decide +kernel
theorem dX11_remove_87 : decode cX11_remove 87 = .ok (.goto (-37), 3) := by decide +kernel
theorem dX11_remove_90 : decode cX11_remove 90 = .ok (.iload_n 3, 1) := by decide +kernel
theorem dX11_remove_91 : decode cX11_remove 91 = .ok (.ireturn, 1) := by decide +kernel
theorem dX11_shortName_0 : decode cX11_shortName 0 = .ok (.aload_n 0, 1) := by decide +kernel
theorem dX11_shortName_1 : decode cX11_shortName 1 = .ok (.iload_n 1, 1) := by decide +kernel
theorem dX11_shortName_2 : decode cX11_shortName 2 = .ok (.invokevirtual 237, 3) := by decide +kernel
theorem dX11_shortName_5 : decode cX11_shortName 5 = .ok (.getfield 284, 3) := by decide +kernel
theorem dX11_shortName_8 : decode cX11_shortName 8 = .ok (.ireturn, 1) := by decide +kernel
theorem dX11_named_0 : decode cX11_named 0 = .ok (.aload_n 0, 1) := by decide +kernel
theorem dX11_named_1 : decode cX11_named 1 = .ok (.iload_n 1, 1) := by decide +kernel
theorem dX11_named_2 : decode cX11_named 2 = .ok (.invokevirtual 237, 3) := by decide +kernel
theorem dX11_named_5 : decode cX11_named 5 = .ok (.astore_n 3, 1) := by decide +kernel
theorem dX11_named_6 : decode cX11_named 6 = .ok (.iload_n 2, 1) := by decide +kernel
theorem dX11_named_7 : decode cX11_named 7 = .ok (.invokestatic 241, 3) := by decide +kernel
theorem dX11_named_10 : decode cX11_named 10 = .ok (.aload_n 0, 1) := by decide +kernel
theorem dX11_named_11 : decode cX11_named 11 = .ok (.aload_n 3, 1) := by decide +kernel
theorem dX11_named_12 : decode cX11_named 12 = .ok (.iload_n 2, 1) := by decide +kernel
theorem dX11_named_13 : decode cX11_named 13 = .ok (.invokevirtual 244, 3) := by decide +kernel
theorem dX11_named_16 : decode cX11_named 16 = .ok (.astore 4, 2) := by decide +kernel
theorem dX11_named_18 : decode cX11_named 18 = .ok (.aload 4, 2) := by decide +kernel
theorem dX11_named_20 : decode cX11_named 20 = .ok (.ifnonnull 8, 3) := by decide +kernel
theorem dX11_named_23 : decode cX11_named 23 = .ok (.ldc 62, 2) := by decide +kernel
theorem dX11_named_25 : decode cX11_named 25 = .ok (.goto 8, 3) := by decide +kernel
theorem dX11_named_28 : decode cX11_named 28 = .ok (.aload 4, 2) := by decide +kernel
theorem dX11_named_30 : decode cX11_named 30 = .ok (.getfield 253, 3) := by decide +kernel
theorem dX11_named_33 : decode cX11_named 33 = .ok (.ireturn, 1) := by decide +kernel
theorem dX11_save_0 : decode cX11_save 0 = .ok (.aload_n 0, 1) := by decide +kernel
theorem dX11_save_1 : decode cX11_save 1 = .ok (.iload_n 1, 1) := by decide +kernel
theorem dX11_save_2 : decode cX11_save 2 = .ok (.invokevirtual 81, 3) := by decide +kernel
theorem dX11_save_5 : decode cX11_save 5 = .ok (.astore 4, 2) := by decide +kernel
theorem dX11_save_7 : decode cX11_save 7 = .ok (.iload_n 2, 1) := by decide +kernel
theorem dX11_save_8 : decode cX11_save 8 = .ok (.invokestatic 287, 3) := by decide +kernel
theorem dX11_save_11 : decode cX11_save 11 = .ok (.iload_n 3, 1) := by decide +kernel
theorem dX11_save_12 : decode cX11_save 12 = .ok (.invokestatic 290, 3) := by decide +kernel
theorem dX11_save_15 : decode cX11_save 15 = .ok (.aload 4, 2) := by decide +kernel
theorem dX11_save_17 : decode cX11_save 17 = .ok (.invokestatic 190, 3) := by decide +kernel
theorem dX11_save_20 : decode cX11_save 20 = .ok (.aload_n 0, 1) := by decide +kernel
theorem dX11_save_21 : decode cX11_save 21 = .ok (.aload 4, 2) := by decide +kernel
theorem dX11_save_23 : decode cX11_save 23 = .ok (.iload_n 2, 1) := by decide +kernel
theorem dX11_save_24 : decode cX11_save 24 = .ok (.iload_n 3, 1) := by decide +kernel
theorem dX11_save_25 : decode cX11_save 25 = .ok (.invokevirtual 293, 3) := by decide +kernel
theorem dX11_save_28 : decode cX11_save 28 = .ok (.ireturn, 1) := by decide +kernel
theorem dX11_erase_0 : decode cX11_erase 0 = .ok (.aload_n 0, 1) := by decide +kernel
theorem dX11_erase_1 : decode cX11_erase 1 = .ok (.iload_n 1, 1) := by decide +kernel
theorem dX11_erase_2 : decode cX11_erase 2 = .ok (.invokevirtual 81, 3) := by decide +kernel
theorem dX11_erase_5 : decode cX11_erase 5 = .ok (.astore_n 3, 1) := by decide +kernel
theorem dX11_erase_6 : decode cX11_erase 6 = .ok (.iload_n 2, 1) := by decide +kernel
theorem dX11_erase_7 : decode cX11_erase 7 = .ok (.invokestatic 287, 3) := by decide +kernel
theorem dX11_erase_10 : decode cX11_erase 10 = .ok (.aload_n 3, 1) := by decide +kernel
theorem dX11_erase_11 : decode cX11_erase 11 = .ok (.invokestatic 190, 3) := by decide +kernel
theorem dX11_erase_14 : decode cX11_erase 14 = .ok (.aload_n 0, 1) := by decide +kernel
theorem dX11_erase_15 : decode cX11_erase 15 = .ok (.aload_n 3, 1) := by decide +kernel
theorem dX11_erase_16 : decode cX11_erase 16 = .ok (.iload_n 2, 1) := by decide +kernel
theorem dX11_erase_17 : decode cX11_erase 17 = .ok (.ldc 62, 2) := by decide +kernel
theorem dX11_erase_19 : decode cX11_erase 19 = .ok (.invokevirtual 293, 3) := by decide +kernel
theorem dX11_erase_22 : decode cX11_erase 22 = .ok (.ireturn, 1) := by decide +kernel
theorem dX11_build_0 : decode cX11_build 0 = .ok (.iload_n 1, 1) := by decide +kernel
theorem dX11_build_1 : decode cX11_build 1 = .ok (.invokestatic 297, 3) := by decide +kernel
theorem dX11_build_4 : decode cX11_build 4 = .ok (.iload_n 2, 1) := by decide +kernel
theorem dX11_build_5 : decode cX11_build 5 = .ok (.iconst 1, 1) := by decide +kernel
theorem dX11_build_6 : decode cX11_build 6 = .ok (.if_icmp .lt 9, 3) := by decide +kernel
theorem dX11_build_9 : decode cX11_build 9 = .ok (.iload_n 2, 1) := by decide +kernel
theorem dX11_build_10 : decode cX11_build 10 = .ok (.bipush 20, 2) := by decide +kernel
theorem dX11_build_12 : decode cX11_build 12 = .ok (.if_icmp .le 14, 3) := by decide +kernel
theorem dX11_build_15 : decode cX11_build 15 = .ok (.new 161, 3) := by decide +kernel
theorem dX11_build_18 : decode cX11_build 18 = .ok (.dup, 1) := by decide +kernel
theorem dX11_build_19 : decode cX11_build 19 = .ok (.ldc_w 300, 3) := by decide +kernel
theorem dX11_build_22 : decode cX11_build 22 = .ok (.invokespecial 165, 3) := by decide +kernel
theorem dX11_build_25 : decode cX11_build 25 = .ok (.athrow, 1) := by decide +kernel
theorem dX11_build_26 : decode cX11_build 26 = .ok (.aload_n 0, 1) := by decide +kernel
theorem dX11_build_27 : decode cX11_build 27 = .ok (.getfield 14, 3) := by decide +kernel
theorem dX11_build_30 : decode cX11_build 30 = .ok (.bipush (-6), 2) := by decide +kernel
theorem dX11_build_32 : decode cX11_build 32 = .ok (.iload_n 1, 1) := by decide +kernel
theorem dX11_build_33 : decode cX11_build 33 = .ok (.invokestatic 302, 3) := by decide +kernel
theorem dX11_build_36 : decode cX11_build 36 = .ok (.invokevirtual 304, 3) := by decide +kernel
theorem dX11_build_39 : decode cX11_build 39 = .ok (.invokestatic 308, 3) := by decide +kernel
theorem dX11_build_42 : decode cX11_build 42 = .ok (.istore_n 3, 1) := by decide +kernel
theorem dX11_build_43 : decode cX11_build 43 = .ok (.iload_n 3, 1) := by decide +kernel
theorem dX11_build_44 : decode cX11_build 44 = .ok (.sipush 1000, 3) := by decide +kernel
theorem dX11_build_47 : decode cX11_build 47 = .ok (.if_icmp .ne 14, 3) := by decide +kernel
theorem dX11_build_50 : decode cX11_build 50 = .ok (.new 119, 3) := by decide +kernel
theorem dX11_build_53 : decode cX11_build 53 = .ok (.dup, 1) := by decide +kernel
theorem dX11_build_54 : decode cX11_build 54 = .ok (.ldc_w 312, 3) := by decide +kernel
theorem dX11_build_57 : decode cX11_build 57 = .ok (.invokespecial 123, 3) := by decide +kernel
theorem dX11_build_60 : decode cX11_build 60 = .ok (.athrow, 1) := by decide +kernel
theorem dX11_build_61 : decode cX11_build 61 = .ok (.aload_n 0, 1) := by decide +kernel
theorem dX11_build_62 : decode cX11_build 62 = .ok (.iload_n 1, 1) := by decide +kernel
theorem dX11_build_63 : decode cX11_build 63 = .ok (.iload_n 3, 1) := by decide +kernel
theorem dX11_build_64 : decode cX11_build 64 = .ok (.iload_n 2, 1) := by decide +kernel
theorem dX11_build_65 : decode cX11_build 65 = .ok (.invokevirtual 314, 3) := by decide +kernel
theorem dX11_build_68 : decode cX11_build 68 = .ok (.ireturn, 1) := by decide +kernel
theorem dX11_off_0 : decode cX11_off 0 = .ok (.iload_n 1, 1) := by decide +kernel
theorem dX11_off_1 : decode cX11_off 1 = .ok (.invokestatic 297, 3) := by decide +kernel
theorem dX11_off_4 : decode cX11_off 4 = .ok (.bipush (-2), 2) := by decide +kernel
theorem dX11_off_6 : decode cX11_off 6 = .ok (.iload_n 1, 1) := by decide +kernel
theorem dX11_off_7 : decode cX11_off 7 = .ok (.isub, 1) := by decide +kernel
theorem dX11_off_8 : decode cX11_off 8 = .ok (.sipush 10000, 3) := by decide +kernel
theorem dX11_off_11 : decode cX11_off 11 = .ok (.invokestatic 138, 3) := by decide +kernel
theorem dX11_off_14 : decode cX11_off 14 = .ok (.lstore_n 2, 1) := by decide +kernel
theorem dX11_off_15 : decode cX11_off 15 = .ok (.bipush (-2), 2) := by decide +kernel
theorem dX11_off_17 : decode cX11_off 17 = .ok (.iload_n 1, 1) := by decide +kernel
theorem dX11_off_18 : decode cX11_off 18 = .ok (.isub, 1) := by decide +kernel
theorem dX11_off_19 : decode cX11_off 19 = .ok (.sipush 10000, 3) := by decide +kernel
theorem dX11_off_22 : decode cX11_off 22 = .ok (.invokestatic 142, 3) := by decide +kernel
theorem dX11_off_25 : decode cX11_off 25 = .ok (.lstore 4, 2) := by decide +kernel
theorem dX11_off_27 : decode cX11_off 27 = .ok (.aload_n 0, 1) := by decide +kernel
theorem dX11_off_28 : decode cX11_off 28 = .ok (.getfield 14, 3) := by decide +kernel
theorem dX11_off_31 : decode cX11_off 31 = .ok (.lload_n 2, 1) := by decide +kernel
theorem dX11_off_32 : decode cX11_off 32 = .ok (.lload 4, 2) := by decide +kernel
theorem dX11_off_34 : decode cX11_off 34 = .ok (.invokevirtual 318, 3) := by decide +kernel
theorem dX11_off_37 : decode cX11_off 37 = .ok (.invokevirtual 153, 3) := by decide +kernel
theorem dX11_off_40 : decode cX11_off 40 = .ok (.istore 6, 2) := by decide +kernel
theorem dX11_off_42 : decode cX11_off 42 = .ok (.aload_n 0, 1) := by decide +kernel
theorem dX11_off_43 : decode cX11_off 43 = .ok (.getfield 14, 3) := by decide +kernel
theorem dX11_off_46 : decode cX11_off 46 = .ok (.iconst 1, 1) := by decide +kernel
theorem dX11_off_47 : decode cX11_off 47 = .ok (.invokevirtual 223, 3) := by decide +kernel
theorem dX11_off_50 : decode cX11_off 50 = .ok (.aload_n 0, 1) := by decide +kernel
theorem dX11_off_51 : decode cX11_off 51 = .ok (.getfield 14, 3) := by decide +kernel
theorem dX11_off_54 : decode cX11_off 54 = .ok (.lload_n 2, 1) := by decide +kernel
theorem dX11_off_55 : decode cX11_off 55 = .ok (.lload 4, 2) := by decide +kernel
theorem dX11_off_57 : decode cX11_off 57 = .ok (.invokevirtual 322, 3) := by decide +kernel
theorem dX11_off_60 : decode cX11_off 60 = .ok (.aload_n 0, 1) := by decide +kernel
theorem dX11_off_61 : decode cX11_off 61 = .ok (.getfield 14, 3) := by decide +kernel
theorem dX11_off_64 : decode cX11_off 64 = .ok (.iconst 0, 1) := by decide +kernel
theorem dX11_off_65 : decode cX11_off 65 = .ok (.bipush (-6), 2) := by decide +kernel
theorem dX11_off_67 : decode cX11_off 67 = .ok (.iload_n 1, 1) := by decide +kernel
theorem dX11_off_68 : decode cX11_off 68 = .ok (.invokestatic 302, 3) := by decide +kernel
theorem dX11_off_71 : decode cX11_off 71 = .ok (.sipush (-1000), 3) := by decide +kernel
theorem dX11_off_74 : decode cX11_off 74 = .ok (.invokevirtual 325, 3) := by decide +kernel
theorem dX11_off_77 : decode cX11_off 77 = .ok (.aload_n 0, 1) := by decide +kernel
theorem dX11_off_78 : decode cX11_off 78 = .ok (.invokevirtual 329, 3) := by decide +kernel
theorem dX11_off_81 : decode cX11_off 81 = .ok (.iload 6, 2) := by decide +kernel
theorem dX11_off_83 : decode cX11_off 83 = .ok (.ireturn, 1) := by decide +kernel
theorem dX11_rank_0 : decode cX11_rank 0 = .ok (.iload_n 1, 1) := by decide +kernel
theorem dX11_rank_1 : decode cX11_rank 1 = .ok (.invokestatic 290, 3) := by decide +kernel
theorem dX11_rank_4 : decode cX11_rank 4 = .ok (.iconst 0, 1) := by decide +kernel
theorem dX11_rank_5 : decode cX11_rank 5 = .ok (.istore_n 2, 1) := by decide +kernel
theorem dX11_rank_6 : decode cX11_rank 6 = .ok (.iconst 0, 1) := by decide +kernel
theorem dX11_rank_7 : decode cX11_rank 7 = .ok (.istore_n 3, 1) := by decide +kernel
theorem dX11_rank_8 : decode cX11_rank 8 = .ok (.iload_n 3, 1) := by decide +kernel
theorem dX11_rank_9 : decode cX11_rank 9 = .ok (.iload_n 1, 1) := by decide +kernel
theorem dX11_rank_10 : decode cX11_rank 10 = .ok (.if_icmp .ge 46, 3) := by decide +kernel
theorem dX11_rank_13 : decode cX11_rank 13 = .ok (.aload_n 0, 1) := by decide +kernel
theorem dX11_rank_14 : decode cX11_rank 14 = .ok (.getfield 28, 3) := by decide +kernel
theorem dX11_rank_17 : decode cX11_rank 17 = .ok (.aload_n 0, 1) := by decide +kernel
theorem dX11_rank_18 : decode cX11_rank 18 = .ok (.getfield 14, 3) := by decide +kernel
theorem dX11_rank_21 : decode cX11_rank 21 = .ok (.bipush (-3), 2) := by decide +kernel
theorem dX11_rank_23 : decode cX11_rank 23 = .ok (.iload_n 3, 1) := by decide +kernel
theorem dX11_rank_24 : decode cX11_rank 24 = .ok (.invokestatic 302, 3) := by decide +kernel
theorem dX11_rank_27 : decode cX11_rank 27 = .ok (.aload_n 0, 1) := by decide +kernel
theorem dX11_rank_28 : decode cX11_rank 28 = .ok (.getfield 14, 3) := by decide +kernel
theorem dX11_rank_31 : decode cX11_rank 31 = .ok (.getfield 85, 3) := by decide +kernel
theorem dX11_rank_34 : decode cX11_rank 34 = .ok (.invokevirtual 107, 3) := by decide +kernel
theorem dX11_rank_37 : decode cX11_rank 37 = .ok (.invokevirtual 230, 3) := by decide +kernel
theorem dX11_rank_40 : decode cX11_rank 40 = .ok (.iload_n 2, 1) := by decide +kernel
theorem dX11_rank_41 : decode cX11_rank 41 = .ok (.aload_n 0, 1) := by decide +kernel
theorem dX11_rank_42 : decode cX11_rank 42 = .ok (.getfield 28, 3) := by decide +kernel
theorem dX11_rank_45 : decode cX11_rank 45 = .ok (.getfield 332, 3) := by decide +kernel
theorem dX11_rank_48 : decode cX11_rank 48 = .ok (.iadd, 1) := by decide +kernel
theorem dX11_rank_49 : decode cX11_rank 49 = .ok (.istore_n 2, 1) := by decide +kernel
theorem dX11_rank_50 : decode cX11_rank 50 = .ok (.iinc 3 1, 3) := by decide +kernel
theorem dX11_rank_53 : decode cX11_rank 53 = .ok (.goto (-45), 3) := by decide +kernel
theorem dX11_rank_56 : decode cX11_rank 56 = .ok (.iload_n 2, 1) := by decide +kernel
theorem dX11_rank_57 : decode cX11_rank 57 = .ok (.ireturn, 1) := by decide +kernel
theorem dX11_rankAnew_0 : decode cX11_rankAnew 0 = .ok (.iload_n 1, 1) := by decide +kernel
theorem dX11_rankAnew_1 : decode cX11_rankAnew 1 = .ok (.invokestatic 290, 3) := by decide +kernel
theorem dX11_rankAnew_4 : decode cX11_rankAnew 4 = .ok (.iconst 0, 1) := by decide +kernel
theorem dX11_rankAnew_5 : decode cX11_rankAnew 5 = .ok (.istore_n 2, 1) := by decide +kernel
theorem dX11_rankAnew_6 : decode cX11_rankAnew 6 = .ok (.iconst 0, 1) := by decide +kernel
theorem dX11_rankAnew_7 : decode cX11_rankAnew 7 = .ok (.istore_n 3, 1) := by decide +kernel
theorem dX11_rankAnew_8 : decode cX11_rankAnew 8 = .ok (.iload_n 3, 1) := by decide +kernel
theorem dX11_rankAnew_9 : decode cX11_rankAnew 9 = .ok (.bipush 99, 2) := by decide +kernel
theorem dX11_rankAnew_11 : decode cX11_rankAnew 11 = .ok (.if_icmp .gt 59, 3) := by decide +kernel
theorem dX11_rankAnew_14 : decode cX11_rankAnew 14 = .ok (.aload_n 0, 1) := by decide +kernel
theorem dX11_rankAnew_15 : decode cX11_rankAnew 15 = .ok (.getfield 28, 3) := by decide +kernel
theorem dX11_rankAnew_18 : decode cX11_rankAnew 18 = .ok (.aload_n 0, 1) := by decide +kernel
theorem dX11_rankAnew_19 : decode cX11_rankAnew 19 = .ok (.getfield 14, 3) := by decide +kernel
theorem dX11_rankAnew_22 : decode cX11_rankAnew 22 = .ok (.iconst (-1), 1) := by decide +kernel
theorem dX11_rankAnew_23 : decode cX11_rankAnew 23 = .ok (.iload_n 3, 1) := by decide +kernel
theorem dX11_rankAnew_24 : decode cX11_rankAnew 24 = .ok (.invokestatic 302, 3) := by decide +kernel
theorem dX11_rankAnew_27 : decode cX11_rankAnew 27 = .ok (.aload_n 0, 1) := by decide +kernel
theorem dX11_rankAnew_28 : decode cX11_rankAnew 28 = .ok (.getfield 14, 3) := by decide +kernel
theorem dX11_rankAnew_31 : decode cX11_rankAnew 31 = .ok (.getfield 85, 3) := by decide +kernel
theorem dX11_rankAnew_34 : decode cX11_rankAnew 34 = .ok (.invokevirtual 107, 3) := by decide +kernel
theorem dX11_rankAnew_37 : decode cX11_rankAnew 37 = .ok (.invokevirtual 230, 3) := by decide +kernel
theorem dX11_rankAnew_40 : decode cX11_rankAnew 40 = .ok (.aload_n 0, 1) := by decide +kernel
theorem dX11_rankAnew_41 : decode cX11_rankAnew 41 = .ok (.getfield 28, 3) := by decide +kernel
theorem dX11_rankAnew_44 : decode cX11_rankAnew 44 = .ok (.getfield 335, 3) := by decide +kernel
theorem dX11_rankAnew_47 : decode cX11_rankAnew 47 = .ok (.ifCond .eq 17, 3) := by decide +kernel
theorem dX11_rankAnew_50 : decode cX11_rankAnew 50 = .ok (.aload_n 0, 1) := by decide +kernel
theorem dX11_rankAnew_51 : decode cX11_rankAnew 51 = .ok (.getfield 28, 3) := by decide +kernel
theorem dX11_rankAnew_54 : decode cX11_rankAnew 54 = .ok (.getfield 332, 3) := by decide +kernel
theorem dX11_rankAnew_57 : decode cX11_rankAnew 57 = .ok (.iload_n 1, 1) := by decide +kernel
theorem dX11_rankAnew_58 : decode cX11_rankAnew 58 = .ok (.if_icmp .ge 6, 3) := by decide +kernel
theorem dX11_rankAnew_61 : decode cX11_rankAnew 61 = .ok (.iinc 2 1, 3) := by decide +kernel
theorem dX11_rankAnew_64 : decode cX11_rankAnew 64 = .ok (.iinc 3 1, 3) := by decide +kernel
theorem dX11_rankAnew_67 : decode cX11_rankAnew 67 = .ok (.goto (-59), 3) := by decide +kernel
theorem dX11_rankAnew_70 : decode cX11_rankAnew 70 = .ok (.iload_n 2, 1) := by decide +kernel
theorem dX11_rankAnew_71 : decode cX11_rankAnew 71 = .ok (.ireturn, 1) := by decide +kernel
theorem dX11_watch_0 : decode cX11_watch 0 = .ok (.iload_n 1, 1) := by decide +kernel
theorem dX11_watch_1 : decode cX11_watch 1 = .ok (.iload_n 2, 1) := by decide +kernel
theorem dX11_watch_2 : decode cX11_watch 2 = .ok (.iload_n 3, 1) := by decide +kernel
theorem dX11_watch_3 : decode cX11_watch 3 = .ok (.invokestatic 92, 3) := by decide +kernel
theorem dX11_watch_6 : decode cX11_watch 6 = .ok (.aload_n 0, 1) := by decide +kernel
theorem dX11_watch_7 : decode cX11_watch 7 = .ok (.getfield 45, 3) := by decide +kernel
theorem dX11_watch_10 : decode cX11_watch 10 = .ok (.invokevirtual 153, 3) := by decide +kernel
theorem dX11_watch_13 : decode cX11_watch 13 = .ok (.bipush 20, 2) := by decide +kernel
theorem dX11_watch_15 : decode cX11_watch 15 = .ok (.if_icmp .lt 14, 3) := by decide +kernel
theorem dX11_watch_18 : decode cX11_watch 18 = .ok (.new 119, 3) := by decide +kernel
theorem dX11_watch_21 : decode cX11_watch 21 = .ok (.dup, 1) := by decide +kernel
theorem dX11_watch_22 : decode cX11_watch 22 = .ok (.ldc_w 338, 3) := by decide +kernel
theorem dX11_watch_25 : decode cX11_watch 25 = .ok (.invokespecial 123, 3) := by decide +kernel
theorem dX11_watch_28 : decode cX11_watch 28 = .ok (.athrow, 1) := by decide +kernel
theorem dX11_watch_29 : decode cX11_watch 29 = .ok (.aload_n 0, 1) := by decide +kernel
theorem dX11_watch_30 : decode cX11_watch 30 = .ok (.getfield 45, 3) := by decide +kernel
theorem dX11_watch_33 : decode cX11_watch 33 = .ok (.new 340, 3) := by decide +kernel
theorem dX11_watch_36 : decode cX11_watch 36 = .ok (.dup, 1) := by decide +kernel
theorem dX11_watch_37 : decode cX11_watch 37 = .ok (.aload_n 0, 1) := by decide +kernel
theorem dX11_watch_38 : decode cX11_watch 38 = .ok (.getfield 14, 3) := by decide +kernel
theorem dX11_watch_41 : decode cX11_watch 41 = .ok (.iload_n 1, 1) := by decide +kernel
theorem dX11_watch_42 : decode cX11_watch 42 = .ok (.iload_n 2, 1) := by decide +kernel
theorem dX11_watch_43 : decode cX11_watch 43 = .ok (.iload_n 3, 1) := by decide +kernel
theorem dX11_watch_44 : decode cX11_watch 44 = .ok (.invokestatic 100, 3) := by decide +kernel
theorem dX11_watch_47 : decode cX11_watch 47 = .ok (.invokevirtual 342, 3) := by decide +kernel
theorem dX11_watch_50 : decode cX11_watch 50 = .ok (.invokespecial 346, 3) := by decide +kernel
theorem dX11_watch_53 : decode cX11_watch 53 = .ok (.invokevirtual 72, 3) := by decide +kernel
theorem dX11_watch_56 : decode cX11_watch 56 = .ok (.pop, 1) := by decide +kernel
theorem dX11_watch_57 : decode cX11_watch 57 = .ok (.aload_n 0, 1) := by decide +kernel
theorem dX11_watch_58 : decode cX11_watch 58 = .ok (.getfield 45, 3) := by decide +kernel
theorem dX11_watch_61 : decode cX11_watch 61 = .ok (.invokevirtual 153, 3) := by decide +kernel
theorem dX11_watch_64 : decode cX11_watch 64 = .ok (.iconst 1, 1) := by decide +kernel
theorem dX11_watch_65 : decode cX11_watch 65 = .ok (.isub, 1) := by decide +kernel
theorem dX11_watch_66 : decode cX11_watch 66 = .ok (.ireturn, 1) := by decide +kernel
theorem dX11_fired_0 : decode cX11_fired 0 = .ok (.iload_n 1, 1) := by decide +kernel
theorem dX11_fired_1 : decode cX11_fired 1 = .ok (.ifCond .lt 14, 3) := by decide +kernel
theorem dX11_fired_4 : decode cX11_fired 4 = .ok (.iload_n 1, 1) := by decide +kernel
theorem dX11_fired_5 : decode cX11_fired 5 = .ok (.aload_n 0, 1) := by decide +kernel
theorem dX11_fired_6 : decode cX11_fired 6 = .ok (.getfield 45, 3) := by decide +kernel
theorem dX11_fired_9 : decode cX11_fired 9 = .ok (.invokevirtual 153, 3) := by decide +kernel
theorem dX11_fired_12 : decode cX11_fired 12 = .ok (.if_icmp .lt 14, 3) := by decide +kernel
theorem dX11_fired_15 : decode cX11_fired 15 = .ok (.new 156, 3) := by decide +kernel
theorem dX11_fired_18 : decode cX11_fired 18 = .ok (.dup, 1) := by decide +kernel
theorem dX11_fired_19 : decode cX11_fired 19 = .ok (.ldc_w 349, 3) := by decide +kernel
theorem dX11_fired_22 : decode cX11_fired 22 = .ok (.invokespecial 160, 3) := by decide +kernel
theorem dX11_fired_25 : decode cX11_fired 25 = .ok (.athrow, 1) := by decide +kernel
theorem dX11_fired_26 : decode cX11_fired 26 = .ok (.aload_n 0, 1) := by decide +kernel
theorem dX11_fired_27 : decode cX11_fired 27 = .ok (.getfield 45, 3) := by decide +kernel
theorem dX11_fired_30 : decode cX11_fired 30 = .ok (.iload_n 1, 1) := by decide +kernel
theorem dX11_fired_31 : decode cX11_fired 31 = .ok (.invokevirtual 166, 3) := by decide +kernel
theorem dX11_fired_34 : decode cX11_fired 34 = .ok (.checkcast 340, 3) := by decide +kernel
theorem dX11_fired_37 : decode cX11_fired 37 = .ok (.getfield 351, 3) := by decide +kernel
theorem dX11_fired_40 : decode cX11_fired 40 = .ok (.ireturn, 1) := by decide +kernel
theorem dX11_offer_0 : decode cX11_offer 0 = .ok (.aload_n 0, 1) := by decide +kernel
theorem dX11_offer_1 : decode cX11_offer 1 = .ok (.iload_n 1, 1) := by decide +kernel
theorem dX11_offer_2 : decode cX11_offer 2 = .ok (.invokevirtual 81, 3) := by decide +kernel
theorem dX11_offer_5 : decode cX11_offer 5 = .ok (.astore_n 3, 1) := by decide +kernel
theorem dX11_offer_6 : decode cX11_offer 6 = .ok (.iload_n 2, 1) := by decide +kernel
theorem dX11_offer_7 : decode cX11_offer 7 = .ok (.ifCond .lt 9, 3) := by decide +kernel
theorem dX11_offer_10 : decode cX11_offer 10 = .ok (.iload_n 2, 1) := by decide +kernel
theorem dX11_offer_11 : decode cX11_offer 11 = .ok (.ldc 183, 2) := by decide +kernel
theorem dX11_offer_13 : decode cX11_offer 13 = .ok (.if_icmp .le 13, 3) := by decide +kernel
theorem dX11_offer_16 : decode cX11_offer 16 = .ok (.new 161, 3) := by decide +kernel
theorem dX11_offer_19 : decode cX11_offer 19 = .ok (.dup, 1) := by decide +kernel
theorem dX11_offer_20 : decode cX11_offer 20 = .ok (.ldc 184, 2) := by decide +kernel
theorem dX11_offer_22 : decode cX11_offer 22 = .ok (.invokespecial 165, 3) := by decide +kernel
theorem dX11_offer_25 : decode cX11_offer 25 = .ok (.athrow, 1) := by decide +kernel
theorem dX11_offer_26 : decode cX11_offer 26 = .ok (.aload_n 3, 1) := by decide +kernel
theorem dX11_offer_27 : decode cX11_offer 27 = .ok (.invokestatic 190, 3) := by decide +kernel
theorem dX11_offer_30 : decode cX11_offer 30 = .ok (.aload_n 3, 1) := by decide +kernel
theorem dX11_offer_31 : decode cX11_offer 31 = .ok (.bipush (-5), 2) := by decide +kernel
theorem dX11_offer_33 : decode cX11_offer 33 = .ok (.iconst 0, 1) := by decide +kernel
theorem dX11_offer_34 : decode cX11_offer 34 = .ok (.invokestatic 302, 3) := by decide +kernel
theorem dX11_offer_37 : decode cX11_offer 37 = .ok (.iconst 1, 1) := by decide +kernel
theorem dX11_offer_38 : decode cX11_offer 38 = .ok (.iload_n 2, 1) := by decide +kernel
theorem dX11_offer_39 : decode cX11_offer 39 = .ok (.invokevirtual 197, 3) := by decide +kernel
theorem dX11_offer_42 : decode cX11_offer 42 = .ok (.aload_n 3, 1) := by decide +kernel
theorem dX11_offer_43 : decode cX11_offer 43 = .ok (.getfield 205, 3) := by decide +kernel
theorem dX11_offer_46 : decode cX11_offer 46 = .ok (.ireturn, 1) := by decide +kernel
theorem dX11_take_0 : decode cX11_take 0 = .ok (.iload_n 1, 1) := by decide +kernel
theorem dX11_take_1 : decode cX11_take 1 = .ok (.invokestatic 354, 3) := by decide +kernel
theorem dX11_take_4 : decode cX11_take 4 = .ok (.aload_n 0, 1) := by decide +kernel
theorem dX11_take_5 : decode cX11_take 5 = .ok (.ldc 62, 2) := by decide +kernel
theorem dX11_take_7 : decode cX11_take 7 = .ok (.invokevirtual 357, 3) := by decide +kernel
theorem dX11_take_10 : decode cX11_take 10 = .ok (.astore_n 2, 1) := by decide +kernel
theorem dX11_take_11 : decode cX11_take 11 = .ok (.aload_n 2, 1) := by decide +kernel
theorem dX11_take_12 : decode cX11_take 12 = .ok (.ifnonnull 6, 3) := by decide +kernel
theorem dX11_take_15 : decode cX11_take 15 = .ok (.ldc 62, 2) := by decide +kernel
theorem dX11_take_17 : decode cX11_take 17 = .ok (.ireturn, 1) := by decide +kernel
theorem dX11_take_18 : decode cX11_take 18 = .ok (.aload_n 0, 1) := by decide +kernel
theorem dX11_take_19 : decode cX11_take 19 = .ok (.getfield 14, 3) := by decide +kernel
theorem dX11_take_22 : decode cX11_take 22 = .ok (.iconst 1, 1) := by decide +kernel
theorem dX11_take_23 : decode cX11_take 23 = .ok (.invokevirtual 223, 3) := by decide +kernel
theorem dX11_take_26 : decode cX11_take 26 = .ok (.aload_n 0, 1) := by decide +kernel
theorem dX11_take_27 : decode cX11_take 27 = .ok (.getfield 14, 3) := by decide +kernel
theorem dX11_take_30 : decode cX11_take 30 = .ok (.iconst 0, 1) := by decide +kernel
theorem dX11_take_31 : decode cX11_take 31 = .ok (.aload_n 2, 1) := by decide +kernel
theorem dX11_take_32 : decode cX11_take 32 = .ok (.invokestatic 361, 3) := by decide +kernel
theorem dX11_take_35 : decode cX11_take 35 = .ok (.sipush 10000, 3) := by decide +kernel
theorem dX11_take_38 : decode cX11_take 38 = .ok (.iload_n 1, 1) := by decide +kernel
theorem dX11_take_39 : decode cX11_take 39 = .ok (.imul, 1) := by decide +kernel
theorem dX11_take_40 : decode cX11_take 40 = .ok (.aload_n 0, 1) := by decide +kernel
theorem dX11_take_41 : decode cX11_take 41 = .ok (.getfield 14, 3) := by decide +kernel
theorem dX11_take_44 : decode cX11_take 44 = .ok (.getfield 85, 3) := by decide +kernel
theorem dX11_take_47 : decode cX11_take 47 = .ok (.iadd, 1) := by decide +kernel
theorem dX11_take_48 : decode cX11_take 48 = .ok (.bipush 10, 2) := by decide +kernel
theorem dX11_take_50 : decode cX11_take 50 = .ok (.iadd, 1) := by decide +kernel
theorem dX11_take_51 : decode cX11_take 51 = .ok (.invokevirtual 325, 3) := by decide +kernel
theorem dX11_take_54 : decode cX11_take 54 = .ok (.aload_n 0, 1) := by decide +kernel
theorem dX11_take_55 : decode cX11_take 55 = .ok (.invokevirtual 329, 3) := by decide +kernel
theorem dX11_take_58 : decode cX11_take 58 = .ok (.aload_n 0, 1) := by decide +kernel
theorem dX11_take_59 : decode cX11_take 59 = .ok (.getfield 14, 3) := by decide +kernel
theorem dX11_take_62 : decode cX11_take 62 = .ok (.aload_n 2, 1) := by decide +kernel
theorem dX11_take_63 : decode cX11_take 63 = .ok (.getfield 172, 3) := by decide +kernel
theorem dX11_take_66 : decode cX11_take 66 = .ok (.invokevirtual 304, 3) := by decide +kernel
theorem dX11_take_69 : decode cX11_take 69 = .ok (.ireturn, 1) := by decide +kernel
theorem dX11_finish_0 : decode cX11_finish 0 = .ok (.iload_n 1, 1) := by decide +kernel
theorem dX11_finish_1 : decode cX11_finish 1 = .ok (.invokestatic 354, 3) := by decide +kernel
theorem dX11_finish_4 : decode cX11_finish 4 = .ok (.aload_n 0, 1) := by decide +kernel
theorem dX11_finish_5 : decode cX11_finish 5 = .ok (.iload_n 1, 1) := by decide +kernel
theorem dX11_finish_6 : decode cX11_finish 6 = .ok (.invokevirtual 357, 3) := by decide +kernel
theorem dX11_finish_9 : decode cX11_finish 9 = .ok (.astore_n 2, 1) := by decide +kernel
theorem dX11_finish_10 : decode cX11_finish 10 = .ok (.aload_n 2, 1) := by decide +kernel
theorem dX11_finish_11 : decode cX11_finish 11 = .ok (.ifnonnull 6, 3) := by decide +kernel
theorem dX11_finish_14 : decode cX11_finish 14 = .ok (.ldc 62, 2) := by decide +kernel
theorem dX11_finish_16 : decode cX11_finish 16 = .ok (.ireturn, 1) := by decide +kernel
theorem dX11_finish_17 : decode cX11_finish 17 = .ok (.aload_n 0, 1) := by decide +kernel
theorem dX11_finish_18 : decode cX11_finish 18 = .ok (.getfield 14, 3) := by decide +kernel
theorem dX11_finish_21 : decode cX11_finish 21 = .ok (.aload_n 2, 1) := by decide +kernel
theorem dX11_finish_22 : decode cX11_finish 22 = .ok (.getfield 172, 3) := by decide +kernel
theorem dX11_finish_25 : decode cX11_finish 25 = .ok (.invokevirtual 304, 3) := by decide +kernel
theorem dX11_finish_28 : decode cX11_finish 28 = .ok (.istore_n 3, 1) := by decide +kernel
theorem dX11_finish_29 : decode cX11_finish 29 = .ok (.aload_n 0, 1) := by decide +kernel
theorem dX11_finish_30 : decode cX11_finish 30 = .ok (.getfield 14, 3) := by decide +kernel
theorem dX11_finish_33 : decode cX11_finish 33 = .ok (.iconst 1, 1) := by decide +kernel
theorem dX11_finish_34 : decode cX11_finish 34 = .ok (.invokevirtual 223, 3) := by decide +kernel
theorem dX11_finish_37 : decode cX11_finish 37 = .ok (.aload_n 0, 1) := by decide +kernel
theorem dX11_finish_38 : decode cX11_finish 38 = .ok (.getfield 14, 3) := by decide +kernel
theorem dX11_finish_41 : decode cX11_finish 41 = .ok (.iconst 1, 1) := by decide +kernel
theorem dX11_finish_42 : decode cX11_finish 42 = .ok (.aload_n 2, 1) := by decide +kernel
theorem dX11_finish_43 : decode cX11_finish 43 = .ok (.getfield 172, 3) := by decide +kernel
theorem dX11_finish_46 : decode cX11_finish 46 = .ok (.iconst 0, 1) := by decide +kernel
theorem dX11_finish_47 : decode cX11_finish 47 = .ok (.invokevirtual 325, 3) := by decide +kernel
theorem dX11_finish_50 : decode cX11_finish 50 = .ok (.aload_n 0, 1) := by decide +kernel
theorem dX11_finish_51 : decode cX11_finish 51 = .ok (.getfield 14, 3) := by decide +kernel
theorem dX11_finish_54 : decode cX11_finish 54 = .ok (.iconst 1, 1) := by decide +kernel
theorem dX11_finish_55 : decode cX11_finish 55 = .ok (.aload_n 2, 1) := by decide +kernel
theorem dX11_finish_56 : decode cX11_finish 56 = .ok (.invokestatic 361, 3) := by decide +kernel
theorem dX11_finish_59 : decode cX11_finish 59 = .ok (.iconst 0, 1) := by decide +kernel
theorem dX11_finish_60 : decode cX11_finish 60 = .ok (.invokevirtual 325, 3) := by decide +kernel
theorem dX11_finish_63 : decode cX11_finish 63 = .ok (.aload_n 0, 1) := by decide +kernel
theorem dX11_finish_64 : decode cX11_finish 64 = .ok (.invokevirtual 329, 3) := by decide +kernel
theorem dX11_finish_67 : decode cX11_finish 67 = .ok (.iload_n 3, 1) := by decide +kernel
theorem dX11_finish_68 : decode cX11_finish 68 = .ok (.ireturn, 1) := by decide +kernel
theorem dX11_parts_0 : decode cX11_parts 0 = .ok (.aload_n 0, 1) := by decide +kernel
theorem dX11_parts_1 : decode cX11_parts 1 = .ok (.getfield 21, 3) := by decide +kernel
theorem dX11_parts_4 : decode cX11_parts 4 = .ok (.getfield 365, 3) := by decide +kernel
theorem dX11_parts_7 : decode cX11_parts 7 = .ok (.invokevirtual 153, 3) := by decide +kernel
theorem dX11_parts_10 : decode cX11_parts 10 = .ok (.ireturn, 1) := by decide +kernel
theorem dX11_part_0 : decode cX11_part 0 = .ok (.iload_n 1, 1) := by decide +kernel
theorem dX11_part_1 : decode cX11_part 1 = .ok (.ifCond .lt 17, 3) := by decide +kernel
theorem dX11_part_4 : decode cX11_part 4 = .ok (.iload_n 1, 1) := by decide +kernel
theorem dX11_part_5 : decode cX11_part 5 = .ok (.aload_n 0, 1) := by decide +kernel
theorem dX11_part_6 : decode cX11_part 6 = .ok (.getfield 21, 3) := by decide +kernel
theorem dX11_part_9 : decode cX11_part 9 = .ok (.getfield 365, 3) := by decide +kernel
theorem dX11_part_12 : decode cX11_part 12 = .ok (.invokevirtual 153, 3) := by decide +kernel
theorem dX11_part_15 : decode cX11_part 15 = .ok (.if_icmp .lt 13, 3) := by decide +kernel
theorem dX11_part_18 : decode cX11_part 18 = .ok (.new 156, 3) := by decide +kernel
theorem dX11_part_21 : decode cX11_part 21 = .ok (.dup, 1) := by decide +kernel
theorem dX11_part_22 : decode cX11_part 22 = .ok (.ldc 158, 2) := by decide +kernel
theorem dX11_part_24 : decode cX11_part 24 = .ok (.invokespecial 160, 3) := by decide +kernel
theorem dX11_part_27 : decode cX11_part 27 = .ok (.athrow, 1) := by decide +kernel
theorem dX11_part_28 : decode cX11_part 28 = .ok (.iload_n 2, 1) := by decide +kernel
theorem dX11_part_29 : decode cX11_part 29 = .ok (.ifCond .lt 8, 3) := by decide +kernel
theorem dX11_part_32 : decode cX11_part 32 = .ok (.iload_n 2, 1) := by decide +kernel
theorem dX11_part_33 : decode cX11_part 33 = .ok (.iconst 4, 1) := by decide +kernel
theorem dX11_part_34 : decode cX11_part 34 = .ok (.if_icmp .le 13, 3) := by decide +kernel
theorem dX11_part_37 : decode cX11_part 37 = .ok (.new 161, 3) := by decide +kernel
theorem dX11_part_40 : decode cX11_part 40 = .ok (.dup, 1) := by decide +kernel
theorem dX11_part_41 : decode cX11_part 41 = .ok (.ldc 163, 2) := by decide +kernel
theorem dX11_part_43 : decode cX11_part 43 = .ok (.invokespecial 165, 3) := by decide +kernel
theorem dX11_part_46 : decode cX11_part 46 = .ok (.athrow, 1) := by decide +kernel
theorem dX11_part_47 : decode cX11_part 47 = .ok (.aload_n 0, 1) := by decide +kernel
theorem dX11_part_48 : decode cX11_part 48 = .ok (.getfield 21, 3) := by decide +kernel
theorem dX11_part_51 : decode cX11_part 51 = .ok (.getfield 365, 3) := by decide +kernel
theorem dX11_part_54 : decode cX11_part 54 = .ok (.iload_n 1, 1) := by decide +kernel
theorem dX11_part_55 : decode cX11_part 55 = .ok (.invokevirtual 166, 3) := by decide +kernel
theorem dX11_part_58 : decode cX11_part 58 = .ok (.checkcast 368, 3) := by decide +kernel
theorem dX11_part_61 : decode cX11_part 61 = .ok (.astore_n 3, 1) := by decide +kernel
theorem dX11_part_62 : decode cX11_part 62 = .ok (.iload_n 2, 1) := by decide +kernel
theorem dX11_part_63 : decode cX11_part 63 = .ok (.ifCond .ne 8, 3) := by decide +kernel
theorem dX11_part_66 : decode cX11_part 66 = .ok (.aload_n 3, 1) := by decide +kernel
theorem dX11_part_67 : decode cX11_part 67 = .ok (.getfield 370, 3) := by decide +kernel
theorem dX11_part_70 : decode cX11_part 70 = .ok (.ireturn, 1) := by decide +kernel
theorem dX11_part_71 : decode cX11_part 71 = .ok (.iload_n 2, 1) := by decide +kernel
theorem dX11_part_72 : decode cX11_part 72 = .ok (.iconst 1, 1) := by decide +kernel
theorem dX11_part_73 : decode cX11_part 73 = .ok (.if_icmp .ne 8, 3) := by decide +kernel
theorem dX11_part_76 : decode cX11_part 76 = .ok (.aload_n 3, 1) := by decide +kernel
theorem dX11_part_77 : decode cX11_part 77 = .ok (.getfield 373, 3) := by decide +kernel
theorem dX11_part_80 : decode cX11_part 80 = .ok (.ireturn, 1) := by decide +kernel
theorem dX11_part_81 : decode cX11_part 81 = .ok (.iload_n 1, 1) := by decide +kernel
theorem dX11_part_82 : decode cX11_part 82 = .ok (.ifCond .ne 8, 3) := by decide +kernel
theorem dX11_part_85 : decode cX11_part 85 = .ok (.ldc 62, 2) := by decide +kernel
theorem dX11_part_87 : decode cX11_part 87 = .ok (.goto 13, 3) := by decide +kernel
theorem dX11_part_90 : decode cX11_part 90 = .ok (.aload_n 3, 1) := by decide +kernel
theorem dX11_part_91 : decode cX11_part 91 = .ok (.getfield 376, 3) := by decide +kernel
theorem dX11_part_94 : decode cX11_part 94 = .ok (.iload_n 2, 1) := by decide +kernel
theorem dX11_part_95 : decode cX11_part 95 = .ok (.iconst 2, 1) := by decide +kernel
theorem dX11_part_96 : decode cX11_part 96 = .ok (.isub, 1) := by decide +kernel
theorem dX11_part_97 : decode cX11_part 97 = .ok (.invokestatic 176, 3) := by decide +kernel
theorem dX11_part_100 : decode cX11_part 100 = .ok (.ireturn, 1) := by decide +kernel
theorem dX11_mark_0 : decode cX11_mark 0 = .ok (.aload_n 0, 1) := by decide +kernel
theorem dX11_mark_1 : decode cX11_mark 1 = .ok (.getfield 52, 3) := by decide +kernel
theorem dX11_mark_4 : decode cX11_mark 4 = .ok (.ifCond .lt 15, 3) := by decide +kernel
theorem dX11_mark_7 : decode cX11_mark 7 = .ok (.aload_n 0, 1) := by decide +kernel
theorem dX11_mark_8 : decode cX11_mark 8 = .ok (.getfield 52, 3) := by decide +kernel
theorem dX11_mark_11 : decode cX11_mark 11 = .ok (.aload_n 0, 1) := by decide +kernel
theorem dX11_mark_12 : decode cX11_mark 12 = .ok (.getfield 48, 3) := by decide +kernel
theorem dX11_mark_15 : decode cX11_mark 15 = .ok (.arraylength, 1) := by decide +kernel
theorem dX11_mark_16 : decode cX11_mark 16 = .ok (.if_icmp .lt 14, 3) := by decide +kernel
theorem dX11_mark_19 : decode cX11_mark 19 = .ok (.new 119, 3) := by decide +kernel
theorem dX11_mark_22 : decode cX11_mark 22 = .ok (.dup, 1) := by decide +kernel
theorem dX11_mark_23 : decode cX11_mark 23 = .ok (.ldc_w 379, 3) := by decide +kernel
theorem dX11_mark_26 : decode cX11_mark 26 = .ok (.invokespecial 123, 3) := by decide +kernel
theorem dX11_mark_29 : decode cX11_mark 29 = .ok (.athrow, 1) := by decide +kernel
theorem dX11_mark_30 : decode cX11_mark 30 = .ok (.aload_n 0, 1) := by decide +kernel
theorem dX11_mark_31 : decode cX11_mark 31 = .ok (.getfield 48, 3) := by decide +kernel
theorem dX11_mark_34 : decode cX11_mark 34 = .ok (.aload_n 0, 1) := by decide +kernel
theorem dX11_mark_35 : decode cX11_mark 35 = .ok (.getfield 52, 3) := by decide +kernel
theorem dX11_mark_38 : decode cX11_mark 38 = .ok (.aload_n 0, 1) := by decide +kernel
theorem dX11_mark_39 : decode cX11_mark 39 = .ok (.getfield 14, 3) := by decide +kernel
theorem dX11_mark_42 : decode cX11_mark 42 = .ok (.getfield 85, 3) := by decide +kernel
theorem dX11_mark_45 : decode cX11_mark 45 = .ok (.iastore, 1) := by decide +kernel
theorem dX11_mark_46 : decode cX11_mark 46 = .ok (.aload_n 0, 1) := by decide +kernel
theorem dX11_mark_47 : decode cX11_mark 47 = .ok (.dup, 1) := by decide +kernel
theorem dX11_mark_48 : decode cX11_mark 48 = .ok (.getfield 52, 3) := by decide +kernel
theorem dX11_mark_51 : decode cX11_mark 51 = .ok (.iconst 1, 1) := by decide +kernel
theorem dX11_mark_52 : decode cX11_mark 52 = .ok (.iadd, 1) := by decide +kernel
theorem dX11_mark_53 : decode cX11_mark 53 = .ok (.putfield 52, 3) := by decide +kernel
theorem dX11_mark_56 : decode cX11_mark 56 = .ok (.aload_n 0, 1) := by decide +kernel
theorem dX11_mark_57 : decode cX11_mark 57 = .ok (.getfield 52, 3) := by decide +kernel
theorem dX11_mark_60 : decode cX11_mark 60 = .ok (.iconst 1, 1) := by decide +kernel
theorem dX11_mark_61 : decode cX11_mark 61 = .ok (.isub, 1) := by decide +kernel
theorem dX11_mark_62 : decode cX11_mark 62 = .ok (.ireturn, 1) := by decide +kernel
theorem dX11_bringBack_0 : decode cX11_bringBack 0 = .ok (.iload_n 1, 1) := by decide +kernel
theorem dX11_bringBack_1 : decode cX11_bringBack 1 = .ok (.ifCond .lt 20, 3) := by decide +kernel
theorem dX11_bringBack_4 : decode cX11_bringBack 4 = .ok (.iload_n 1, 1) := by decide +kernel
theorem dX11_bringBack_5 : decode cX11_bringBack 5 = .ok (.aload_n 0, 1) := by decide +kernel
theorem dX11_bringBack_6 : decode cX11_bringBack 6 = .ok (.getfield 52, 3) := by decide +kernel
theorem dX11_bringBack_9 : decode cX11_bringBack 9 = .ok (.if_icmp .ge 12, 3) := by decide +kernel
theorem dX11_bringBack_12 : decode cX11_bringBack 12 = .ok (.iload_n 1, 1) := by decide +kernel
theorem dX11_bringBack_13 : decode cX11_bringBack 13 = .ok (.aload_n 0, 1) := by decide +kernel
theorem dX11_bringBack_14 : decode cX11_bringBack 14 = .ok (.getfield 48, 3) := by decide +kernel
theorem dX11_bringBack_17 : decode cX11_bringBack 17 = .ok (.arraylength, 1) := by decide +kernel
theorem dX11_bringBack_18 : decode cX11_bringBack 18 = .ok (.if_icmp .lt 14, 3) := by decide +kernel
theorem dX11_bringBack_21 : decode cX11_bringBack 21 = .ok (.new 156, 3) := by decide +kernel
theorem dX11_bringBack_24 : decode cX11_bringBack 24 = .ok (.dup, 1) := by decide +kernel
theorem dX11_bringBack_25 : decode cX11_bringBack 25 = .ok (.ldc_w 381, 3) := by decide +kernel
theorem dX11_bringBack_28 : decode cX11_bringBack 28 = .ok (.invokespecial 160, 3) := by decide +kernel
theorem dX11_bringBack_31 : decode cX11_bringBack 31 = .ok (.athrow, 1) := by decide +kernel
theorem dX11_bringBack_32 : decode cX11_bringBack 32 = .ok (.aload_n 0, 1) := by decide +kernel
theorem dX11_bringBack_33 : decode cX11_bringBack 33 = .ok (.getfield 48, 3) := by decide +kernel
theorem dX11_bringBack_36 : decode cX11_bringBack 36 = .ok (.iload_n 1, 1) := by decide +kernel
theorem dX11_bringBack_37 : decode cX11_bringBack 37 = .ok (.iaload, 1) := by decide +kernel
theorem dX11_bringBack_38 : decode cX11_bringBack 38 = .ok (.istore_n 2, 1) := by decide +kernel
theorem dX11_bringBack_39 : decode cX11_bringBack 39 = .ok (.aload_n 0, 1) := by decide +kernel
theorem dX11_bringBack_40 : decode cX11_bringBack 40 = .ok (.getfield 14, 3) := by decide +kernel
theorem dX11_bringBack_43 : decode cX11_bringBack 43 = .ok (.iload_n 2, 1) := by decide +kernel
theorem dX11_bringBack_44 : decode cX11_bringBack 44 = .ok (.invokevirtual 383, 3) := by decide +kernel
theorem dX11_bringBack_47 : decode cX11_bringBack 47 = .ok (.istore_n 3, 1) := by decide +kernel
theorem dX11_bringBack_48 : decode cX11_bringBack 48 = .ok (.iload_n 3, 1) := by decide +kernel
theorem dX11_bringBack_49 : decode cX11_bringBack 49 = .ok (.ifCond .le 23, 3) := by decide +kernel
theorem dX11_bringBack_52 : decode cX11_bringBack 52 = .ok (.aload_n 0, 1) := by decide +kernel
theorem dX11_bringBack_53 : decode cX11_bringBack 53 = .ok (.getfield 14, 3) := by decide +kernel
theorem dX11_bringBack_56 : decode cX11_bringBack 56 = .ok (.iconst 1, 1) := by decide +kernel
theorem dX11_bringBack_57 : decode cX11_bringBack 57 = .ok (.invokevirtual 223, 3) := by decide +kernel
theorem dX11_bringBack_60 : decode cX11_bringBack 60 = .ok (.aload_n 0, 1) := by decide +kernel
theorem dX11_bringBack_61 : decode cX11_bringBack 61 = .ok (.getfield 14, 3) := by decide +kernel
theorem dX11_bringBack_64 : decode cX11_bringBack 64 = .ok (.iload_n 2, 1) := by decide +kernel
theorem dX11_bringBack_65 : decode cX11_bringBack 65 = .ok (.invokevirtual 386, 3) := by decide +kernel
theorem dX11_bringBack_68 : decode cX11_bringBack 68 = .ok (.aload_n 0, 1) := by decide +kernel
theorem dX11_bringBack_69 : decode cX11_bringBack 69 = .ok (.invokevirtual 329, 3) := by decide +kernel
theorem dX11_bringBack_72 : decode cX11_bringBack 72 = .ok (.iload_n 3, 1) := by decide +kernel
theorem dX11_bringBack_73 : decode cX11_bringBack 73 = .ok (.ireturn, 1) := by decide +kernel
theorem dX11_transactionAt_0 : decode cX11_transactionAt 0 = .ok (.iload_n 1, 1) := by decide +kernel
theorem dX11_transactionAt_1 : decode cX11_transactionAt 1 = .ok (.ifCond .lt 14, 3) := by decide +kernel
theorem dX11_transactionAt_4 : decode cX11_transactionAt 4 = .ok (.iload_n 1, 1) := by decide +kernel
theorem dX11_transactionAt_5 : decode cX11_transactionAt 5 = .ok (.aload_n 0, 1) := by decide +kernel
theorem dX11_transactionAt_6 : decode cX11_transactionAt 6 = .ok (.getfield 35, 3) := by decide +kernel
theorem dX11_transactionAt_9 : decode cX11_transactionAt 9 = .ok (.invokevirtual 153, 3) := by decide +kernel
theorem dX11_transactionAt_12 : decode cX11_transactionAt 12 = .ok (.if_icmp .lt 14, 3) := by decide +kernel
theorem dX11_transactionAt_15 : decode cX11_transactionAt 15 = .ok (.new 156, 3) := by decide +kernel
theorem dX11_transactionAt_18 : decode cX11_transactionAt 18 = .ok (.dup, 1) := by decide +kernel
theorem dX11_transactionAt_19 : decode cX11_transactionAt 19 = .ok (.ldc_w 389, 3) := by decide +kernel
theorem dX11_transactionAt_22 : decode cX11_transactionAt 22 = .ok (.invokespecial 160, 3) := by decide +kernel
theorem dX11_transactionAt_25 : decode cX11_transactionAt 25 = .ok (.athrow, 1) := by decide +kernel
theorem dX11_transactionAt_26 : decode cX11_transactionAt 26 = .ok (.aload_n 0, 1) := by decide +kernel
theorem dX11_transactionAt_27 : decode cX11_transactionAt 27 = .ok (.getfield 35, 3) := by decide +kernel
theorem dX11_transactionAt_30 : decode cX11_transactionAt 30 = .ok (.iload_n 1, 1) := by decide +kernel
theorem dX11_transactionAt_31 : decode cX11_transactionAt 31 = .ok (.invokevirtual 166, 3) := by decide +kernel
theorem dX11_transactionAt_34 : decode cX11_transactionAt 34 = .ok (.checkcast 69, 3) := by decide +kernel
theorem dX11_transactionAt_37 : decode cX11_transactionAt 37 = .ok (.areturn, 1) := by decide +kernel
theorem dX11_directoryAt_0 : decode cX11_directoryAt 0 = .ok (.aload_n 0, 1) := by decide +kernel
theorem dX11_directoryAt_1 : decode cX11_directoryAt 1 = .ok (.iload_n 1, 1) := by decide +kernel
theorem dX11_directoryAt_2 : decode cX11_directoryAt 2 = .ok (.invokevirtual 391, 3) := by decide +kernel
theorem dX11_directoryAt_5 : decode cX11_directoryAt 5 = .ok (.astore_n 2, 1) := by decide +kernel
theorem dX11_directoryAt_6 : decode cX11_directoryAt 6 = .ok (.aload_n 2, 1) := by decide +kernel
theorem dX11_directoryAt_7 : decode cX11_directoryAt 7 = .ok (.ifnonnull 14, 3) := by decide +kernel
theorem dX11_directoryAt_10 : decode cX11_directoryAt 10 = .ok (.new 156, 3) := by decide +kernel
theorem dX11_directoryAt_13 : decode cX11_directoryAt 13 = .ok (.dup, 1) := by decide +kernel
theorem dX11_directoryAt_14 : decode cX11_directoryAt 14 = .ok (.ldc_w 394, 3) := by decide +kernel
theorem dX11_directoryAt_17 : decode cX11_directoryAt 17 = .ok (.invokespecial 160, 3) := by decide +kernel
theorem dX11_directoryAt_20 : decode cX11_directoryAt 20 = .ok (.athrow, 1) := by decide +kernel
theorem dX11_directoryAt_21 : decode cX11_directoryAt 21 = .ok (.aload_n 2, 1) := by decide +kernel
theorem dX11_directoryAt_22 : decode cX11_directoryAt 22 = .ok (.areturn, 1) := by decide +kernel
theorem dX11_requireIndex_0 : decode cX11_requireIndex 0 = .ok (.iload_n 0, 1) := by decide +kernel
theorem dX11_requireIndex_1 : decode cX11_requireIndex 1 = .ok (.ifCond .lt 8, 3) := by decide +kernel
theorem dX11_requireIndex_4 : decode cX11_requireIndex 4 = .ok (.iload_n 0, 1) := by decide +kernel
theorem dX11_requireIndex_5 : decode cX11_requireIndex 5 = .ok (.iconst 3, 1) := by decide +kernel
theorem dX11_requireIndex_6 : decode cX11_requireIndex 6 = .ok (.if_icmp .lt 14, 3) := by decide +kernel
theorem dX11_requireIndex_9 : decode cX11_requireIndex 9 = .ok (.new 156, 3) := by decide +kernel
theorem dX11_requireIndex_12 : decode cX11_requireIndex 12 = .ok (.dup, 1) := by decide +kernel
theorem dX11_requireIndex_13 : decode cX11_requireIndex 13 = .ok (.ldc_w 396, 3) := by decide +kernel
theorem dX11_requireIndex_16 : decode cX11_requireIndex 16 = .ok (.invokespecial 160, 3) := by decide +kernel
theorem dX11_requireIndex_19 : decode cX11_requireIndex 19 = .ok (.athrow, 1) := by decide +kernel
theorem dX11_requireIndex_20 : decode cX11_requireIndex 20 = .ok (.return_, 1) := by decide +kernel
theorem dX11_requireWorker_0 : decode cX11_requireWorker 0 = .ok (.iload_n 0, 1) := by decide +kernel
theorem dX11_requireWorker_1 : decode cX11_requireWorker 1 = .ok (.ifCond .lt 8, 3) := by decide +kernel
theorem dX11_requireWorker_4 : decode cX11_requireWorker 4 = .ok (.iload_n 0, 1) := by decide +kernel
theorem dX11_requireWorker_5 : decode cX11_requireWorker 5 = .ok (.iconst 3, 1) := by decide +kernel
theorem dX11_requireWorker_6 : decode cX11_requireWorker 6 = .ok (.if_icmp .lt 14, 3) := by decide +kernel
theorem dX11_requireWorker_9 : decode cX11_requireWorker 9 = .ok (.new 156, 3) := by decide +kernel
theorem dX11_requireWorker_12 : decode cX11_requireWorker 12 = .ok (.dup, 1) := by decide +kernel
theorem dX11_requireWorker_13 : decode cX11_requireWorker 13 = .ok (.ldc_w 398, 3) := by decide +kernel
theorem dX11_requireWorker_16 : decode cX11_requireWorker 16 = .ok (.invokespecial 160, 3) := by decide +kernel
theorem dX11_requireWorker_19 : decode cX11_requireWorker 19 = .ok (.athrow, 1) := by decide +kernel
theorem dX11_requireWorker_20 : decode cX11_requireWorker 20 = .ok (.return_, 1) := by decide +kernel
theorem dX11_requireKey_0 : decode cX11_requireKey 0 = .ok (.iload_n 0, 1) := by decide +kernel
theorem dX11_requireKey_1 : decode cX11_requireKey 1 = .ok (.iload_n 1, 1) := by decide +kernel
theorem dX11_requireKey_2 : decode cX11_requireKey 2 = .ok (.iload_n 2, 1) := by decide +kernel
theorem dX11_requireKey_3 : decode cX11_requireKey 3 = .ok (.invokestatic 400, 3) := by decide +kernel
theorem dX11_requireKey_6 : decode cX11_requireKey 6 = .ok (.ifCond .ne 14, 3) := by decide +kernel
theorem dX11_requireKey_9 : decode cX11_requireKey 9 = .ok (.new 161, 3) := by decide +kernel
theorem dX11_requireKey_12 : decode cX11_requireKey 12 = .ok (.dup, 1) := by decide +kernel
theorem dX11_requireKey_13 : decode cX11_requireKey 13 = .ok (.ldc_w 404, 3) := by decide +kernel
theorem dX11_requireKey_16 : decode cX11_requireKey 16 = .ok (.invokespecial 165, 3) := by decide +kernel
theorem dX11_requireKey_19 : decode cX11_requireKey 19 = .ok (.athrow, 1) := by decide +kernel
theorem dX11_requireKey_20 : decode cX11_requireKey 20 = .ok (.return_, 1) := by decide +kernel
theorem dX11_requireRange_0 : decode cX11_requireRange 0 = .ok (.iload_n 0, 1) := by decide +kernel
theorem dX11_requireRange_1 : decode cX11_requireRange 1 = .ok (.iload_n 1, 1) := by decide +kernel
theorem dX11_requireRange_2 : decode cX11_requireRange 2 = .ok (.invokestatic 406, 3) := by decide +kernel
theorem dX11_requireRange_5 : decode cX11_requireRange 5 = .ok (.ifCond .ne 14, 3) := by decide +kernel
theorem dX11_requireRange_8 : decode cX11_requireRange 8 = .ok (.new 161, 3) := by decide +kernel
theorem dX11_requireRange_11 : decode cX11_requireRange 11 = .ok (.dup, 1) := by decide +kernel
theorem dX11_requireRange_12 : decode cX11_requireRange 12 = .ok (.ldc_w 410, 3) := by decide +kernel
theorem dX11_requireRange_15 : decode cX11_requireRange 15 = .ok (.invokespecial 165, 3) := by decide +kernel
theorem dX11_requireRange_18 : decode cX11_requireRange 18 = .ok (.athrow, 1) := by decide +kernel
theorem dX11_requireRange_19 : decode cX11_requireRange 19 = .ok (.return_, 1) := by decide +kernel
theorem dX11_requireAboveLayers_0 : decode cX11_requireAboveLayers 0 = .ok (.iload_n 0, 1) := by decide +kernel
theorem dX11_requireAboveLayers_1 : decode cX11_requireAboveLayers 1 = .ok (.bipush (-7), 2) := by decide +kernel
theorem dX11_requireAboveLayers_3 : decode cX11_requireAboveLayers 3 = .ok (.if_icmp .lt 19, 3) := by decide +kernel
theorem dX11_requireAboveLayers_6 : decode cX11_requireAboveLayers 6 = .ok (.iload_n 0, 1) := by decide +kernel
theorem dX11_requireAboveLayers_7 : decode cX11_requireAboveLayers 7 = .ok (.iconst (-1), 1) := by decide +kernel
theorem dX11_requireAboveLayers_8 : decode cX11_requireAboveLayers 8 = .ok (.if_icmp .gt 14, 3) := by decide +kernel
theorem dX11_requireAboveLayers_11 : decode cX11_requireAboveLayers 11 = .ok (.new 161, 3) := by decide +kernel
theorem dX11_requireAboveLayers_14 : decode cX11_requireAboveLayers 14 = .ok (.dup, 1) := by decide +kernel
theorem dX11_requireAboveLayers_15 : decode cX11_requireAboveLayers 15 = .ok (.ldc_w 412, 3) := by decide +kernel
theorem dX11_requireAboveLayers_18 : decode cX11_requireAboveLayers 18 = .ok (.invokespecial 165, 3) := by decide +kernel
theorem dX11_requireAboveLayers_21 : decode cX11_requireAboveLayers 21 = .ok (.athrow, 1) := by decide +kernel
theorem dX11_requireAboveLayers_22 : decode cX11_requireAboveLayers 22 = .ok (.return_, 1) := by decide +kernel
theorem dX11_requireName_0 : decode cX11_requireName 0 = .ok (.iload_n 0, 1) := by decide +kernel
theorem dX11_requireName_1 : decode cX11_requireName 1 = .ok (.ifCond .lt 9, 3) := by decide +kernel
theorem dX11_requireName_4 : decode cX11_requireName 4 = .ok (.iload_n 0, 1) := by decide +kernel
theorem dX11_requireName_5 : decode cX11_requireName 5 = .ok (.bipush 9, 2) := by decide +kernel
theorem dX11_requireName_7 : decode cX11_requireName 7 = .ok (.if_icmp .le 14, 3) := by decide +kernel
theorem dX11_requireName_10 : decode cX11_requireName 10 = .ok (.new 161, 3) := by decide +kernel
theorem dX11_requireName_13 : decode cX11_requireName 13 = .ok (.dup, 1) := by decide +kernel
theorem dX11_requireName_14 : decode cX11_requireName 14 = .ok (.ldc_w 414, 3) := by decide +kernel
theorem dX11_requireName_17 : decode cX11_requireName 17 = .ok (.invokespecial 165, 3) := by decide +kernel
theorem dX11_requireName_20 : decode cX11_requireName 20 = .ok (.athrow, 1) := by decide +kernel
theorem dX11_requireName_21 : decode cX11_requireName 21 = .ok (.return_, 1) := by decide +kernel
theorem dX11_requireRecord_0 : decode cX11_requireRecord 0 = .ok (.iload_n 0, 1) := by decide +kernel
theorem dX11_requireRecord_1 : decode cX11_requireRecord 1 = .ok (.ifCond .lt 9, 3) := by decide +kernel
theorem dX11_requireRecord_4 : decode cX11_requireRecord 4 = .ok (.iload_n 0, 1) := by decide +kernel
theorem dX11_requireRecord_5 : decode cX11_requireRecord 5 = .ok (.bipush 99, 2) := by decide +kernel
theorem dX11_requireRecord_7 : decode cX11_requireRecord 7 = .ok (.if_icmp .le 14, 3) := by decide +kernel
theorem dX11_requireRecord_10 : decode cX11_requireRecord 10 = .ok (.new 161, 3) := by decide +kernel
theorem dX11_requireRecord_13 : decode cX11_requireRecord 13 = .ok (.dup, 1) := by decide +kernel
theorem dX11_requireRecord_14 : decode cX11_requireRecord 14 = .ok (.ldc_w 416, 3) := by decide +kernel
theorem dX11_requireRecord_17 : decode cX11_requireRecord 17 = .ok (.invokespecial 165, 3) := by decide +kernel
theorem dX11_requireRecord_20 : decode cX11_requireRecord 20 = .ok (.athrow, 1) := by decide +kernel
theorem dX11_requireRecord_21 : decode cX11_requireRecord 21 = .ok (.return_, 1) := by decide +kernel
theorem dX11_requireField_0 : decode cX11_requireField 0 = .ok (.iload_n 0, 1) := by decide +kernel
theorem dX11_requireField_1 : decode cX11_requireField 1 = .ok (.ifCond .lt 9, 3) := by decide +kernel
theorem dX11_requireField_4 : decode cX11_requireField 4 = .ok (.iload_n 0, 1) := by decide +kernel
theorem dX11_requireField_5 : decode cX11_requireField 5 = .ok (.bipush 99, 2) := by decide +kernel
theorem dX11_requireField_7 : decode cX11_requireField 7 = .ok (.if_icmp .le 14, 3) := by decide +kernel
theorem dX11_requireField_10 : decode cX11_requireField 10 = .ok (.new 161, 3) := by decide +kernel
theorem dX11_requireField_13 : decode cX11_requireField 13 = .ok (.dup, 1) := by decide +kernel
theorem dX11_requireField_14 : decode cX11_requireField 14 = .ok (.ldc_w 418, 3) := by decide +kernel
theorem dX11_requireField_17 : decode cX11_requireField 17 = .ok (.invokespecial 165, 3) := by decide +kernel
theorem dX11_requireField_20 : decode cX11_requireField 20 = .ok (.athrow, 1) := by decide +kernel
theorem dX11_requireField_21 : decode cX11_requireField 21 = .ok (.return_, 1) := by decide +kernel
theorem dX11_requireBegun_0 : decode cX11_requireBegun 0 = .ok (.aload_n 0, 1) := by decide +kernel
theorem dX11_requireBegun_1 : decode cX11_requireBegun 1 = .ok (.getfield 217, 3) := by decide +kernel
theorem dX11_requireBegun_4 : decode cX11_requireBegun 4 = .ok (.ifCond .ne 14, 3) := by decide +kernel
theorem dX11_requireBegun_7 : decode cX11_requireBegun 7 = .ok (.new 119, 3) := by decide +kernel
theorem dX11_requireBegun_10 : decode cX11_requireBegun 10 = .ok (.dup, 1) := by decide +kernel
theorem dX11_requireBegun_11 : decode cX11_requireBegun 11 = .ok (.ldc_w 420, 3) := by decide +kernel
theorem dX11_requireBegun_14 : decode cX11_requireBegun 14 = .ok (.invokespecial 123, 3) := by decide +kernel
theorem dX11_requireBegun_17 : decode cX11_requireBegun 17 = .ok (.athrow, 1) := by decide +kernel
theorem dX11_requireBegun_18 : decode cX11_requireBegun 18 = .ok (.return_, 1) := by decide +kernel
theorem dX11_requireRoom_0 : decode cX11_requireRoom 0 = .ok (.aload_n 0, 1) := by decide +kernel
theorem dX11_requireRoom_1 : decode cX11_requireRoom 1 = .ok (.invokestatic 96, 3) := by decide +kernel
theorem dX11_requireRoom_4 : decode cX11_requireRoom 4 = .ok (.aload_n 0, 1) := by decide +kernel
theorem dX11_requireRoom_5 : decode cX11_requireRoom 5 = .ok (.getfield 205, 3) := by decide +kernel
theorem dX11_requireRoom_8 : decode cX11_requireRoom 8 = .ok (.bipush 12, 2) := by decide +kernel
theorem dX11_requireRoom_10 : decode cX11_requireRoom 10 = .ok (.if_icmp .lt 14, 3) := by decide +kernel
theorem dX11_requireRoom_13 : decode cX11_requireRoom 13 = .ok (.new 119, 3) := by decide +kernel
theorem dX11_requireRoom_16 : decode cX11_requireRoom 16 = .ok (.dup, 1) := by decide +kernel
theorem dX11_requireRoom_17 : decode cX11_requireRoom 17 = .ok (.ldc_w 422, 3) := by decide +kernel
theorem dX11_requireRoom_20 : decode cX11_requireRoom 20 = .ok (.invokespecial 123, 3) := by decide +kernel
theorem dX11_requireRoom_23 : decode cX11_requireRoom 23 = .ok (.athrow, 1) := by decide +kernel
theorem dX11_requireRoom_24 : decode cX11_requireRoom 24 = .ok (.return_, 1) := by decide +kernel
theorem dX11_isNumber_0 : decode cX11_isNumber 0 = .ok (.iload_n 0, 1) := by decide +kernel
theorem dX11_isNumber_1 : decode cX11_isNumber 1 = .ok (.sipush (-999), 3) := by decide +kernel
theorem dX11_isNumber_4 : decode cX11_isNumber 4 = .ok (.if_icmp .lt 14, 3) := by decide +kernel
theorem dX11_isNumber_7 : decode cX11_isNumber 7 = .ok (.iload_n 0, 1) := by decide +kernel
theorem dX11_isNumber_8 : decode cX11_isNumber 8 = .ok (.sipush 9999, 3) := by decide +kernel
theorem dX11_isNumber_11 : decode cX11_isNumber 11 = .ok (.if_icmp .gt 7, 3) := by decide +kernel
theorem dX11_isNumber_14 : decode cX11_isNumber 14 = .ok (.iconst 1, 1) := by decide +kernel
theorem dX11_isNumber_15 : decode cX11_isNumber 15 = .ok (.goto 4, 3) := by decide +kernel
theorem dX11_isNumber_18 : decode cX11_isNumber 18 = .ok (.iconst 0, 1) := by decide +kernel
theorem dX11_isNumber_19 : decode cX11_isNumber 19 = .ok (.ireturn, 1) := by decide +kernel
theorem dX11_isKey_0 : decode cX11_isKey 0 = .ok (.iload_n 1, 1) := by decide +kernel
theorem dX11_isKey_1 : decode cX11_isKey 1 = .ok (.sipush 10000, 3) := by decide +kernel
theorem dX11_isKey_4 : decode cX11_isKey 4 = .ok (.if_icmp .ne 23, 3) := by decide +kernel
theorem dX11_isKey_7 : decode cX11_isKey 7 = .ok (.iload_n 0, 1) := by decide +kernel
theorem dX11_isKey_8 : decode cX11_isKey 8 = .ok (.invokestatic 424, 3) := by decide +kernel
theorem dX11_isKey_11 : decode cX11_isKey 11 = .ok (.ifCond .eq 14, 3) := by decide +kernel
theorem dX11_isKey_14 : decode cX11_isKey 14 = .ok (.iload_n 2, 1) := by decide +kernel
theorem dX11_isKey_15 : decode cX11_isKey 15 = .ok (.sipush 10000, 3) := by decide +kernel
theorem dX11_isKey_18 : decode cX11_isKey 18 = .ok (.if_icmp .ne 7, 3) := by decide +kernel
theorem dX11_isKey_21 : decode cX11_isKey 21 = .ok (.iconst 1, 1) := by decide +kernel
theorem dX11_isKey_22 : decode cX11_isKey 22 = .ok (.goto 4, 3) := by decide +kernel
theorem dX11_isKey_25 : decode cX11_isKey 25 = .ok (.iconst 0, 1) := by decide +kernel
theorem dX11_isKey_26 : decode cX11_isKey 26 = .ok (.ireturn, 1) := by decide +kernel
theorem dX11_isKey_27 : decode cX11_isKey 27 = .ok (.iload_n 0, 1) := by decide +kernel
theorem dX11_isKey_28 : decode cX11_isKey 28 = .ok (.invokestatic 424, 3) := by decide +kernel
theorem dX11_isKey_31 : decode cX11_isKey 31 = .ok (.ifCond .eq 28, 3) := by decide +kernel
theorem dX11_isKey_34 : decode cX11_isKey 34 = .ok (.iload_n 1, 1) := by decide +kernel
theorem dX11_isKey_35 : decode cX11_isKey 35 = .ok (.invokestatic 424, 3) := by decide +kernel
theorem dX11_isKey_38 : decode cX11_isKey 38 = .ok (.ifCond .eq 21, 3) := by decide +kernel
theorem dX11_isKey_41 : decode cX11_isKey 41 = .ok (.iload_n 2, 1) := by decide +kernel
theorem dX11_isKey_42 : decode cX11_isKey 42 = .ok (.sipush 10000, 3) := by decide +kernel
theorem dX11_isKey_45 : decode cX11_isKey 45 = .ok (.if_icmp .eq 10, 3) := by decide +kernel
theorem dX11_isKey_48 : decode cX11_isKey 48 = .ok (.iload_n 2, 1) := by decide +kernel
theorem dX11_isKey_49 : decode cX11_isKey 49 = .ok (.invokestatic 424, 3) := by decide +kernel
theorem dX11_isKey_52 : decode cX11_isKey 52 = .ok (.ifCond .eq 7, 3) := by decide +kernel
theorem dX11_isKey_55 : decode cX11_isKey 55 = .ok (.iconst 1, 1) := by decide +kernel
theorem dX11_isKey_56 : decode cX11_isKey 56 = .ok (.goto 4, 3) := by decide +kernel
theorem dX11_isKey_59 : decode cX11_isKey 59 = .ok (.iconst 0, 1) := by decide +kernel
theorem dX11_isKey_60 : decode cX11_isKey 60 = .ok (.ireturn, 1) := by decide +kernel
theorem dX11_isRange_0 : decode cX11_isRange 0 = .ok (.iload_n 0, 1) := by decide +kernel
theorem dX11_isRange_1 : decode cX11_isRange 1 = .ok (.sipush 10000, 3) := by decide +kernel
theorem dX11_isRange_4 : decode cX11_isRange 4 = .ok (.if_icmp .ne 16, 3) := by decide +kernel
theorem dX11_isRange_7 : decode cX11_isRange 7 = .ok (.iload_n 1, 1) := by decide +kernel
theorem dX11_isRange_8 : decode cX11_isRange 8 = .ok (.sipush 10000, 3) := by decide +kernel
theorem dX11_isRange_11 : decode cX11_isRange 11 = .ok (.if_icmp .ne 7, 3) := by decide +kernel
theorem dX11_isRange_14 : decode cX11_isRange 14 = .ok (.iconst 1, 1) := by decide +kernel
theorem dX11_isRange_15 : decode cX11_isRange 15 = .ok (.goto 4, 3) := by decide +kernel
theorem dX11_isRange_18 : decode cX11_isRange 18 = .ok (.iconst 0, 1) := by decide +kernel
theorem dX11_isRange_19 : decode cX11_isRange 19 = .ok (.ireturn, 1) := by decide +kernel
theorem dX11_isRange_20 : decode cX11_isRange 20 = .ok (.iload_n 0, 1) := by decide +kernel
theorem dX11_isRange_21 : decode cX11_isRange 21 = .ok (.invokestatic 424, 3) := by decide +kernel
theorem dX11_isRange_24 : decode cX11_isRange 24 = .ok (.ifCond .eq 21, 3) := by decide +kernel
theorem dX11_isRange_27 : decode cX11_isRange 27 = .ok (.iload_n 1, 1) := by decide +kernel
theorem dX11_isRange_28 : decode cX11_isRange 28 = .ok (.sipush 10000, 3) := by decide +kernel
theorem dX11_isRange_31 : decode cX11_isRange 31 = .ok (.if_icmp .eq 10, 3) := by decide +kernel
theorem dX11_isRange_34 : decode cX11_isRange 34 = .ok (.iload_n 1, 1) := by decide +kernel
theorem dX11_isRange_35 : decode cX11_isRange 35 = .ok (.invokestatic 424, 3) := by decide +kernel
theorem dX11_isRange_38 : decode cX11_isRange 38 = .ok (.ifCond .eq 7, 3) := by decide +kernel
theorem dX11_isRange_41 : decode cX11_isRange 41 = .ok (.iconst 1, 1) := by decide +kernel
theorem dX11_isRange_42 : decode cX11_isRange 42 = .ok (.goto 4, 3) := by decide +kernel
theorem dX11_isRange_45 : decode cX11_isRange 45 = .ok (.iconst 0, 1) := by decide +kernel
theorem dX11_isRange_46 : decode cX11_isRange 46 = .ok (.ireturn, 1) := by decide +kernel
theorem dX11_lastPlace_0 : decode cX11_lastPlace 0 = .ok (.iload_n 0, 1) := by decide +kernel
theorem dX11_lastPlace_1 : decode cX11_lastPlace 1 = .ok (.sipush 10000, 3) := by decide +kernel
theorem dX11_lastPlace_4 : decode cX11_lastPlace 4 = .ok (.if_icmp .ne 5, 3) := by decide +kernel
theorem dX11_lastPlace_7 : decode cX11_lastPlace 7 = .ok (.iconst 0, 1) := by decide +kernel
theorem dX11_lastPlace_8 : decode cX11_lastPlace 8 = .ok (.ireturn, 1) := by decide +kernel
theorem dX11_lastPlace_9 : decode cX11_lastPlace 9 = .ok (.iload_n 1, 1) := by decide +kernel
theorem dX11_lastPlace_10 : decode cX11_lastPlace 10 = .ok (.sipush 10000, 3) := by decide +kernel
theorem dX11_lastPlace_13 : decode cX11_lastPlace 13 = .ok (.if_icmp .ne 7, 3) := by decide +kernel
theorem dX11_lastPlace_16 : decode cX11_lastPlace 16 = .ok (.iconst 1, 1) := by decide +kernel
theorem dX11_lastPlace_17 : decode cX11_lastPlace 17 = .ok (.goto 4, 3) := by decide +kernel
theorem dX11_lastPlace_20 : decode cX11_lastPlace 20 = .ok (.iconst 2, 1) := by decide +kernel
theorem dX11_lastPlace_21 : decode cX11_lastPlace 21 = .ok (.ireturn, 1) := by decide +kernel
theorem dX11_digitOf_0 : decode cX11_digitOf 0 = .ok (.iload_n 0, 1) := by decide +kernel
theorem dX11_digitOf_1 : decode cX11_digitOf 1 = .ok (.sipush 10000, 3) := by decide +kernel
theorem dX11_digitOf_4 : decode cX11_digitOf 4 = .ok (.if_icmp .ne 7, 3) := by decide +kernel
theorem dX11_digitOf_7 : decode cX11_digitOf 7 = .ok (.lconst 0, 1) := by decide +kernel
theorem dX11_digitOf_8 : decode cX11_digitOf 8 = .ok (.goto 9, 3) := by decide +kernel
theorem dX11_digitOf_11 : decode cX11_digitOf 11 = .ok (.iload_n 0, 1) := by decide +kernel
theorem dX11_digitOf_12 : decode cX11_digitOf 12 = .ok (.i2l, 1) := by decide +kernel
theorem dX11_digitOf_13 : decode cX11_digitOf 13 = .ok (.ldc2_w 428, 3) := by decide +kernel
theorem dX11_digitOf_16 : decode cX11_digitOf 16 = .ok (.ladd, 1) := by decide +kernel
theorem dX11_digitOf_17 : decode cX11_digitOf 17 = .ok (.lreturn, 1) := by decide +kernel
theorem dX11_codeOf_0 : decode cX11_codeOf 0 = .ok (.iload_n 0, 1) := by decide +kernel
theorem dX11_codeOf_1 : decode cX11_codeOf 1 = .ok (.invokestatic 430, 3) := by decide +kernel
theorem dX11_codeOf_4 : decode cX11_codeOf 4 = .ok (.ldc2_w 434, 3) := by decide +kernel
theorem dX11_codeOf_7 : decode cX11_codeOf 7 = .ok (.lmul, 1) := by decide +kernel
theorem dX11_codeOf_8 : decode cX11_codeOf 8 = .ok (.iload_n 1, 1) := by decide +kernel
theorem dX11_codeOf_9 : decode cX11_codeOf 9 = .ok (.invokestatic 430, 3) := by decide +kernel
theorem dX11_codeOf_12 : decode cX11_codeOf 12 = .ok (.ladd, 1) := by decide +kernel
theorem dX11_codeOf_13 : decode cX11_codeOf 13 = .ok (.ldc2_w 434, 3) := by decide +kernel
theorem dX11_codeOf_16 : decode cX11_codeOf 16 = .ok (.lmul, 1) := by decide +kernel
theorem dX11_codeOf_17 : decode cX11_codeOf 17 = .ok (.iload_n 2, 1) := by decide +kernel
theorem dX11_codeOf_18 : decode cX11_codeOf 18 = .ok (.invokestatic 430, 3) := by decide +kernel
theorem dX11_codeOf_21 : decode cX11_codeOf 21 = .ok (.ladd, 1) := by decide +kernel
theorem dX11_codeOf_22 : decode cX11_codeOf 22 = .ok (.lreturn, 1) := by decide +kernel
theorem dX11_codeOf__0 : decode cX11_codeOf_ 0 = .ok (.iload_n 0, 1) := by decide +kernel
theorem dX11_codeOf__1 : decode cX11_codeOf_ 1 = .ok (.iload_n 1, 1) := by decide +kernel
theorem dX11_codeOf__2 : decode cX11_codeOf_ 2 = .ok (.sipush 10000, 3) := by decide +kernel
theorem dX11_codeOf__5 : decode cX11_codeOf_ 5 = .ok (.invokestatic 100, 3) := by decide +kernel
theorem dX11_codeOf__8 : decode cX11_codeOf_ 8 = .ok (.lreturn, 1) := by decide +kernel
theorem dX11_unitOf_0 : decode cX11_unitOf 0 = .ok (.iload_n 0, 1) := by decide +kernel
theorem dX11_unitOf_1 : decode cX11_unitOf 1 = .ok (.ifCond .ne 7, 3) := by decide +kernel
theorem dX11_unitOf_4 : decode cX11_unitOf 4 = .ok (.ldc2_w 436, 3) := by decide +kernel
theorem dX11_unitOf_7 : decode cX11_unitOf 7 = .ok (.lreturn, 1) := by decide +kernel
theorem dX11_unitOf_8 : decode cX11_unitOf 8 = .ok (.iload_n 0, 1) := by decide +kernel
theorem dX11_unitOf_9 : decode cX11_unitOf 9 = .ok (.iconst 1, 1) := by decide +kernel
theorem dX11_unitOf_10 : decode cX11_unitOf 10 = .ok (.if_icmp .ne 9, 3) := by decide +kernel
theorem dX11_unitOf_13 : decode cX11_unitOf 13 = .ok (.ldc2_w 434, 3) := by decide +kernel
theorem dX11_unitOf_16 : decode cX11_unitOf 16 = .ok (.goto 4, 3) := by decide +kernel
theorem dX11_unitOf_19 : decode cX11_unitOf 19 = .ok (.lconst 1, 1) := by decide +kernel
theorem dX11_unitOf_20 : decode cX11_unitOf 20 = .ok (.lreturn, 1) := by decide +kernel
theorem dX11_numberOf_0 : decode cX11_numberOf 0 = .ok (.lload_n 0, 1) := by decide +kernel
theorem dX11_numberOf_1 : decode cX11_numberOf 1 = .ok (.ldc2_w 434, 3) := by decide +kernel
theorem dX11_numberOf_4 : decode cX11_numberOf 4 = .ok (.lrem, 1) := by decide +kernel
theorem dX11_numberOf_5 : decode cX11_numberOf 5 = .ok (.lstore_n 3, 1) := by decide +kernel
theorem dX11_numberOf_6 : decode cX11_numberOf 6 = .ok (.iload_n 2, 1) := by decide +kernel
theorem dX11_numberOf_7 : decode cX11_numberOf 7 = .ok (.ifCond .ne 16, 3) := by decide +kernel
theorem dX11_numberOf_10 : decode cX11_numberOf 10 = .ok (.lload_n 0, 1) := by decide +kernel
theorem dX11_numberOf_11 : decode cX11_numberOf 11 = .ok (.ldc2_w 436, 3) := by decide +kernel
theorem dX11_numberOf_14 : decode cX11_numberOf 14 = .ok (.ldiv, 1) := by decide +kernel
theorem dX11_numberOf_15 : decode cX11_numberOf 15 = .ok (.ldc2_w 434, 3) := by decide +kernel
theorem dX11_numberOf_18 : decode cX11_numberOf 18 = .ok (.lrem, 1) := by decide +kernel
theorem dX11_numberOf_19 : decode cX11_numberOf 19 = .ok (.lstore_n 3, 1) := by decide +kernel
theorem dX11_numberOf_20 : decode cX11_numberOf 20 = .ok (.goto 18, 3) := by decide +kernel
theorem dX11_numberOf_23 : decode cX11_numberOf 23 = .ok (.iload_n 2, 1) := by decide +kernel
theorem dX11_numberOf_24 : decode cX11_numberOf 24 = .ok (.iconst 1, 1) := by decide +kernel
theorem dX11_numberOf_25 : decode cX11_numberOf 25 = .ok (.if_icmp .ne 13, 3) := by decide +kernel
theorem dX11_numberOf_28 : decode cX11_numberOf 28 = .ok (.lload_n 0, 1) := by decide +kernel
theorem dX11_numberOf_29 : decode cX11_numberOf 29 = .ok (.ldc2_w 434, 3) := by decide +kernel
theorem dX11_numberOf_32 : decode cX11_numberOf 32 = .ok (.ldiv, 1) := by decide +kernel
theorem dX11_numberOf_33 : decode cX11_numberOf 33 = .ok (.ldc2_w 434, 3) := by decide +kernel
theorem dX11_numberOf_36 : decode cX11_numberOf 36 = .ok (.lrem, 1) := by decide +kernel
theorem dX11_numberOf_37 : decode cX11_numberOf 37 = .ok (.lstore_n 3, 1) := by decide +kernel
theorem dX11_numberOf_38 : decode cX11_numberOf 38 = .ok (.lload_n 3, 1) := by decide +kernel
theorem dX11_numberOf_39 : decode cX11_numberOf 39 = .ok (.lconst 0, 1) := by decide +kernel
theorem dX11_numberOf_40 : decode cX11_numberOf 40 = .ok (.lcmp, 1) := by decide +kernel
theorem dX11_numberOf_41 : decode cX11_numberOf 41 = .ok (.ifCond .ne 9, 3) := by decide +kernel
theorem dX11_numberOf_44 : decode cX11_numberOf 44 = .ok (.sipush 10000, 3) := by decide +kernel
theorem dX11_numberOf_47 : decode cX11_numberOf 47 = .ok (.goto 9, 3) := by decide +kernel
theorem dX11_numberOf_50 : decode cX11_numberOf 50 = .ok (.lload_n 3, 1) := by decide +kernel
theorem dX11_numberOf_51 : decode cX11_numberOf 51 = .ok (.ldc2_w 428, 3) := by decide +kernel
theorem dX11_numberOf_54 : decode cX11_numberOf 54 = .ok (.lsub, 1) := by decide +kernel
theorem dX11_numberOf_55 : decode cX11_numberOf 55 = .ok (.l2i, 1) := by decide +kernel
theorem dX11_numberOf_56 : decode cX11_numberOf 56 = .ok (.ireturn, 1) := by decide +kernel
theorem dX11_withNumber_0 : decode cX11_withNumber 0 = .ok (.lload_n 0, 1) := by decide +kernel
theorem dX11_withNumber_1 : decode cX11_withNumber 1 = .ok (.iload_n 3, 1) := by decide +kernel
theorem dX11_withNumber_2 : decode cX11_withNumber 2 = .ok (.invokestatic 430, 3) := by decide +kernel
theorem dX11_withNumber_5 : decode cX11_withNumber 5 = .ok (.lload_n 0, 1) := by decide +kernel
theorem dX11_withNumber_6 : decode cX11_withNumber 6 = .ok (.iload_n 2, 1) := by decide +kernel
theorem dX11_withNumber_7 : decode cX11_withNumber 7 = .ok (.invokestatic 176, 3) := by decide +kernel
theorem dX11_withNumber_10 : decode cX11_withNumber 10 = .ok (.invokestatic 430, 3) := by decide +kernel
theorem dX11_withNumber_13 : decode cX11_withNumber 13 = .ok (.lsub, 1) := by decide +kernel
theorem dX11_withNumber_14 : decode cX11_withNumber 14 = .ok (.iload_n 2, 1) := by decide +kernel
theorem dX11_withNumber_15 : decode cX11_withNumber 15 = .ok (.invokestatic 438, 3) := by decide +kernel
theorem dX11_withNumber_18 : decode cX11_withNumber 18 = .ok (.lmul, 1) := by decide +kernel
theorem dX11_withNumber_19 : decode cX11_withNumber 19 = .ok (.ladd, 1) := by decide +kernel
theorem dX11_withNumber_20 : decode cX11_withNumber 20 = .ok (.lreturn, 1) := by decide +kernel
theorem dX11_lowOf_0 : decode cX11_lowOf 0 = .ok (.iload_n 0, 1) := by decide +kernel
theorem dX11_lowOf_1 : decode cX11_lowOf 1 = .ok (.sipush 10000, 3) := by decide +kernel
theorem dX11_lowOf_4 : decode cX11_lowOf 4 = .ok (.if_icmp .ne 7, 3) := by decide +kernel
theorem dX11_lowOf_7 : decode cX11_lowOf 7 = .ok (.lconst 0, 1) := by decide +kernel
theorem dX11_lowOf_8 : decode cX11_lowOf 8 = .ok (.goto 8, 3) := by decide +kernel
theorem dX11_lowOf_11 : decode cX11_lowOf 11 = .ok (.iload_n 0, 1) := by decide +kernel
theorem dX11_lowOf_12 : decode cX11_lowOf 12 = .ok (.iload_n 1, 1) := by decide +kernel
theorem dX11_lowOf_13 : decode cX11_lowOf 13 = .ok (.invokestatic 302, 3) := by decide +kernel
theorem dX11_lowOf_16 : decode cX11_lowOf 16 = .ok (.lreturn, 1) := by decide +kernel
theorem dX11_highOf_0 : decode cX11_highOf 0 = .ok (.iload_n 0, 1) := by decide +kernel
theorem dX11_highOf_1 : decode cX11_highOf 1 = .ok (.sipush 10000, 3) := by decide +kernel
theorem dX11_highOf_4 : decode cX11_highOf 4 = .ok (.if_icmp .ne 7, 3) := by decide +kernel
theorem dX11_highOf_7 : decode cX11_highOf 7 = .ok (.ldc2_w 441, 3) := by decide +kernel
theorem dX11_highOf_10 : decode cX11_highOf 10 = .ok (.lreturn, 1) := by decide +kernel
theorem dX11_highOf_11 : decode cX11_highOf 11 = .ok (.iload_n 0, 1) := by decide +kernel
theorem dX11_highOf_12 : decode cX11_highOf 12 = .ok (.iload_n 1, 1) := by decide +kernel
theorem dX11_highOf_13 : decode cX11_highOf 13 = .ok (.invokestatic 302, 3) := by decide +kernel
theorem dX11_highOf_16 : decode cX11_highOf 16 = .ok (.iload_n 1, 1) := by decide +kernel
theorem dX11_highOf_17 : decode cX11_highOf 17 = .ok (.sipush 10000, 3) := by decide +kernel
theorem dX11_highOf_20 : decode cX11_highOf 20 = .ok (.if_icmp .ne 7, 3) := by decide +kernel
theorem dX11_highOf_23 : decode cX11_highOf 23 = .ok (.iconst 0, 1) := by decide +kernel
theorem dX11_highOf_24 : decode cX11_highOf 24 = .ok (.goto 4, 3) := by decide +kernel
theorem dX11_highOf_27 : decode cX11_highOf 27 = .ok (.iconst 1, 1) := by decide +kernel
theorem dX11_highOf_28 : decode cX11_highOf 28 = .ok (.invokestatic 438, 3) := by decide +kernel
theorem dX11_highOf_31 : decode cX11_highOf 31 = .ok (.ladd, 1) := by decide +kernel
theorem dX11_highOf_32 : decode cX11_highOf 32 = .ok (.lreturn, 1) := by decide +kernel
theorem dX11_byteOf_0 : decode cX11_byteOf 0 = .ok (.iload_n 1, 1) := by decide +kernel
theorem dX11_byteOf_1 : decode cX11_byteOf 1 = .ok (.ifCond .ne 13, 3) := by decide +kernel
theorem dX11_byteOf_4 : decode cX11_byteOf 4 = .ok (.iload_n 0, 1) := by decide +kernel
theorem dX11_byteOf_5 : decode cX11_byteOf 5 = .ok (.ifCond .ge 7, 3) := by decide +kernel
theorem dX11_byteOf_8 : decode cX11_byteOf 8 = .ok (.iconst 1, 1) := by decide +kernel
theorem dX11_byteOf_9 : decode cX11_byteOf 9 = .ok (.goto 4, 3) := by decide +kernel
theorem dX11_byteOf_12 : decode cX11_byteOf 12 = .ok (.iconst 2, 1) := by decide +kernel
theorem dX11_byteOf_13 : decode cX11_byteOf 13 = .ok (.ireturn, 1) := by decide +kernel
theorem dX11_byteOf_14 : decode cX11_byteOf 14 = .ok (.iload_n 0, 1) := by decide +kernel
theorem dX11_byteOf_15 : decode cX11_byteOf 15 = .ok (.ifCond .ge 11, 3) := by decide +kernel
theorem dX11_byteOf_18 : decode cX11_byteOf 18 = .ok (.iload_n 0, 1) := by decide +kernel
theorem dX11_byteOf_19 : decode cX11_byteOf 19 = .ok (.sipush 1000, 3) := by decide +kernel
theorem dX11_byteOf_22 : decode cX11_byteOf 22 = .ok (.iadd, 1) := by decide +kernel
theorem dX11_byteOf_23 : decode cX11_byteOf 23 = .ok (.goto 4, 3) := by decide +kernel
theorem dX11_byteOf_26 : decode cX11_byteOf 26 = .ok (.iload_n 0, 1) := by decide +kernel
theorem dX11_byteOf_27 : decode cX11_byteOf 27 = .ok (.istore_n 2, 1) := by decide +kernel
theorem dX11_byteOf_28 : decode cX11_byteOf 28 = .ok (.iload_n 1, 1) := by decide +kernel
theorem dX11_byteOf_29 : decode cX11_byteOf 29 = .ok (.iconst 1, 1) := by decide +kernel
theorem dX11_byteOf_30 : decode cX11_byteOf 30 = .ok (.if_icmp .ne 10, 3) := by decide +kernel
theorem dX11_byteOf_33 : decode cX11_byteOf 33 = .ok (.iload_n 2, 1) := by decide +kernel
theorem dX11_byteOf_34 : decode cX11_byteOf 34 = .ok (.bipush 100, 2) := by decide +kernel
theorem dX11_byteOf_36 : decode cX11_byteOf 36 = .ok (.idiv, 1) := by decide +kernel
theorem dX11_byteOf_37 : decode cX11_byteOf 37 = .ok (.goto 7, 3) := by decide +kernel
theorem dX11_byteOf_40 : decode cX11_byteOf 40 = .ok (.iload_n 2, 1) := by decide +kernel
theorem dX11_byteOf_41 : decode cX11_byteOf 41 = .ok (.bipush 100, 2) := by decide +kernel
theorem dX11_byteOf_43 : decode cX11_byteOf 43 = .ok (.irem, 1) := by decide +kernel
theorem dX11_byteOf_44 : decode cX11_byteOf 44 = .ok (.ireturn, 1) := by decide +kernel
theorem dX11_listSeen_0 : decode cX11_listSeen 0 = .ok (.aload_n 0, 1) := by decide +kernel
theorem dX11_listSeen_1 : decode cX11_listSeen 1 = .ok (.getfield 39, 3) := by decide +kernel
theorem dX11_listSeen_4 : decode cX11_listSeen 4 = .ok (.invokevirtual 443, 3) := by decide +kernel
theorem dX11_listSeen_7 : decode cX11_listSeen 7 = .ok (.aload_n 0, 1) := by decide +kernel
theorem dX11_listSeen_8 : decode cX11_listSeen 8 = .ok (.getfield 14, 3) := by decide +kernel
theorem dX11_listSeen_11 : decode cX11_listSeen 11 = .ok (.lload_n 2, 1) := by decide +kernel
theorem dX11_listSeen_12 : decode cX11_listSeen 12 = .ok (.invokevirtual 446, 3) := by decide +kernel
theorem dX11_listSeen_15 : decode cX11_listSeen 15 = .ok (.istore 6, 2) := by decide +kernel
theorem dX11_listSeen_17 : decode cX11_listSeen 17 = .ok (.iload 6, 2) := by decide +kernel
theorem dX11_listSeen_19 : decode cX11_listSeen 19 = .ok (.aload_n 0, 1) := by decide +kernel
theorem dX11_listSeen_20 : decode cX11_listSeen 20 = .ok (.getfield 14, 3) := by decide +kernel
theorem dX11_listSeen_23 : decode cX11_listSeen 23 = .ok (.getfield 449, 3) := by decide +kernel
theorem dX11_listSeen_26 : decode cX11_listSeen 26 = .ok (.invokevirtual 153, 3) := by decide +kernel
theorem dX11_listSeen_29 : decode cX11_listSeen 29 = .ok (.if_icmp .ge 90, 3) := by decide +kernel
theorem dX11_listSeen_32 : decode cX11_listSeen 32 = .ok (.aload_n 0, 1) := by decide +kernel
theorem dX11_listSeen_33 : decode cX11_listSeen 33 = .ok (.getfield 14, 3) := by decide +kernel
theorem dX11_listSeen_36 : decode cX11_listSeen 36 = .ok (.getfield 449, 3) := by decide +kernel
theorem dX11_listSeen_39 : decode cX11_listSeen 39 = .ok (.iload 6, 2) := by decide +kernel
theorem dX11_listSeen_41 : decode cX11_listSeen 41 = .ok (.invokevirtual 166, 3) := by decide +kernel
theorem dX11_listSeen_44 : decode cX11_listSeen 44 = .ok (.checkcast 170, 3) := by decide +kernel
theorem dX11_listSeen_47 : decode cX11_listSeen 47 = .ok (.astore 7, 2) := by decide +kernel
theorem dX11_listSeen_49 : decode cX11_listSeen 49 = .ok (.aload 7, 2) := by decide +kernel
theorem dX11_listSeen_51 : decode cX11_listSeen 51 = .ok (.getfield 172, 3) := by decide +kernel
theorem dX11_listSeen_54 : decode cX11_listSeen 54 = .ok (.lload 4, 2) := by decide +kernel
theorem dX11_listSeen_56 : decode cX11_listSeen 56 = .ok (.lcmp, 1) := by decide +kernel
theorem dX11_listSeen_57 : decode cX11_listSeen 57 = .ok (.ifCond .lt 4, 3) := by decide +kernel
theorem dX11_listSeen_60 : decode cX11_listSeen 60 = .ok (.return_, 1) := by decide +kernel
theorem dX11_listSeen_61 : decode cX11_listSeen 61 = .ok (.aload_n 1, 1) := by decide +kernel
theorem dX11_listSeen_62 : decode cX11_listSeen 62 = .ok (.aload_n 0, 1) := by decide +kernel
theorem dX11_listSeen_63 : decode cX11_listSeen 63 = .ok (.getfield 28, 3) := by decide +kernel
theorem dX11_listSeen_66 : decode cX11_listSeen 66 = .ok (.aload 7, 2) := by decide +kernel
theorem dX11_listSeen_68 : decode cX11_listSeen 68 = .ok (.getfield 172, 3) := by decide +kernel
theorem dX11_listSeen_71 : decode cX11_listSeen 71 = .ok (.aload 7, 2) := by decide +kernel
theorem dX11_listSeen_73 : decode cX11_listSeen 73 = .ok (.aload_n 1, 1) := by decide +kernel
theorem dX11_listSeen_74 : decode cX11_listSeen 74 = .ok (.getfield 104, 3) := by decide +kernel
theorem dX11_listSeen_77 : decode cX11_listSeen 77 = .ok (.invokevirtual 452, 3) := by decide +kernel
theorem dX11_listSeen_80 : decode cX11_listSeen 80 = .ok (.invokevirtual 111, 3) := by decide +kernel
theorem dX11_listSeen_83 : decode cX11_listSeen 83 = .ok (.aload_n 0, 1) := by decide +kernel
theorem dX11_listSeen_84 : decode cX11_listSeen 84 = .ok (.getfield 28, 3) := by decide +kernel
theorem dX11_listSeen_87 : decode cX11_listSeen 87 = .ok (.getfield 335, 3) := by decide +kernel
theorem dX11_listSeen_90 : decode cX11_listSeen 90 = .ok (.ifCond .eq 23, 3) := by decide +kernel
theorem dX11_listSeen_93 : decode cX11_listSeen 93 = .ok (.aload_n 0, 1) := by decide +kernel
theorem dX11_listSeen_94 : decode cX11_listSeen 94 = .ok (.getfield 28, 3) := by decide +kernel
theorem dX11_listSeen_97 : decode cX11_listSeen 97 = .ok (.getfield 115, 3) := by decide +kernel
theorem dX11_listSeen_100 : decode cX11_listSeen 100 = .ok (.ifCond .ne 13, 3) := by decide +kernel
theorem dX11_listSeen_103 : decode cX11_listSeen 103 = .ok (.aload_n 0, 1) := by decide +kernel
theorem dX11_listSeen_104 : decode cX11_listSeen 104 = .ok (.getfield 39, 3) := by decide +kernel
theorem dX11_listSeen_107 : decode cX11_listSeen 107 = .ok (.aload 7, 2) := by decide +kernel
theorem dX11_listSeen_109 : decode cX11_listSeen 109 = .ok (.invokevirtual 72, 3) := by decide +kernel
theorem dX11_listSeen_112 : decode cX11_listSeen 112 = .ok (.pop, 1) := by decide +kernel
theorem dX11_listSeen_113 : decode cX11_listSeen 113 = .ok (.iinc 6 1, 3) := by decide +kernel
theorem dX11_listSeen_116 : decode cX11_listSeen 116 = .ok (.goto (-99), 3) := by decide +kernel
theorem dX11_listSeen_119 : decode cX11_listSeen 119 = .ok (.return_, 1) := by decide +kernel
theorem dX11_keep_0 : decode cX11_keep 0 = .ok (.aload_n 0, 1) := by decide +kernel
theorem dX11_keep_1 : decode cX11_keep 1 = .ok (.getfield 14, 3) := by decide +kernel
theorem dX11_keep_4 : decode cX11_keep 4 = .ok (.lload_n 3, 1) := by decide +kernel
theorem dX11_keep_5 : decode cX11_keep 5 = .ok (.invokevirtual 342, 3) := by decide +kernel
theorem dX11_keep_8 : decode cX11_keep 8 = .ok (.pop, 1) := by decide +kernel
theorem dX11_keep_9 : decode cX11_keep 9 = .ok (.aload_n 1, 1) := by decide +kernel
theorem dX11_keep_10 : decode cX11_keep 10 = .ok (.iload_n 2, 1) := by decide +kernel
theorem dX11_keep_11 : decode cX11_keep 11 = .ok (.lload_n 3, 1) := by decide +kernel
theorem dX11_keep_12 : decode cX11_keep 12 = .ok (.iload 5, 2) := by decide +kernel
theorem dX11_keep_14 : decode cX11_keep 14 = .ok (.invokevirtual 455, 3) := by decide +kernel
theorem dX11_keep_17 : decode cX11_keep 17 = .ok (.return_, 1) := by decide +kernel
theorem dX11_toldUndone_0 : decode cX11_toldUndone 0 = .ok (.aload_n 1, 1) := by decide +kernel
theorem dX11_toldUndone_1 : decode cX11_toldUndone 1 = .ok (.getfield 458, 3) := by decide +kernel
theorem dX11_toldUndone_4 : decode cX11_toldUndone 4 = .ok (.ifCond .eq 17, 3) := by decide +kernel
theorem dX11_toldUndone_7 : decode cX11_toldUndone 7 = .ok (.aload_n 1, 1) := by decide +kernel
theorem dX11_toldUndone_8 : decode cX11_toldUndone 8 = .ok (.getfield 461, 3) := by decide +kernel
theorem dX11_toldUndone_11 : decode cX11_toldUndone 11 = .ok (.ldc 62, 2) := by decide +kernel
theorem dX11_toldUndone_13 : decode cX11_toldUndone 13 = .ok (.if_icmp .eq 8, 3) := by decide +kernel
theorem dX11_toldUndone_16 : decode cX11_toldUndone 16 = .ok (.aload_n 1, 1) := by decide +kernel
theorem dX11_toldUndone_17 : decode cX11_toldUndone 17 = .ok (.getfield 461, 3) := by decide +kernel
theorem dX11_toldUndone_20 : decode cX11_toldUndone 20 = .ok (.ireturn, 1) := by decide +kernel
theorem dX11_toldUndone_21 : decode cX11_toldUndone 21 = .ok (.aload_n 1, 1) := by decide +kernel
theorem dX11_toldUndone_22 : decode cX11_toldUndone 22 = .ok (.getfield 205, 3) := by decide +kernel
theorem dX11_toldUndone_25 : decode cX11_toldUndone 25 = .ok (.ifCond .ne 8, 3) := by decide +kernel
theorem dX11_toldUndone_28 : decode cX11_toldUndone 28 = .ok (.aload_n 1, 1) := by decide +kernel
theorem dX11_toldUndone_29 : decode cX11_toldUndone 29 = .ok (.getfield 104, 3) := by decide +kernel
theorem dX11_toldUndone_32 : decode cX11_toldUndone 32 = .ok (.ireturn, 1) := by decide +kernel
theorem dX11_toldUndone_33 : decode cX11_toldUndone 33 = .ok (.aload_n 0, 1) := by decide +kernel
theorem dX11_toldUndone_34 : decode cX11_toldUndone 34 = .ok (.getfield 14, 3) := by decide +kernel
theorem dX11_toldUndone_37 : decode cX11_toldUndone 37 = .ok (.getfield 85, 3) := by decide +kernel
theorem dX11_toldUndone_40 : decode cX11_toldUndone 40 = .ok (.aload_n 1, 1) := by decide +kernel
theorem dX11_toldUndone_41 : decode cX11_toldUndone 41 = .ok (.getfield 104, 3) := by decide +kernel
theorem dX11_toldUndone_44 : decode cX11_toldUndone 44 = .ok (.isub, 1) := by decide +kernel
theorem dX11_toldUndone_45 : decode cX11_toldUndone 45 = .ok (.bipush 30, 2) := by decide +kernel
theorem dX11_toldUndone_47 : decode cX11_toldUndone 47 = .ok (.if_icmp .gt 14, 3) := by decide +kernel
theorem dX11_toldUndone_50 : decode cX11_toldUndone 50 = .ok (.aload_n 1, 1) := by decide +kernel
theorem dX11_toldUndone_51 : decode cX11_toldUndone 51 = .ok (.getfield 464, 3) := by decide +kernel
theorem dX11_toldUndone_54 : decode cX11_toldUndone 54 = .ok (.aload_n 0, 1) := by decide +kernel
theorem dX11_toldUndone_55 : decode cX11_toldUndone 55 = .ok (.getfield 56, 3) := by decide +kernel
theorem dX11_toldUndone_58 : decode cX11_toldUndone 58 = .ok (.if_icmp .eq 6, 3) := by decide +kernel
theorem dX11_toldUndone_61 : decode cX11_toldUndone 61 = .ok (.bipush (-2), 2) := by decide +kernel
theorem dX11_toldUndone_63 : decode cX11_toldUndone 63 = .ok (.ireturn, 1) := by decide +kernel
theorem dX11_toldUndone_64 : decode cX11_toldUndone 64 = .ok (.aload_n 0, 1) := by decide +kernel
theorem dX11_toldUndone_65 : decode cX11_toldUndone 65 = .ok (.aload_n 1, 1) := by decide +kernel
theorem dX11_toldUndone_66 : decode cX11_toldUndone 66 = .ok (.invokevirtual 465, 3) := by decide +kernel
theorem dX11_toldUndone_69 : decode cX11_toldUndone 69 = .ok (.istore_n 2, 1) := by decide +kernel
theorem dX11_toldUndone_70 : decode cX11_toldUndone 70 = .ok (.iload_n 2, 1) := by decide +kernel
theorem dX11_toldUndone_71 : decode cX11_toldUndone 71 = .ok (.ldc 62, 2) := by decide +kernel
theorem dX11_toldUndone_73 : decode cX11_toldUndone 73 = .ok (.if_icmp .ne 6, 3) := by decide +kernel
theorem dX11_toldUndone_76 : decode cX11_toldUndone 76 = .ok (.ldc 62, 2) := by decide +kernel
theorem dX11_toldUndone_78 : decode cX11_toldUndone 78 = .ok (.ireturn, 1) := by decide +kernel
theorem dX11_toldUndone_79 : decode cX11_toldUndone 79 = .ok (.aload_n 0, 1) := by decide +kernel
theorem dX11_toldUndone_80 : decode cX11_toldUndone 80 = .ok (.iload_n 2, 1) := by decide +kernel
theorem dX11_toldUndone_81 : decode cX11_toldUndone 81 = .ok (.putfield 63, 3) := by decide +kernel
theorem dX11_toldUndone_84 : decode cX11_toldUndone 84 = .ok (.iconst (-1), 1) := by decide +kernel
theorem dX11_toldUndone_85 : decode cX11_toldUndone 85 = .ok (.ireturn, 1) := by decide +kernel
theorem dX11_settle_0 : decode cX11_settle 0 = .ok (.aload_n 0, 1) := by decide +kernel
theorem dX11_settle_1 : decode cX11_settle 1 = .ok (.getfield 14, 3) := by decide +kernel
theorem dX11_settle_4 : decode cX11_settle 4 = .ok (.iconst 1, 1) := by decide +kernel
theorem dX11_settle_5 : decode cX11_settle 5 = .ok (.invokevirtual 223, 3) := by decide +kernel
theorem dX11_settle_8 : decode cX11_settle 8 = .ok (.iconst 0, 1) := by decide +kernel
theorem dX11_settle_9 : decode cX11_settle 9 = .ok (.istore_n 2, 1) := by decide +kernel
theorem dX11_settle_10 : decode cX11_settle 10 = .ok (.iload_n 2, 1) := by decide +kernel
theorem dX11_settle_11 : decode cX11_settle 11 = .ok (.aload_n 1, 1) := by decide +kernel
theorem dX11_settle_12 : decode cX11_settle 12 = .ok (.getfield 468, 3) := by decide +kernel
theorem dX11_settle_15 : decode cX11_settle 15 = .ok (.invokevirtual 153, 3) := by decide +kernel
theorem dX11_settle_18 : decode cX11_settle 18 = .ok (.if_icmp .ge 27, 3) := by decide +kernel
theorem dX11_settle_21 : decode cX11_settle 21 = .ok (.aload_n 0, 1) := by decide +kernel
theorem dX11_settle_22 : decode cX11_settle 22 = .ok (.getfield 14, 3) := by decide +kernel
theorem dX11_settle_25 : decode cX11_settle 25 = .ok (.aload_n 1, 1) := by decide +kernel
theorem dX11_settle_26 : decode cX11_settle 26 = .ok (.getfield 468, 3) := by decide +kernel
theorem dX11_settle_29 : decode cX11_settle 29 = .ok (.iload_n 2, 1) := by decide +kernel
theorem dX11_settle_30 : decode cX11_settle 30 = .ok (.invokevirtual 166, 3) := by decide +kernel
theorem dX11_settle_33 : decode cX11_settle 33 = .ok (.checkcast 471, 3) := by decide +kernel
theorem dX11_settle_36 : decode cX11_settle 36 = .ok (.invokevirtual 473, 3) := by decide +kernel
theorem dX11_settle_39 : decode cX11_settle 39 = .ok (.iinc 2 1, 3) := by decide +kernel
theorem dX11_settle_42 : decode cX11_settle 42 = .ok (.goto (-32), 3) := by decide +kernel
theorem dX11_settle_45 : decode cX11_settle 45 = .ok (.iconst 0, 1) := by decide +kernel
theorem dX11_settle_46 : decode cX11_settle 46 = .ok (.istore_n 2, 1) := by decide +kernel
theorem dX11_settle_47 : decode cX11_settle 47 = .ok (.iload_n 2, 1) := by decide +kernel
theorem dX11_settle_48 : decode cX11_settle 48 = .ok (.aload_n 1, 1) := by decide +kernel
theorem dX11_settle_49 : decode cX11_settle 49 = .ok (.getfield 468, 3) := by decide +kernel
theorem dX11_settle_52 : decode cX11_settle 52 = .ok (.invokevirtual 153, 3) := by decide +kernel
theorem dX11_settle_55 : decode cX11_settle 55 = .ok (.if_icmp .ge 27, 3) := by decide +kernel
theorem dX11_settle_58 : decode cX11_settle 58 = .ok (.aload_n 0, 1) := by decide +kernel
theorem dX11_settle_59 : decode cX11_settle 59 = .ok (.getfield 14, 3) := by decide +kernel
theorem dX11_settle_62 : decode cX11_settle 62 = .ok (.aload_n 1, 1) := by decide +kernel
theorem dX11_settle_63 : decode cX11_settle 63 = .ok (.getfield 468, 3) := by decide +kernel
theorem dX11_settle_66 : decode cX11_settle 66 = .ok (.iload_n 2, 1) := by decide +kernel
theorem dX11_settle_67 : decode cX11_settle 67 = .ok (.invokevirtual 166, 3) := by decide +kernel
theorem dX11_settle_70 : decode cX11_settle 70 = .ok (.checkcast 471, 3) := by decide +kernel
theorem dX11_settle_73 : decode cX11_settle 73 = .ok (.invokevirtual 477, 3) := by decide +kernel
theorem dX11_settle_76 : decode cX11_settle 76 = .ok (.iinc 2 1, 3) := by decide +kernel
theorem dX11_settle_79 : decode cX11_settle 79 = .ok (.goto (-32), 3) := by decide +kernel
theorem dX11_settle_82 : decode cX11_settle 82 = .ok (.aload_n 1, 1) := by decide +kernel
theorem dX11_settle_83 : decode cX11_settle 83 = .ok (.aload_n 0, 1) := by decide +kernel
theorem dX11_settle_84 : decode cX11_settle 84 = .ok (.getfield 14, 3) := by decide +kernel
theorem dX11_settle_87 : decode cX11_settle 87 = .ok (.getfield 85, 3) := by decide +kernel
theorem dX11_settle_90 : decode cX11_settle 90 = .ok (.putfield 461, 3) := by decide +kernel
theorem dX11_settle_93 : decode cX11_settle 93 = .ok (.aload_n 0, 1) := by decide +kernel
theorem dX11_settle_94 : decode cX11_settle 94 = .ok (.invokevirtual 329, 3) := by decide +kernel
theorem dX11_settle_97 : decode cX11_settle 97 = .ok (.return_, 1) := by decide +kernel
theorem dX11_closeCommit_0 : decode cX11_closeCommit 0 = .ok (.iconst 0, 1) := by decide +kernel
theorem dX11_closeCommit_1 : decode cX11_closeCommit 1 = .ok (.istore_n 1, 1) := by decide +kernel
theorem dX11_closeCommit_2 : decode cX11_closeCommit 2 = .ok (.iload_n 1, 1) := by decide +kernel
theorem dX11_closeCommit_3 : decode cX11_closeCommit 3 = .ok (.aload_n 0, 1) := by decide +kernel
theorem dX11_closeCommit_4 : decode cX11_closeCommit 4 = .ok (.getfield 45, 3) := by decide +kernel
theorem dX11_closeCommit_7 : decode cX11_closeCommit 7 = .ok (.invokevirtual 153, 3) := by decide +kernel
theorem dX11_closeCommit_10 : decode cX11_closeCommit 10 = .ok (.if_icmp .ge 65, 3) := by decide +kernel
theorem dX11_closeCommit_13 : decode cX11_closeCommit 13 = .ok (.aload_n 0, 1) := by decide +kernel
theorem dX11_closeCommit_14 : decode cX11_closeCommit 14 = .ok (.getfield 45, 3) := by decide +kernel
theorem dX11_closeCommit_17 : decode cX11_closeCommit 17 = .ok (.iload_n 1, 1) := by decide +kernel
theorem dX11_closeCommit_18 : decode cX11_closeCommit 18 = .ok (.invokevirtual 166, 3) := by decide +kernel
theorem dX11_closeCommit_21 : decode cX11_closeCommit 21 = .ok (.checkcast 340, 3) := by decide +kernel
theorem dX11_closeCommit_24 : decode cX11_closeCommit 24 = .ok (.astore_n 2, 1) := by decide +kernel
theorem dX11_closeCommit_25 : decode cX11_closeCommit 25 = .ok (.aload_n 2, 1) := by decide +kernel
theorem dX11_closeCommit_26 : decode cX11_closeCommit 26 = .ok (.getfield 351, 3) := by decide +kernel
theorem dX11_closeCommit_29 : decode cX11_closeCommit 29 = .ok (.ldc 62, 2) := by decide +kernel
theorem dX11_closeCommit_31 : decode cX11_closeCommit 31 = .ok (.if_icmp .ne 38, 3) := by decide +kernel
theorem dX11_closeCommit_34 : decode cX11_closeCommit 34 = .ok (.aload_n 2, 1) := by decide +kernel
theorem dX11_closeCommit_35 : decode cX11_closeCommit 35 = .ok (.getfield 480, 3) := by decide +kernel
theorem dX11_closeCommit_38 : decode cX11_closeCommit 38 = .ok (.ifnull 31, 3) := by decide +kernel
theorem dX11_closeCommit_41 : decode cX11_closeCommit 41 = .ok (.aload_n 2, 1) := by decide +kernel
theorem dX11_closeCommit_42 : decode cX11_closeCommit 42 = .ok (.getfield 480, 3) := by decide +kernel
theorem dX11_closeCommit_45 : decode cX11_closeCommit 45 = .ok (.aload_n 0, 1) := by decide +kernel
theorem dX11_closeCommit_46 : decode cX11_closeCommit 46 = .ok (.getfield 14, 3) := by decide +kernel
theorem dX11_closeCommit_49 : decode cX11_closeCommit 49 = .ok (.getfield 85, 3) := by decide +kernel
theorem dX11_closeCommit_52 : decode cX11_closeCommit 52 = .ok (.invokevirtual 484, 3) := by decide +kernel
theorem dX11_closeCommit_55 : decode cX11_closeCommit 55 = .ok (.ifCond .eq 14, 3) := by decide +kernel
theorem dX11_closeCommit_58 : decode cX11_closeCommit 58 = .ok (.aload_n 2, 1) := by decide +kernel
theorem dX11_closeCommit_59 : decode cX11_closeCommit 59 = .ok (.aload_n 0, 1) := by decide +kernel
theorem dX11_closeCommit_60 : decode cX11_closeCommit 60 = .ok (.getfield 14, 3) := by decide +kernel
theorem dX11_closeCommit_63 : decode cX11_closeCommit 63 = .ok (.getfield 85, 3) := by decide +kernel
theorem dX11_closeCommit_66 : decode cX11_closeCommit 66 = .ok (.putfield 351, 3) := by decide +kernel
theorem dX11_closeCommit_69 : decode cX11_closeCommit 69 = .ok (.iinc 1 1, 3) := by decide +kernel
theorem dX11_closeCommit_72 : decode cX11_closeCommit 72 = .ok (.goto (-70), 3) := by decide +kernel
theorem dX11_closeCommit_75 : decode cX11_closeCommit 75 = .ok (.aload_n 0, 1) := by decide +kernel
theorem dX11_closeCommit_76 : decode cX11_closeCommit 76 = .ok (.getfield 21, 3) := by decide +kernel
theorem dX11_closeCommit_79 : decode cX11_closeCommit 79 = .ok (.aload_n 0, 1) := by decide +kernel
theorem dX11_closeCommit_80 : decode cX11_closeCommit 80 = .ok (.getfield 14, 3) := by decide +kernel
theorem dX11_closeCommit_83 : decode cX11_closeCommit 83 = .ok (.lconst 0, 1) := by decide +kernel
theorem dX11_closeCommit_84 : decode cX11_closeCommit 84 = .ok (.ldc2_w 441, 3) := by decide +kernel
theorem dX11_closeCommit_87 : decode cX11_closeCommit 87 = .ok (.invokevirtual 318, 3) := by decide +kernel
theorem dX11_closeCommit_90 : decode cX11_closeCommit 90 = .ok (.invokevirtual 487, 3) := by decide +kernel
theorem dX11_closeCommit_93 : decode cX11_closeCommit 93 = .ok (.aload_n 0, 1) := by decide +kernel
theorem dX11_closeCommit_94 : decode cX11_closeCommit 94 = .ok (.getfield 21, 3) := by decide +kernel
theorem dX11_closeCommit_97 : decode cX11_closeCommit 97 = .ok (.invokevirtual 491, 3) := by decide +kernel
theorem dX11_closeCommit_100 : decode cX11_closeCommit 100 = .ok (.return_, 1) := by decide +kernel
theorem dX11_firstMet_0 : decode cX11_firstMet 0 = .ok (.iconst 0, 1) := by decide +kernel
theorem dX11_firstMet_1 : decode cX11_firstMet 1 = .ok (.istore_n 2, 1) := by decide +kernel
theorem dX11_firstMet_2 : decode cX11_firstMet 2 = .ok (.iload_n 2, 1) := by decide +kernel
theorem dX11_firstMet_3 : decode cX11_firstMet 3 = .ok (.aload_n 1, 1) := by decide +kernel
theorem dX11_firstMet_4 : decode cX11_firstMet 4 = .ok (.getfield 494, 3) := by decide +kernel
theorem dX11_firstMet_7 : decode cX11_firstMet 7 = .ok (.invokevirtual 153, 3) := by decide +kernel
theorem dX11_firstMet_10 : decode cX11_firstMet 10 = .ok (.if_icmp .ge 41, 3) := by decide +kernel
theorem dX11_firstMet_13 : decode cX11_firstMet 13 = .ok (.aload_n 1, 1) := by decide +kernel
theorem dX11_firstMet_14 : decode cX11_firstMet 14 = .ok (.getfield 494, 3) := by decide +kernel
theorem dX11_firstMet_17 : decode cX11_firstMet 17 = .ok (.iload_n 2, 1) := by decide +kernel
theorem dX11_firstMet_18 : decode cX11_firstMet 18 = .ok (.invokevirtual 166, 3) := by decide +kernel
theorem dX11_firstMet_21 : decode cX11_firstMet 21 = .ok (.checkcast 497, 3) := by decide +kernel
theorem dX11_firstMet_24 : decode cX11_firstMet 24 = .ok (.astore_n 3, 1) := by decide +kernel
theorem dX11_firstMet_25 : decode cX11_firstMet 25 = .ok (.aload_n 0, 1) := by decide +kernel
theorem dX11_firstMet_26 : decode cX11_firstMet 26 = .ok (.aload_n 1, 1) := by decide +kernel
theorem dX11_firstMet_27 : decode cX11_firstMet 27 = .ok (.aload_n 3, 1) := by decide +kernel
theorem dX11_firstMet_28 : decode cX11_firstMet 28 = .ok (.invokevirtual 499, 3) := by decide +kernel
theorem dX11_firstMet_31 : decode cX11_firstMet 31 = .ok (.ifCond .ne 12, 3) := by decide +kernel
theorem dX11_firstMet_34 : decode cX11_firstMet 34 = .ok (.aload_n 0, 1) := by decide +kernel
theorem dX11_firstMet_35 : decode cX11_firstMet 35 = .ok (.aload_n 1, 1) := by decide +kernel
theorem dX11_firstMet_36 : decode cX11_firstMet 36 = .ok (.aload_n 3, 1) := by decide +kernel
theorem dX11_firstMet_37 : decode cX11_firstMet 37 = .ok (.invokevirtual 503, 3) := by decide +kernel
theorem dX11_firstMet_40 : decode cX11_firstMet 40 = .ok (.ifCond .eq 5, 3) := by decide +kernel
theorem dX11_firstMet_43 : decode cX11_firstMet 43 = .ok (.iload_n 2, 1) := by decide +kernel
theorem dX11_firstMet_44 : decode cX11_firstMet 44 = .ok (.ireturn, 1) := by decide +kernel
theorem dX11_firstMet_45 : decode cX11_firstMet 45 = .ok (.iinc 2 1, 3) := by decide +kernel
theorem dX11_firstMet_48 : decode cX11_firstMet 48 = .ok (.goto (-46), 3) := by decide +kernel
theorem dX11_firstMet_51 : decode cX11_firstMet 51 = .ok (.ldc 62, 2) := by decide +kernel
theorem dX11_firstMet_53 : decode cX11_firstMet 53 = .ok (.ireturn, 1) := by decide +kernel
theorem dX11_keyMet_0 : decode cX11_keyMet 0 = .ok (.aload_n 0, 1) := by decide +kernel
theorem dX11_keyMet_1 : decode cX11_keyMet 1 = .ok (.getfield 14, 3) := by decide +kernel
theorem dX11_keyMet_4 : decode cX11_keyMet 4 = .ok (.getfield 506, 3) := by decide +kernel
theorem dX11_keyMet_7 : decode cX11_keyMet 7 = .ok (.astore_n 3, 1) := by decide +kernel
theorem dX11_keyMet_8 : decode cX11_keyMet 8 = .ok (.aload_n 3, 1) := by decide +kernel
theorem dX11_keyMet_9 : decode cX11_keyMet 9 = .ok (.ifnull 70, 3) := by decide +kernel
theorem dX11_keyMet_12 : decode cX11_keyMet 12 = .ok (.aload_n 3, 1) := by decide +kernel
theorem dX11_keyMet_13 : decode cX11_keyMet 13 = .ok (.getfield 510, 3) := by decide +kernel
theorem dX11_keyMet_16 : decode cX11_keyMet 16 = .ok (.aload_n 1, 1) := by decide +kernel
theorem dX11_keyMet_17 : decode cX11_keyMet 17 = .ok (.getfield 104, 3) := by decide +kernel
theorem dX11_keyMet_20 : decode cX11_keyMet 20 = .ok (.if_icmp .le 59, 3) := by decide +kernel
theorem dX11_keyMet_23 : decode cX11_keyMet 23 = .ok (.aload_n 3, 1) := by decide +kernel
theorem dX11_keyMet_24 : decode cX11_keyMet 24 = .ok (.getfield 515, 3) := by decide +kernel
theorem dX11_keyMet_27 : decode cX11_keyMet 27 = .ok (.getfield 172, 3) := by decide +kernel
theorem dX11_keyMet_30 : decode cX11_keyMet 30 = .ok (.lstore 4, 2) := by decide +kernel
theorem dX11_keyMet_32 : decode cX11_keyMet 32 = .ok (.aload_n 2, 1) := by decide +kernel
theorem dX11_keyMet_33 : decode cX11_keyMet 33 = .ok (.getfield 516, 3) := by decide +kernel
theorem dX11_keyMet_36 : decode cX11_keyMet 36 = .ok (.lload 4, 2) := by decide +kernel
theorem dX11_keyMet_38 : decode cX11_keyMet 38 = .ok (.lcmp, 1) := by decide +kernel
theorem dX11_keyMet_39 : decode cX11_keyMet 39 = .ok (.ifCond .gt 32, 3) := by decide +kernel
theorem dX11_keyMet_42 : decode cX11_keyMet 42 = .ok (.lload 4, 2) := by decide +kernel
theorem dX11_keyMet_44 : decode cX11_keyMet 44 = .ok (.aload_n 2, 1) := by decide +kernel
theorem dX11_keyMet_45 : decode cX11_keyMet 45 = .ok (.getfield 517, 3) := by decide +kernel
theorem dX11_keyMet_48 : decode cX11_keyMet 48 = .ok (.lcmp, 1) := by decide +kernel
theorem dX11_keyMet_49 : decode cX11_keyMet 49 = .ok (.ifCond .ge 22, 3) := by decide +kernel
theorem dX11_keyMet_52 : decode cX11_keyMet 52 = .ok (.aload_n 1, 1) := by decide +kernel
theorem dX11_keyMet_53 : decode cX11_keyMet 53 = .ok (.lload 4, 2) := by decide +kernel
theorem dX11_keyMet_55 : decode cX11_keyMet 55 = .ok (.lload 4, 2) := by decide +kernel
theorem dX11_keyMet_57 : decode cX11_keyMet 57 = .ok (.lconst 1, 1) := by decide +kernel
theorem dX11_keyMet_58 : decode cX11_keyMet 58 = .ok (.ladd, 1) := by decide +kernel
theorem dX11_keyMet_59 : decode cX11_keyMet 59 = .ok (.aload_n 2, 1) := by decide +kernel
theorem dX11_keyMet_60 : decode cX11_keyMet 60 = .ok (.getfield 520, 3) := by decide +kernel
theorem dX11_keyMet_63 : decode cX11_keyMet 63 = .ok (.invokevirtual 523, 3) := by decide +kernel
theorem dX11_keyMet_66 : decode cX11_keyMet 66 = .ok (.ifCond .ne 5, 3) := by decide +kernel
theorem dX11_keyMet_69 : decode cX11_keyMet 69 = .ok (.iconst 1, 1) := by decide +kernel
theorem dX11_keyMet_70 : decode cX11_keyMet 70 = .ok (.ireturn, 1) := by decide +kernel
theorem dX11_keyMet_71 : decode cX11_keyMet 71 = .ok (.aload_n 3, 1) := by decide +kernel
theorem dX11_keyMet_72 : decode cX11_keyMet 72 = .ok (.getfield 527, 3) := by decide +kernel
theorem dX11_keyMet_75 : decode cX11_keyMet 75 = .ok (.astore_n 3, 1) := by decide +kernel
theorem dX11_keyMet_76 : decode cX11_keyMet 76 = .ok (.goto (-68), 3) := by decide +kernel
theorem dX11_keyMet_79 : decode cX11_keyMet 79 = .ok (.iconst 0, 1) := by decide +kernel
theorem dX11_keyMet_80 : decode cX11_keyMet 80 = .ok (.ireturn, 1) := by decide +kernel
theorem dX11_wipeMet_0 : decode cX11_wipeMet 0 = .ok (.aload_n 0, 1) := by decide +kernel
theorem dX11_wipeMet_1 : decode cX11_wipeMet 1 = .ok (.getfield 14, 3) := by decide +kernel
theorem dX11_wipeMet_4 : decode cX11_wipeMet 4 = .ok (.getfield 530, 3) := by decide +kernel
theorem dX11_wipeMet_7 : decode cX11_wipeMet 7 = .ok (.invokevirtual 153, 3) := by decide +kernel
theorem dX11_wipeMet_10 : decode cX11_wipeMet 10 = .ok (.iconst 1, 1) := by decide +kernel
theorem dX11_wipeMet_11 : decode cX11_wipeMet 11 = .ok (.isub, 1) := by decide +kernel
theorem dX11_wipeMet_12 : decode cX11_wipeMet 12 = .ok (.istore_n 3, 1) := by decide +kernel
theorem dX11_wipeMet_13 : decode cX11_wipeMet 13 = .ok (.iload_n 3, 1) := by decide +kernel
theorem dX11_wipeMet_14 : decode cX11_wipeMet 14 = .ok (.ifCond .lt 92, 3) := by decide +kernel
theorem dX11_wipeMet_17 : decode cX11_wipeMet 17 = .ok (.aload_n 0, 1) := by decide +kernel
theorem dX11_wipeMet_18 : decode cX11_wipeMet 18 = .ok (.getfield 14, 3) := by decide +kernel
theorem dX11_wipeMet_21 : decode cX11_wipeMet 21 = .ok (.getfield 530, 3) := by decide +kernel
theorem dX11_wipeMet_24 : decode cX11_wipeMet 24 = .ok (.iload_n 3, 1) := by decide +kernel
theorem dX11_wipeMet_25 : decode cX11_wipeMet 25 = .ok (.invokevirtual 166, 3) := by decide +kernel
theorem dX11_wipeMet_28 : decode cX11_wipeMet 28 = .ok (.checkcast 497, 3) := by decide +kernel
theorem dX11_wipeMet_31 : decode cX11_wipeMet 31 = .ok (.astore 4, 2) := by decide +kernel
theorem dX11_wipeMet_33 : decode cX11_wipeMet 33 = .ok (.aload 4, 2) := by decide +kernel
theorem dX11_wipeMet_35 : decode cX11_wipeMet 35 = .ok (.getfield 520, 3) := by decide +kernel
theorem dX11_wipeMet_38 : decode cX11_wipeMet 38 = .ok (.aload_n 1, 1) := by decide +kernel
theorem dX11_wipeMet_39 : decode cX11_wipeMet 39 = .ok (.getfield 104, 3) := by decide +kernel
theorem dX11_wipeMet_42 : decode cX11_wipeMet 42 = .ok (.if_icmp .gt 5, 3) := by decide +kernel
theorem dX11_wipeMet_45 : decode cX11_wipeMet 45 = .ok (.iconst 0, 1) := by decide +kernel
theorem dX11_wipeMet_46 : decode cX11_wipeMet 46 = .ok (.ireturn, 1) := by decide +kernel
theorem dX11_wipeMet_47 : decode cX11_wipeMet 47 = .ok (.aload_n 2, 1) := by decide +kernel
theorem dX11_wipeMet_48 : decode cX11_wipeMet 48 = .ok (.getfield 516, 3) := by decide +kernel
theorem dX11_wipeMet_51 : decode cX11_wipeMet 51 = .ok (.aload 4, 2) := by decide +kernel
theorem dX11_wipeMet_53 : decode cX11_wipeMet 53 = .ok (.getfield 516, 3) := by decide +kernel
theorem dX11_wipeMet_56 : decode cX11_wipeMet 56 = .ok (.invokestatic 533, 3) := by decide +kernel
theorem dX11_wipeMet_59 : decode cX11_wipeMet 59 = .ok (.lstore 5, 2) := by decide +kernel
theorem dX11_wipeMet_61 : decode cX11_wipeMet 61 = .ok (.aload_n 2, 1) := by decide +kernel
theorem dX11_wipeMet_62 : decode cX11_wipeMet 62 = .ok (.getfield 517, 3) := by decide +kernel
theorem dX11_wipeMet_65 : decode cX11_wipeMet 65 = .ok (.aload 4, 2) := by decide +kernel
theorem dX11_wipeMet_67 : decode cX11_wipeMet 67 = .ok (.getfield 517, 3) := by decide +kernel
theorem dX11_wipeMet_70 : decode cX11_wipeMet 70 = .ok (.invokestatic 539, 3) := by decide +kernel
theorem dX11_wipeMet_73 : decode cX11_wipeMet 73 = .ok (.lstore 7, 2) := by decide +kernel
theorem dX11_wipeMet_75 : decode cX11_wipeMet 75 = .ok (.lload 5, 2) := by decide +kernel
theorem dX11_wipeMet_77 : decode cX11_wipeMet 77 = .ok (.lload 7, 2) := by decide +kernel
theorem dX11_wipeMet_79 : decode cX11_wipeMet 79 = .ok (.lcmp, 1) := by decide +kernel
theorem dX11_wipeMet_80 : decode cX11_wipeMet 80 = .ok (.ifCond .ge 20, 3) := by decide +kernel
theorem dX11_wipeMet_83 : decode cX11_wipeMet 83 = .ok (.aload_n 1, 1) := by decide +kernel
theorem dX11_wipeMet_84 : decode cX11_wipeMet 84 = .ok (.lload 5, 2) := by decide +kernel
theorem dX11_wipeMet_86 : decode cX11_wipeMet 86 = .ok (.lload 7, 2) := by decide +kernel
theorem dX11_wipeMet_88 : decode cX11_wipeMet 88 = .ok (.aload_n 2, 1) := by decide +kernel
theorem dX11_wipeMet_89 : decode cX11_wipeMet 89 = .ok (.getfield 520, 3) := by decide +kernel
theorem dX11_wipeMet_92 : decode cX11_wipeMet 92 = .ok (.invokevirtual 523, 3) := by decide +kernel
theorem dX11_wipeMet_95 : decode cX11_wipeMet 95 = .ok (.ifCond .ne 5, 3) := by decide +kernel
theorem dX11_wipeMet_98 : decode cX11_wipeMet 98 = .ok (.iconst 1, 1) := by decide +kernel
theorem dX11_wipeMet_99 : decode cX11_wipeMet 99 = .ok (.ireturn, 1) := by decide +kernel
theorem dX11_wipeMet_100 : decode cX11_wipeMet 100 = .ok (.iinc 3 (-1), 3) := by decide +kernel
theorem dX11_wipeMet_103 : decode cX11_wipeMet 103 = .ok (.goto (-90), 3) := by decide +kernel
theorem dX11_wipeMet_106 : decode cX11_wipeMet 106 = .ok (.iconst 0, 1) := by decide +kernel
theorem dX11_wipeMet_107 : decode cX11_wipeMet 107 = .ok (.ireturn, 1) := by decide +kernel
theorem dX11_findDirectory_0 : decode cX11_findDirectory 0 = .ok (.iconst 0, 1) := by decide +kernel
theorem dX11_findDirectory_1 : decode cX11_findDirectory 1 = .ok (.istore_n 2, 1) := by decide +kernel
theorem dX11_findDirectory_2 : decode cX11_findDirectory 2 = .ok (.iload_n 2, 1) := by decide +kernel
theorem dX11_findDirectory_3 : decode cX11_findDirectory 3 = .ok (.aload_n 0, 1) := by decide +kernel
theorem dX11_findDirectory_4 : decode cX11_findDirectory 4 = .ok (.getfield 42, 3) := by decide +kernel
theorem dX11_findDirectory_7 : decode cX11_findDirectory 7 = .ok (.invokevirtual 153, 3) := by decide +kernel
theorem dX11_findDirectory_10 : decode cX11_findDirectory 10 = .ok (.if_icmp .ge 31, 3) := by decide +kernel
theorem dX11_findDirectory_13 : decode cX11_findDirectory 13 = .ok (.aload_n 0, 1) := by decide +kernel
theorem dX11_findDirectory_14 : decode cX11_findDirectory 14 = .ok (.getfield 42, 3) := by decide +kernel
theorem dX11_findDirectory_17 : decode cX11_findDirectory 17 = .ok (.iload_n 2, 1) := by decide +kernel
theorem dX11_findDirectory_18 : decode cX11_findDirectory 18 = .ok (.invokevirtual 166, 3) := by decide +kernel
theorem dX11_findDirectory_21 : decode cX11_findDirectory 21 = .ok (.checkcast 76, 3) := by decide +kernel
theorem dX11_findDirectory_24 : decode cX11_findDirectory 24 = .ok (.astore_n 3, 1) := by decide +kernel
theorem dX11_findDirectory_25 : decode cX11_findDirectory 25 = .ok (.aload_n 3, 1) := by decide +kernel
theorem dX11_findDirectory_26 : decode cX11_findDirectory 26 = .ok (.getfield 253, 3) := by decide +kernel
theorem dX11_findDirectory_29 : decode cX11_findDirectory 29 = .ok (.iload_n 1, 1) := by decide +kernel
theorem dX11_findDirectory_30 : decode cX11_findDirectory 30 = .ok (.if_icmp .ne 5, 3) := by decide +kernel
theorem dX11_findDirectory_33 : decode cX11_findDirectory 33 = .ok (.aload_n 3, 1) := by decide +kernel
theorem dX11_findDirectory_34 : decode cX11_findDirectory 34 = .ok (.areturn, 1) := by decide +kernel
theorem dX11_findDirectory_35 : decode cX11_findDirectory 35 = .ok (.iinc 2 1, 3) := by decide +kernel
theorem dX11_findDirectory_38 : decode cX11_findDirectory 38 = .ok (.goto (-36), 3) := by decide +kernel
theorem dX11_findDirectory_41 : decode cX11_findDirectory 41 = .ok (.aconst_null, 1) := by decide +kernel
theorem dX11_findDirectory_42 : decode cX11_findDirectory 42 = .ok (.areturn, 1) := by decide +kernel
theorem dX11_childOf_0 : decode cX11_childOf 0 = .ok (.iconst 0, 1) := by decide +kernel
theorem dX11_childOf_1 : decode cX11_childOf 1 = .ok (.istore_n 3, 1) := by decide +kernel
theorem dX11_childOf_2 : decode cX11_childOf 2 = .ok (.iload_n 3, 1) := by decide +kernel
theorem dX11_childOf_3 : decode cX11_childOf 3 = .ok (.aload_n 0, 1) := by decide +kernel
theorem dX11_childOf_4 : decode cX11_childOf 4 = .ok (.getfield 42, 3) := by decide +kernel
theorem dX11_childOf_7 : decode cX11_childOf 7 = .ok (.invokevirtual 153, 3) := by decide +kernel
theorem dX11_childOf_10 : decode cX11_childOf 10 = .ok (.if_icmp .ge 43, 3) := by decide +kernel
theorem dX11_childOf_13 : decode cX11_childOf 13 = .ok (.aload_n 0, 1) := by decide +kernel
theorem dX11_childOf_14 : decode cX11_childOf 14 = .ok (.getfield 42, 3) := by decide +kernel
theorem dX11_childOf_17 : decode cX11_childOf 17 = .ok (.iload_n 3, 1) := by decide +kernel
theorem dX11_childOf_18 : decode cX11_childOf 18 = .ok (.invokevirtual 166, 3) := by decide +kernel
theorem dX11_childOf_21 : decode cX11_childOf 21 = .ok (.checkcast 76, 3) := by decide +kernel
theorem dX11_childOf_24 : decode cX11_childOf 24 = .ok (.astore 4, 2) := by decide +kernel
theorem dX11_childOf_26 : decode cX11_childOf 26 = .ok (.aload 4, 2) := by decide +kernel
theorem dX11_childOf_28 : decode cX11_childOf 28 = .ok (.getfield 264, 3) := by decide +kernel
theorem dX11_childOf_31 : decode cX11_childOf 31 = .ok (.aload_n 1, 1) := by decide +kernel
theorem dX11_childOf_32 : decode cX11_childOf 32 = .ok (.if_acmp .ne 15, 3) := by decide +kernel
theorem dX11_childOf_35 : decode cX11_childOf 35 = .ok (.aload 4, 2) := by decide +kernel
theorem dX11_childOf_37 : decode cX11_childOf 37 = .ok (.getfield 268, 3) := by decide +kernel
theorem dX11_childOf_40 : decode cX11_childOf 40 = .ok (.iload_n 2, 1) := by decide +kernel
theorem dX11_childOf_41 : decode cX11_childOf 41 = .ok (.if_icmp .ne 6, 3) := by decide +kernel
theorem dX11_childOf_44 : decode cX11_childOf 44 = .ok (.aload 4, 2) := by decide +kernel
theorem dX11_childOf_46 : decode cX11_childOf 46 = .ok (.areturn, 1) := by decide +kernel
theorem dX11_childOf_47 : decode cX11_childOf 47 = .ok (.iinc 3 1, 3) := by decide +kernel
theorem dX11_childOf_50 : decode cX11_childOf 50 = .ok (.goto (-48), 3) := by decide +kernel
theorem dX11_childOf_53 : decode cX11_childOf 53 = .ok (.aconst_null, 1) := by decide +kernel
theorem dX11_childOf_54 : decode cX11_childOf 54 = .ok (.areturn, 1) := by decide +kernel
theorem dX11_isWithin_0 : decode cX11_isWithin 0 = .ok (.aload_n 0, 1) := by decide +kernel
theorem dX11_isWithin_1 : decode cX11_isWithin 1 = .ok (.astore_n 2, 1) := by decide +kernel
theorem dX11_isWithin_2 : decode cX11_isWithin 2 = .ok (.aload_n 2, 1) := by decide +kernel
theorem dX11_isWithin_3 : decode cX11_isWithin 3 = .ok (.ifnull 18, 3) := by decide +kernel
theorem dX11_isWithin_6 : decode cX11_isWithin 6 = .ok (.aload_n 2, 1) := by decide +kernel
theorem dX11_isWithin_7 : decode cX11_isWithin 7 = .ok (.aload_n 1, 1) := by decide +kernel
theorem dX11_isWithin_8 : decode cX11_isWithin 8 = .ok (.if_acmp .ne 5, 3) := by decide +kernel
theorem dX11_isWithin_11 : decode cX11_isWithin 11 = .ok (.iconst 1, 1) := by decide +kernel
theorem dX11_isWithin_12 : decode cX11_isWithin 12 = .ok (.ireturn, 1) := by decide +kernel
theorem dX11_isWithin_13 : decode cX11_isWithin 13 = .ok (.aload_n 2, 1) := by decide +kernel
theorem dX11_isWithin_14 : decode cX11_isWithin 14 = .ok (.getfield 264, 3) := by decide +kernel
theorem dX11_isWithin_17 : decode cX11_isWithin 17 = .ok (.astore_n 2, 1) := by decide +kernel
theorem dX11_isWithin_18 : decode cX11_isWithin 18 = .ok (.goto (-16), 3) := by decide +kernel
theorem dX11_isWithin_21 : decode cX11_isWithin 21 = .ok (.iconst 0, 1) := by decide +kernel
theorem dX11_isWithin_22 : decode cX11_isWithin 22 = .ok (.ireturn, 1) := by decide +kernel
theorem dX11_freeShortName_0 : decode cX11_freeShortName 0 = .ok (.iconst 1, 1) := by decide +kernel
theorem dX11_freeShortName_1 : decode cX11_freeShortName 1 = .ok (.istore_n 1, 1) := by decide +kernel
theorem dX11_freeShortName_2 : decode cX11_freeShortName 2 = .ok (.iload_n 1, 1) := by decide +kernel
theorem dX11_freeShortName_3 : decode cX11_freeShortName 3 = .ok (.bipush 9, 2) := by decide +kernel
theorem dX11_freeShortName_5 : decode cX11_freeShortName 5 = .ok (.if_icmp .gt 19, 3) := by decide +kernel
theorem dX11_freeShortName_8 : decode cX11_freeShortName 8 = .ok (.aload_n 0, 1) := by decide +kernel
theorem dX11_freeShortName_9 : decode cX11_freeShortName 9 = .ok (.iload_n 1, 1) := by decide +kernel
theorem dX11_freeShortName_10 : decode cX11_freeShortName 10 = .ok (.invokevirtual 542, 3) := by decide +kernel
theorem dX11_freeShortName_13 : decode cX11_freeShortName 13 = .ok (.ifCond .ne 5, 3) := by decide +kernel
theorem dX11_freeShortName_16 : decode cX11_freeShortName 16 = .ok (.iload_n 1, 1) := by decide +kernel
theorem dX11_freeShortName_17 : decode cX11_freeShortName 17 = .ok (.ireturn, 1) := by decide +kernel
theorem dX11_freeShortName_18 : decode cX11_freeShortName 18 = .ok (.iinc 1 1, 3) := by decide +kernel
theorem dX11_freeShortName_21 : decode cX11_freeShortName 21 = .ok (.goto (-19), 3) := by decide +kernel
theorem dX11_freeShortName_24 : decode cX11_freeShortName 24 = .ok (.bipush 9, 2) := by decide +kernel
theorem dX11_freeShortName_26 : decode cX11_freeShortName 26 = .ok (.ireturn, 1) := by decide +kernel
theorem dX11_hasShortName_0 : decode cX11_hasShortName 0 = .ok (.iconst 0, 1) := by decide +kernel
theorem dX11_hasShortName_1 : decode cX11_hasShortName 1 = .ok (.istore_n 2, 1) := by decide +kernel
theorem dX11_hasShortName_2 : decode cX11_hasShortName 2 = .ok (.iload_n 2, 1) := by decide +kernel
theorem dX11_hasShortName_3 : decode cX11_hasShortName 3 = .ok (.aload_n 0, 1) := by decide +kernel
theorem dX11_hasShortName_4 : decode cX11_hasShortName 4 = .ok (.getfield 42, 3) := by decide +kernel
theorem dX11_hasShortName_7 : decode cX11_hasShortName 7 = .ok (.invokevirtual 153, 3) := by decide +kernel
theorem dX11_hasShortName_10 : decode cX11_hasShortName 10 = .ok (.if_icmp .ge 29, 3) := by decide +kernel
theorem dX11_hasShortName_13 : decode cX11_hasShortName 13 = .ok (.aload_n 0, 1) := by decide +kernel
theorem dX11_hasShortName_14 : decode cX11_hasShortName 14 = .ok (.getfield 42, 3) := by decide +kernel
theorem dX11_hasShortName_17 : decode cX11_hasShortName 17 = .ok (.iload_n 2, 1) := by decide +kernel
theorem dX11_hasShortName_18 : decode cX11_hasShortName 18 = .ok (.invokevirtual 166, 3) := by decide +kernel
theorem dX11_hasShortName_21 : decode cX11_hasShortName 21 = .ok (.checkcast 76, 3) := by decide +kernel
theorem dX11_hasShortName_24 : decode cX11_hasShortName 24 = .ok (.getfield 284, 3) := by decide +kernel
theorem dX11_hasShortName_27 : decode cX11_hasShortName 27 = .ok (.iload_n 1, 1) := by decide +kernel
theorem dX11_hasShortName_28 : decode cX11_hasShortName 28 = .ok (.if_icmp .ne 5, 3) := by decide +kernel
theorem dX11_hasShortName_31 : decode cX11_hasShortName 31 = .ok (.iconst 1, 1) := by decide +kernel
theorem dX11_hasShortName_32 : decode cX11_hasShortName 32 = .ok (.ireturn, 1) := by decide +kernel
theorem dX11_hasShortName_33 : decode cX11_hasShortName 33 = .ok (.iinc 2 1, 3) := by decide +kernel
theorem dX11_hasShortName_36 : decode cX11_hasShortName 36 = .ok (.goto (-34), 3) := by decide +kernel
theorem dX11_hasShortName_39 : decode cX11_hasShortName 39 = .ok (.iconst 0, 1) := by decide +kernel
theorem dX11_hasShortName_40 : decode cX11_hasShortName 40 = .ok (.ireturn, 1) := by decide +kernel
theorem dX11_heldWithin_0 : decode cX11_heldWithin 0 = .ok (.iconst 0, 1) := by decide +kernel
theorem dX11_heldWithin_1 : decode cX11_heldWithin 1 = .ok (.istore_n 2, 1) := by decide +kernel
theorem dX11_heldWithin_2 : decode cX11_heldWithin 2 = .ok (.iconst 0, 1) := by decide +kernel
theorem dX11_heldWithin_3 : decode cX11_heldWithin 3 = .ok (.istore_n 3, 1) := by decide +kernel
theorem dX11_heldWithin_4 : decode cX11_heldWithin 4 = .ok (.iload_n 3, 1) := by decide +kernel
theorem dX11_heldWithin_5 : decode cX11_heldWithin 5 = .ok (.aload_n 0, 1) := by decide +kernel
theorem dX11_heldWithin_6 : decode cX11_heldWithin 6 = .ok (.getfield 42, 3) := by decide +kernel
theorem dX11_heldWithin_9 : decode cX11_heldWithin 9 = .ok (.invokevirtual 153, 3) := by decide +kernel
theorem dX11_heldWithin_12 : decode cX11_heldWithin 12 = .ok (.if_icmp .ge 54, 3) := by decide +kernel
theorem dX11_heldWithin_15 : decode cX11_heldWithin 15 = .ok (.aload_n 0, 1) := by decide +kernel
theorem dX11_heldWithin_16 : decode cX11_heldWithin 16 = .ok (.getfield 42, 3) := by decide +kernel
theorem dX11_heldWithin_19 : decode cX11_heldWithin 19 = .ok (.iload_n 3, 1) := by decide +kernel
theorem dX11_heldWithin_20 : decode cX11_heldWithin 20 = .ok (.invokevirtual 166, 3) := by decide +kernel
theorem dX11_heldWithin_23 : decode cX11_heldWithin 23 = .ok (.checkcast 76, 3) := by decide +kernel
theorem dX11_heldWithin_26 : decode cX11_heldWithin 26 = .ok (.astore 4, 2) := by decide +kernel
theorem dX11_heldWithin_28 : decode cX11_heldWithin 28 = .ok (.aload 4, 2) := by decide +kernel
theorem dX11_heldWithin_30 : decode cX11_heldWithin 30 = .ok (.aload_n 1, 1) := by decide +kernel
theorem dX11_heldWithin_31 : decode cX11_heldWithin 31 = .ok (.invokestatic 256, 3) := by decide +kernel
theorem dX11_heldWithin_34 : decode cX11_heldWithin 34 = .ok (.ifCond .eq 26, 3) := by decide +kernel
theorem dX11_heldWithin_37 : decode cX11_heldWithin 37 = .ok (.iload_n 2, 1) := by decide +kernel
theorem dX11_heldWithin_38 : decode cX11_heldWithin 38 = .ok (.aload_n 0, 1) := by decide +kernel
theorem dX11_heldWithin_39 : decode cX11_heldWithin 39 = .ok (.getfield 14, 3) := by decide +kernel
theorem dX11_heldWithin_42 : decode cX11_heldWithin 42 = .ok (.aload 4, 2) := by decide +kernel
theorem dX11_heldWithin_44 : decode cX11_heldWithin 44 = .ok (.invokevirtual 545, 3) := by decide +kernel
theorem dX11_heldWithin_47 : decode cX11_heldWithin 47 = .ok (.aload 4, 2) := by decide +kernel
theorem dX11_heldWithin_49 : decode cX11_heldWithin 49 = .ok (.invokevirtual 548, 3) := by decide +kernel
theorem dX11_heldWithin_52 : decode cX11_heldWithin 52 = .ok (.invokevirtual 318, 3) := by decide +kernel
theorem dX11_heldWithin_55 : decode cX11_heldWithin 55 = .ok (.invokevirtual 153, 3) := by decide +kernel
theorem dX11_heldWithin_58 : decode cX11_heldWithin 58 = .ok (.iadd, 1) := by decide +kernel
theorem dX11_heldWithin_59 : decode cX11_heldWithin 59 = .ok (.istore_n 2, 1) := by decide +kernel
theorem dX11_heldWithin_60 : decode cX11_heldWithin 60 = .ok (.iinc 3 1, 3) := by decide +kernel
theorem dX11_heldWithin_63 : decode cX11_heldWithin 63 = .ok (.goto (-59), 3) := by decide +kernel
theorem dX11_heldWithin_66 : decode cX11_heldWithin 66 = .ok (.iload_n 2, 1) := by decide +kernel
theorem dX11_heldWithin_67 : decode cX11_heldWithin 67 = .ok (.ireturn, 1) := by decide +kernel
theorem dX11_wipeWithin_0 : decode cX11_wipeWithin 0 = .ok (.aload_n 0, 1) := by decide +kernel
theorem dX11_wipeWithin_1 : decode cX11_wipeWithin 1 = .ok (.getfield 14, 3) := by decide +kernel
theorem dX11_wipeWithin_4 : decode cX11_wipeWithin 4 = .ok (.iconst 1, 1) := by decide +kernel
theorem dX11_wipeWithin_5 : decode cX11_wipeWithin 5 = .ok (.invokevirtual 223, 3) := by decide +kernel
theorem dX11_wipeWithin_8 : decode cX11_wipeWithin 8 = .ok (.iconst 0, 1) := by decide +kernel
theorem dX11_wipeWithin_9 : decode cX11_wipeWithin 9 = .ok (.istore_n 2, 1) := by decide +kernel
theorem dX11_wipeWithin_10 : decode cX11_wipeWithin 10 = .ok (.iload_n 2, 1) := by decide +kernel
theorem dX11_wipeWithin_11 : decode cX11_wipeWithin 11 = .ok (.aload_n 0, 1) := by decide +kernel
theorem dX11_wipeWithin_12 : decode cX11_wipeWithin 12 = .ok (.getfield 42, 3) := by decide +kernel
theorem dX11_wipeWithin_15 : decode cX11_wipeWithin 15 = .ok (.invokevirtual 153, 3) := by decide +kernel
theorem dX11_wipeWithin_18 : decode cX11_wipeWithin 18 = .ok (.if_icmp .ge 44, 3) := by decide +kernel
theorem dX11_wipeWithin_21 : decode cX11_wipeWithin 21 = .ok (.aload_n 0, 1) := by decide +kernel
theorem dX11_wipeWithin_22 : decode cX11_wipeWithin 22 = .ok (.getfield 42, 3) := by decide +kernel
theorem dX11_wipeWithin_25 : decode cX11_wipeWithin 25 = .ok (.iload_n 2, 1) := by decide +kernel
theorem dX11_wipeWithin_26 : decode cX11_wipeWithin 26 = .ok (.invokevirtual 166, 3) := by decide +kernel
theorem dX11_wipeWithin_29 : decode cX11_wipeWithin 29 = .ok (.checkcast 76, 3) := by decide +kernel
theorem dX11_wipeWithin_32 : decode cX11_wipeWithin 32 = .ok (.astore_n 3, 1) := by decide +kernel
theorem dX11_wipeWithin_33 : decode cX11_wipeWithin 33 = .ok (.aload_n 3, 1) := by decide +kernel
theorem dX11_wipeWithin_34 : decode cX11_wipeWithin 34 = .ok (.aload_n 1, 1) := by decide +kernel
theorem dX11_wipeWithin_35 : decode cX11_wipeWithin 35 = .ok (.invokestatic 256, 3) := by decide +kernel
theorem dX11_wipeWithin_38 : decode cX11_wipeWithin 38 = .ok (.ifCond .eq 18, 3) := by decide +kernel
theorem dX11_wipeWithin_41 : decode cX11_wipeWithin 41 = .ok (.aload_n 0, 1) := by decide +kernel
theorem dX11_wipeWithin_42 : decode cX11_wipeWithin 42 = .ok (.getfield 14, 3) := by decide +kernel
theorem dX11_wipeWithin_45 : decode cX11_wipeWithin 45 = .ok (.aload_n 3, 1) := by decide +kernel
theorem dX11_wipeWithin_46 : decode cX11_wipeWithin 46 = .ok (.invokevirtual 545, 3) := by decide +kernel
theorem dX11_wipeWithin_49 : decode cX11_wipeWithin 49 = .ok (.aload_n 3, 1) := by decide +kernel
theorem dX11_wipeWithin_50 : decode cX11_wipeWithin 50 = .ok (.invokevirtual 548, 3) := by decide +kernel
theorem dX11_wipeWithin_53 : decode cX11_wipeWithin 53 = .ok (.invokevirtual 322, 3) := by decide +kernel
theorem dX11_wipeWithin_56 : decode cX11_wipeWithin 56 = .ok (.iinc 2 1, 3) := by decide +kernel
theorem dX11_wipeWithin_59 : decode cX11_wipeWithin 59 = .ok (.goto (-49), 3) := by decide +kernel
theorem dX11_wipeWithin_62 : decode cX11_wipeWithin 62 = .ok (.aload_n 0, 1) := by decide +kernel
theorem dX11_wipeWithin_63 : decode cX11_wipeWithin 63 = .ok (.invokevirtual 329, 3) := by decide +kernel
theorem dX11_wipeWithin_66 : decode cX11_wipeWithin 66 = .ok (.return_, 1) := by decide +kernel
theorem dX11_indexGoesTo_0 : decode cX11_indexGoesTo 0 = .ok (.iload_n 0, 1) := by decide +kernel
theorem dX11_indexGoesTo_1 : decode cX11_indexGoesTo 1 = .ok (.ldc 62, 2) := by decide +kernel
theorem dX11_indexGoesTo_3 : decode cX11_indexGoesTo 3 = .ok (.if_icmp .ne 9, 3) := by decide +kernel
theorem dX11_indexGoesTo_6 : decode cX11_indexGoesTo 6 = .ok (.sipush 1000, 3) := by decide +kernel
theorem dX11_indexGoesTo_9 : decode cX11_indexGoesTo 9 = .ok (.goto 4, 3) := by decide +kernel
theorem dX11_indexGoesTo_12 : decode cX11_indexGoesTo 12 = .ok (.iload_n 0, 1) := by decide +kernel
theorem dX11_indexGoesTo_13 : decode cX11_indexGoesTo 13 = .ok (.ireturn, 1) := by decide +kernel
theorem dX11_readCounting_0 : decode cX11_readCounting 0 = .ok (.aload_n 1, 1) := by decide +kernel
theorem dX11_readCounting_1 : decode cX11_readCounting 1 = .ok (.aload_n 0, 1) := by decide +kernel
theorem dX11_readCounting_2 : decode cX11_readCounting 2 = .ok (.getfield 28, 3) := by decide +kernel
theorem dX11_readCounting_5 : decode cX11_readCounting 5 = .ok (.lload_n 2, 1) := by decide +kernel
theorem dX11_readCounting_6 : decode cX11_readCounting 6 = .ok (.aload_n 0, 1) := by decide +kernel
theorem dX11_readCounting_7 : decode cX11_readCounting 7 = .ok (.getfield 14, 3) := by decide +kernel
theorem dX11_readCounting_10 : decode cX11_readCounting 10 = .ok (.lload_n 2, 1) := by decide +kernel
theorem dX11_readCounting_11 : decode cX11_readCounting 11 = .ok (.aload_n 1, 1) := by decide +kernel
theorem dX11_readCounting_12 : decode cX11_readCounting 12 = .ok (.getfield 104, 3) := by decide +kernel
theorem dX11_readCounting_15 : decode cX11_readCounting 15 = .ok (.invokevirtual 107, 3) := by decide +kernel
theorem dX11_readCounting_18 : decode cX11_readCounting 18 = .ok (.invokevirtual 111, 3) := by decide +kernel
theorem dX11_readCounting_21 : decode cX11_readCounting 21 = .ok (.aload_n 1, 1) := by decide +kernel
theorem dX11_readCounting_22 : decode cX11_readCounting 22 = .ok (.lload_n 2, 1) := by decide +kernel
theorem dX11_readCounting_23 : decode cX11_readCounting 23 = .ok (.invokevirtual 126, 3) := by decide +kernel
theorem dX11_readCounting_26 : decode cX11_readCounting 26 = .ok (.aload_n 0, 1) := by decide +kernel
theorem dX11_readCounting_27 : decode cX11_readCounting 27 = .ok (.getfield 28, 3) := by decide +kernel
theorem dX11_readCounting_30 : decode cX11_readCounting 30 = .ok (.invokevirtual 130, 3) := by decide +kernel
theorem dX11_readCounting_33 : decode cX11_readCounting 33 = .ok (.ireturn, 1) := by decide +kernel
theorem dX11_readIndexes_0 : decode cX11_readIndexes 0 = .ok (.iconst 0, 1) := by decide +kernel
theorem dX11_readIndexes_1 : decode cX11_readIndexes 1 = .ok (.istore_n 3, 1) := by decide +kernel
theorem dX11_readIndexes_2 : decode cX11_readIndexes 2 = .ok (.iconst 0, 1) := by decide +kernel
theorem dX11_readIndexes_3 : decode cX11_readIndexes 3 = .ok (.istore 4, 2) := by decide +kernel
theorem dX11_readIndexes_5 : decode cX11_readIndexes 5 = .ok (.iload 4, 2) := by decide +kernel
theorem dX11_readIndexes_7 : decode cX11_readIndexes 7 = .ok (.iconst 3, 1) := by decide +kernel
theorem dX11_readIndexes_8 : decode cX11_readIndexes 8 = .ok (.if_icmp .ge 35, 3) := by decide +kernel
theorem dX11_readIndexes_11 : decode cX11_readIndexes 11 = .ok (.aload_n 0, 1) := by decide +kernel
theorem dX11_readIndexes_12 : decode cX11_readIndexes 12 = .ok (.aload_n 1, 1) := by decide +kernel
theorem dX11_readIndexes_13 : decode cX11_readIndexes 13 = .ok (.bipush (-6), 2) := by decide +kernel
theorem dX11_readIndexes_15 : decode cX11_readIndexes 15 = .ok (.iload 4, 2) := by decide +kernel
theorem dX11_readIndexes_17 : decode cX11_readIndexes 17 = .ok (.invokestatic 302, 3) := by decide +kernel
theorem dX11_readIndexes_20 : decode cX11_readIndexes 20 = .ok (.invokevirtual 550, 3) := by decide +kernel
theorem dX11_readIndexes_23 : decode cX11_readIndexes 23 = .ok (.invokestatic 308, 3) := by decide +kernel
theorem dX11_readIndexes_26 : decode cX11_readIndexes 26 = .ok (.iload_n 2, 1) := by decide +kernel
theorem dX11_readIndexes_27 : decode cX11_readIndexes 27 = .ok (.if_icmp .lt 10, 3) := by decide +kernel
theorem dX11_readIndexes_30 : decode cX11_readIndexes 30 = .ok (.iload_n 3, 1) := by decide +kernel
theorem dX11_readIndexes_31 : decode cX11_readIndexes 31 = .ok (.iconst 1, 1) := by decide +kernel
theorem dX11_readIndexes_32 : decode cX11_readIndexes 32 = .ok (.iload 4, 2) := by decide +kernel
theorem dX11_readIndexes_34 : decode cX11_readIndexes 34 = .ok (.ishl, 1) := by decide +kernel
theorem dX11_readIndexes_35 : decode cX11_readIndexes 35 = .ok (.ior, 1) := by decide +kernel
theorem dX11_readIndexes_36 : decode cX11_readIndexes 36 = .ok (.istore_n 3, 1) := by decide +kernel
theorem dX11_readIndexes_37 : decode cX11_readIndexes 37 = .ok (.iinc 4 1, 3) := by decide +kernel
theorem dX11_readIndexes_40 : decode cX11_readIndexes 40 = .ok (.goto (-35), 3) := by decide +kernel
theorem dX11_readIndexes_43 : decode cX11_readIndexes 43 = .ok (.iload_n 3, 1) := by decide +kernel
theorem dX11_readIndexes_44 : decode cX11_readIndexes 44 = .ok (.ireturn, 1) := by decide +kernel
theorem dX11_writeRecord_0 : decode cX11_writeRecord 0 = .ok (.aload_n 0, 1) := by decide +kernel
theorem dX11_writeRecord_1 : decode cX11_writeRecord 1 = .ok (.aload_n 1, 1) := by decide +kernel
theorem dX11_writeRecord_2 : decode cX11_writeRecord 2 = .ok (.iload_n 2, 1) := by decide +kernel
theorem dX11_writeRecord_3 : decode cX11_writeRecord 3 = .ok (.invokevirtual 554, 3) := by decide +kernel
theorem dX11_writeRecord_6 : decode cX11_writeRecord 6 = .ok (.istore 4, 2) := by decide +kernel
theorem dX11_writeRecord_8 : decode cX11_writeRecord 8 = .ok (.aload_n 0, 1) := by decide +kernel
theorem dX11_writeRecord_9 : decode cX11_writeRecord 9 = .ok (.aload_n 1, 1) := by decide +kernel
theorem dX11_writeRecord_10 : decode cX11_writeRecord 10 = .ok (.iconst (-1), 1) := by decide +kernel
theorem dX11_writeRecord_11 : decode cX11_writeRecord 11 = .ok (.iload_n 2, 1) := by decide +kernel
theorem dX11_writeRecord_12 : decode cX11_writeRecord 12 = .ok (.invokestatic 302, 3) := by decide +kernel
theorem dX11_writeRecord_15 : decode cX11_writeRecord 15 = .ok (.invokevirtual 550, 3) := by decide +kernel
theorem dX11_writeRecord_18 : decode cX11_writeRecord 18 = .ok (.istore 5, 2) := by decide +kernel
theorem dX11_writeRecord_20 : decode cX11_writeRecord 20 = .ok (.iload 5, 2) := by decide +kernel
theorem dX11_writeRecord_22 : decode cX11_writeRecord 22 = .ok (.ldc 62, 2) := by decide +kernel
theorem dX11_writeRecord_24 : decode cX11_writeRecord 24 = .ok (.if_icmp .ne 12, 3) := by decide +kernel
theorem dX11_writeRecord_27 : decode cX11_writeRecord 27 = .ok (.iload_n 3, 1) := by decide +kernel
theorem dX11_writeRecord_28 : decode cX11_writeRecord 28 = .ok (.ldc 62, 2) := by decide +kernel
theorem dX11_writeRecord_30 : decode cX11_writeRecord 30 = .ok (.if_icmp .ne 6, 3) := by decide +kernel
theorem dX11_writeRecord_33 : decode cX11_writeRecord 33 = .ok (.ldc 62, 2) := by decide +kernel
theorem dX11_writeRecord_35 : decode cX11_writeRecord 35 = .ok (.ireturn, 1) := by decide +kernel
theorem dX11_writeRecord_36 : decode cX11_writeRecord 36 = .ok (.iconst 0, 1) := by decide +kernel
theorem dX11_writeRecord_37 : decode cX11_writeRecord 37 = .ok (.istore 6, 2) := by decide +kernel
theorem dX11_writeRecord_39 : decode cX11_writeRecord 39 = .ok (.iload 6, 2) := by decide +kernel
theorem dX11_writeRecord_41 : decode cX11_writeRecord 41 = .ok (.iconst 3, 1) := by decide +kernel
theorem dX11_writeRecord_42 : decode cX11_writeRecord 42 = .ok (.if_icmp .ge 68, 3) := by decide +kernel
theorem dX11_writeRecord_45 : decode cX11_writeRecord 45 = .ok (.iload 4, 2) := by decide +kernel
theorem dX11_writeRecord_47 : decode cX11_writeRecord 47 = .ok (.iconst 1, 1) := by decide +kernel
theorem dX11_writeRecord_48 : decode cX11_writeRecord 48 = .ok (.iload 6, 2) := by decide +kernel
theorem dX11_writeRecord_50 : decode cX11_writeRecord 50 = .ok (.ishl, 1) := by decide +kernel
theorem dX11_writeRecord_51 : decode cX11_writeRecord 51 = .ok (.iand, 1) := by decide +kernel
theorem dX11_writeRecord_52 : decode cX11_writeRecord 52 = .ok (.ifCond .eq 7, 3) := by decide +kernel
theorem dX11_writeRecord_55 : decode cX11_writeRecord 55 = .ok (.iconst 1, 1) := by decide +kernel
theorem dX11_writeRecord_56 : decode cX11_writeRecord 56 = .ok (.goto 4, 3) := by decide +kernel
theorem dX11_writeRecord_59 : decode cX11_writeRecord 59 = .ok (.iconst 0, 1) := by decide +kernel
theorem dX11_writeRecord_60 : decode cX11_writeRecord 60 = .ok (.istore 7, 2) := by decide +kernel
theorem dX11_writeRecord_62 : decode cX11_writeRecord 62 = .ok (.iload 7, 2) := by decide +kernel
theorem dX11_writeRecord_64 : decode cX11_writeRecord 64 = .ok (.ifCond .eq 20, 3) := by decide +kernel
theorem dX11_writeRecord_67 : decode cX11_writeRecord 67 = .ok (.iload 5, 2) := by decide +kernel
theorem dX11_writeRecord_69 : decode cX11_writeRecord 69 = .ok (.ldc 62, 2) := by decide +kernel
theorem dX11_writeRecord_71 : decode cX11_writeRecord 71 = .ok (.if_icmp .eq 13, 3) := by decide +kernel
theorem dX11_writeRecord_74 : decode cX11_writeRecord 74 = .ok (.aload_n 0, 1) := by decide +kernel
theorem dX11_writeRecord_75 : decode cX11_writeRecord 75 = .ok (.aload_n 1, 1) := by decide +kernel
theorem dX11_writeRecord_76 : decode cX11_writeRecord 76 = .ok (.iload 6, 2) := by decide +kernel
theorem dX11_writeRecord_78 : decode cX11_writeRecord 78 = .ok (.iload_n 2, 1) := by decide +kernel
theorem dX11_writeRecord_79 : decode cX11_writeRecord 79 = .ok (.iload 5, 2) := by decide +kernel
theorem dX11_writeRecord_81 : decode cX11_writeRecord 81 = .ok (.invokevirtual 558, 3) := by decide +kernel
theorem dX11_writeRecord_84 : decode cX11_writeRecord 84 = .ok (.iload 7, 2) := by decide +kernel
theorem dX11_writeRecord_86 : decode cX11_writeRecord 86 = .ok (.ifCond .eq 18, 3) := by decide +kernel
theorem dX11_writeRecord_89 : decode cX11_writeRecord 89 = .ok (.iload_n 3, 1) := by decide +kernel
theorem dX11_writeRecord_90 : decode cX11_writeRecord 90 = .ok (.ldc 62, 2) := by decide +kernel
theorem dX11_writeRecord_92 : decode cX11_writeRecord 92 = .ok (.if_icmp .eq 12, 3) := by decide +kernel
theorem dX11_writeRecord_95 : decode cX11_writeRecord 95 = .ok (.aload_n 0, 1) := by decide +kernel
theorem dX11_writeRecord_96 : decode cX11_writeRecord 96 = .ok (.aload_n 1, 1) := by decide +kernel
theorem dX11_writeRecord_97 : decode cX11_writeRecord 97 = .ok (.iload 6, 2) := by decide +kernel
theorem dX11_writeRecord_99 : decode cX11_writeRecord 99 = .ok (.iload_n 2, 1) := by decide +kernel
theorem dX11_writeRecord_100 : decode cX11_writeRecord 100 = .ok (.iload_n 3, 1) := by decide +kernel
theorem dX11_writeRecord_101 : decode cX11_writeRecord 101 = .ok (.invokevirtual 562, 3) := by decide +kernel
theorem dX11_writeRecord_104 : decode cX11_writeRecord 104 = .ok (.iinc 6 1, 3) := by decide +kernel
theorem dX11_writeRecord_107 : decode cX11_writeRecord 107 = .ok (.goto (-68), 3) := by decide +kernel
theorem dX11_writeRecord_110 : decode cX11_writeRecord 110 = .ok (.aload_n 0, 1) := by decide +kernel
theorem dX11_writeRecord_111 : decode cX11_writeRecord 111 = .ok (.aload_n 1, 1) := by decide +kernel
theorem dX11_writeRecord_112 : decode cX11_writeRecord 112 = .ok (.iload_n 3, 1) := by decide +kernel
theorem dX11_writeRecord_113 : decode cX11_writeRecord 113 = .ok (.ldc 62, 2) := by decide +kernel
theorem dX11_writeRecord_115 : decode cX11_writeRecord 115 = .ok (.if_icmp .ne 7, 3) := by decide +kernel
theorem dX11_writeRecord_118 : decode cX11_writeRecord 118 = .ok (.iconst 1, 1) := by decide +kernel
theorem dX11_writeRecord_119 : decode cX11_writeRecord 119 = .ok (.goto 4, 3) := by decide +kernel
theorem dX11_writeRecord_122 : decode cX11_writeRecord 122 = .ok (.iconst 0, 1) := by decide +kernel
theorem dX11_writeRecord_123 : decode cX11_writeRecord 123 = .ok (.iconst (-1), 1) := by decide +kernel
theorem dX11_writeRecord_124 : decode cX11_writeRecord 124 = .ok (.iload_n 2, 1) := by decide +kernel
theorem dX11_writeRecord_125 : decode cX11_writeRecord 125 = .ok (.invokestatic 302, 3) := by decide +kernel
theorem dX11_writeRecord_128 : decode cX11_writeRecord 128 = .ok (.iload_n 3, 1) := by decide +kernel
theorem dX11_writeRecord_129 : decode cX11_writeRecord 129 = .ok (.invokevirtual 201, 3) := by decide +kernel
theorem dX11_writeRecord_132 : decode cX11_writeRecord 132 = .ok (.iload 5, 2) := by decide +kernel
theorem dX11_writeRecord_134 : decode cX11_writeRecord 134 = .ok (.ireturn, 1) := by decide +kernel
theorem dX11_takeAway_0 : decode cX11_takeAway 0 = .ok (.iload_n 2, 1) := by decide +kernel
theorem dX11_takeAway_1 : decode cX11_takeAway 1 = .ok (.ifCond .ne 21, 3) := by decide +kernel
theorem dX11_takeAway_4 : decode cX11_takeAway 4 = .ok (.aload_n 0, 1) := by decide +kernel
theorem dX11_takeAway_5 : decode cX11_takeAway 5 = .ok (.aload_n 1, 1) := by decide +kernel
theorem dX11_takeAway_6 : decode cX11_takeAway 6 = .ok (.iconst 1, 1) := by decide +kernel
theorem dX11_takeAway_7 : decode cX11_takeAway 7 = .ok (.bipush (-2), 2) := by decide +kernel
theorem dX11_takeAway_9 : decode cX11_takeAway 9 = .ok (.iload 4, 2) := by decide +kernel
theorem dX11_takeAway_11 : decode cX11_takeAway 11 = .ok (.iload_n 3, 1) := by decide +kernel
theorem dX11_takeAway_12 : decode cX11_takeAway 12 = .ok (.invokestatic 100, 3) := by decide +kernel
theorem dX11_takeAway_15 : decode cX11_takeAway 15 = .ok (.iconst 0, 1) := by decide +kernel
theorem dX11_takeAway_16 : decode cX11_takeAway 16 = .ok (.invokevirtual 201, 3) := by decide +kernel
theorem dX11_takeAway_19 : decode cX11_takeAway 19 = .ok (.goto 31, 3) := by decide +kernel
theorem dX11_takeAway_22 : decode cX11_takeAway 22 = .ok (.iload_n 2, 1) := by decide +kernel
theorem dX11_takeAway_23 : decode cX11_takeAway 23 = .ok (.iconst 1, 1) := by decide +kernel
theorem dX11_takeAway_24 : decode cX11_takeAway 24 = .ok (.if_icmp .ne 20, 3) := by decide +kernel
theorem dX11_takeAway_27 : decode cX11_takeAway 27 = .ok (.aload_n 0, 1) := by decide +kernel
theorem dX11_takeAway_28 : decode cX11_takeAway 28 = .ok (.aload_n 1, 1) := by decide +kernel
theorem dX11_takeAway_29 : decode cX11_takeAway 29 = .ok (.iconst 2, 1) := by decide +kernel
theorem dX11_takeAway_30 : decode cX11_takeAway 30 = .ok (.bipush (-3), 2) := by decide +kernel
theorem dX11_takeAway_32 : decode cX11_takeAway 32 = .ok (.iload 4, 2) := by decide +kernel
theorem dX11_takeAway_34 : decode cX11_takeAway 34 = .ok (.invokestatic 302, 3) := by decide +kernel
theorem dX11_takeAway_37 : decode cX11_takeAway 37 = .ok (.iconst (-1), 1) := by decide +kernel
theorem dX11_takeAway_38 : decode cX11_takeAway 38 = .ok (.invokevirtual 201, 3) := by decide +kernel
theorem dX11_takeAway_41 : decode cX11_takeAway 41 = .ok (.goto 9, 3) := by decide +kernel
theorem dX11_takeAway_44 : decode cX11_takeAway 44 = .ok (.aload_n 0, 1) := by decide +kernel
theorem dX11_takeAway_45 : decode cX11_takeAway 45 = .ok (.aload_n 1, 1) := by decide +kernel
theorem dX11_takeAway_46 : decode cX11_takeAway 46 = .ok (.iload_n 3, 1) := by decide +kernel
theorem dX11_takeAway_47 : decode cX11_takeAway 47 = .ok (.invokevirtual 565, 3) := by decide +kernel
theorem dX11_takeAway_50 : decode cX11_takeAway 50 = .ok (.return_, 1) := by decide +kernel
theorem dX11_takeAwayVersions_0 : decode cX11_takeAwayVersions 0 = .ok (.aload_n 0, 1) := by decide +kernel
theorem dX11_takeAwayVersions_1 : decode cX11_takeAwayVersions 1 = .ok (.aload_n 1, 1) := by decide +kernel
theorem dX11_takeAwayVersions_2 : decode cX11_takeAwayVersions 2 = .ok (.bipush (-4), 2) := by decide +kernel
theorem dX11_takeAwayVersions_4 : decode cX11_takeAwayVersions 4 = .ok (.sipush 10000, 3) := by decide +kernel
theorem dX11_takeAwayVersions_7 : decode cX11_takeAwayVersions 7 = .ok (.invokestatic 138, 3) := by decide +kernel
theorem dX11_takeAwayVersions_10 : decode cX11_takeAwayVersions 10 = .ok (.bipush (-4), 2) := by decide +kernel
theorem dX11_takeAwayVersions_12 : decode cX11_takeAwayVersions 12 = .ok (.sipush 10000, 3) := by decide +kernel
theorem dX11_takeAwayVersions_15 : decode cX11_takeAwayVersions 15 = .ok (.invokestatic 142, 3) := by decide +kernel
theorem dX11_takeAwayVersions_18 : decode cX11_takeAwayVersions 18 = .ok (.invokevirtual 145, 3) := by decide +kernel
theorem dX11_takeAwayVersions_21 : decode cX11_takeAwayVersions 21 = .ok (.iconst 0, 1) := by decide +kernel
theorem dX11_takeAwayVersions_22 : decode cX11_takeAwayVersions 22 = .ok (.istore_n 3, 1) := by decide +kernel
theorem dX11_takeAwayVersions_23 : decode cX11_takeAwayVersions 23 = .ok (.iload_n 3, 1) := by decide +kernel
theorem dX11_takeAwayVersions_24 : decode cX11_takeAwayVersions 24 = .ok (.aload_n 0, 1) := by decide +kernel
theorem dX11_takeAwayVersions_25 : decode cX11_takeAwayVersions 25 = .ok (.getfield 39, 3) := by decide +kernel
theorem dX11_takeAwayVersions_28 : decode cX11_takeAwayVersions 28 = .ok (.invokevirtual 153, 3) := by decide +kernel
theorem dX11_takeAwayVersions_31 : decode cX11_takeAwayVersions 31 = .ok (.if_icmp .ge 44, 3) := by decide +kernel
theorem dX11_takeAwayVersions_34 : decode cX11_takeAwayVersions 34 = .ok (.aload_n 0, 1) := by decide +kernel
theorem dX11_takeAwayVersions_35 : decode cX11_takeAwayVersions 35 = .ok (.getfield 39, 3) := by decide +kernel
theorem dX11_takeAwayVersions_38 : decode cX11_takeAwayVersions 38 = .ok (.iload_n 3, 1) := by decide +kernel
theorem dX11_takeAwayVersions_39 : decode cX11_takeAwayVersions 39 = .ok (.invokevirtual 166, 3) := by decide +kernel
theorem dX11_takeAwayVersions_42 : decode cX11_takeAwayVersions 42 = .ok (.checkcast 170, 3) := by decide +kernel
theorem dX11_takeAwayVersions_45 : decode cX11_takeAwayVersions 45 = .ok (.getfield 172, 3) := by decide +kernel
theorem dX11_takeAwayVersions_48 : decode cX11_takeAwayVersions 48 = .ok (.lstore 4, 2) := by decide +kernel
theorem dX11_takeAwayVersions_50 : decode cX11_takeAwayVersions 50 = .ok (.lload 4, 2) := by decide +kernel
theorem dX11_takeAwayVersions_52 : decode cX11_takeAwayVersions 52 = .ok (.iconst 2, 1) := by decide +kernel
theorem dX11_takeAwayVersions_53 : decode cX11_takeAwayVersions 53 = .ok (.invokestatic 176, 3) := by decide +kernel
theorem dX11_takeAwayVersions_56 : decode cX11_takeAwayVersions 56 = .ok (.iload_n 2, 1) := by decide +kernel
theorem dX11_takeAwayVersions_57 : decode cX11_takeAwayVersions 57 = .ok (.if_icmp .ne 12, 3) := by decide +kernel
theorem dX11_takeAwayVersions_60 : decode cX11_takeAwayVersions 60 = .ok (.aload_n 0, 1) := by decide +kernel
theorem dX11_takeAwayVersions_61 : decode cX11_takeAwayVersions 61 = .ok (.aload_n 1, 1) := by decide +kernel
theorem dX11_takeAwayVersions_62 : decode cX11_takeAwayVersions 62 = .ok (.iconst 1, 1) := by decide +kernel
theorem dX11_takeAwayVersions_63 : decode cX11_takeAwayVersions 63 = .ok (.lload 4, 2) := by decide +kernel
theorem dX11_takeAwayVersions_65 : decode cX11_takeAwayVersions 65 = .ok (.iconst 0, 1) := by decide +kernel
theorem dX11_takeAwayVersions_66 : decode cX11_takeAwayVersions 66 = .ok (.invokevirtual 201, 3) := by decide +kernel
theorem dX11_takeAwayVersions_69 : decode cX11_takeAwayVersions 69 = .ok (.iinc 3 1, 3) := by decide +kernel
theorem dX11_takeAwayVersions_72 : decode cX11_takeAwayVersions 72 = .ok (.goto (-49), 3) := by decide +kernel
theorem dX11_takeAwayVersions_75 : decode cX11_takeAwayVersions 75 = .ok (.aload_n 1, 1) := by decide +kernel
theorem dX11_takeAwayVersions_76 : decode cX11_takeAwayVersions 76 = .ok (.bipush (-4), 2) := by decide +kernel
theorem dX11_takeAwayVersions_78 : decode cX11_takeAwayVersions 78 = .ok (.iconst 0, 1) := by decide +kernel
theorem dX11_takeAwayVersions_79 : decode cX11_takeAwayVersions 79 = .ok (.iload_n 2, 1) := by decide +kernel
theorem dX11_takeAwayVersions_80 : decode cX11_takeAwayVersions 80 = .ok (.invokestatic 100, 3) := by decide +kernel
theorem dX11_takeAwayVersions_83 : decode cX11_takeAwayVersions 83 = .ok (.invokevirtual 569, 3) := by decide +kernel
theorem dX11_takeAwayVersions_86 : decode cX11_takeAwayVersions 86 = .ok (.return_, 1) := by decide +kernel
theorem dX11_putThere_0 : decode cX11_putThere 0 = .ok (.iload_n 2, 1) := by decide +kernel
theorem dX11_putThere_1 : decode cX11_putThere 1 = .ok (.ifCond .ne 21, 3) := by decide +kernel
theorem dX11_putThere_4 : decode cX11_putThere 4 = .ok (.aload_n 0, 1) := by decide +kernel
theorem dX11_putThere_5 : decode cX11_putThere 5 = .ok (.aload_n 1, 1) := by decide +kernel
theorem dX11_putThere_6 : decode cX11_putThere 6 = .ok (.iconst 0, 1) := by decide +kernel
theorem dX11_putThere_7 : decode cX11_putThere 7 = .ok (.bipush (-2), 2) := by decide +kernel
theorem dX11_putThere_9 : decode cX11_putThere 9 = .ok (.iload 4, 2) := by decide +kernel
theorem dX11_putThere_11 : decode cX11_putThere 11 = .ok (.iload_n 3, 1) := by decide +kernel
theorem dX11_putThere_12 : decode cX11_putThere 12 = .ok (.invokestatic 100, 3) := by decide +kernel
theorem dX11_putThere_15 : decode cX11_putThere 15 = .ok (.iconst 0, 1) := by decide +kernel
theorem dX11_putThere_16 : decode cX11_putThere 16 = .ok (.invokevirtual 201, 3) := by decide +kernel
theorem dX11_putThere_19 : decode cX11_putThere 19 = .ok (.goto 39, 3) := by decide +kernel
theorem dX11_putThere_22 : decode cX11_putThere 22 = .ok (.iload_n 2, 1) := by decide +kernel
theorem dX11_putThere_23 : decode cX11_putThere 23 = .ok (.iconst 1, 1) := by decide +kernel
theorem dX11_putThere_24 : decode cX11_putThere 24 = .ok (.if_icmp .ne 20, 3) := by decide +kernel
theorem dX11_putThere_27 : decode cX11_putThere 27 = .ok (.aload_n 0, 1) := by decide +kernel
theorem dX11_putThere_28 : decode cX11_putThere 28 = .ok (.aload_n 1, 1) := by decide +kernel
theorem dX11_putThere_29 : decode cX11_putThere 29 = .ok (.iconst 2, 1) := by decide +kernel
theorem dX11_putThere_30 : decode cX11_putThere 30 = .ok (.bipush (-3), 2) := by decide +kernel
theorem dX11_putThere_32 : decode cX11_putThere 32 = .ok (.iload 4, 2) := by decide +kernel
theorem dX11_putThere_34 : decode cX11_putThere 34 = .ok (.invokestatic 302, 3) := by decide +kernel
theorem dX11_putThere_37 : decode cX11_putThere 37 = .ok (.iconst 1, 1) := by decide +kernel
theorem dX11_putThere_38 : decode cX11_putThere 38 = .ok (.invokevirtual 201, 3) := by decide +kernel
theorem dX11_putThere_41 : decode cX11_putThere 41 = .ok (.goto 17, 3) := by decide +kernel
theorem dX11_putThere_44 : decode cX11_putThere 44 = .ok (.aload_n 1, 1) := by decide +kernel
theorem dX11_putThere_45 : decode cX11_putThere 45 = .ok (.bipush (-4), 2) := by decide +kernel
theorem dX11_putThere_47 : decode cX11_putThere 47 = .ok (.iconst 0, 1) := by decide +kernel
theorem dX11_putThere_48 : decode cX11_putThere 48 = .ok (.iload_n 3, 1) := by decide +kernel
theorem dX11_putThere_49 : decode cX11_putThere 49 = .ok (.invokestatic 100, 3) := by decide +kernel
theorem dX11_putThere_52 : decode cX11_putThere 52 = .ok (.iconst 1, 1) := by decide +kernel
theorem dX11_putThere_53 : decode cX11_putThere 53 = .ok (.iload 4, 2) := by decide +kernel
theorem dX11_putThere_55 : decode cX11_putThere 55 = .ok (.invokevirtual 197, 3) := by decide +kernel
theorem dX11_putThere_58 : decode cX11_putThere 58 = .ok (.return_, 1) := by decide +kernel
theorem dX11_buildBehind_0 : decode cX11_buildBehind 0 = .ok (.aload_n 0, 1) := by decide +kernel
theorem dX11_buildBehind_1 : decode cX11_buildBehind 1 = .ok (.getfield 14, 3) := by decide +kernel
theorem dX11_buildBehind_4 : decode cX11_buildBehind 4 = .ok (.iconst 1, 1) := by decide +kernel
theorem dX11_buildBehind_5 : decode cX11_buildBehind 5 = .ok (.invokevirtual 223, 3) := by decide +kernel
theorem dX11_buildBehind_8 : decode cX11_buildBehind 8 = .ok (.iconst 0, 1) := by decide +kernel
theorem dX11_buildBehind_9 : decode cX11_buildBehind 9 = .ok (.istore 4, 2) := by decide +kernel
theorem dX11_buildBehind_11 : decode cX11_buildBehind 11 = .ok (.iload_n 2, 1) := by decide +kernel
theorem dX11_buildBehind_12 : decode cX11_buildBehind 12 = .ok (.istore 5, 2) := by decide +kernel
theorem dX11_buildBehind_14 : decode cX11_buildBehind 14 = .ok (.iconst 0, 1) := by decide +kernel
theorem dX11_buildBehind_15 : decode cX11_buildBehind 15 = .ok (.istore 6, 2) := by decide +kernel
theorem dX11_buildBehind_17 : decode cX11_buildBehind 17 = .ok (.iload_n 2, 1) := by decide +kernel
theorem dX11_buildBehind_18 : decode cX11_buildBehind 18 = .ok (.iconst 1, 1) := by decide +kernel
theorem dX11_buildBehind_19 : decode cX11_buildBehind 19 = .ok (.iadd, 1) := by decide +kernel
theorem dX11_buildBehind_20 : decode cX11_buildBehind 20 = .ok (.iconst 0, 1) := by decide +kernel
theorem dX11_buildBehind_21 : decode cX11_buildBehind 21 = .ok (.invokestatic 572, 3) := by decide +kernel
theorem dX11_buildBehind_24 : decode cX11_buildBehind 24 = .ok (.istore 7, 2) := by decide +kernel
theorem dX11_buildBehind_26 : decode cX11_buildBehind 26 = .ok (.iload 7, 2) := by decide +kernel
theorem dX11_buildBehind_28 : decode cX11_buildBehind 28 = .ok (.bipush 99, 2) := by decide +kernel
theorem dX11_buildBehind_30 : decode cX11_buildBehind 30 = .ok (.if_icmp .gt 71, 3) := by decide +kernel
theorem dX11_buildBehind_33 : decode cX11_buildBehind 33 = .ok (.iload 6, 2) := by decide +kernel
theorem dX11_buildBehind_35 : decode cX11_buildBehind 35 = .ok (.ifCond .ne 66, 3) := by decide +kernel
theorem dX11_buildBehind_38 : decode cX11_buildBehind 38 = .ok (.aload_n 0, 1) := by decide +kernel
theorem dX11_buildBehind_39 : decode cX11_buildBehind 39 = .ok (.getfield 14, 3) := by decide +kernel
theorem dX11_buildBehind_42 : decode cX11_buildBehind 42 = .ok (.iconst (-1), 1) := by decide +kernel
theorem dX11_buildBehind_43 : decode cX11_buildBehind 43 = .ok (.iload 7, 2) := by decide +kernel
theorem dX11_buildBehind_45 : decode cX11_buildBehind 45 = .ok (.invokestatic 302, 3) := by decide +kernel
theorem dX11_buildBehind_48 : decode cX11_buildBehind 48 = .ok (.invokevirtual 304, 3) := by decide +kernel
theorem dX11_buildBehind_51 : decode cX11_buildBehind 51 = .ok (.istore 8, 2) := by decide +kernel
theorem dX11_buildBehind_53 : decode cX11_buildBehind 53 = .ok (.iload 8, 2) := by decide +kernel
theorem dX11_buildBehind_55 : decode cX11_buildBehind 55 = .ok (.ldc 62, 2) := by decide +kernel
theorem dX11_buildBehind_57 : decode cX11_buildBehind 57 = .ok (.if_icmp .eq 15, 3) := by decide +kernel
theorem dX11_buildBehind_60 : decode cX11_buildBehind 60 = .ok (.iload 4, 2) := by decide +kernel
theorem dX11_buildBehind_62 : decode cX11_buildBehind 62 = .ok (.iload_n 3, 1) := by decide +kernel
theorem dX11_buildBehind_63 : decode cX11_buildBehind 63 = .ok (.if_icmp .ne 9, 3) := by decide +kernel
theorem dX11_buildBehind_66 : decode cX11_buildBehind 66 = .ok (.iconst 1, 1) := by decide +kernel
theorem dX11_buildBehind_67 : decode cX11_buildBehind 67 = .ok (.istore 6, 2) := by decide +kernel
theorem dX11_buildBehind_69 : decode cX11_buildBehind 69 = .ok (.goto 26, 3) := by decide +kernel
theorem dX11_buildBehind_72 : decode cX11_buildBehind 72 = .ok (.iload 8, 2) := by decide +kernel
theorem dX11_buildBehind_74 : decode cX11_buildBehind 74 = .ok (.ldc 62, 2) := by decide +kernel
theorem dX11_buildBehind_76 : decode cX11_buildBehind 76 = .ok (.if_icmp .eq 19, 3) := by decide +kernel
theorem dX11_buildBehind_79 : decode cX11_buildBehind 79 = .ok (.aload_n 0, 1) := by decide +kernel
theorem dX11_buildBehind_80 : decode cX11_buildBehind 80 = .ok (.iload_n 1, 1) := by decide +kernel
theorem dX11_buildBehind_81 : decode cX11_buildBehind 81 = .ok (.iload 7, 2) := by decide +kernel
theorem dX11_buildBehind_83 : decode cX11_buildBehind 83 = .ok (.iload 8, 2) := by decide +kernel
theorem dX11_buildBehind_85 : decode cX11_buildBehind 85 = .ok (.invokevirtual 574, 3) := by decide +kernel
theorem dX11_buildBehind_88 : decode cX11_buildBehind 88 = .ok (.iload 7, 2) := by decide +kernel
theorem dX11_buildBehind_90 : decode cX11_buildBehind 90 = .ok (.istore 5, 2) := by decide +kernel
theorem dX11_buildBehind_92 : decode cX11_buildBehind 92 = .ok (.iinc 4 1, 3) := by decide +kernel
theorem dX11_buildBehind_95 : decode cX11_buildBehind 95 = .ok (.iinc 7 1, 3) := by decide +kernel
theorem dX11_buildBehind_98 : decode cX11_buildBehind 98 = .ok (.goto (-72), 3) := by decide +kernel
theorem dX11_buildBehind_101 : decode cX11_buildBehind 101 = .ok (.aload_n 0, 1) := by decide +kernel
theorem dX11_buildBehind_102 : decode cX11_buildBehind 102 = .ok (.getfield 14, 3) := by decide +kernel
theorem dX11_buildBehind_105 : decode cX11_buildBehind 105 = .ok (.iconst 0, 1) := by decide +kernel
theorem dX11_buildBehind_106 : decode cX11_buildBehind 106 = .ok (.bipush (-6), 2) := by decide +kernel
theorem dX11_buildBehind_108 : decode cX11_buildBehind 108 = .ok (.iload_n 1, 1) := by decide +kernel
theorem dX11_buildBehind_109 : decode cX11_buildBehind 109 = .ok (.invokestatic 302, 3) := by decide +kernel
theorem dX11_buildBehind_112 : decode cX11_buildBehind 112 = .ok (.iload 6, 2) := by decide +kernel
theorem dX11_buildBehind_114 : decode cX11_buildBehind 114 = .ok (.ifCond .eq 8, 3) := by decide +kernel
theorem dX11_buildBehind_117 : decode cX11_buildBehind 117 = .ok (.iload 5, 2) := by decide +kernel
theorem dX11_buildBehind_119 : decode cX11_buildBehind 119 = .ok (.goto 6, 3) := by decide +kernel
theorem dX11_buildBehind_122 : decode cX11_buildBehind 122 = .ok (.sipush 1000, 3) := by decide +kernel
theorem dX11_buildBehind_125 : decode cX11_buildBehind 125 = .ok (.invokevirtual 325, 3) := by decide +kernel
theorem dX11_buildBehind_128 : decode cX11_buildBehind 128 = .ok (.aload_n 0, 1) := by decide +kernel
theorem dX11_buildBehind_129 : decode cX11_buildBehind 129 = .ok (.invokevirtual 329, 3) := by decide +kernel
theorem dX11_buildBehind_132 : decode cX11_buildBehind 132 = .ok (.iload 4, 2) := by decide +kernel
theorem dX11_buildBehind_134 : decode cX11_buildBehind 134 = .ok (.ireturn, 1) := by decide +kernel
theorem dX11_putNow_0 : decode cX11_putNow 0 = .ok (.iload_n 1, 1) := by decide +kernel
theorem dX11_putNow_1 : decode cX11_putNow 1 = .ok (.ifCond .ne 22, 3) := by decide +kernel
theorem dX11_putNow_4 : decode cX11_putNow 4 = .ok (.aload_n 0, 1) := by decide +kernel
theorem dX11_putNow_5 : decode cX11_putNow 5 = .ok (.getfield 14, 3) := by decide +kernel
theorem dX11_putNow_8 : decode cX11_putNow 8 = .ok (.iconst 0, 1) := by decide +kernel
theorem dX11_putNow_9 : decode cX11_putNow 9 = .ok (.bipush (-2), 2) := by decide +kernel
theorem dX11_putNow_11 : decode cX11_putNow 11 = .ok (.iload_n 3, 1) := by decide +kernel
theorem dX11_putNow_12 : decode cX11_putNow 12 = .ok (.iload_n 2, 1) := by decide +kernel
theorem dX11_putNow_13 : decode cX11_putNow 13 = .ok (.invokestatic 100, 3) := by decide +kernel
theorem dX11_putNow_16 : decode cX11_putNow 16 = .ok (.iconst 0, 1) := by decide +kernel
theorem dX11_putNow_17 : decode cX11_putNow 17 = .ok (.invokevirtual 325, 3) := by decide +kernel
theorem dX11_putNow_20 : decode cX11_putNow 20 = .ok (.goto 48, 3) := by decide +kernel
theorem dX11_putNow_23 : decode cX11_putNow 23 = .ok (.iload_n 1, 1) := by decide +kernel
theorem dX11_putNow_24 : decode cX11_putNow 24 = .ok (.iconst 1, 1) := by decide +kernel
theorem dX11_putNow_25 : decode cX11_putNow 25 = .ok (.if_icmp .ne 21, 3) := by decide +kernel
theorem dX11_putNow_28 : decode cX11_putNow 28 = .ok (.aload_n 0, 1) := by decide +kernel
theorem dX11_putNow_29 : decode cX11_putNow 29 = .ok (.getfield 14, 3) := by decide +kernel
theorem dX11_putNow_32 : decode cX11_putNow 32 = .ok (.iconst 2, 1) := by decide +kernel
theorem dX11_putNow_33 : decode cX11_putNow 33 = .ok (.bipush (-3), 2) := by decide +kernel
theorem dX11_putNow_35 : decode cX11_putNow 35 = .ok (.iload_n 3, 1) := by decide +kernel
theorem dX11_putNow_36 : decode cX11_putNow 36 = .ok (.invokestatic 302, 3) := by decide +kernel
theorem dX11_putNow_39 : decode cX11_putNow 39 = .ok (.iconst 1, 1) := by decide +kernel
theorem dX11_putNow_40 : decode cX11_putNow 40 = .ok (.invokevirtual 325, 3) := by decide +kernel
theorem dX11_putNow_43 : decode cX11_putNow 43 = .ok (.goto 25, 3) := by decide +kernel
theorem dX11_putNow_46 : decode cX11_putNow 46 = .ok (.aload_n 0, 1) := by decide +kernel
theorem dX11_putNow_47 : decode cX11_putNow 47 = .ok (.getfield 14, 3) := by decide +kernel
theorem dX11_putNow_50 : decode cX11_putNow 50 = .ok (.iconst 0, 1) := by decide +kernel
theorem dX11_putNow_51 : decode cX11_putNow 51 = .ok (.bipush (-4), 2) := by decide +kernel
theorem dX11_putNow_53 : decode cX11_putNow 53 = .ok (.aload_n 0, 1) := by decide +kernel
theorem dX11_putNow_54 : decode cX11_putNow 54 = .ok (.getfield 14, 3) := by decide +kernel
theorem dX11_putNow_57 : decode cX11_putNow 57 = .ok (.getfield 85, 3) := by decide +kernel
theorem dX11_putNow_60 : decode cX11_putNow 60 = .ok (.iload_n 2, 1) := by decide +kernel
theorem dX11_putNow_61 : decode cX11_putNow 61 = .ok (.invokestatic 100, 3) := by decide +kernel
theorem dX11_putNow_64 : decode cX11_putNow 64 = .ok (.iload_n 3, 1) := by decide +kernel
theorem dX11_putNow_65 : decode cX11_putNow 65 = .ok (.invokevirtual 325, 3) := by decide +kernel
theorem dX11_putNow_68 : decode cX11_putNow 68 = .ok (.return_, 1) := by decide +kernel
theorem dX11_leaseOf_0 : decode cX11_leaseOf 0 = .ok (.bipush (-7), 2) := by decide +kernel
theorem dX11_leaseOf_2 : decode cX11_leaseOf 2 = .ok (.aload_n 0, 1) := by decide +kernel
theorem dX11_leaseOf_3 : decode cX11_leaseOf 3 = .ok (.getfield 172, 3) := by decide +kernel
theorem dX11_leaseOf_6 : decode cX11_leaseOf 6 = .ok (.iconst 1, 1) := by decide +kernel
theorem dX11_leaseOf_7 : decode cX11_leaseOf 7 = .ok (.invokestatic 176, 3) := by decide +kernel
theorem dX11_leaseOf_10 : decode cX11_leaseOf 10 = .ok (.invokestatic 302, 3) := by decide +kernel
theorem dX11_leaseOf_13 : decode cX11_leaseOf 13 = .ok (.lreturn, 1) := by decide +kernel
theorem dX11_firstWork_0 : decode cX11_firstWork 0 = .ok (.aload_n 0, 1) := by decide +kernel
theorem dX11_firstWork_1 : decode cX11_firstWork 1 = .ok (.getfield 14, 3) := by decide +kernel
theorem dX11_firstWork_4 : decode cX11_firstWork 4 = .ok (.bipush (-5), 2) := by decide +kernel
theorem dX11_firstWork_6 : decode cX11_firstWork 6 = .ok (.sipush 10000, 3) := by decide +kernel
theorem dX11_firstWork_9 : decode cX11_firstWork 9 = .ok (.invokestatic 138, 3) := by decide +kernel
theorem dX11_firstWork_12 : decode cX11_firstWork 12 = .ok (.bipush (-5), 2) := by decide +kernel
theorem dX11_firstWork_14 : decode cX11_firstWork 14 = .ok (.sipush 10000, 3) := by decide +kernel
theorem dX11_firstWork_17 : decode cX11_firstWork 17 = .ok (.invokestatic 142, 3) := by decide +kernel
theorem dX11_firstWork_20 : decode cX11_firstWork 20 = .ok (.invokevirtual 318, 3) := by decide +kernel
theorem dX11_firstWork_23 : decode cX11_firstWork 23 = .ok (.astore_n 2, 1) := by decide +kernel
theorem dX11_firstWork_24 : decode cX11_firstWork 24 = .ok (.iconst 0, 1) := by decide +kernel
theorem dX11_firstWork_25 : decode cX11_firstWork 25 = .ok (.istore_n 3, 1) := by decide +kernel
theorem dX11_firstWork_26 : decode cX11_firstWork 26 = .ok (.iload_n 3, 1) := by decide +kernel
theorem dX11_firstWork_27 : decode cX11_firstWork 27 = .ok (.aload_n 2, 1) := by decide +kernel
theorem dX11_firstWork_28 : decode cX11_firstWork 28 = .ok (.invokevirtual 153, 3) := by decide +kernel
theorem dX11_firstWork_31 : decode cX11_firstWork 31 = .ok (.if_icmp .ge 42, 3) := by decide +kernel
theorem dX11_firstWork_34 : decode cX11_firstWork 34 = .ok (.aload_n 2, 1) := by decide +kernel
theorem dX11_firstWork_35 : decode cX11_firstWork 35 = .ok (.iload_n 3, 1) := by decide +kernel
theorem dX11_firstWork_36 : decode cX11_firstWork 36 = .ok (.invokevirtual 166, 3) := by decide +kernel
theorem dX11_firstWork_39 : decode cX11_firstWork 39 = .ok (.checkcast 170, 3) := by decide +kernel
theorem dX11_firstWork_42 : decode cX11_firstWork 42 = .ok (.astore 4, 2) := by decide +kernel
theorem dX11_firstWork_44 : decode cX11_firstWork 44 = .ok (.aload_n 0, 1) := by decide +kernel
theorem dX11_firstWork_45 : decode cX11_firstWork 45 = .ok (.aload_n 0, 1) := by decide +kernel
theorem dX11_firstWork_46 : decode cX11_firstWork 46 = .ok (.getfield 14, 3) := by decide +kernel
theorem dX11_firstWork_49 : decode cX11_firstWork 49 = .ok (.aload 4, 2) := by decide +kernel
theorem dX11_firstWork_51 : decode cX11_firstWork 51 = .ok (.invokestatic 361, 3) := by decide +kernel
theorem dX11_firstWork_54 : decode cX11_firstWork 54 = .ok (.invokevirtual 304, 3) := by decide +kernel
theorem dX11_firstWork_57 : decode cX11_firstWork 57 = .ok (.invokevirtual 577, 3) := by decide +kernel
theorem dX11_firstWork_60 : decode cX11_firstWork 60 = .ok (.iload_n 1, 1) := by decide +kernel
theorem dX11_firstWork_61 : decode cX11_firstWork 61 = .ok (.if_icmp .ne 6, 3) := by decide +kernel
theorem dX11_firstWork_64 : decode cX11_firstWork 64 = .ok (.aload 4, 2) := by decide +kernel
theorem dX11_firstWork_66 : decode cX11_firstWork 66 = .ok (.areturn, 1) := by decide +kernel
theorem dX11_firstWork_67 : decode cX11_firstWork 67 = .ok (.iinc 3 1, 3) := by decide +kernel
theorem dX11_firstWork_70 : decode cX11_firstWork 70 = .ok (.goto (-44), 3) := by decide +kernel
theorem dX11_firstWork_73 : decode cX11_firstWork 73 = .ok (.aconst_null, 1) := by decide +kernel
theorem dX11_firstWork_74 : decode cX11_firstWork 74 = .ok (.areturn, 1) := by decide +kernel
theorem dX11_holderOf_0 : decode cX11_holderOf 0 = .ok (.iload_n 1, 1) := by decide +kernel
theorem dX11_holderOf_1 : decode cX11_holderOf 1 = .ok (.ldc 62, 2) := by decide +kernel
theorem dX11_holderOf_3 : decode cX11_holderOf 3 = .ok (.if_icmp .eq 18, 3) := by decide +kernel
theorem dX11_holderOf_6 : decode cX11_holderOf 6 = .ok (.aload_n 0, 1) := by decide +kernel
theorem dX11_holderOf_7 : decode cX11_holderOf 7 = .ok (.getfield 14, 3) := by decide +kernel
theorem dX11_holderOf_10 : decode cX11_holderOf 10 = .ok (.getfield 85, 3) := by decide +kernel
theorem dX11_holderOf_13 : decode cX11_holderOf 13 = .ok (.iload_n 1, 1) := by decide +kernel
theorem dX11_holderOf_14 : decode cX11_holderOf 14 = .ok (.sipush 10000, 3) := by decide +kernel
theorem dX11_holderOf_17 : decode cX11_holderOf 17 = .ok (.irem, 1) := by decide +kernel
theorem dX11_holderOf_18 : decode cX11_holderOf 18 = .ok (.if_icmp .lt 6, 3) := by decide +kernel
theorem dX11_holderOf_21 : decode cX11_holderOf 21 = .ok (.ldc 62, 2) := by decide +kernel
theorem dX11_holderOf_23 : decode cX11_holderOf 23 = .ok (.ireturn, 1) := by decide +kernel
theorem dX11_holderOf_24 : decode cX11_holderOf 24 = .ok (.iload_n 1, 1) := by decide +kernel
theorem dX11_holderOf_25 : decode cX11_holderOf 25 = .ok (.sipush 10000, 3) := by decide +kernel
theorem dX11_holderOf_28 : decode cX11_holderOf 28 = .ok (.idiv, 1) := by decide +kernel
theorem dX11_holderOf_29 : decode cX11_holderOf 29 = .ok (.ireturn, 1) := by decide +kernel
theorem dJ9_max_7cf53_0 : decode cJ9_max_7cf53 0 = .ok (.iload_n 0, 1) := by decide +kernel
theorem dJ9_max_7cf53_1 : decode cJ9_max_7cf53 1 = .ok (.iload_n 1, 1) := by decide +kernel
theorem dJ9_max_7cf53_2 : decode cJ9_max_7cf53 2 = .ok (.if_icmp .lt 7, 3) := by decide +kernel
theorem dJ9_max_7cf53_5 : decode cJ9_max_7cf53 5 = .ok (.iload_n 0, 1) := by decide +kernel
theorem dJ9_max_7cf53_6 : decode cJ9_max_7cf53 6 = .ok (.goto 4, 3) := by decide +kernel
theorem dJ9_max_7cf53_9 : decode cJ9_max_7cf53 9 = .ok (.iload_n 1, 1) := by decide +kernel
theorem dJ9_max_7cf53_10 : decode cJ9_max_7cf53 10 = .ok (.ireturn, 1) := by decide +kernel
theorem dJ9_max_f86c9_0 : decode cJ9_max_f86c9 0 = .ok (.lload_n 0, 1) := by decide +kernel
theorem dJ9_max_f86c9_1 : decode cJ9_max_f86c9 1 = .ok (.lload_n 2, 1) := by decide +kernel
theorem dJ9_max_f86c9_2 : decode cJ9_max_f86c9 2 = .ok (.lcmp, 1) := by decide +kernel
theorem dJ9_max_f86c9_3 : decode cJ9_max_f86c9 3 = .ok (.ifCond .lt 7, 3) := by decide +kernel
theorem dJ9_max_f86c9_6 : decode cJ9_max_f86c9 6 = .ok (.lload_n 0, 1) := by decide +kernel
theorem dJ9_max_f86c9_7 : decode cJ9_max_f86c9 7 = .ok (.goto 4, 3) := by decide +kernel
theorem dJ9_max_f86c9_10 : decode cJ9_max_f86c9 10 = .ok (.lload_n 2, 1) := by decide +kernel
theorem dJ9_max_f86c9_11 : decode cJ9_max_f86c9 11 = .ok (.lreturn, 1) := by decide +kernel
theorem dJ9_min_7cf53_0 : decode cJ9_min_7cf53 0 = .ok (.iload_n 0, 1) := by decide +kernel
theorem dJ9_min_7cf53_1 : decode cJ9_min_7cf53 1 = .ok (.iload_n 1, 1) := by decide +kernel
theorem dJ9_min_7cf53_2 : decode cJ9_min_7cf53 2 = .ok (.if_icmp .gt 7, 3) := by decide +kernel
theorem dJ9_min_7cf53_5 : decode cJ9_min_7cf53 5 = .ok (.iload_n 0, 1) := by decide +kernel
theorem dJ9_min_7cf53_6 : decode cJ9_min_7cf53 6 = .ok (.goto 4, 3) := by decide +kernel
theorem dJ9_min_7cf53_9 : decode cJ9_min_7cf53 9 = .ok (.iload_n 1, 1) := by decide +kernel
theorem dJ9_min_7cf53_10 : decode cJ9_min_7cf53 10 = .ok (.ireturn, 1) := by decide +kernel
theorem dJ9_min_f86c9_0 : decode cJ9_min_f86c9 0 = .ok (.lload_n 0, 1) := by decide +kernel
theorem dJ9_min_f86c9_1 : decode cJ9_min_f86c9 1 = .ok (.lload_n 2, 1) := by decide +kernel
theorem dJ9_min_f86c9_2 : decode cJ9_min_f86c9 2 = .ok (.lcmp, 1) := by decide +kernel
theorem dJ9_min_f86c9_3 : decode cJ9_min_f86c9 3 = .ok (.ifCond .gt 7, 3) := by decide +kernel
theorem dJ9_min_f86c9_6 : decode cJ9_min_f86c9 6 = .ok (.lload_n 0, 1) := by decide +kernel
theorem dJ9_min_f86c9_7 : decode cJ9_min_f86c9 7 = .ok (.goto 4, 3) := by decide +kernel
theorem dJ9_min_f86c9_10 : decode cJ9_min_f86c9 10 = .ok (.lload_n 2, 1) := by decide +kernel
theorem dJ9_min_f86c9_11 : decode cJ9_min_f86c9 11 = .ok (.lreturn, 1) := by decide +kernel
theorem dJxa1e45_init_da8c8_0 : decode cJxa1e45_init_da8c8 0 = .ok (.aload_n 0, 1) := by decide +kernel
theorem dJxa1e45_init_da8c8_1 : decode cJxa1e45_init_da8c8 1 = .ok (.invokespecial 1, 3) := by decide +kernel
theorem dJxa1e45_init_da8c8_4 : decode cJxa1e45_init_da8c8 4 = .ok (.return_, 1) := by decide +kernel
theorem dJxc12de_init_da8c8_0 : decode cJxc12de_init_da8c8 0 = .ok (.aload_n 0, 1) := by decide +kernel
theorem dJxc12de_init_da8c8_1 : decode cJxc12de_init_da8c8 1 = .ok (.invokespecial 1, 3) := by decide +kernel
theorem dJxc12de_init_da8c8_4 : decode cJxc12de_init_da8c8 4 = .ok (.aload_n 0, 1) := by decide +kernel
theorem dJxc12de_init_da8c8_5 : decode cJxc12de_init_da8c8 5 = .ok (.iconst 0, 1) := by decide +kernel
theorem dJxc12de_init_da8c8_6 : decode cJxc12de_init_da8c8 6 = .ok (.putfield 7, 3) := by decide +kernel
theorem dJxc12de_init_da8c8_9 : decode cJxc12de_init_da8c8 9 = .ok (.return_, 1) := by decide +kernel
theorem dJx4a65c_init_da8c8_0 : decode cJx4a65c_init_da8c8 0 = .ok (.aload_n 0, 1) := by decide +kernel
theorem dJx4a65c_init_da8c8_1 : decode cJx4a65c_init_da8c8 1 = .ok (.invokespecial 1, 3) := by decide +kernel
theorem dJx4a65c_init_da8c8_4 : decode cJx4a65c_init_da8c8 4 = .ok (.aload_n 0, 1) := by decide +kernel
theorem dJx4a65c_init_da8c8_5 : decode cJx4a65c_init_da8c8 5 = .ok (.getstatic 39, 3) := by decide +kernel
theorem dJx4a65c_init_da8c8_8 : decode cJx4a65c_init_da8c8 8 = .ok (.putfield 9, 3) := by decide +kernel
theorem dJx4a65c_init_da8c8_11 : decode cJx4a65c_init_da8c8 11 = .ok (.return_, 1) := by decide +kernel
theorem dJx4a65c_grow_92f84_0 : decode cJx4a65c_grow_92f84 0 = .ok (.aload_n 0, 1) := by decide +kernel
theorem dJx4a65c_grow_92f84_1 : decode cJx4a65c_grow_92f84 1 = .ok (.getfield 9, 3) := by decide +kernel
theorem dJx4a65c_grow_92f84_4 : decode cJx4a65c_grow_92f84 4 = .ok (.arraylength, 1) := by decide +kernel
theorem dJx4a65c_grow_92f84_5 : decode cJx4a65c_grow_92f84 5 = .ok (.istore_n 2, 1) := by decide +kernel
theorem dJx4a65c_grow_92f84_6 : decode cJx4a65c_grow_92f84 6 = .ok (.iload_n 2, 1) := by decide +kernel
theorem dJx4a65c_grow_92f84_7 : decode cJx4a65c_grow_92f84 7 = .ok (.ifCond .gt 13, 3) := by decide +kernel
theorem dJx4a65c_grow_92f84_10 : decode cJx4a65c_grow_92f84 10 = .ok (.aload_n 0, 1) := by decide +kernel
theorem dJx4a65c_grow_92f84_11 : decode cJx4a65c_grow_92f84 11 = .ok (.getfield 9, 3) := by decide +kernel
theorem dJx4a65c_grow_92f84_14 : decode cJx4a65c_grow_92f84 14 = .ok (.getstatic 39, 3) := by decide +kernel
theorem dJx4a65c_grow_92f84_17 : decode cJx4a65c_grow_92f84 17 = .ok (.if_acmp .eq 28, 3) := by decide +kernel
theorem dJx4a65c_grow_92f84_20 : decode cJx4a65c_grow_92f84 20 = .ok (.iload_n 2, 1) := by decide +kernel
theorem dJx4a65c_grow_92f84_21 : decode cJx4a65c_grow_92f84 21 = .ok (.iload_n 1, 1) := by decide +kernel
theorem dJx4a65c_grow_92f84_22 : decode cJx4a65c_grow_92f84 22 = .ok (.iload_n 2, 1) := by decide +kernel
theorem dJx4a65c_grow_92f84_23 : decode cJx4a65c_grow_92f84 23 = .ok (.isub, 1) := by decide +kernel
theorem dJx4a65c_grow_92f84_24 : decode cJx4a65c_grow_92f84 24 = .ok (.iload_n 2, 1) := by decide +kernel
theorem dJx4a65c_grow_92f84_25 : decode cJx4a65c_grow_92f84 25 = .ok (.iconst 1, 1) := by decide +kernel
theorem dJx4a65c_grow_92f84_26 : decode cJx4a65c_grow_92f84 26 = .ok (.ishr, 1) := by decide +kernel
theorem dJx4a65c_grow_92f84_27 : decode cJx4a65c_grow_92f84 27 = .ok (.invokestatic 73, 3) := by decide +kernel
theorem dJx4a65c_grow_92f84_30 : decode cJx4a65c_grow_92f84 30 = .ok (.istore_n 3, 1) := by decide +kernel
theorem dJx4a65c_grow_92f84_31 : decode cJx4a65c_grow_92f84 31 = .ok (.aload_n 0, 1) := by decide +kernel
theorem dJx4a65c_grow_92f84_32 : decode cJx4a65c_grow_92f84 32 = .ok (.aload_n 0, 1) := by decide +kernel
theorem dJx4a65c_grow_92f84_33 : decode cJx4a65c_grow_92f84 33 = .ok (.getfield 9, 3) := by decide +kernel
theorem dJx4a65c_grow_92f84_36 : decode cJx4a65c_grow_92f84 36 = .ok (.iload_n 3, 1) := by decide +kernel
theorem dJx4a65c_grow_92f84_37 : decode cJx4a65c_grow_92f84 37 = .ok (.invokestatic 66, 3) := by decide +kernel
theorem dJx4a65c_grow_92f84_40 : decode cJx4a65c_grow_92f84 40 = .ok (.dup_x1, 1) := by decide +kernel
theorem dJx4a65c_grow_92f84_41 : decode cJx4a65c_grow_92f84 41 = .ok (.putfield 9, 3) := by decide +kernel
theorem dJx4a65c_grow_92f84_44 : decode cJx4a65c_grow_92f84 44 = .ok (.areturn, 1) := by decide +kernel
theorem dJx4a65c_grow_92f84_45 : decode cJx4a65c_grow_92f84 45 = .ok (.aload_n 0, 1) := by decide +kernel
theorem dJx4a65c_grow_92f84_46 : decode cJx4a65c_grow_92f84 46 = .ok (.bipush 10, 2) := by decide +kernel
theorem dJx4a65c_grow_92f84_48 : decode cJx4a65c_grow_92f84 48 = .ok (.iload_n 1, 1) := by decide +kernel
theorem dJx4a65c_grow_92f84_49 : decode cJx4a65c_grow_92f84 49 = .ok (.invokestatic 79, 3) := by decide +kernel
theorem dJx4a65c_grow_92f84_52 : decode cJx4a65c_grow_92f84 52 = .ok (.anewarray 7, 3) := by decide +kernel
theorem dJx4a65c_grow_92f84_55 : decode cJx4a65c_grow_92f84 55 = .ok (.dup_x1, 1) := by decide +kernel
theorem dJx4a65c_grow_92f84_56 : decode cJx4a65c_grow_92f84 56 = .ok (.putfield 9, 3) := by decide +kernel
theorem dJx4a65c_grow_92f84_59 : decode cJx4a65c_grow_92f84 59 = .ok (.areturn, 1) := by decide +kernel
theorem dJx4a65c_grow_d5877_0 : decode cJx4a65c_grow_d5877 0 = .ok (.aload_n 0, 1) := by decide +kernel
theorem dJx4a65c_grow_d5877_1 : decode cJx4a65c_grow_d5877 1 = .ok (.aload_n 0, 1) := by decide +kernel
theorem dJx4a65c_grow_d5877_2 : decode cJx4a65c_grow_d5877 2 = .ok (.getfield 48, 3) := by decide +kernel
theorem dJx4a65c_grow_d5877_5 : decode cJx4a65c_grow_d5877 5 = .ok (.iconst 1, 1) := by decide +kernel
theorem dJx4a65c_grow_d5877_6 : decode cJx4a65c_grow_d5877 6 = .ok (.iadd, 1) := by decide +kernel
theorem dJx4a65c_grow_d5877_7 : decode cJx4a65c_grow_d5877 7 = .ok (.invokevirtual 69, 3) := by decide +kernel
theorem dJx4a65c_grow_d5877_10 : decode cJx4a65c_grow_d5877 10 = .ok (.areturn, 1) := by decide +kernel
theorem dJx4a65c_size_8abf5_0 : decode cJx4a65c_size_8abf5 0 = .ok (.aload_n 0, 1) := by decide +kernel
theorem dJx4a65c_size_8abf5_1 : decode cJx4a65c_size_8abf5 1 = .ok (.getfield 48, 3) := by decide +kernel
theorem dJx4a65c_size_8abf5_4 : decode cJx4a65c_size_8abf5 4 = .ok (.ireturn, 1) := by decide +kernel
theorem dJx4a65c_elementData_915e3_0 : decode cJx4a65c_elementData_915e3 0 = .ok (.aload_n 0, 1) := by decide +kernel
theorem dJx4a65c_elementData_915e3_1 : decode cJx4a65c_elementData_915e3 1 = .ok (.getfield 9, 3) := by decide +kernel
theorem dJx4a65c_elementData_915e3_4 : decode cJx4a65c_elementData_915e3 4 = .ok (.iload_n 1, 1) := by decide +kernel
theorem dJx4a65c_elementData_915e3_5 : decode cJx4a65c_elementData_915e3 5 = .ok (.aaload, 1) := by decide +kernel
theorem dJx4a65c_elementData_915e3_6 : decode cJx4a65c_elementData_915e3 6 = .ok (.areturn, 1) := by decide +kernel
theorem dJx4a65c_get_915e3_0 : decode cJx4a65c_get_915e3 0 = .ok (.iload_n 1, 1) := by decide +kernel
theorem dJx4a65c_get_915e3_1 : decode cJx4a65c_get_915e3 1 = .ok (.aload_n 0, 1) := by decide +kernel
theorem dJx4a65c_get_915e3_2 : decode cJx4a65c_get_915e3 2 = .ok (.getfield 48, 3) := by decide +kernel
theorem dJx4a65c_get_915e3_5 : decode cJx4a65c_get_915e3 5 = .ok (.invokestatic 118, 3) := by decide +kernel
theorem dJx4a65c_get_915e3_8 : decode cJx4a65c_get_915e3 8 = .ok (.pop, 1) := by decide +kernel
theorem dJx4a65c_get_915e3_9 : decode cJx4a65c_get_915e3 9 = .ok (.aload_n 0, 1) := by decide +kernel
theorem dJx4a65c_get_915e3_10 : decode cJx4a65c_get_915e3 10 = .ok (.iload_n 1, 1) := by decide +kernel
theorem dJx4a65c_get_915e3_11 : decode cJx4a65c_get_915e3 11 = .ok (.invokevirtual 123, 3) := by decide +kernel
theorem dJx4a65c_get_915e3_14 : decode cJx4a65c_get_915e3 14 = .ok (.areturn, 1) := by decide +kernel
theorem dJx4a65c_add_72be8_0 : decode cJx4a65c_add_72be8 0 = .ok (.iload_n 3, 1) := by decide +kernel
theorem dJx4a65c_add_72be8_1 : decode cJx4a65c_add_72be8 1 = .ok (.aload_n 2, 1) := by decide +kernel
theorem dJx4a65c_add_72be8_2 : decode cJx4a65c_add_72be8 2 = .ok (.arraylength, 1) := by decide +kernel
theorem dJx4a65c_add_72be8_3 : decode cJx4a65c_add_72be8 3 = .ok (.if_icmp .ne 8, 3) := by decide +kernel
theorem dJx4a65c_add_72be8_6 : decode cJx4a65c_add_72be8 6 = .ok (.aload_n 0, 1) := by decide +kernel
theorem dJx4a65c_add_72be8_7 : decode cJx4a65c_add_72be8 7 = .ok (.invokevirtual 129, 3) := by decide +kernel
theorem dJx4a65c_add_72be8_10 : decode cJx4a65c_add_72be8 10 = .ok (.astore_n 2, 1) := by decide +kernel
theorem dJx4a65c_add_72be8_11 : decode cJx4a65c_add_72be8 11 = .ok (.aload_n 2, 1) := by decide +kernel
theorem dJx4a65c_add_72be8_12 : decode cJx4a65c_add_72be8 12 = .ok (.iload_n 3, 1) := by decide +kernel
theorem dJx4a65c_add_72be8_13 : decode cJx4a65c_add_72be8 13 = .ok (.aload_n 1, 1) := by decide +kernel
theorem dJx4a65c_add_72be8_14 : decode cJx4a65c_add_72be8 14 = .ok (.aastore, 1) := by decide +kernel
theorem dJx4a65c_add_72be8_15 : decode cJx4a65c_add_72be8 15 = .ok (.aload_n 0, 1) := by decide +kernel
theorem dJx4a65c_add_72be8_16 : decode cJx4a65c_add_72be8 16 = .ok (.iload_n 3, 1) := by decide +kernel
theorem dJx4a65c_add_72be8_17 : decode cJx4a65c_add_72be8 17 = .ok (.iconst 1, 1) := by decide +kernel
theorem dJx4a65c_add_72be8_18 : decode cJx4a65c_add_72be8 18 = .ok (.iadd, 1) := by decide +kernel
theorem dJx4a65c_add_72be8_19 : decode cJx4a65c_add_72be8 19 = .ok (.putfield 48, 3) := by decide +kernel
theorem dJx4a65c_add_72be8_22 : decode cJx4a65c_add_72be8 22 = .ok (.return_, 1) := by decide +kernel
theorem dJx4a65c_add_9ea2d_0 : decode cJx4a65c_add_9ea2d 0 = .ok (.aload_n 0, 1) := by decide +kernel
theorem dJx4a65c_add_9ea2d_1 : decode cJx4a65c_add_9ea2d 1 = .ok (.dup, 1) := by decide +kernel
theorem dJx4a65c_add_9ea2d_2 : decode cJx4a65c_add_9ea2d 2 = .ok (.getfield 63, 3) := by decide +kernel
theorem dJx4a65c_add_9ea2d_5 : decode cJx4a65c_add_9ea2d 5 = .ok (.iconst 1, 1) := by decide +kernel
theorem dJx4a65c_add_9ea2d_6 : decode cJx4a65c_add_9ea2d 6 = .ok (.iadd, 1) := by decide +kernel
theorem dJx4a65c_add_9ea2d_7 : decode cJx4a65c_add_9ea2d 7 = .ok (.putfield 63, 3) := by decide +kernel
theorem dJx4a65c_add_9ea2d_10 : decode cJx4a65c_add_9ea2d 10 = .ok (.aload_n 0, 1) := by decide +kernel
theorem dJx4a65c_add_9ea2d_11 : decode cJx4a65c_add_9ea2d 11 = .ok (.aload_n 1, 1) := by decide +kernel
theorem dJx4a65c_add_9ea2d_12 : decode cJx4a65c_add_9ea2d 12 = .ok (.aload_n 0, 1) := by decide +kernel
theorem dJx4a65c_add_9ea2d_13 : decode cJx4a65c_add_9ea2d 13 = .ok (.getfield 9, 3) := by decide +kernel
theorem dJx4a65c_add_9ea2d_16 : decode cJx4a65c_add_9ea2d 16 = .ok (.aload_n 0, 1) := by decide +kernel
theorem dJx4a65c_add_9ea2d_17 : decode cJx4a65c_add_9ea2d 17 = .ok (.getfield 48, 3) := by decide +kernel
theorem dJx4a65c_add_9ea2d_20 : decode cJx4a65c_add_9ea2d 20 = .ok (.invokevirtual 131, 3) := by decide +kernel
theorem dJx4a65c_add_9ea2d_23 : decode cJx4a65c_add_9ea2d 23 = .ok (.iconst 1, 1) := by decide +kernel
theorem dJx4a65c_add_9ea2d_24 : decode cJx4a65c_add_9ea2d 24 = .ok (.ireturn, 1) := by decide +kernel
theorem dJx4a65c_add_7a177_0 : decode cJx4a65c_add_7a177 0 = .ok (.aload_n 0, 1) := by decide +kernel
theorem dJx4a65c_add_7a177_1 : decode cJx4a65c_add_7a177 1 = .ok (.iload_n 1, 1) := by decide +kernel
theorem dJx4a65c_add_7a177_2 : decode cJx4a65c_add_7a177 2 = .ok (.invokevirtual 135, 3) := by decide +kernel
theorem dJx4a65c_add_7a177_5 : decode cJx4a65c_add_7a177 5 = .ok (.aload_n 0, 1) := by decide +kernel
theorem dJx4a65c_add_7a177_6 : decode cJx4a65c_add_7a177 6 = .ok (.dup, 1) := by decide +kernel
theorem dJx4a65c_add_7a177_7 : decode cJx4a65c_add_7a177 7 = .ok (.getfield 63, 3) := by decide +kernel
theorem dJx4a65c_add_7a177_10 : decode cJx4a65c_add_7a177 10 = .ok (.iconst 1, 1) := by decide +kernel
theorem dJx4a65c_add_7a177_11 : decode cJx4a65c_add_7a177 11 = .ok (.iadd, 1) := by decide +kernel
theorem dJx4a65c_add_7a177_12 : decode cJx4a65c_add_7a177 12 = .ok (.putfield 63, 3) := by decide +kernel
theorem dJx4a65c_add_7a177_15 : decode cJx4a65c_add_7a177 15 = .ok (.aload_n 0, 1) := by decide +kernel
theorem dJx4a65c_add_7a177_16 : decode cJx4a65c_add_7a177 16 = .ok (.getfield 48, 3) := by decide +kernel
theorem dJx4a65c_add_7a177_19 : decode cJx4a65c_add_7a177 19 = .ok (.dup, 1) := by decide +kernel
theorem dJx4a65c_add_7a177_20 : decode cJx4a65c_add_7a177 20 = .ok (.istore_n 3, 1) := by decide +kernel
theorem dJx4a65c_add_7a177_21 : decode cJx4a65c_add_7a177 21 = .ok (.aload_n 0, 1) := by decide +kernel
theorem dJx4a65c_add_7a177_22 : decode cJx4a65c_add_7a177 22 = .ok (.getfield 9, 3) := by decide +kernel
theorem dJx4a65c_add_7a177_25 : decode cJx4a65c_add_7a177 25 = .ok (.dup, 1) := by decide +kernel
theorem dJx4a65c_add_7a177_26 : decode cJx4a65c_add_7a177 26 = .ok (.astore 4, 2) := by decide +kernel
theorem dJx4a65c_add_7a177_28 : decode cJx4a65c_add_7a177 28 = .ok (.arraylength, 1) := by decide +kernel
theorem dJx4a65c_add_7a177_29 : decode cJx4a65c_add_7a177 29 = .ok (.if_icmp .ne 9, 3) := by decide +kernel
theorem dJx4a65c_add_7a177_32 : decode cJx4a65c_add_7a177 32 = .ok (.aload_n 0, 1) := by decide +kernel
theorem dJx4a65c_add_7a177_33 : decode cJx4a65c_add_7a177 33 = .ok (.invokevirtual 129, 3) := by decide +kernel
theorem dJx4a65c_add_7a177_36 : decode cJx4a65c_add_7a177 36 = .ok (.astore 4, 2) := by decide +kernel
theorem dJx4a65c_add_7a177_38 : decode cJx4a65c_add_7a177 38 = .ok (.aload 4, 2) := by decide +kernel
theorem dJx4a65c_add_7a177_40 : decode cJx4a65c_add_7a177 40 = .ok (.iload_n 1, 1) := by decide +kernel
theorem dJx4a65c_add_7a177_41 : decode cJx4a65c_add_7a177 41 = .ok (.aload 4, 2) := by decide +kernel
theorem dJx4a65c_add_7a177_43 : decode cJx4a65c_add_7a177 43 = .ok (.iload_n 1, 1) := by decide +kernel
theorem dJx4a65c_add_7a177_44 : decode cJx4a65c_add_7a177 44 = .ok (.iconst 1, 1) := by decide +kernel
theorem dJx4a65c_add_7a177_45 : decode cJx4a65c_add_7a177 45 = .ok (.iadd, 1) := by decide +kernel
theorem dJx4a65c_add_7a177_46 : decode cJx4a65c_add_7a177 46 = .ok (.iload_n 3, 1) := by decide +kernel
theorem dJx4a65c_add_7a177_47 : decode cJx4a65c_add_7a177 47 = .ok (.iload_n 1, 1) := by decide +kernel
theorem dJx4a65c_add_7a177_48 : decode cJx4a65c_add_7a177 48 = .ok (.isub, 1) := by decide +kernel
theorem dJx4a65c_add_7a177_49 : decode cJx4a65c_add_7a177 49 = .ok (.invokestatic 112, 3) := by decide +kernel
theorem dJx4a65c_add_7a177_52 : decode cJx4a65c_add_7a177 52 = .ok (.aload 4, 2) := by decide +kernel
theorem dJx4a65c_add_7a177_54 : decode cJx4a65c_add_7a177 54 = .ok (.iload_n 1, 1) := by decide +kernel
theorem dJx4a65c_add_7a177_55 : decode cJx4a65c_add_7a177 55 = .ok (.aload_n 2, 1) := by decide +kernel
theorem dJx4a65c_add_7a177_56 : decode cJx4a65c_add_7a177 56 = .ok (.aastore, 1) := by decide +kernel
theorem dJx4a65c_add_7a177_57 : decode cJx4a65c_add_7a177 57 = .ok (.aload_n 0, 1) := by decide +kernel
theorem dJx4a65c_add_7a177_58 : decode cJx4a65c_add_7a177 58 = .ok (.iload_n 3, 1) := by decide +kernel
theorem dJx4a65c_add_7a177_59 : decode cJx4a65c_add_7a177 59 = .ok (.iconst 1, 1) := by decide +kernel
theorem dJx4a65c_add_7a177_60 : decode cJx4a65c_add_7a177 60 = .ok (.iadd, 1) := by decide +kernel
theorem dJx4a65c_add_7a177_61 : decode cJx4a65c_add_7a177 61 = .ok (.putfield 48, 3) := by decide +kernel
theorem dJx4a65c_add_7a177_64 : decode cJx4a65c_add_7a177 64 = .ok (.return_, 1) := by decide +kernel
theorem dJx4a65c_remove_915e3_0 : decode cJx4a65c_remove_915e3 0 = .ok (.iload_n 1, 1) := by decide +kernel
theorem dJx4a65c_remove_915e3_1 : decode cJx4a65c_remove_915e3 1 = .ok (.aload_n 0, 1) := by decide +kernel
theorem dJx4a65c_remove_915e3_2 : decode cJx4a65c_remove_915e3 2 = .ok (.getfield 48, 3) := by decide +kernel
theorem dJx4a65c_remove_915e3_5 : decode cJx4a65c_remove_915e3 5 = .ok (.invokestatic 118, 3) := by decide +kernel
theorem dJx4a65c_remove_915e3_8 : decode cJx4a65c_remove_915e3 8 = .ok (.pop, 1) := by decide +kernel
theorem dJx4a65c_remove_915e3_9 : decode cJx4a65c_remove_915e3 9 = .ok (.aload_n 0, 1) := by decide +kernel
theorem dJx4a65c_remove_915e3_10 : decode cJx4a65c_remove_915e3 10 = .ok (.getfield 9, 3) := by decide +kernel
theorem dJx4a65c_remove_915e3_13 : decode cJx4a65c_remove_915e3 13 = .ok (.astore_n 2, 1) := by decide +kernel
theorem dJx4a65c_remove_915e3_14 : decode cJx4a65c_remove_915e3 14 = .ok (.aload_n 2, 1) := by decide +kernel
theorem dJx4a65c_remove_915e3_15 : decode cJx4a65c_remove_915e3 15 = .ok (.iload_n 1, 1) := by decide +kernel
theorem dJx4a65c_remove_915e3_16 : decode cJx4a65c_remove_915e3 16 = .ok (.aaload, 1) := by decide +kernel
theorem dJx4a65c_remove_915e3_17 : decode cJx4a65c_remove_915e3 17 = .ok (.astore_n 3, 1) := by decide +kernel
theorem dJx4a65c_remove_915e3_18 : decode cJx4a65c_remove_915e3 18 = .ok (.aload_n 0, 1) := by decide +kernel
theorem dJx4a65c_remove_915e3_19 : decode cJx4a65c_remove_915e3 19 = .ok (.aload_n 2, 1) := by decide +kernel
theorem dJx4a65c_remove_915e3_20 : decode cJx4a65c_remove_915e3 20 = .ok (.iload_n 1, 1) := by decide +kernel
theorem dJx4a65c_remove_915e3_21 : decode cJx4a65c_remove_915e3 21 = .ok (.invokevirtual 144, 3) := by decide +kernel
theorem dJx4a65c_remove_915e3_24 : decode cJx4a65c_remove_915e3 24 = .ok (.aload_n 3, 1) := by decide +kernel
theorem dJx4a65c_remove_915e3_25 : decode cJx4a65c_remove_915e3 25 = .ok (.areturn, 1) := by decide +kernel
theorem dJx4a65c_fastRemove_b59b0_0 : decode cJx4a65c_fastRemove_b59b0 0 = .ok (.aload_n 0, 1) := by decide +kernel
theorem dJx4a65c_fastRemove_b59b0_1 : decode cJx4a65c_fastRemove_b59b0 1 = .ok (.dup, 1) := by decide +kernel
theorem dJx4a65c_fastRemove_b59b0_2 : decode cJx4a65c_fastRemove_b59b0 2 = .ok (.getfield 63, 3) := by decide +kernel
theorem dJx4a65c_fastRemove_b59b0_5 : decode cJx4a65c_fastRemove_b59b0 5 = .ok (.iconst 1, 1) := by decide +kernel
theorem dJx4a65c_fastRemove_b59b0_6 : decode cJx4a65c_fastRemove_b59b0 6 = .ok (.iadd, 1) := by decide +kernel
theorem dJx4a65c_fastRemove_b59b0_7 : decode cJx4a65c_fastRemove_b59b0 7 = .ok (.putfield 63, 3) := by decide +kernel
theorem dJx4a65c_fastRemove_b59b0_10 : decode cJx4a65c_fastRemove_b59b0 10 = .ok (.aload_n 0, 1) := by decide +kernel
theorem dJx4a65c_fastRemove_b59b0_11 : decode cJx4a65c_fastRemove_b59b0 11 = .ok (.getfield 48, 3) := by decide +kernel
theorem dJx4a65c_fastRemove_b59b0_14 : decode cJx4a65c_fastRemove_b59b0 14 = .ok (.iconst 1, 1) := by decide +kernel
theorem dJx4a65c_fastRemove_b59b0_15 : decode cJx4a65c_fastRemove_b59b0 15 = .ok (.isub, 1) := by decide +kernel
theorem dJx4a65c_fastRemove_b59b0_16 : decode cJx4a65c_fastRemove_b59b0 16 = .ok (.dup, 1) := by decide +kernel
theorem dJx4a65c_fastRemove_b59b0_17 : decode cJx4a65c_fastRemove_b59b0 17 = .ok (.istore_n 3, 1) := by decide +kernel
theorem dJx4a65c_fastRemove_b59b0_18 : decode cJx4a65c_fastRemove_b59b0 18 = .ok (.iload_n 2, 1) := by decide +kernel
theorem dJx4a65c_fastRemove_b59b0_19 : decode cJx4a65c_fastRemove_b59b0 19 = .ok (.if_icmp .le 15, 3) := by decide +kernel
theorem dJx4a65c_fastRemove_b59b0_22 : decode cJx4a65c_fastRemove_b59b0 22 = .ok (.aload_n 1, 1) := by decide +kernel
theorem dJx4a65c_fastRemove_b59b0_23 : decode cJx4a65c_fastRemove_b59b0 23 = .ok (.iload_n 2, 1) := by decide +kernel
theorem dJx4a65c_fastRemove_b59b0_24 : decode cJx4a65c_fastRemove_b59b0 24 = .ok (.iconst 1, 1) := by decide +kernel
theorem dJx4a65c_fastRemove_b59b0_25 : decode cJx4a65c_fastRemove_b59b0 25 = .ok (.iadd, 1) := by decide +kernel
theorem dJx4a65c_fastRemove_b59b0_26 : decode cJx4a65c_fastRemove_b59b0 26 = .ok (.aload_n 1, 1) := by decide +kernel
theorem dJx4a65c_fastRemove_b59b0_27 : decode cJx4a65c_fastRemove_b59b0 27 = .ok (.iload_n 2, 1) := by decide +kernel
theorem dJx4a65c_fastRemove_b59b0_28 : decode cJx4a65c_fastRemove_b59b0 28 = .ok (.iload_n 3, 1) := by decide +kernel
theorem dJx4a65c_fastRemove_b59b0_29 : decode cJx4a65c_fastRemove_b59b0 29 = .ok (.iload_n 2, 1) := by decide +kernel
theorem dJx4a65c_fastRemove_b59b0_30 : decode cJx4a65c_fastRemove_b59b0 30 = .ok (.isub, 1) := by decide +kernel
theorem dJx4a65c_fastRemove_b59b0_31 : decode cJx4a65c_fastRemove_b59b0 31 = .ok (.invokestatic 112, 3) := by decide +kernel
theorem dJx4a65c_fastRemove_b59b0_34 : decode cJx4a65c_fastRemove_b59b0 34 = .ok (.aload_n 1, 1) := by decide +kernel
theorem dJx4a65c_fastRemove_b59b0_35 : decode cJx4a65c_fastRemove_b59b0 35 = .ok (.aload_n 0, 1) := by decide +kernel
theorem dJx4a65c_fastRemove_b59b0_36 : decode cJx4a65c_fastRemove_b59b0 36 = .ok (.iload_n 3, 1) := by decide +kernel
theorem dJx4a65c_fastRemove_b59b0_37 : decode cJx4a65c_fastRemove_b59b0 37 = .ok (.dup_x1, 1) := by decide +kernel
theorem dJx4a65c_fastRemove_b59b0_38 : decode cJx4a65c_fastRemove_b59b0 38 = .ok (.putfield 48, 3) := by decide +kernel
theorem dJx4a65c_fastRemove_b59b0_41 : decode cJx4a65c_fastRemove_b59b0 41 = .ok (.aconst_null, 1) := by decide +kernel
theorem dJx4a65c_fastRemove_b59b0_42 : decode cJx4a65c_fastRemove_b59b0 42 = .ok (.aastore, 1) := by decide +kernel
theorem dJx4a65c_fastRemove_b59b0_43 : decode cJx4a65c_fastRemove_b59b0 43 = .ok (.return_, 1) := by decide +kernel
theorem dJx4a65c_clear_da8c8_0 : decode cJx4a65c_clear_da8c8 0 = .ok (.aload_n 0, 1) := by decide +kernel
theorem dJx4a65c_clear_da8c8_1 : decode cJx4a65c_clear_da8c8 1 = .ok (.dup, 1) := by decide +kernel
theorem dJx4a65c_clear_da8c8_2 : decode cJx4a65c_clear_da8c8 2 = .ok (.getfield 63, 3) := by decide +kernel
theorem dJx4a65c_clear_da8c8_5 : decode cJx4a65c_clear_da8c8 5 = .ok (.iconst 1, 1) := by decide +kernel
theorem dJx4a65c_clear_da8c8_6 : decode cJx4a65c_clear_da8c8 6 = .ok (.iadd, 1) := by decide +kernel
theorem dJx4a65c_clear_da8c8_7 : decode cJx4a65c_clear_da8c8 7 = .ok (.putfield 63, 3) := by decide +kernel
theorem dJx4a65c_clear_da8c8_10 : decode cJx4a65c_clear_da8c8 10 = .ok (.aload_n 0, 1) := by decide +kernel
theorem dJx4a65c_clear_da8c8_11 : decode cJx4a65c_clear_da8c8 11 = .ok (.getfield 9, 3) := by decide +kernel
theorem dJx4a65c_clear_da8c8_14 : decode cJx4a65c_clear_da8c8 14 = .ok (.astore_n 1, 1) := by decide +kernel
theorem dJx4a65c_clear_da8c8_15 : decode cJx4a65c_clear_da8c8 15 = .ok (.aload_n 0, 1) := by decide +kernel
theorem dJx4a65c_clear_da8c8_16 : decode cJx4a65c_clear_da8c8 16 = .ok (.getfield 48, 3) := by decide +kernel
theorem dJx4a65c_clear_da8c8_19 : decode cJx4a65c_clear_da8c8 19 = .ok (.istore_n 2, 1) := by decide +kernel
theorem dJx4a65c_clear_da8c8_20 : decode cJx4a65c_clear_da8c8 20 = .ok (.aload_n 0, 1) := by decide +kernel
theorem dJx4a65c_clear_da8c8_21 : decode cJx4a65c_clear_da8c8 21 = .ok (.iconst 0, 1) := by decide +kernel
theorem dJx4a65c_clear_da8c8_22 : decode cJx4a65c_clear_da8c8 22 = .ok (.dup_x1, 1) := by decide +kernel
theorem dJx4a65c_clear_da8c8_23 : decode cJx4a65c_clear_da8c8 23 = .ok (.putfield 48, 3) := by decide +kernel
theorem dJx4a65c_clear_da8c8_26 : decode cJx4a65c_clear_da8c8 26 = .ok (.istore_n 3, 1) := by decide +kernel
theorem dJx4a65c_clear_da8c8_27 : decode cJx4a65c_clear_da8c8 27 = .ok (.iload_n 3, 1) := by decide +kernel
theorem dJx4a65c_clear_da8c8_28 : decode cJx4a65c_clear_da8c8 28 = .ok (.iload_n 2, 1) := by decide +kernel
theorem dJx4a65c_clear_da8c8_29 : decode cJx4a65c_clear_da8c8 29 = .ok (.if_icmp .ge 13, 3) := by decide +kernel
theorem dJx4a65c_clear_da8c8_32 : decode cJx4a65c_clear_da8c8 32 = .ok (.aload_n 1, 1) := by decide +kernel
theorem dJx4a65c_clear_da8c8_33 : decode cJx4a65c_clear_da8c8 33 = .ok (.iload_n 3, 1) := by decide +kernel
theorem dJx4a65c_clear_da8c8_34 : decode cJx4a65c_clear_da8c8 34 = .ok (.aconst_null, 1) := by decide +kernel
theorem dJx4a65c_clear_da8c8_35 : decode cJx4a65c_clear_da8c8 35 = .ok (.aastore, 1) := by decide +kernel
theorem dJx4a65c_clear_da8c8_36 : decode cJx4a65c_clear_da8c8 36 = .ok (.iinc 3 1, 3) := by decide +kernel
theorem dJx4a65c_clear_da8c8_39 : decode cJx4a65c_clear_da8c8 39 = .ok (.goto (-12), 3) := by decide +kernel
theorem dJx4a65c_clear_da8c8_42 : decode cJx4a65c_clear_da8c8 42 = .ok (.return_, 1) := by decide +kernel
theorem dJx4a65c_rangeCheckForAdd_d00df_0 : decode cJx4a65c_rangeCheckForAdd_d00df 0 = .ok (.iload_n 1, 1) := by decide +kernel
theorem dJx4a65c_rangeCheckForAdd_d00df_1 : decode cJx4a65c_rangeCheckForAdd_d00df 1 = .ok (.aload_n 0, 1) := by decide +kernel
theorem dJx4a65c_rangeCheckForAdd_d00df_2 : decode cJx4a65c_rangeCheckForAdd_d00df 2 = .ok (.getfield 48, 3) := by decide +kernel
theorem dJx4a65c_rangeCheckForAdd_d00df_5 : decode cJx4a65c_rangeCheckForAdd_d00df 5 = .ok (.if_icmp .gt 7, 3) := by decide +kernel
theorem dJx4a65c_rangeCheckForAdd_d00df_8 : decode cJx4a65c_rangeCheckForAdd_d00df 8 = .ok (.iload_n 1, 1) := by decide +kernel
theorem dJx4a65c_rangeCheckForAdd_d00df_9 : decode cJx4a65c_rangeCheckForAdd_d00df 9 = .ok (.ifCond .ge 16, 3) := by decide +kernel
theorem dJx4a65c_rangeCheckForAdd_d00df_12 : decode cJx4a65c_rangeCheckForAdd_d00df 12 = .ok (.new 187, 3) := by decide +kernel
theorem dJx4a65c_rangeCheckForAdd_d00df_15 : decode cJx4a65c_rangeCheckForAdd_d00df 15 = .ok (.dup, 1) := by decide +kernel
theorem dJx4a65c_rangeCheckForAdd_d00df_16 : decode cJx4a65c_rangeCheckForAdd_d00df 16 = .ok (.aload_n 0, 1) := by decide +kernel
theorem dJx4a65c_rangeCheckForAdd_d00df_17 : decode cJx4a65c_rangeCheckForAdd_d00df 17 = .ok (.iload_n 1, 1) := by decide +kernel
theorem dJx4a65c_rangeCheckForAdd_d00df_18 : decode cJx4a65c_rangeCheckForAdd_d00df 18 = .ok (.invokevirtual 198, 3) := by decide +kernel
theorem dJx4a65c_rangeCheckForAdd_d00df_21 : decode cJx4a65c_rangeCheckForAdd_d00df 21 = .ok (.invokespecial 193, 3) := by decide +kernel
theorem dJx4a65c_rangeCheckForAdd_d00df_24 : decode cJx4a65c_rangeCheckForAdd_d00df 24 = .ok (.athrow, 1) := by decide +kernel
theorem dJx4a65c_rangeCheckForAdd_d00df_25 : decode cJx4a65c_rangeCheckForAdd_d00df 25 = .ok (.return_, 1) := by decide +kernel
theorem dJx4a65c_outOfBoundsMsg_b52d3_0 : decode cJx4a65c_outOfBoundsMsg_b52d3 0 = .ok (.new 20, 3) := by decide +kernel
theorem dJx4a65c_outOfBoundsMsg_b52d3_3 : decode cJx4a65c_outOfBoundsMsg_b52d3 3 = .ok (.dup, 1) := by decide +kernel
theorem dJx4a65c_outOfBoundsMsg_b52d3_4 : decode cJx4a65c_outOfBoundsMsg_b52d3 4 = .ok (.invokespecial 22, 3) := by decide +kernel
theorem dJx4a65c_outOfBoundsMsg_b52d3_7 : decode cJx4a65c_outOfBoundsMsg_b52d3 7 = .ok (.ldc 201, 2) := by decide +kernel
theorem dJx4a65c_outOfBoundsMsg_b52d3_9 : decode cJx4a65c_outOfBoundsMsg_b52d3 9 = .ok (.invokevirtual 25, 3) := by decide +kernel
theorem dJx4a65c_outOfBoundsMsg_b52d3_12 : decode cJx4a65c_outOfBoundsMsg_b52d3 12 = .ok (.iload_n 1, 1) := by decide +kernel
theorem dJx4a65c_outOfBoundsMsg_b52d3_13 : decode cJx4a65c_outOfBoundsMsg_b52d3 13 = .ok (.invokevirtual 29, 3) := by decide +kernel
theorem dJx4a65c_outOfBoundsMsg_b52d3_16 : decode cJx4a65c_outOfBoundsMsg_b52d3 16 = .ok (.ldc 203, 2) := by decide +kernel
theorem dJx4a65c_outOfBoundsMsg_b52d3_18 : decode cJx4a65c_outOfBoundsMsg_b52d3 18 = .ok (.invokevirtual 25, 3) := by decide +kernel
theorem dJx4a65c_outOfBoundsMsg_b52d3_21 : decode cJx4a65c_outOfBoundsMsg_b52d3 21 = .ok (.aload_n 0, 1) := by decide +kernel
theorem dJx4a65c_outOfBoundsMsg_b52d3_22 : decode cJx4a65c_outOfBoundsMsg_b52d3 22 = .ok (.getfield 48, 3) := by decide +kernel
theorem dJx4a65c_outOfBoundsMsg_b52d3_25 : decode cJx4a65c_outOfBoundsMsg_b52d3 25 = .ok (.invokevirtual 29, 3) := by decide +kernel
theorem dJx4a65c_outOfBoundsMsg_b52d3_28 : decode cJx4a65c_outOfBoundsMsg_b52d3 28 = .ok (.invokevirtual 32, 3) := by decide +kernel
theorem dJx4a65c_outOfBoundsMsg_b52d3_31 : decode cJx4a65c_outOfBoundsMsg_b52d3 31 = .ok (.areturn, 1) := by decide +kernel
theorem dJ7_copyOf_1904c_0 : decode cJ7_copyOf_1904c 0 = .ok (.aload_n 0, 1) := by decide +kernel
theorem dJ7_copyOf_1904c_1 : decode cJ7_copyOf_1904c 1 = .ok (.iload_n 1, 1) := by decide +kernel
theorem dJ7_copyOf_1904c_2 : decode cJ7_copyOf_1904c 2 = .ok (.aload_n 0, 1) := by decide +kernel
theorem dJ7_copyOf_1904c_3 : decode cJ7_copyOf_1904c 3 = .ok (.invokevirtual 86, 3) := by decide +kernel
theorem dJ7_copyOf_1904c_6 : decode cJ7_copyOf_1904c 6 = .ok (.invokestatic 300, 3) := by decide +kernel
theorem dJ7_copyOf_1904c_9 : decode cJ7_copyOf_1904c 9 = .ok (.areturn, 1) := by decide +kernel
theorem dJ7_copyOf_6403c_0 : decode cJ7_copyOf_6403c 0 = .ok (.aload_n 2, 1) := by decide +kernel
theorem dJ7_copyOf_6403c_1 : decode cJ7_copyOf_6403c 1 = .ok (.ldc 110, 2) := by decide +kernel
theorem dJ7_copyOf_6403c_3 : decode cJ7_copyOf_6403c 3 = .ok (.if_acmp .ne 10, 3) := by decide +kernel
theorem dJ7_copyOf_6403c_6 : decode cJ7_copyOf_6403c 6 = .ok (.iload_n 1, 1) := by decide +kernel
theorem dJ7_copyOf_6403c_7 : decode cJ7_copyOf_6403c 7 = .ok (.anewarray 2, 3) := by decide +kernel
theorem dJ7_copyOf_6403c_10 : decode cJ7_copyOf_6403c 10 = .ok (.goto 14, 3) := by decide +kernel
theorem dJ7_copyOf_6403c_13 : decode cJ7_copyOf_6403c 13 = .ok (.aload_n 2, 1) := by decide +kernel
theorem dJ7_copyOf_6403c_14 : decode cJ7_copyOf_6403c 14 = .ok (.invokevirtual 90, 3) := by decide +kernel
theorem dJ7_copyOf_6403c_17 : decode cJ7_copyOf_6403c 17 = .ok (.iload_n 1, 1) := by decide +kernel
theorem dJ7_copyOf_6403c_18 : decode cJ7_copyOf_6403c 18 = .ok (.invokestatic 95, 3) := by decide +kernel
theorem dJ7_copyOf_6403c_21 : decode cJ7_copyOf_6403c 21 = .ok (.checkcast 110, 3) := by decide +kernel
theorem dJ7_copyOf_6403c_24 : decode cJ7_copyOf_6403c 24 = .ok (.astore_n 3, 1) := by decide +kernel
theorem dJ7_copyOf_6403c_25 : decode cJ7_copyOf_6403c 25 = .ok (.aload_n 0, 1) := by decide +kernel
theorem dJ7_copyOf_6403c_26 : decode cJ7_copyOf_6403c 26 = .ok (.iconst 0, 1) := by decide +kernel
theorem dJ7_copyOf_6403c_27 : decode cJ7_copyOf_6403c 27 = .ok (.aload_n 3, 1) := by decide +kernel
theorem dJ7_copyOf_6403c_28 : decode cJ7_copyOf_6403c 28 = .ok (.iconst 0, 1) := by decide +kernel
theorem dJ7_copyOf_6403c_29 : decode cJ7_copyOf_6403c 29 = .ok (.aload_n 0, 1) := by decide +kernel
theorem dJ7_copyOf_6403c_30 : decode cJ7_copyOf_6403c 30 = .ok (.arraylength, 1) := by decide +kernel
theorem dJ7_copyOf_6403c_31 : decode cJ7_copyOf_6403c 31 = .ok (.iload_n 1, 1) := by decide +kernel
theorem dJ7_copyOf_6403c_32 : decode cJ7_copyOf_6403c 32 = .ok (.invokestatic 304, 3) := by decide +kernel
theorem dJ7_copyOf_6403c_35 : decode cJ7_copyOf_6403c 35 = .ok (.invokestatic 150, 3) := by decide +kernel
theorem dJ7_copyOf_6403c_38 : decode cJ7_copyOf_6403c 38 = .ok (.aload_n 3, 1) := by decide +kernel
theorem dJ7_copyOf_6403c_39 : decode cJ7_copyOf_6403c 39 = .ok (.areturn, 1) := by decide +kernel
theorem dJ7_copyOf_9075b_0 : decode cJ7_copyOf_9075b 0 = .ok (.iload_n 1, 1) := by decide +kernel
theorem dJ7_copyOf_9075b_1 : decode cJ7_copyOf_9075b 1 = .ok (.aload_n 0, 1) := by decide +kernel
theorem dJ7_copyOf_9075b_2 : decode cJ7_copyOf_9075b 2 = .ok (.arraylength, 1) := by decide +kernel
theorem dJ7_copyOf_9075b_3 : decode cJ7_copyOf_9075b 3 = .ok (.if_icmp .ne 11, 3) := by decide +kernel
theorem dJ7_copyOf_9075b_6 : decode cJ7_copyOf_9075b 6 = .ok (.aload_n 0, 1) := by decide +kernel
theorem dJ7_copyOf_9075b_7 : decode cJ7_copyOf_9075b 7 = .ok (.invokevirtual 310, 3) := by decide +kernel
theorem dJ7_copyOf_9075b_10 : decode cJ7_copyOf_9075b 10 = .ok (.checkcast 311, 3) := by decide +kernel
theorem dJ7_copyOf_9075b_13 : decode cJ7_copyOf_9075b 13 = .ok (.areturn, 1) := by decide +kernel
theorem dJ7_copyOf_9075b_14 : decode cJ7_copyOf_9075b 14 = .ok (.iload_n 1, 1) := by decide +kernel
theorem dJ7_copyOf_9075b_15 : decode cJ7_copyOf_9075b 15 = .ok (.newarray .byte, 2) := by decide +kernel
theorem dJ7_copyOf_9075b_17 : decode cJ7_copyOf_9075b 17 = .ok (.astore_n 2, 1) := by decide +kernel
theorem dJ7_copyOf_9075b_18 : decode cJ7_copyOf_9075b 18 = .ok (.aload_n 0, 1) := by decide +kernel
theorem dJ7_copyOf_9075b_19 : decode cJ7_copyOf_9075b 19 = .ok (.iconst 0, 1) := by decide +kernel
theorem dJ7_copyOf_9075b_20 : decode cJ7_copyOf_9075b 20 = .ok (.aload_n 2, 1) := by decide +kernel
theorem dJ7_copyOf_9075b_21 : decode cJ7_copyOf_9075b 21 = .ok (.iconst 0, 1) := by decide +kernel
theorem dJ7_copyOf_9075b_22 : decode cJ7_copyOf_9075b 22 = .ok (.aload_n 0, 1) := by decide +kernel
theorem dJ7_copyOf_9075b_23 : decode cJ7_copyOf_9075b 23 = .ok (.arraylength, 1) := by decide +kernel
theorem dJ7_copyOf_9075b_24 : decode cJ7_copyOf_9075b 24 = .ok (.iload_n 1, 1) := by decide +kernel
theorem dJ7_copyOf_9075b_25 : decode cJ7_copyOf_9075b 25 = .ok (.invokestatic 304, 3) := by decide +kernel
theorem dJ7_copyOf_9075b_28 : decode cJ7_copyOf_9075b 28 = .ok (.invokestatic 150, 3) := by decide +kernel
theorem dJ7_copyOf_9075b_31 : decode cJ7_copyOf_9075b 31 = .ok (.aload_n 2, 1) := by decide +kernel
theorem dJ7_copyOf_9075b_32 : decode cJ7_copyOf_9075b 32 = .ok (.areturn, 1) := by decide +kernel
theorem dJ7_checkLength_df160_0 : decode cJ7_checkLength_df160 0 = .ok (.iload_n 1, 1) := by decide +kernel
theorem dJ7_checkLength_df160_1 : decode cJ7_checkLength_df160 1 = .ok (.iload_n 0, 1) := by decide +kernel
theorem dJ7_checkLength_df160_2 : decode cJ7_checkLength_df160 2 = .ok (.if_icmp .ge 35, 3) := by decide +kernel
theorem dJ7_checkLength_df160_5 : decode cJ7_checkLength_df160 5 = .ok (.new 43, 3) := by decide +kernel
theorem dJ7_checkLength_df160_8 : decode cJ7_checkLength_df160 8 = .ok (.dup, 1) := by decide +kernel
theorem dJ7_checkLength_df160_9 : decode cJ7_checkLength_df160 9 = .ok (.new 45, 3) := by decide +kernel
theorem dJ7_checkLength_df160_12 : decode cJ7_checkLength_df160 12 = .ok (.dup, 1) := by decide +kernel
theorem dJ7_checkLength_df160_13 : decode cJ7_checkLength_df160 13 = .ok (.invokespecial 47, 3) := by decide +kernel
theorem dJ7_checkLength_df160_16 : decode cJ7_checkLength_df160 16 = .ok (.iload_n 0, 1) := by decide +kernel
theorem dJ7_checkLength_df160_17 : decode cJ7_checkLength_df160 17 = .ok (.invokevirtual 54, 3) := by decide +kernel
theorem dJ7_checkLength_df160_20 : decode cJ7_checkLength_df160 20 = .ok (.ldc_w 337, 3) := by decide +kernel
theorem dJ7_checkLength_df160_23 : decode cJ7_checkLength_df160 23 = .ok (.invokevirtual 50, 3) := by decide +kernel
theorem dJ7_checkLength_df160_26 : decode cJ7_checkLength_df160 26 = .ok (.iload_n 1, 1) := by decide +kernel
theorem dJ7_checkLength_df160_27 : decode cJ7_checkLength_df160 27 = .ok (.invokevirtual 54, 3) := by decide +kernel
theorem dJ7_checkLength_df160_30 : decode cJ7_checkLength_df160 30 = .ok (.invokevirtual 61, 3) := by decide +kernel
theorem dJ7_checkLength_df160_33 : decode cJ7_checkLength_df160 33 = .ok (.invokespecial 65, 3) := by decide +kernel
theorem dJ7_checkLength_df160_36 : decode cJ7_checkLength_df160 36 = .ok (.athrow, 1) := by decide +kernel
theorem dJ7_checkLength_df160_37 : decode cJ7_checkLength_df160 37 = .ok (.return_, 1) := by decide +kernel
theorem dJ7_copyOfRange_39247_0 : decode cJ7_copyOfRange_39247 0 = .ok (.iload_n 1, 1) := by decide +kernel
theorem dJ7_copyOfRange_39247_1 : decode cJ7_copyOfRange_39247 1 = .ok (.ifCond .ne 9, 3) := by decide +kernel
theorem dJ7_copyOfRange_39247_4 : decode cJ7_copyOfRange_39247 4 = .ok (.iload_n 2, 1) := by decide +kernel
theorem dJ7_copyOfRange_39247_5 : decode cJ7_copyOfRange_39247 5 = .ok (.aload_n 0, 1) := by decide +kernel
theorem dJ7_copyOfRange_39247_6 : decode cJ7_copyOfRange_39247 6 = .ok (.arraylength, 1) := by decide +kernel
theorem dJ7_copyOfRange_39247_7 : decode cJ7_copyOfRange_39247 7 = .ok (.if_icmp .eq 10, 3) := by decide +kernel
theorem dJ7_copyOfRange_39247_10 : decode cJ7_copyOfRange_39247 10 = .ok (.aload_n 0, 1) := by decide +kernel
theorem dJ7_copyOfRange_39247_11 : decode cJ7_copyOfRange_39247 11 = .ok (.iload_n 1, 1) := by decide +kernel
theorem dJ7_copyOfRange_39247_12 : decode cJ7_copyOfRange_39247 12 = .ok (.iload_n 2, 1) := by decide +kernel
theorem dJ7_copyOfRange_39247_13 : decode cJ7_copyOfRange_39247 13 = .ok (.invokestatic 339, 3) := by decide +kernel
theorem dJ7_copyOfRange_39247_16 : decode cJ7_copyOfRange_39247 16 = .ok (.areturn, 1) := by decide +kernel
theorem dJ7_copyOfRange_39247_17 : decode cJ7_copyOfRange_39247 17 = .ok (.aload_n 0, 1) := by decide +kernel
theorem dJ7_copyOfRange_39247_18 : decode cJ7_copyOfRange_39247 18 = .ok (.invokevirtual 310, 3) := by decide +kernel
theorem dJ7_copyOfRange_39247_21 : decode cJ7_copyOfRange_39247 21 = .ok (.checkcast 311, 3) := by decide +kernel
theorem dJ7_copyOfRange_39247_24 : decode cJ7_copyOfRange_39247 24 = .ok (.areturn, 1) := by decide +kernel
theorem dJ7_copyOfRangeByte_39247_0 : decode cJ7_copyOfRangeByte_39247 0 = .ok (.iload_n 1, 1) := by decide +kernel
theorem dJ7_copyOfRangeByte_39247_1 : decode cJ7_copyOfRangeByte_39247 1 = .ok (.iload_n 2, 1) := by decide +kernel
theorem dJ7_copyOfRangeByte_39247_2 : decode cJ7_copyOfRangeByte_39247 2 = .ok (.invokestatic 343, 3) := by decide +kernel
theorem dJ7_copyOfRangeByte_39247_5 : decode cJ7_copyOfRangeByte_39247 5 = .ok (.iload_n 2, 1) := by decide +kernel
theorem dJ7_copyOfRangeByte_39247_6 : decode cJ7_copyOfRangeByte_39247 6 = .ok (.iload_n 1, 1) := by decide +kernel
theorem dJ7_copyOfRangeByte_39247_7 : decode cJ7_copyOfRangeByte_39247 7 = .ok (.isub, 1) := by decide +kernel
theorem dJ7_copyOfRangeByte_39247_8 : decode cJ7_copyOfRangeByte_39247 8 = .ok (.istore_n 3, 1) := by decide +kernel
theorem dJ7_copyOfRangeByte_39247_9 : decode cJ7_copyOfRangeByte_39247 9 = .ok (.iload_n 3, 1) := by decide +kernel
theorem dJ7_copyOfRangeByte_39247_10 : decode cJ7_copyOfRangeByte_39247 10 = .ok (.newarray .byte, 2) := by decide +kernel
theorem dJ7_copyOfRangeByte_39247_12 : decode cJ7_copyOfRangeByte_39247 12 = .ok (.astore 4, 2) := by decide +kernel
theorem dJ7_copyOfRangeByte_39247_14 : decode cJ7_copyOfRangeByte_39247 14 = .ok (.aload_n 0, 1) := by decide +kernel
theorem dJ7_copyOfRangeByte_39247_15 : decode cJ7_copyOfRangeByte_39247 15 = .ok (.iload_n 1, 1) := by decide +kernel
theorem dJ7_copyOfRangeByte_39247_16 : decode cJ7_copyOfRangeByte_39247 16 = .ok (.aload 4, 2) := by decide +kernel
theorem dJ7_copyOfRangeByte_39247_18 : decode cJ7_copyOfRangeByte_39247 18 = .ok (.iconst 0, 1) := by decide +kernel
theorem dJ7_copyOfRangeByte_39247_19 : decode cJ7_copyOfRangeByte_39247 19 = .ok (.aload_n 0, 1) := by decide +kernel
theorem dJ7_copyOfRangeByte_39247_20 : decode cJ7_copyOfRangeByte_39247 20 = .ok (.arraylength, 1) := by decide +kernel
theorem dJ7_copyOfRangeByte_39247_21 : decode cJ7_copyOfRangeByte_39247 21 = .ok (.iload_n 1, 1) := by decide +kernel
theorem dJ7_copyOfRangeByte_39247_22 : decode cJ7_copyOfRangeByte_39247 22 = .ok (.isub, 1) := by decide +kernel
theorem dJ7_copyOfRangeByte_39247_23 : decode cJ7_copyOfRangeByte_39247 23 = .ok (.iload_n 3, 1) := by decide +kernel
theorem dJ7_copyOfRangeByte_39247_24 : decode cJ7_copyOfRangeByte_39247 24 = .ok (.invokestatic 304, 3) := by decide +kernel
theorem dJ7_copyOfRangeByte_39247_27 : decode cJ7_copyOfRangeByte_39247 27 = .ok (.invokestatic 150, 3) := by decide +kernel
theorem dJ7_copyOfRangeByte_39247_30 : decode cJ7_copyOfRangeByte_39247 30 = .ok (.aload 4, 2) := by decide +kernel
theorem dJ7_copyOfRangeByte_39247_32 : decode cJ7_copyOfRangeByte_39247 32 = .ok (.areturn, 1) := by decide +kernel
theorem dJ15_checkIndex_7cf53_0 : decode cJ15_checkIndex_7cf53 0 = .ok (.iload_n 0, 1) := by decide +kernel
theorem dJ15_checkIndex_7cf53_1 : decode cJ15_checkIndex_7cf53 1 = .ok (.iload_n 1, 1) := by decide +kernel
theorem dJ15_checkIndex_7cf53_2 : decode cJ15_checkIndex_7cf53 2 = .ok (.aconst_null, 1) := by decide +kernel
theorem dJ15_checkIndex_7cf53_3 : decode cJ15_checkIndex_7cf53 3 = .ok (.invokestatic 105, 3) := by decide +kernel
theorem dJ15_checkIndex_7cf53_6 : decode cJ15_checkIndex_7cf53 6 = .ok (.ireturn, 1) := by decide +kernel
theorem dJ8_newLength_cabcc_0 : decode cJ8_newLength_cabcc 0 = .ok (.iload_n 0, 1) := by decide +kernel
theorem dJ8_newLength_cabcc_1 : decode cJ8_newLength_cabcc 1 = .ok (.iload_n 1, 1) := by decide +kernel
theorem dJ8_newLength_cabcc_2 : decode cJ8_newLength_cabcc 2 = .ok (.iload_n 2, 1) := by decide +kernel
theorem dJ8_newLength_cabcc_3 : decode cJ8_newLength_cabcc 3 = .ok (.invokestatic 194, 3) := by decide +kernel
theorem dJ8_newLength_cabcc_6 : decode cJ8_newLength_cabcc 6 = .ok (.iadd, 1) := by decide +kernel
theorem dJ8_newLength_cabcc_7 : decode cJ8_newLength_cabcc 7 = .ok (.istore_n 3, 1) := by decide +kernel
theorem dJ8_newLength_cabcc_8 : decode cJ8_newLength_cabcc 8 = .ok (.iconst 0, 1) := by decide +kernel
theorem dJ8_newLength_cabcc_9 : decode cJ8_newLength_cabcc 9 = .ok (.iload_n 3, 1) := by decide +kernel
theorem dJ8_newLength_cabcc_10 : decode cJ8_newLength_cabcc 10 = .ok (.if_icmp .ge 11, 3) := by decide +kernel
theorem dJ8_newLength_cabcc_13 : decode cJ8_newLength_cabcc 13 = .ok (.iload_n 3, 1) := by decide +kernel
theorem dJ8_newLength_cabcc_14 : decode cJ8_newLength_cabcc 14 = .ok (.ldc 200, 2) := by decide +kernel
theorem dJ8_newLength_cabcc_16 : decode cJ8_newLength_cabcc 16 = .ok (.if_icmp .gt 5, 3) := by decide +kernel
theorem dJ8_newLength_cabcc_19 : decode cJ8_newLength_cabcc 19 = .ok (.iload_n 3, 1) := by decide +kernel
theorem dJ8_newLength_cabcc_20 : decode cJ8_newLength_cabcc 20 = .ok (.ireturn, 1) := by decide +kernel
theorem dJ8_newLength_cabcc_21 : decode cJ8_newLength_cabcc 21 = .ok (.iload_n 0, 1) := by decide +kernel
theorem dJ8_newLength_cabcc_22 : decode cJ8_newLength_cabcc 22 = .ok (.iload_n 1, 1) := by decide +kernel
theorem dJ8_newLength_cabcc_23 : decode cJ8_newLength_cabcc 23 = .ok (.invokestatic 201, 3) := by decide +kernel
theorem dJ8_newLength_cabcc_26 : decode cJ8_newLength_cabcc 26 = .ok (.ireturn, 1) := by decide +kernel
theorem dJ8_hugeLength_7cf53_0 : decode cJ8_hugeLength_7cf53 0 = .ok (.iload_n 0, 1) := by decide +kernel
theorem dJ8_hugeLength_7cf53_1 : decode cJ8_hugeLength_7cf53 1 = .ok (.iload_n 1, 1) := by decide +kernel
theorem dJ8_hugeLength_7cf53_2 : decode cJ8_hugeLength_7cf53 2 = .ok (.iadd, 1) := by decide +kernel
theorem dJ8_hugeLength_7cf53_3 : decode cJ8_hugeLength_7cf53 3 = .ok (.istore_n 2, 1) := by decide +kernel
theorem dJ8_hugeLength_7cf53_4 : decode cJ8_hugeLength_7cf53 4 = .ok (.iload_n 2, 1) := by decide +kernel
theorem dJ8_hugeLength_7cf53_5 : decode cJ8_hugeLength_7cf53 5 = .ok (.ifCond .ge 44, 3) := by decide +kernel
theorem dJ8_hugeLength_7cf53_8 : decode cJ8_hugeLength_7cf53 8 = .ok (.new 204, 3) := by decide +kernel
theorem dJ8_hugeLength_7cf53_11 : decode cJ8_hugeLength_7cf53 11 = .ok (.dup, 1) := by decide +kernel
theorem dJ8_hugeLength_7cf53_12 : decode cJ8_hugeLength_7cf53 12 = .ok (.new 89, 3) := by decide +kernel
theorem dJ8_hugeLength_7cf53_15 : decode cJ8_hugeLength_7cf53 15 = .ok (.dup, 1) := by decide +kernel
theorem dJ8_hugeLength_7cf53_16 : decode cJ8_hugeLength_7cf53 16 = .ok (.invokespecial 91, 3) := by decide +kernel
theorem dJ8_hugeLength_7cf53_19 : decode cJ8_hugeLength_7cf53 19 = .ok (.ldc 206, 2) := by decide +kernel
theorem dJ8_hugeLength_7cf53_21 : decode cJ8_hugeLength_7cf53 21 = .ok (.invokevirtual 94, 3) := by decide +kernel
theorem dJ8_hugeLength_7cf53_24 : decode cJ8_hugeLength_7cf53 24 = .ok (.iload_n 0, 1) := by decide +kernel
theorem dJ8_hugeLength_7cf53_25 : decode cJ8_hugeLength_7cf53 25 = .ok (.invokevirtual 98, 3) := by decide +kernel
theorem dJ8_hugeLength_7cf53_28 : decode cJ8_hugeLength_7cf53 28 = .ok (.ldc 208, 2) := by decide +kernel
theorem dJ8_hugeLength_7cf53_30 : decode cJ8_hugeLength_7cf53 30 = .ok (.invokevirtual 94, 3) := by decide +kernel
theorem dJ8_hugeLength_7cf53_33 : decode cJ8_hugeLength_7cf53 33 = .ok (.iload_n 1, 1) := by decide +kernel
theorem dJ8_hugeLength_7cf53_34 : decode cJ8_hugeLength_7cf53 34 = .ok (.invokevirtual 98, 3) := by decide +kernel
theorem dJ8_hugeLength_7cf53_37 : decode cJ8_hugeLength_7cf53 37 = .ok (.ldc 210, 2) := by decide +kernel
theorem dJ8_hugeLength_7cf53_39 : decode cJ8_hugeLength_7cf53 39 = .ok (.invokevirtual 94, 3) := by decide +kernel
theorem dJ8_hugeLength_7cf53_42 : decode cJ8_hugeLength_7cf53 42 = .ok (.invokevirtual 101, 3) := by decide +kernel
theorem dJ8_hugeLength_7cf53_45 : decode cJ8_hugeLength_7cf53 45 = .ok (.invokespecial 212, 3) := by decide +kernel
theorem dJ8_hugeLength_7cf53_48 : decode cJ8_hugeLength_7cf53 48 = .ok (.athrow, 1) := by decide +kernel
theorem dJ8_hugeLength_7cf53_49 : decode cJ8_hugeLength_7cf53 49 = .ok (.iload_n 2, 1) := by decide +kernel
theorem dJ8_hugeLength_7cf53_50 : decode cJ8_hugeLength_7cf53 50 = .ok (.ldc 200, 2) := by decide +kernel
theorem dJ8_hugeLength_7cf53_52 : decode cJ8_hugeLength_7cf53 52 = .ok (.if_icmp .gt 6, 3) := by decide +kernel
theorem dJ8_hugeLength_7cf53_55 : decode cJ8_hugeLength_7cf53 55 = .ok (.ldc 200, 2) := by decide +kernel
theorem dJ8_hugeLength_7cf53_57 : decode cJ8_hugeLength_7cf53 57 = .ok (.ireturn, 1) := by decide +kernel
theorem dJ8_hugeLength_7cf53_58 : decode cJ8_hugeLength_7cf53 58 = .ok (.iload_n 2, 1) := by decide +kernel
theorem dJ8_hugeLength_7cf53_59 : decode cJ8_hugeLength_7cf53 59 = .ok (.ireturn, 1) := by decide +kernel
theorem dJ3_checkIndex_8e157_0 : decode cJ3_checkIndex_8e157 0 = .ok (.iload_n 0, 1) := by decide +kernel
theorem dJ3_checkIndex_8e157_1 : decode cJ3_checkIndex_8e157 1 = .ok (.ifCond .lt 8, 3) := by decide +kernel
theorem dJ3_checkIndex_8e157_4 : decode cJ3_checkIndex_8e157 4 = .ok (.iload_n 0, 1) := by decide +kernel
theorem dJ3_checkIndex_8e157_5 : decode cJ3_checkIndex_8e157 5 = .ok (.iload_n 1, 1) := by decide +kernel
theorem dJ3_checkIndex_8e157_6 : decode cJ3_checkIndex_8e157 6 = .ok (.if_icmp .lt 10, 3) := by decide +kernel
theorem dJ3_checkIndex_8e157_9 : decode cJ3_checkIndex_8e157 9 = .ok (.aload_n 2, 1) := by decide +kernel
theorem dJ3_checkIndex_8e157_10 : decode cJ3_checkIndex_8e157 10 = .ok (.iload_n 0, 1) := by decide +kernel
theorem dJ3_checkIndex_8e157_11 : decode cJ3_checkIndex_8e157 11 = .ok (.iload_n 1, 1) := by decide +kernel
theorem dJ3_checkIndex_8e157_12 : decode cJ3_checkIndex_8e157 12 = .ok (.invokestatic 95, 3) := by decide +kernel
theorem dJ3_checkIndex_8e157_15 : decode cJ3_checkIndex_8e157 15 = .ok (.athrow, 1) := by decide +kernel
theorem dJ3_checkIndex_8e157_16 : decode cJ3_checkIndex_8e157 16 = .ok (.iload_n 0, 1) := by decide +kernel
theorem dJ3_checkIndex_8e157_17 : decode cJ3_checkIndex_8e157 17 = .ok (.ireturn, 1) := by decide +kernel
theorem dJ3_checkFromToIndex_8c36e_0 : decode cJ3_checkFromToIndex_8c36e 0 = .ok (.iload_n 0, 1) := by decide +kernel
theorem dJ3_checkFromToIndex_8c36e_1 : decode cJ3_checkFromToIndex_8c36e 1 = .ok (.ifCond .lt 13, 3) := by decide +kernel
theorem dJ3_checkFromToIndex_8c36e_4 : decode cJ3_checkFromToIndex_8c36e 4 = .ok (.iload_n 0, 1) := by decide +kernel
theorem dJ3_checkFromToIndex_8c36e_5 : decode cJ3_checkFromToIndex_8c36e 5 = .ok (.iload_n 1, 1) := by decide +kernel
theorem dJ3_checkFromToIndex_8c36e_6 : decode cJ3_checkFromToIndex_8c36e 6 = .ok (.if_icmp .gt 8, 3) := by decide +kernel
theorem dJ3_checkFromToIndex_8c36e_9 : decode cJ3_checkFromToIndex_8c36e 9 = .ok (.iload_n 1, 1) := by decide +kernel
theorem dJ3_checkFromToIndex_8c36e_10 : decode cJ3_checkFromToIndex_8c36e 10 = .ok (.iload_n 2, 1) := by decide +kernel
theorem dJ3_checkFromToIndex_8c36e_11 : decode cJ3_checkFromToIndex_8c36e 11 = .ok (.if_icmp .le 11, 3) := by decide +kernel
theorem dJ3_checkFromToIndex_8c36e_14 : decode cJ3_checkFromToIndex_8c36e 14 = .ok (.aload_n 3, 1) := by decide +kernel
theorem dJ3_checkFromToIndex_8c36e_15 : decode cJ3_checkFromToIndex_8c36e 15 = .ok (.iload_n 0, 1) := by decide +kernel
theorem dJ3_checkFromToIndex_8c36e_16 : decode cJ3_checkFromToIndex_8c36e 16 = .ok (.iload_n 1, 1) := by decide +kernel
theorem dJ3_checkFromToIndex_8c36e_17 : decode cJ3_checkFromToIndex_8c36e 17 = .ok (.iload_n 2, 1) := by decide +kernel
theorem dJ3_checkFromToIndex_8c36e_18 : decode cJ3_checkFromToIndex_8c36e 18 = .ok (.invokestatic 99, 3) := by decide +kernel
theorem dJ3_checkFromToIndex_8c36e_21 : decode cJ3_checkFromToIndex_8c36e 21 = .ok (.athrow, 1) := by decide +kernel
theorem dJ3_checkFromToIndex_8c36e_22 : decode cJ3_checkFromToIndex_8c36e 22 = .ok (.iload_n 0, 1) := by decide +kernel
theorem dJ3_checkFromToIndex_8c36e_23 : decode cJ3_checkFromToIndex_8c36e 23 = .ok (.ireturn, 1) := by decide +kernel
theorem dJ3_checkFromIndexSize_8c36e_0 : decode cJ3_checkFromIndexSize_8c36e 0 = .ok (.iload_n 2, 1) := by decide +kernel
theorem dJ3_checkFromIndexSize_8c36e_1 : decode cJ3_checkFromIndexSize_8c36e 1 = .ok (.iload_n 0, 1) := by decide +kernel
theorem dJ3_checkFromIndexSize_8c36e_2 : decode cJ3_checkFromIndexSize_8c36e 2 = .ok (.ior, 1) := by decide +kernel
theorem dJ3_checkFromIndexSize_8c36e_3 : decode cJ3_checkFromIndexSize_8c36e 3 = .ok (.iload_n 1, 1) := by decide +kernel
theorem dJ3_checkFromIndexSize_8c36e_4 : decode cJ3_checkFromIndexSize_8c36e 4 = .ok (.ior, 1) := by decide +kernel
theorem dJ3_checkFromIndexSize_8c36e_5 : decode cJ3_checkFromIndexSize_8c36e 5 = .ok (.ifCond .lt 10, 3) := by decide +kernel
theorem dJ3_checkFromIndexSize_8c36e_8 : decode cJ3_checkFromIndexSize_8c36e 8 = .ok (.iload_n 1, 1) := by decide +kernel
theorem dJ3_checkFromIndexSize_8c36e_9 : decode cJ3_checkFromIndexSize_8c36e 9 = .ok (.iload_n 2, 1) := by decide +kernel
theorem dJ3_checkFromIndexSize_8c36e_10 : decode cJ3_checkFromIndexSize_8c36e 10 = .ok (.iload_n 0, 1) := by decide +kernel
theorem dJ3_checkFromIndexSize_8c36e_11 : decode cJ3_checkFromIndexSize_8c36e 11 = .ok (.isub, 1) := by decide +kernel
theorem dJ3_checkFromIndexSize_8c36e_12 : decode cJ3_checkFromIndexSize_8c36e 12 = .ok (.if_icmp .le 11, 3) := by decide +kernel
theorem dJ3_checkFromIndexSize_8c36e_15 : decode cJ3_checkFromIndexSize_8c36e 15 = .ok (.aload_n 3, 1) := by decide +kernel
theorem dJ3_checkFromIndexSize_8c36e_16 : decode cJ3_checkFromIndexSize_8c36e 16 = .ok (.iload_n 0, 1) := by decide +kernel
theorem dJ3_checkFromIndexSize_8c36e_17 : decode cJ3_checkFromIndexSize_8c36e 17 = .ok (.iload_n 1, 1) := by decide +kernel
theorem dJ3_checkFromIndexSize_8c36e_18 : decode cJ3_checkFromIndexSize_8c36e 18 = .ok (.iload_n 2, 1) := by decide +kernel
theorem dJ3_checkFromIndexSize_8c36e_19 : decode cJ3_checkFromIndexSize_8c36e 19 = .ok (.invokestatic 103, 3) := by decide +kernel
theorem dJ3_checkFromIndexSize_8c36e_22 : decode cJ3_checkFromIndexSize_8c36e 22 = .ok (.athrow, 1) := by decide +kernel
theorem dJ3_checkFromIndexSize_8c36e_23 : decode cJ3_checkFromIndexSize_8c36e 23 = .ok (.iload_n 0, 1) := by decide +kernel
theorem dJ3_checkFromIndexSize_8c36e_24 : decode cJ3_checkFromIndexSize_8c36e 24 = .ok (.ireturn, 1) := by decide +kernel
