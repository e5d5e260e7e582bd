theorem dX9_meanMoves_74 : decode cX9_meanMoves 74 = .ok (.dup, 1) := by decide +kernel
theorem dX9_meanMoves_75 : decode cX9_meanMoves 75 = .ok (.ldc_w 312, 3) := by decide +kernel
theorem dX9_meanMoves_78 : decode cX9_meanMoves 78 = .ok (.invokespecial 314, 3) := by decide +kernel
theorem dX9_meanMoves_81 : decode cX9_meanMoves 81 = .ok (.athrow, 1) := by decide +kernel
theorem dX9_meanMoves_82 : decode cX9_meanMoves 82 = .ok (.iload_n 1, 1) := by decide +kernel
theorem dX9_meanMoves_83 : decode cX9_meanMoves 83 = .ok (.i2d, 1) := by decide +kernel
theorem dX9_meanMoves_84 : decode cX9_meanMoves 84 = .ok (.iload_n 2, 1) := by decide +kernel
theorem dX9_meanMoves_85 : decode cX9_meanMoves 85 = .ok (.i2d, 1) := by decide +kernel
theorem dX9_meanMoves_86 : decode cX9_meanMoves 86 = .ok (.ddiv, 1) := by decide +kernel
theorem dX9_meanMoves_87 : decode cX9_meanMoves 87 = .ok (.dreturn, 1) := by decide +kernel
theorem dX9_drawn_0 : decode cX9_drawn 0 = .ok (.aload_n 0, 1) := by decide +kernel
theorem dX9_drawn_1 : decode cX9_drawn 1 = .ok (.getfield 39, 3) := by decide +kernel
theorem dX9_drawn_4 : decode cX9_drawn 4 = .ok (.aload_n 0, 1) := by decide +kernel
theorem dX9_drawn_5 : decode cX9_drawn 5 = .ok (.getfield 10, 3) := by decide +kernel
theorem dX9_drawn_8 : decode cX9_drawn 8 = .ok (.getfield 138, 3) := by decide +kernel
theorem dX9_drawn_11 : decode cX9_drawn 11 = .ok (.invokevirtual 182, 3) := by decide +kernel
theorem dX9_drawn_14 : decode cX9_drawn 14 = .ok (.aload_n 0, 1) := by decide +kernel
theorem dX9_drawn_15 : decode cX9_drawn 15 = .ok (.getfield 39, 3) := by decide +kernel
theorem dX9_drawn_18 : decode cX9_drawn 18 = .ok (.getfield 228, 3) := by decide +kernel
theorem dX9_drawn_21 : decode cX9_drawn 21 = .ok (.ifCond .ne 14, 3) := by decide +kernel
theorem dX9_drawn_24 : decode cX9_drawn 24 = .ok (.new 310, 3) := by decide +kernel
theorem dX9_drawn_27 : decode cX9_drawn 27 = .ok (.dup, 1) := by decide +kernel
theorem dX9_drawn_28 : decode cX9_drawn 28 = .ok (.ldc_w 315, 3) := by decide +kernel
theorem dX9_drawn_31 : decode cX9_drawn 31 = .ok (.invokespecial 314, 3) := by decide +kernel
theorem dX9_drawn_34 : decode cX9_drawn 34 = .ok (.athrow, 1) := by decide +kernel
theorem dX9_drawn_35 : decode cX9_drawn 35 = .ok (.aload_n 0, 1) := by decide +kernel
theorem dX9_drawn_36 : decode cX9_drawn 36 = .ok (.iconst (-1), 1) := by decide +kernel
theorem dX9_drawn_37 : decode cX9_drawn 37 = .ok (.invokevirtual 238, 3) := by decide +kernel
theorem dX9_drawn_40 : decode cX9_drawn 40 = .ok (.i2f, 1) := by decide +kernel
theorem dX9_drawn_41 : decode cX9_drawn 41 = .ok (.aload_n 0, 1) := by decide +kernel
theorem dX9_drawn_42 : decode cX9_drawn 42 = .ok (.getfield 39, 3) := by decide +kernel
theorem dX9_drawn_45 : decode cX9_drawn 45 = .ok (.getfield 228, 3) := by decide +kernel
theorem dX9_drawn_48 : decode cX9_drawn 48 = .ok (.i2f, 1) := by decide +kernel
theorem dX9_drawn_49 : decode cX9_drawn 49 = .ok (.fdiv, 1) := by decide +kernel
theorem dX9_drawn_50 : decode cX9_drawn 50 = .ok (.freturn, 1) := by decide +kernel
theorem dX9_account_0 : decode cX9_account 0 = .ok (.iload_n 1, 1) := by decide +kernel
theorem dX9_account_1 : decode cX9_account 1 = .ok (.ifCond .lt 9, 3) := by decide +kernel
theorem dX9_account_4 : decode cX9_account 4 = .ok (.iload_n 1, 1) := by decide +kernel
theorem dX9_account_5 : decode cX9_account 5 = .ok (.bipush 10, 2) := by decide +kernel
theorem dX9_account_7 : decode cX9_account 7 = .ok (.if_icmp .le 14, 3) := by decide +kernel
theorem dX9_account_10 : decode cX9_account 10 = .ok (.new 151, 3) := by decide +kernel
theorem dX9_account_13 : decode cX9_account 13 = .ok (.dup, 1) := by decide +kernel
theorem dX9_account_14 : decode cX9_account 14 = .ok (.ldc_w 317, 3) := by decide +kernel
theorem dX9_account_17 : decode cX9_account 17 = .ok (.invokespecial 155, 3) := by decide +kernel
theorem dX9_account_20 : decode cX9_account 20 = .ok (.athrow, 1) := by decide +kernel
theorem dX9_account_21 : decode cX9_account 21 = .ok (.iload_n 1, 1) := by decide +kernel
theorem dX9_account_22 : decode cX9_account 22 = .ok (.tableswitch 157 0 10 #[58, 69, 80, 94, 157, 157, 157, 105, 133, 141, 149], 58) := by decide +kernel
theorem dX9_account_80 : decode cX9_account 80 = .ok (.aload_n 0, 1) := by decide +kernel
theorem dX9_account_81 : decode cX9_account 81 = .ok (.getfield 10, 3) := by decide +kernel
theorem dX9_account_84 : decode cX9_account 84 = .ok (.getfield 138, 3) := by decide +kernel
theorem dX9_account_87 : decode cX9_account 87 = .ok (.getfield 265, 3) := by decide +kernel
theorem dX9_account_90 : decode cX9_account 90 = .ok (.ireturn, 1) := by decide +kernel
theorem dX9_account_91 : decode cX9_account 91 = .ok (.aload_n 0, 1) := by decide +kernel
theorem dX9_account_92 : decode cX9_account 92 = .ok (.getfield 10, 3) := by decide +kernel
theorem dX9_account_95 : decode cX9_account 95 = .ok (.getfield 138, 3) := by decide +kernel
theorem dX9_account_98 : decode cX9_account 98 = .ok (.getfield 299, 3) := by decide +kernel
theorem dX9_account_101 : decode cX9_account 101 = .ok (.ireturn, 1) := by decide +kernel
theorem dX9_account_102 : decode cX9_account 102 = .ok (.aload_n 0, 1) := by decide +kernel
theorem dX9_account_103 : decode cX9_account 103 = .ok (.getfield 10, 3) := by decide +kernel
theorem dX9_account_106 : decode cX9_account 106 = .ok (.getfield 138, 3) := by decide +kernel
theorem dX9_account_109 : decode cX9_account 109 = .ok (.getfield 319, 3) := by decide +kernel
theorem dX9_account_112 : decode cX9_account 112 = .ok (.invokestatic 286, 3) := by decide +kernel
theorem dX9_account_115 : decode cX9_account 115 = .ok (.ireturn, 1) := by decide +kernel
theorem dX9_account_116 : decode cX9_account 116 = .ok (.aload_n 0, 1) := by decide +kernel
theorem dX9_account_117 : decode cX9_account 117 = .ok (.getfield 10, 3) := by decide +kernel
theorem dX9_account_120 : decode cX9_account 120 = .ok (.getfield 138, 3) := by decide +kernel
theorem dX9_account_123 : decode cX9_account 123 = .ok (.getfield 322, 3) := by decide +kernel
theorem dX9_account_126 : decode cX9_account 126 = .ok (.ireturn, 1) := by decide +kernel
theorem dX9_account_127 : decode cX9_account 127 = .ok (.aload_n 0, 1) := by decide +kernel
theorem dX9_account_128 : decode cX9_account 128 = .ok (.getfield 10, 3) := by decide +kernel
theorem dX9_account_131 : decode cX9_account 131 = .ok (.getfield 118, 3) := by decide +kernel
theorem dX9_account_134 : decode cX9_account 134 = .ok (.getfield 122, 3) := by decide +kernel
theorem dX9_account_137 : decode cX9_account 137 = .ok (.ifCond .eq 16, 3) := by decide +kernel
theorem dX9_account_140 : decode cX9_account 140 = .ok (.aload_n 0, 1) := by decide +kernel
theorem dX9_account_141 : decode cX9_account 141 = .ok (.getfield 10, 3) := by decide +kernel
theorem dX9_account_144 : decode cX9_account 144 = .ok (.getfield 118, 3) := by decide +kernel
theorem dX9_account_147 : decode cX9_account 147 = .ok (.getfield 325, 3) := by decide +kernel
theorem dX9_account_150 : decode cX9_account 150 = .ok (.goto 4, 3) := by decide +kernel
theorem dX9_account_153 : decode cX9_account 153 = .ok (.iconst (-1), 1) := by decide +kernel
theorem dX9_account_154 : decode cX9_account 154 = .ok (.ireturn, 1) := by decide +kernel
theorem dX9_account_155 : decode cX9_account 155 = .ok (.aload_n 0, 1) := by decide +kernel
theorem dX9_account_156 : decode cX9_account 156 = .ok (.getfield 10, 3) := by decide +kernel
theorem dX9_account_159 : decode cX9_account 159 = .ok (.getfield 328, 3) := by decide +kernel
theorem dX9_account_162 : decode cX9_account 162 = .ok (.ireturn, 1) := by decide +kernel
theorem dX9_account_163 : decode cX9_account 163 = .ok (.aload_n 0, 1) := by decide +kernel
theorem dX9_account_164 : decode cX9_account 164 = .ok (.getfield 25, 3) := by decide +kernel
theorem dX9_account_167 : decode cX9_account 167 = .ok (.getfield 331, 3) := by decide +kernel
theorem dX9_account_170 : decode cX9_account 170 = .ok (.ireturn, 1) := by decide +kernel
theorem dX9_account_171 : decode cX9_account 171 = .ok (.aload_n 0, 1) := by decide +kernel
theorem dX9_account_172 : decode cX9_account 172 = .ok (.getfield 56, 3) := by decide +kernel
theorem dX9_account_175 : decode cX9_account 175 = .ok (.getfield 333, 3) := by decide +kernel
theorem dX9_account_178 : decode cX9_account 178 = .ok (.ireturn, 1) := by decide +kernel
theorem dX9_account_179 : decode cX9_account 179 = .ok (.aload_n 0, 1) := by decide +kernel
theorem dX9_account_180 : decode cX9_account 180 = .ok (.iload_n 1, 1) := by decide +kernel
theorem dX9_account_181 : decode cX9_account 181 = .ok (.invokevirtual 336, 3) := by decide +kernel
theorem dX9_account_184 : decode cX9_account 184 = .ok (.ireturn, 1) := by decide +kernel
theorem dX9_append_0 : decode cX9_append 0 = .ok (.aload_n 0, 1) := by decide +kernel
theorem dX9_append_1 : decode cX9_append 1 = .ok (.getfield 56, 3) := by decide +kernel
theorem dX9_append_4 : decode cX9_append 4 = .ok (.getfield 333, 3) := by decide +kernel
theorem dX9_append_7 : decode cX9_append 7 = .ok (.bipush 60, 2) := by decide +kernel
theorem dX9_append_9 : decode cX9_append 9 = .ok (.if_icmp .lt 14, 3) := by decide +kernel
theorem dX9_append_12 : decode cX9_append 12 = .ok (.new 339, 3) := by decide +kernel
theorem dX9_append_15 : decode cX9_append 15 = .ok (.dup, 1) := by decide +kernel
theorem dX9_append_16 : decode cX9_append 16 = .ok (.ldc_w 341, 3) := by decide +kernel
theorem dX9_append_19 : decode cX9_append 19 = .ok (.invokespecial 343, 3) := by decide +kernel
theorem dX9_append_22 : decode cX9_append 22 = .ok (.athrow, 1) := by decide +kernel
theorem dX9_append_23 : decode cX9_append 23 = .ok (.aload_n 0, 1) := by decide +kernel
theorem dX9_append_24 : decode cX9_append 24 = .ok (.getfield 56, 3) := by decide +kernel
theorem dX9_append_27 : decode cX9_append 27 = .ok (.iload_n 1, 1) := by decide +kernel
theorem dX9_append_28 : decode cX9_append 28 = .ok (.invokevirtual 344, 3) := by decide +kernel
theorem dX9_append_31 : decode cX9_append 31 = .ok (.aload_n 0, 1) := by decide +kernel
theorem dX9_append_32 : decode cX9_append 32 = .ok (.getfield 56, 3) := by decide +kernel
theorem dX9_append_35 : decode cX9_append 35 = .ok (.getfield 333, 3) := by decide +kernel
theorem dX9_append_38 : decode cX9_append 38 = .ok (.ireturn, 1) := by decide +kernel
theorem dX9_commands_0 : decode cX9_commands 0 = .ok (.aload_n 0, 1) := by decide +kernel
theorem dX9_commands_1 : decode cX9_commands 1 = .ok (.aload_n 0, 1) := by decide +kernel
theorem dX9_commands_2 : decode cX9_commands 2 = .ok (.getfield 66, 3) := by decide +kernel
theorem dX9_commands_5 : decode cX9_commands 5 = .ok (.aload_n 0, 1) := by decide +kernel
theorem dX9_commands_6 : decode cX9_commands 6 = .ok (.getfield 56, 3) := by decide +kernel
theorem dX9_commands_9 : decode cX9_commands 9 = .ok (.invokevirtual 348, 3) := by decide +kernel
theorem dX9_commands_12 : decode cX9_commands 12 = .ok (.putfield 77, 3) := by decide +kernel
theorem dX9_commands_15 : decode cX9_commands 15 = .ok (.aload_n 0, 1) := by decide +kernel
theorem dX9_commands_16 : decode cX9_commands 16 = .ok (.getfield 56, 3) := by decide +kernel
theorem dX9_commands_19 : decode cX9_commands 19 = .ok (.iconst 0, 1) := by decide +kernel
theorem dX9_commands_20 : decode cX9_commands 20 = .ok (.putfield 333, 3) := by decide +kernel
theorem dX9_commands_23 : decode cX9_commands 23 = .ok (.aload_n 0, 1) := by decide +kernel
theorem dX9_commands_24 : decode cX9_commands 24 = .ok (.getfield 77, 3) := by decide +kernel
theorem dX9_commands_27 : decode cX9_commands 27 = .ok (.iconst (-1), 1) := by decide +kernel
theorem dX9_commands_28 : decode cX9_commands 28 = .ok (.if_icmp .eq 14, 3) := by decide +kernel
theorem dX9_commands_31 : decode cX9_commands 31 = .ok (.new 151, 3) := by decide +kernel
theorem dX9_commands_34 : decode cX9_commands 34 = .ok (.dup, 1) := by decide +kernel
theorem dX9_commands_35 : decode cX9_commands 35 = .ok (.ldc_w 352, 3) := by decide +kernel
theorem dX9_commands_38 : decode cX9_commands 38 = .ok (.invokespecial 155, 3) := by decide +kernel
theorem dX9_commands_41 : decode cX9_commands 41 = .ok (.athrow, 1) := by decide +kernel
theorem dX9_commands_42 : decode cX9_commands 42 = .ok (.aload_n 0, 1) := by decide +kernel
theorem dX9_commands_43 : decode cX9_commands 43 = .ok (.invokevirtual 81, 3) := by decide +kernel
theorem dX9_commands_46 : decode cX9_commands 46 = .ok (.aload_n 0, 1) := by decide +kernel
theorem dX9_commands_47 : decode cX9_commands 47 = .ok (.getfield 66, 3) := by decide +kernel
theorem dX9_commands_50 : decode cX9_commands 50 = .ok (.getfield 354, 3) := by decide +kernel
theorem dX9_commands_53 : decode cX9_commands 53 = .ok (.istore_n 1, 1) := by decide +kernel
theorem dX9_commands_54 : decode cX9_commands 54 = .ok (.iconst 0, 1) := by decide +kernel
theorem dX9_commands_55 : decode cX9_commands 55 = .ok (.istore_n 2, 1) := by decide +kernel
theorem dX9_commands_56 : decode cX9_commands 56 = .ok (.iload_n 2, 1) := by decide +kernel
theorem dX9_commands_57 : decode cX9_commands 57 = .ok (.aload_n 0, 1) := by decide +kernel
theorem dX9_commands_58 : decode cX9_commands 58 = .ok (.getfield 66, 3) := by decide +kernel
theorem dX9_commands_61 : decode cX9_commands 61 = .ok (.getfield 354, 3) := by decide +kernel
theorem dX9_commands_64 : decode cX9_commands 64 = .ok (.if_icmp .ge 30, 3) := by decide +kernel
theorem dX9_commands_67 : decode cX9_commands 67 = .ok (.iload_n 1, 1) := by decide +kernel
theorem dX9_commands_68 : decode cX9_commands 68 = .ok (.iconst (-1), 1) := by decide +kernel
theorem dX9_commands_69 : decode cX9_commands 69 = .ok (.if_icmp .eq 25, 3) := by decide +kernel
theorem dX9_commands_72 : decode cX9_commands 72 = .ok (.aload_n 0, 1) := by decide +kernel
theorem dX9_commands_73 : decode cX9_commands 73 = .ok (.iload_n 2, 1) := by decide +kernel
theorem dX9_commands_74 : decode cX9_commands 74 = .ok (.putfield 357, 3) := by decide +kernel
theorem dX9_commands_77 : decode cX9_commands 77 = .ok (.aload_n 0, 1) := by decide +kernel
theorem dX9_commands_78 : decode cX9_commands 78 = .ok (.iload_n 2, 1) := by decide +kernel
theorem dX9_commands_79 : decode cX9_commands 79 = .ok (.invokevirtual 360, 3) := by decide +kernel
theorem dX9_commands_82 : decode cX9_commands 82 = .ok (.iconst (-1), 1) := by decide +kernel
theorem dX9_commands_83 : decode cX9_commands 83 = .ok (.if_icmp .ne 5, 3) := by decide +kernel
theorem dX9_commands_86 : decode cX9_commands 86 = .ok (.iconst (-1), 1) := by decide +kernel
theorem dX9_commands_87 : decode cX9_commands 87 = .ok (.istore_n 1, 1) := by decide +kernel
theorem dX9_commands_88 : decode cX9_commands 88 = .ok (.iinc 2 1, 3) := by decide +kernel
theorem dX9_commands_91 : decode cX9_commands 91 = .ok (.goto (-35), 3) := by decide +kernel
theorem dX9_commands_94 : decode cX9_commands 94 = .ok (.aload_n 0, 1) := by decide +kernel
theorem dX9_commands_95 : decode cX9_commands 95 = .ok (.iconst 0, 1) := by decide +kernel
theorem dX9_commands_96 : decode cX9_commands 96 = .ok (.putfield 357, 3) := by decide +kernel
theorem dX9_commands_99 : decode cX9_commands 99 = .ok (.aload_n 0, 1) := by decide +kernel
theorem dX9_commands_100 : decode cX9_commands 100 = .ok (.iload_n 1, 1) := by decide +kernel
theorem dX9_commands_101 : decode cX9_commands 101 = .ok (.invokevirtual 88, 3) := by decide +kernel
theorem dX9_commands_104 : decode cX9_commands 104 = .ok (.ireturn, 1) := by decide +kernel
theorem dX9_faultPosition_0 : decode cX9_faultPosition 0 = .ok (.aload_n 0, 1) := by decide +kernel
theorem dX9_faultPosition_1 : decode cX9_faultPosition 1 = .ok (.getfield 77, 3) := by decide +kernel
theorem dX9_faultPosition_4 : decode cX9_faultPosition 4 = .ok (.ireturn, 1) := by decide +kernel
theorem dX9_reason_0 : decode cX9_reason 0 = .ok (.iload_n 1, 1) := by decide +kernel
theorem dX9_reason_1 : decode cX9_reason 1 = .ok (.ifCond .lt 8, 3) := by decide +kernel
theorem dX9_reason_4 : decode cX9_reason 4 = .ok (.iload_n 1, 1) := by decide +kernel
theorem dX9_reason_5 : decode cX9_reason 5 = .ok (.iconst 2, 1) := by decide +kernel
theorem dX9_reason_6 : decode cX9_reason 6 = .ok (.if_icmp .le 14, 3) := by decide +kernel
theorem dX9_reason_9 : decode cX9_reason 9 = .ok (.new 151, 3) := by decide +kernel
theorem dX9_reason_12 : decode cX9_reason 12 = .ok (.dup, 1) := by decide +kernel
theorem dX9_reason_13 : decode cX9_reason 13 = .ok (.ldc_w 363, 3) := by decide +kernel
theorem dX9_reason_16 : decode cX9_reason 16 = .ok (.invokespecial 155, 3) := by decide +kernel
theorem dX9_reason_19 : decode cX9_reason 19 = .ok (.athrow, 1) := by decide +kernel
theorem dX9_reason_20 : decode cX9_reason 20 = .ok (.aload_n 0, 1) := by decide +kernel
theorem dX9_reason_21 : decode cX9_reason 21 = .ok (.getfield 73, 3) := by decide +kernel
theorem dX9_reason_24 : decode cX9_reason 24 = .ok (.getfield 365, 3) := by decide +kernel
theorem dX9_reason_27 : decode cX9_reason 27 = .ok (.ifCond .ne 14, 3) := by decide +kernel
theorem dX9_reason_30 : decode cX9_reason 30 = .ok (.new 128, 3) := by decide +kernel
theorem dX9_reason_33 : decode cX9_reason 33 = .ok (.dup, 1) := by decide +kernel
theorem dX9_reason_34 : decode cX9_reason 34 = .ok (.ldc_w 368, 3) := by decide +kernel
theorem dX9_reason_37 : decode cX9_reason 37 = .ok (.invokespecial 132, 3) := by decide +kernel
theorem dX9_reason_40 : decode cX9_reason 40 = .ok (.athrow, 1) := by decide +kernel
theorem dX9_reason_41 : decode cX9_reason 41 = .ok (.iload_n 1, 1) := by decide +kernel
theorem dX9_reason_42 : decode cX9_reason 42 = .ok (.ifCond .ne 11, 3) := by decide +kernel
theorem dX9_reason_45 : decode cX9_reason 45 = .ok (.aload_n 0, 1) := by decide +kernel
theorem dX9_reason_46 : decode cX9_reason 46 = .ok (.getfield 73, 3) := by decide +kernel
theorem dX9_reason_49 : decode cX9_reason 49 = .ok (.getfield 370, 3) := by decide +kernel
theorem dX9_reason_52 : decode cX9_reason 52 = .ok (.ireturn, 1) := by decide +kernel
theorem dX9_reason_53 : decode cX9_reason 53 = .ok (.iload_n 1, 1) := by decide +kernel
theorem dX9_reason_54 : decode cX9_reason 54 = .ok (.iconst 1, 1) := by decide +kernel
theorem dX9_reason_55 : decode cX9_reason 55 = .ok (.if_icmp .ne 13, 3) := by decide +kernel
theorem dX9_reason_58 : decode cX9_reason 58 = .ok (.aload_n 0, 1) := by decide +kernel
theorem dX9_reason_59 : decode cX9_reason 59 = .ok (.getfield 73, 3) := by decide +kernel
theorem dX9_reason_62 : decode cX9_reason 62 = .ok (.getfield 373, 3) := by decide +kernel
theorem dX9_reason_65 : decode cX9_reason 65 = .ok (.goto 10, 3) := by decide +kernel
theorem dX9_reason_68 : decode cX9_reason 68 = .ok (.aload_n 0, 1) := by decide +kernel
theorem dX9_reason_69 : decode cX9_reason 69 = .ok (.getfield 73, 3) := by decide +kernel
theorem dX9_reason_72 : decode cX9_reason 72 = .ok (.getfield 376, 3) := by decide +kernel
theorem dX9_reason_75 : decode cX9_reason 75 = .ok (.ireturn, 1) := by decide +kernel
theorem dX9_line_0 : decode cX9_line 0 = .ok (.aload_n 0, 1) := by decide +kernel
theorem dX9_line_1 : decode cX9_line 1 = .ok (.getfield 60, 3) := by decide +kernel
theorem dX9_line_4 : decode cX9_line 4 = .ok (.iconst 0, 1) := by decide +kernel
theorem dX9_line_5 : decode cX9_line 5 = .ok (.putfield 333, 3) := by decide +kernel
theorem dX9_line_8 : decode cX9_line 8 = .ok (.aload_n 0, 1) := by decide +kernel
theorem dX9_line_9 : decode cX9_line 9 = .ok (.getfield 10, 3) := by decide +kernel
theorem dX9_line_12 : decode cX9_line 12 = .ok (.getfield 118, 3) := by decide +kernel
theorem dX9_line_15 : decode cX9_line 15 = .ok (.astore_n 1, 1) := by decide +kernel
theorem dX9_line_16 : decode cX9_line 16 = .ok (.aload_n 1, 1) := by decide +kernel
theorem dX9_line_17 : decode cX9_line 17 = .ok (.getfield 122, 3) := by decide +kernel
theorem dX9_line_20 : decode cX9_line 20 = .ok (.ifCond .eq 10, 3) := by decide +kernel
theorem dX9_line_23 : decode cX9_line 23 = .ok (.aload_n 1, 1) := by decide +kernel
theorem dX9_line_24 : decode cX9_line 24 = .ok (.getfield 325, 3) := by decide +kernel
theorem dX9_line_27 : decode cX9_line 27 = .ok (.goto 4, 3) := by decide +kernel
theorem dX9_line_30 : decode cX9_line 30 = .ok (.iconst 0, 1) := by decide +kernel
theorem dX9_line_31 : decode cX9_line 31 = .ok (.istore_n 2, 1) := by decide +kernel
theorem dX9_line_32 : decode cX9_line 32 = .ok (.iconst 0, 1) := by decide +kernel
theorem dX9_line_33 : decode cX9_line 33 = .ok (.istore_n 3, 1) := by decide +kernel
theorem dX9_line_34 : decode cX9_line 34 = .ok (.iload_n 3, 1) := by decide +kernel
theorem dX9_line_35 : decode cX9_line 35 = .ok (.iload_n 2, 1) := by decide +kernel
theorem dX9_line_36 : decode cX9_line 36 = .ok (.if_icmp .ge 105, 3) := by decide +kernel
theorem dX9_line_39 : decode cX9_line 39 = .ok (.iload_n 3, 1) := by decide +kernel
theorem dX9_line_40 : decode cX9_line 40 = .ok (.ifCond .le 12, 3) := by decide +kernel
theorem dX9_line_43 : decode cX9_line 43 = .ok (.aload_n 0, 1) := by decide +kernel
theorem dX9_line_44 : decode cX9_line 44 = .ok (.getfield 60, 3) := by decide +kernel
theorem dX9_line_47 : decode cX9_line 47 = .ok (.bipush 32, 2) := by decide +kernel
theorem dX9_line_49 : decode cX9_line 49 = .ok (.invokevirtual 344, 3) := by decide +kernel
theorem dX9_line_52 : decode cX9_line 52 = .ok (.aload_n 1, 1) := by decide +kernel
theorem dX9_line_53 : decode cX9_line 53 = .ok (.getfield 377, 3) := by decide +kernel
theorem dX9_line_56 : decode cX9_line 56 = .ok (.iload_n 3, 1) := by decide +kernel
theorem dX9_line_57 : decode cX9_line 57 = .ok (.invokestatic 282, 3) := by decide +kernel
theorem dX9_line_60 : decode cX9_line 60 = .ok (.istore 4, 2) := by decide +kernel
theorem dX9_line_62 : decode cX9_line 62 = .ok (.aload_n 1, 1) := by decide +kernel
theorem dX9_line_63 : decode cX9_line 63 = .ok (.getfield 380, 3) := by decide +kernel
theorem dX9_line_66 : decode cX9_line 66 = .ok (.iload_n 3, 1) := by decide +kernel
theorem dX9_line_67 : decode cX9_line 67 = .ok (.invokestatic 282, 3) := by decide +kernel
theorem dX9_line_70 : decode cX9_line 70 = .ok (.invokestatic 169, 3) := by decide +kernel
theorem dX9_line_73 : decode cX9_line 73 = .ok (.iconst 1, 1) := by decide +kernel
theorem dX9_line_74 : decode cX9_line 74 = .ok (.if_icmp .ne 7, 3) := by decide +kernel
theorem dX9_line_77 : decode cX9_line 77 = .ok (.iconst 1, 1) := by decide +kernel
theorem dX9_line_78 : decode cX9_line 78 = .ok (.goto 4, 3) := by decide +kernel
theorem dX9_line_81 : decode cX9_line 81 = .ok (.iconst 0, 1) := by decide +kernel
theorem dX9_line_82 : decode cX9_line 82 = .ok (.istore 5, 2) := by decide +kernel
theorem dX9_line_84 : decode cX9_line 84 = .ok (.aload_n 0, 1) := by decide +kernel
theorem dX9_line_85 : decode cX9_line 85 = .ok (.getfield 60, 3) := by decide +kernel
theorem dX9_line_88 : decode cX9_line 88 = .ok (.bipush 48, 2) := by decide +kernel
theorem dX9_line_90 : decode cX9_line 90 = .ok (.iload 4, 2) := by decide +kernel
theorem dX9_line_92 : decode cX9_line 92 = .ok (.invokestatic 206, 3) := by decide +kernel
theorem dX9_line_95 : decode cX9_line 95 = .ok (.iadd, 1) := by decide +kernel
theorem dX9_line_96 : decode cX9_line 96 = .ok (.i2c, 1) := by decide +kernel
theorem dX9_line_97 : decode cX9_line 97 = .ok (.invokevirtual 344, 3) := by decide +kernel
theorem dX9_line_100 : decode cX9_line 100 = .ok (.aload_n 0, 1) := by decide +kernel
theorem dX9_line_101 : decode cX9_line 101 = .ok (.getfield 60, 3) := by decide +kernel
theorem dX9_line_104 : decode cX9_line 104 = .ok (.iload 5, 2) := by decide +kernel
theorem dX9_line_106 : decode cX9_line 106 = .ok (.ifCond .eq 8, 3) := by decide +kernel
theorem dX9_line_109 : decode cX9_line 109 = .ok (.bipush 103, 2) := by decide +kernel
theorem dX9_line_111 : decode cX9_line 111 = .ok (.goto 5, 3) := by decide +kernel
theorem dX9_line_114 : decode cX9_line 114 = .ok (.bipush 102, 2) := by decide +kernel
theorem dX9_line_116 : decode cX9_line 116 = .ok (.invokevirtual 344, 3) := by decide +kernel
theorem dX9_line_119 : decode cX9_line 119 = .ok (.aload_n 0, 1) := by decide +kernel
theorem dX9_line_120 : decode cX9_line 120 = .ok (.getfield 60, 3) := by decide +kernel
theorem dX9_line_123 : decode cX9_line 123 = .ok (.bipush 48, 2) := by decide +kernel
theorem dX9_line_125 : decode cX9_line 125 = .ok (.iload 4, 2) := by decide +kernel
theorem dX9_line_127 : decode cX9_line 127 = .ok (.invokestatic 203, 3) := by decide +kernel
theorem dX9_line_130 : decode cX9_line 130 = .ok (.iadd, 1) := by decide +kernel
theorem dX9_line_131 : decode cX9_line 131 = .ok (.i2c, 1) := by decide +kernel
theorem dX9_line_132 : decode cX9_line 132 = .ok (.invokevirtual 344, 3) := by decide +kernel
theorem dX9_line_135 : decode cX9_line 135 = .ok (.iinc 3 1, 3) := by decide +kernel
theorem dX9_line_138 : decode cX9_line 138 = .ok (.goto (-104), 3) := by decide +kernel
theorem dX9_line_141 : decode cX9_line 141 = .ok (.aload_n 0, 1) := by decide +kernel
theorem dX9_line_142 : decode cX9_line 142 = .ok (.getfield 60, 3) := by decide +kernel
theorem dX9_line_145 : decode cX9_line 145 = .ok (.getfield 333, 3) := by decide +kernel
theorem dX9_line_148 : decode cX9_line 148 = .ok (.ireturn, 1) := by decide +kernel
theorem dX9_character_0 : decode cX9_character 0 = .ok (.iload_n 1, 1) := by decide +kernel
theorem dX9_character_1 : decode cX9_character 1 = .ok (.ifCond .lt 14, 3) := by decide +kernel
theorem dX9_character_4 : decode cX9_character 4 = .ok (.iload_n 1, 1) := by decide +kernel
theorem dX9_character_5 : decode cX9_character 5 = .ok (.aload_n 0, 1) := by decide +kernel
theorem dX9_character_6 : decode cX9_character 6 = .ok (.getfield 60, 3) := by decide +kernel
theorem dX9_character_9 : decode cX9_character 9 = .ok (.getfield 333, 3) := by decide +kernel
theorem dX9_character_12 : decode cX9_character 12 = .ok (.if_icmp .lt 14, 3) := by decide +kernel
theorem dX9_character_15 : decode cX9_character 15 = .ok (.new 245, 3) := by decide +kernel
theorem dX9_character_18 : decode cX9_character 18 = .ok (.dup, 1) := by decide +kernel
theorem dX9_character_19 : decode cX9_character 19 = .ok (.ldc_w 383, 3) := by decide +kernel
theorem dX9_character_22 : decode cX9_character 22 = .ok (.invokespecial 249, 3) := by decide +kernel
theorem dX9_character_25 : decode cX9_character 25 = .ok (.athrow, 1) := by decide +kernel
theorem dX9_character_26 : decode cX9_character 26 = .ok (.aload_n 0, 1) := by decide +kernel
theorem dX9_character_27 : decode cX9_character 27 = .ok (.getfield 60, 3) := by decide +kernel
theorem dX9_character_30 : decode cX9_character 30 = .ok (.iload_n 1, 1) := by decide +kernel
theorem dX9_character_31 : decode cX9_character 31 = .ok (.invokevirtual 385, 3) := by decide +kernel
theorem dX9_character_34 : decode cX9_character 34 = .ok (.ireturn, 1) := by decide +kernel
theorem dX9_undo_0 : decode cX9_undo 0 = .ok (.aload_n 0, 1) := by decide +kernel
theorem dX9_undo_1 : decode cX9_undo 1 = .ok (.getfield 25, 3) := by decide +kernel
theorem dX9_undo_4 : decode cX9_undo 4 = .ok (.getfield 331, 3) := by decide +kernel
theorem dX9_undo_7 : decode cX9_undo 7 = .ok (.ifCond .ne 14, 3) := by decide +kernel
theorem dX9_undo_10 : decode cX9_undo 10 = .ok (.new 339, 3) := by decide +kernel
theorem dX9_undo_13 : decode cX9_undo 13 = .ok (.dup, 1) := by decide +kernel
theorem dX9_undo_14 : decode cX9_undo 14 = .ok (.ldc_w 389, 3) := by decide +kernel
theorem dX9_undo_17 : decode cX9_undo 17 = .ok (.invokespecial 343, 3) := by decide +kernel
theorem dX9_undo_20 : decode cX9_undo 20 = .ok (.athrow, 1) := by decide +kernel
theorem dX9_undo_21 : decode cX9_undo 21 = .ok (.aload_n 0, 1) := by decide +kernel
theorem dX9_undo_22 : decode cX9_undo 22 = .ok (.getfield 25, 3) := by decide +kernel
theorem dX9_undo_25 : decode cX9_undo 25 = .ok (.aload_n 0, 1) := by decide +kernel
theorem dX9_undo_26 : decode cX9_undo 26 = .ok (.getfield 10, 3) := by decide +kernel
theorem dX9_undo_29 : decode cX9_undo 29 = .ok (.invokevirtual 391, 3) := by decide +kernel
theorem dX9_undo_32 : decode cX9_undo 32 = .ok (.aload_n 0, 1) := by decide +kernel
theorem dX9_undo_33 : decode cX9_undo 33 = .ok (.getfield 25, 3) := by decide +kernel
theorem dX9_undo_36 : decode cX9_undo 36 = .ok (.getfield 331, 3) := by decide +kernel
theorem dX9_undo_39 : decode cX9_undo 39 = .ok (.ireturn, 1) := by decide +kernel
theorem dX9_save_0 : decode cX9_save 0 = .ok (.aload_n 0, 1) := by decide +kernel
theorem dX9_save_1 : decode cX9_save 1 = .ok (.getfield 19, 3) := by decide +kernel
theorem dX9_save_4 : decode cX9_save 4 = .ok (.aload_n 0, 1) := by decide +kernel
theorem dX9_save_5 : decode cX9_save 5 = .ok (.getfield 10, 3) := by decide +kernel
theorem dX9_save_8 : decode cX9_save 8 = .ok (.invokevirtual 395, 3) := by decide +kernel
theorem dX9_save_11 : decode cX9_save 11 = .ok (.aload_n 0, 1) := by decide +kernel
theorem dX9_save_12 : decode cX9_save 12 = .ok (.iconst 1, 1) := by decide +kernel
theorem dX9_save_13 : decode cX9_save 13 = .ok (.putfield 397, 3) := by decide +kernel
theorem dX9_save_16 : decode cX9_save 16 = .ok (.aload_n 0, 1) := by decide +kernel
theorem dX9_save_17 : decode cX9_save 17 = .ok (.getfield 10, 3) := by decide +kernel
theorem dX9_save_20 : decode cX9_save 20 = .ok (.getfield 138, 3) := by decide +kernel
theorem dX9_save_23 : decode cX9_save 23 = .ok (.getfield 265, 3) := by decide +kernel
theorem dX9_save_26 : decode cX9_save 26 = .ok (.ireturn, 1) := by decide +kernel
theorem dX9_restore_0 : decode cX9_restore 0 = .ok (.aload_n 0, 1) := by decide +kernel
theorem dX9_restore_1 : decode cX9_restore 1 = .ok (.getfield 397, 3) := by decide +kernel
theorem dX9_restore_4 : decode cX9_restore 4 = .ok (.ifCond .ne 14, 3) := by decide +kernel
theorem dX9_restore_7 : decode cX9_restore 7 = .ok (.new 339, 3) := by decide +kernel
theorem dX9_restore_10 : decode cX9_restore 10 = .ok (.dup, 1) := by decide +kernel
theorem dX9_restore_11 : decode cX9_restore 11 = .ok (.ldc_w 400, 3) := by decide +kernel
theorem dX9_restore_14 : decode cX9_restore 14 = .ok (.invokespecial 343, 3) := by decide +kernel
theorem dX9_restore_17 : decode cX9_restore 17 = .ok (.athrow, 1) := by decide +kernel
theorem dX9_restore_18 : decode cX9_restore 18 = .ok (.aload_n 0, 1) := by decide +kernel
theorem dX9_restore_19 : decode cX9_restore 19 = .ok (.getfield 10, 3) := by decide +kernel
theorem dX9_restore_22 : decode cX9_restore 22 = .ok (.aload_n 0, 1) := by decide +kernel
theorem dX9_restore_23 : decode cX9_restore 23 = .ok (.getfield 19, 3) := by decide +kernel
theorem dX9_restore_26 : decode cX9_restore 26 = .ok (.invokevirtual 395, 3) := by decide +kernel
theorem dX9_restore_29 : decode cX9_restore 29 = .ok (.aload_n 0, 1) := by decide +kernel
theorem dX9_restore_30 : decode cX9_restore 30 = .ok (.getfield 25, 3) := by decide +kernel
theorem dX9_restore_33 : decode cX9_restore 33 = .ok (.iconst 0, 1) := by decide +kernel
theorem dX9_restore_34 : decode cX9_restore 34 = .ok (.putfield 331, 3) := by decide +kernel
theorem dX9_restore_37 : decode cX9_restore 37 = .ok (.aload_n 0, 1) := by decide +kernel
theorem dX9_restore_38 : decode cX9_restore 38 = .ok (.getfield 10, 3) := by decide +kernel
theorem dX9_restore_41 : decode cX9_restore 41 = .ok (.getfield 138, 3) := by decide +kernel
theorem dX9_restore_44 : decode cX9_restore 44 = .ok (.getfield 265, 3) := by decide +kernel
theorem dX9_restore_47 : decode cX9_restore 47 = .ok (.ireturn, 1) := by decide +kernel
theorem dX9_addBurrow_0 : decode cX9_addBurrow 0 = .ok (.aload_n 0, 1) := by decide +kernel
theorem dX9_addBurrow_1 : decode cX9_addBurrow 1 = .ok (.getfield 10, 3) := by decide +kernel
theorem dX9_addBurrow_4 : decode cX9_addBurrow 4 = .ok (.getfield 138, 3) := by decide +kernel
theorem dX9_addBurrow_7 : decode cX9_addBurrow 7 = .ok (.astore_n 1, 1) := by decide +kernel
theorem dX9_addBurrow_8 : decode cX9_addBurrow 8 = .ok (.aload_n 1, 1) := by decide +kernel
theorem dX9_addBurrow_9 : decode cX9_addBurrow 9 = .ok (.getfield 265, 3) := by decide +kernel
theorem dX9_addBurrow_12 : decode cX9_addBurrow 12 = .ok (.bipush 8, 2) := by decide +kernel
theorem dX9_addBurrow_14 : decode cX9_addBurrow 14 = .ok (.if_icmp .lt 11, 3) := by decide +kernel
theorem dX9_addBurrow_17 : decode cX9_addBurrow 17 = .ok (.aload_n 0, 1) := by decide +kernel
theorem dX9_addBurrow_18 : decode cX9_addBurrow 18 = .ok (.iconst 2, 1) := by decide +kernel
theorem dX9_addBurrow_19 : decode cX9_addBurrow 19 = .ok (.bipush 8, 2) := by decide +kernel
theorem dX9_addBurrow_21 : decode cX9_addBurrow 21 = .ok (.invokevirtual 402, 3) := by decide +kernel
theorem dX9_addBurrow_24 : decode cX9_addBurrow 24 = .ok (.ireturn, 1) := by decide +kernel
theorem dX9_addBurrow_25 : decode cX9_addBurrow 25 = .ok (.aload_n 1, 1) := by decide +kernel
theorem dX9_addBurrow_26 : decode cX9_addBurrow 26 = .ok (.dup, 1) := by decide +kernel
theorem dX9_addBurrow_27 : decode cX9_addBurrow 27 = .ok (.getfield 265, 3) := by decide +kernel
theorem dX9_addBurrow_30 : decode cX9_addBurrow 30 = .ok (.iconst 1, 1) := by decide +kernel
theorem dX9_addBurrow_31 : decode cX9_addBurrow 31 = .ok (.iadd, 1) := by decide +kernel
theorem dX9_addBurrow_32 : decode cX9_addBurrow 32 = .ok (.putfield 265, 3) := by decide +kernel
theorem dX9_addBurrow_35 : decode cX9_addBurrow 35 = .ok (.aload_n 0, 1) := by decide +kernel
theorem dX9_addBurrow_36 : decode cX9_addBurrow 36 = .ok (.invokevirtual 405, 3) := by decide +kernel
theorem dX9_addBurrow_39 : decode cX9_addBurrow 39 = .ok (.aload_n 1, 1) := by decide +kernel
theorem dX9_addBurrow_40 : decode cX9_addBurrow 40 = .ok (.getfield 265, 3) := by decide +kernel
theorem dX9_addBurrow_43 : decode cX9_addBurrow 43 = .ok (.iconst 1, 1) := by decide +kernel
theorem dX9_addBurrow_44 : decode cX9_addBurrow 44 = .ok (.isub, 1) := by decide +kernel
theorem dX9_addBurrow_45 : decode cX9_addBurrow 45 = .ok (.ireturn, 1) := by decide +kernel
theorem dX9_addPath_0 : decode cX9_addPath 0 = .ok (.aload_n 0, 1) := by decide +kernel
theorem dX9_addPath_1 : decode cX9_addPath 1 = .ok (.getfield 10, 3) := by decide +kernel
theorem dX9_addPath_4 : decode cX9_addPath 4 = .ok (.getfield 138, 3) := by decide +kernel
theorem dX9_addPath_7 : decode cX9_addPath 7 = .ok (.astore_n 3, 1) := by decide +kernel
theorem dX9_addPath_8 : decode cX9_addPath 8 = .ok (.aload_n 0, 1) := by decide +kernel
theorem dX9_addPath_9 : decode cX9_addPath 9 = .ok (.iload_n 1, 1) := by decide +kernel
theorem dX9_addPath_10 : decode cX9_addPath 10 = .ok (.invokevirtual 408, 3) := by decide +kernel
theorem dX9_addPath_13 : decode cX9_addPath 13 = .ok (.ifCond .ne 11, 3) := by decide +kernel
theorem dX9_addPath_16 : decode cX9_addPath 16 = .ok (.aload_n 0, 1) := by decide +kernel
theorem dX9_addPath_17 : decode cX9_addPath 17 = .ok (.iload_n 2, 1) := by decide +kernel
theorem dX9_addPath_18 : decode cX9_addPath 18 = .ok (.invokevirtual 408, 3) := by decide +kernel
theorem dX9_addPath_21 : decode cX9_addPath 21 = .ok (.ifCond .eq 5, 3) := by decide +kernel
theorem dX9_addPath_24 : decode cX9_addPath 24 = .ok (.iconst (-1), 1) := by decide +kernel
theorem dX9_addPath_25 : decode cX9_addPath 25 = .ok (.ireturn, 1) := by decide +kernel
theorem dX9_addPath_26 : decode cX9_addPath 26 = .ok (.iload_n 1, 1) := by decide +kernel
theorem dX9_addPath_27 : decode cX9_addPath 27 = .ok (.iload_n 2, 1) := by decide +kernel
theorem dX9_addPath_28 : decode cX9_addPath 28 = .ok (.if_icmp .ne 10, 3) := by decide +kernel
theorem dX9_addPath_31 : decode cX9_addPath 31 = .ok (.aload_n 0, 1) := by decide +kernel
theorem dX9_addPath_32 : decode cX9_addPath 32 = .ok (.iconst 4, 1) := by decide +kernel
theorem dX9_addPath_33 : decode cX9_addPath 33 = .ok (.iload_n 1, 1) := by decide +kernel
theorem dX9_addPath_34 : decode cX9_addPath 34 = .ok (.invokevirtual 402, 3) := by decide +kernel
theorem dX9_addPath_37 : decode cX9_addPath 37 = .ok (.ireturn, 1) := by decide +kernel
theorem dX9_addPath_38 : decode cX9_addPath 38 = .ok (.aload_n 3, 1) := by decide +kernel
theorem dX9_addPath_39 : decode cX9_addPath 39 = .ok (.iload_n 1, 1) := by decide +kernel
theorem dX9_addPath_40 : decode cX9_addPath 40 = .ok (.iload_n 2, 1) := by decide +kernel
theorem dX9_addPath_41 : decode cX9_addPath 41 = .ok (.invokevirtual 411, 3) := by decide +kernel
theorem dX9_addPath_44 : decode cX9_addPath 44 = .ok (.iconst (-1), 1) := by decide +kernel
theorem dX9_addPath_45 : decode cX9_addPath 45 = .ok (.if_icmp .eq 10, 3) := by decide +kernel
theorem dX9_addPath_48 : decode cX9_addPath 48 = .ok (.aload_n 0, 1) := by decide +kernel
theorem dX9_addPath_49 : decode cX9_addPath 49 = .ok (.iconst 5, 1) := by decide +kernel
theorem dX9_addPath_50 : decode cX9_addPath 50 = .ok (.iconst 0, 1) := by decide +kernel
theorem dX9_addPath_51 : decode cX9_addPath 51 = .ok (.invokevirtual 402, 3) := by decide +kernel
theorem dX9_addPath_54 : decode cX9_addPath 54 = .ok (.ireturn, 1) := by decide +kernel
theorem dX9_addPath_55 : decode cX9_addPath 55 = .ok (.aload_n 3, 1) := by decide +kernel
theorem dX9_addPath_56 : decode cX9_addPath 56 = .ok (.getfield 299, 3) := by decide +kernel
theorem dX9_addPath_59 : decode cX9_addPath 59 = .ok (.bipush 16, 2) := by decide +kernel
theorem dX9_addPath_61 : decode cX9_addPath 61 = .ok (.if_icmp .lt 11, 3) := by decide +kernel
theorem dX9_addPath_64 : decode cX9_addPath 64 = .ok (.aload_n 0, 1) := by decide +kernel
theorem dX9_addPath_65 : decode cX9_addPath 65 = .ok (.iconst 2, 1) := by decide +kernel
theorem dX9_addPath_66 : decode cX9_addPath 66 = .ok (.bipush 16, 2) := by decide +kernel
theorem dX9_addPath_68 : decode cX9_addPath 68 = .ok (.invokevirtual 402, 3) := by decide +kernel
theorem dX9_addPath_71 : decode cX9_addPath 71 = .ok (.ireturn, 1) := by decide +kernel
theorem dX9_addPath_72 : decode cX9_addPath 72 = .ok (.aload_n 3, 1) := by decide +kernel
theorem dX9_addPath_73 : decode cX9_addPath 73 = .ok (.iload_n 1, 1) := by decide +kernel
theorem dX9_addPath_74 : decode cX9_addPath 74 = .ok (.iload_n 2, 1) := by decide +kernel
theorem dX9_addPath_75 : decode cX9_addPath 75 = .ok (.invokevirtual 414, 3) := by decide +kernel
theorem dX9_addPath_78 : decode cX9_addPath 78 = .ok (.aload_n 0, 1) := by decide +kernel
theorem dX9_addPath_79 : decode cX9_addPath 79 = .ok (.invokevirtual 405, 3) := by decide +kernel
theorem dX9_addPath_82 : decode cX9_addPath 82 = .ok (.aload_n 3, 1) := by decide +kernel
theorem dX9_addPath_83 : decode cX9_addPath 83 = .ok (.getfield 299, 3) := by decide +kernel
theorem dX9_addPath_86 : decode cX9_addPath 86 = .ok (.iconst 1, 1) := by decide +kernel
theorem dX9_addPath_87 : decode cX9_addPath 87 = .ok (.isub, 1) := by decide +kernel
theorem dX9_addPath_88 : decode cX9_addPath 88 = .ok (.ireturn, 1) := by decide +kernel
theorem dX9_dropPath_0 : decode cX9_dropPath 0 = .ok (.aload_n 0, 1) := by decide +kernel
theorem dX9_dropPath_1 : decode cX9_dropPath 1 = .ok (.getfield 10, 3) := by decide +kernel
theorem dX9_dropPath_4 : decode cX9_dropPath 4 = .ok (.getfield 138, 3) := by decide +kernel
theorem dX9_dropPath_7 : decode cX9_dropPath 7 = .ok (.astore_n 3, 1) := by decide +kernel
theorem dX9_dropPath_8 : decode cX9_dropPath 8 = .ok (.aload_n 0, 1) := by decide +kernel
theorem dX9_dropPath_9 : decode cX9_dropPath 9 = .ok (.iload_n 1, 1) := by decide +kernel
theorem dX9_dropPath_10 : decode cX9_dropPath 10 = .ok (.invokevirtual 408, 3) := by decide +kernel
theorem dX9_dropPath_13 : decode cX9_dropPath 13 = .ok (.ifCond .ne 11, 3) := by decide +kernel
theorem dX9_dropPath_16 : decode cX9_dropPath 16 = .ok (.aload_n 0, 1) := by decide +kernel
theorem dX9_dropPath_17 : decode cX9_dropPath 17 = .ok (.iload_n 2, 1) := by decide +kernel
theorem dX9_dropPath_18 : decode cX9_dropPath 18 = .ok (.invokevirtual 408, 3) := by decide +kernel
theorem dX9_dropPath_21 : decode cX9_dropPath 21 = .ok (.ifCond .eq 5, 3) := by decide +kernel
theorem dX9_dropPath_24 : decode cX9_dropPath 24 = .ok (.iconst (-1), 1) := by decide +kernel
theorem dX9_dropPath_25 : decode cX9_dropPath 25 = .ok (.ireturn, 1) := by decide +kernel
theorem dX9_dropPath_26 : decode cX9_dropPath 26 = .ok (.aload_n 3, 1) := by decide +kernel
theorem dX9_dropPath_27 : decode cX9_dropPath 27 = .ok (.iload_n 1, 1) := by decide +kernel
theorem dX9_dropPath_28 : decode cX9_dropPath 28 = .ok (.iload_n 2, 1) := by decide +kernel
theorem dX9_dropPath_29 : decode cX9_dropPath 29 = .ok (.invokevirtual 411, 3) := by decide +kernel
theorem dX9_dropPath_32 : decode cX9_dropPath 32 = .ok (.istore 4, 2) := by decide +kernel
theorem dX9_dropPath_34 : decode cX9_dropPath 34 = .ok (.iload 4, 2) := by decide +kernel
theorem dX9_dropPath_36 : decode cX9_dropPath 36 = .ok (.iconst (-1), 1) := by decide +kernel
theorem dX9_dropPath_37 : decode cX9_dropPath 37 = .ok (.if_icmp .ne 11, 3) := by decide +kernel
theorem dX9_dropPath_40 : decode cX9_dropPath 40 = .ok (.aload_n 0, 1) := by decide +kernel
theorem dX9_dropPath_41 : decode cX9_dropPath 41 = .ok (.bipush 6, 2) := by decide +kernel
theorem dX9_dropPath_43 : decode cX9_dropPath 43 = .ok (.iload_n 1, 1) := by decide +kernel
theorem dX9_dropPath_44 : decode cX9_dropPath 44 = .ok (.invokevirtual 402, 3) := by decide +kernel
theorem dX9_dropPath_47 : decode cX9_dropPath 47 = .ok (.ireturn, 1) := by decide +kernel
theorem dX9_dropPath_48 : decode cX9_dropPath 48 = .ok (.aload_n 3, 1) := by decide +kernel
theorem dX9_dropPath_49 : decode cX9_dropPath 49 = .ok (.iload 4, 2) := by decide +kernel
theorem dX9_dropPath_51 : decode cX9_dropPath 51 = .ok (.invokevirtual 417, 3) := by decide +kernel
theorem dX9_dropPath_54 : decode cX9_dropPath 54 = .ok (.aload_n 0, 1) := by decide +kernel
theorem dX9_dropPath_55 : decode cX9_dropPath 55 = .ok (.invokevirtual 405, 3) := by decide +kernel
theorem dX9_dropPath_58 : decode cX9_dropPath 58 = .ok (.aload_n 3, 1) := by decide +kernel
theorem dX9_dropPath_59 : decode cX9_dropPath 59 = .ok (.getfield 299, 3) := by decide +kernel
theorem dX9_dropPath_62 : decode cX9_dropPath 62 = .ok (.ireturn, 1) := by decide +kernel
theorem dX9_turnTrap_0 : decode cX9_turnTrap 0 = .ok (.aload_n 0, 1) := by decide +kernel
theorem dX9_turnTrap_1 : decode cX9_turnTrap 1 = .ok (.getfield 10, 3) := by decide +kernel
theorem dX9_turnTrap_4 : decode cX9_turnTrap 4 = .ok (.getfield 138, 3) := by decide +kernel
theorem dX9_turnTrap_7 : decode cX9_turnTrap 7 = .ok (.astore_n 3, 1) := by decide +kernel
theorem dX9_turnTrap_8 : decode cX9_turnTrap 8 = .ok (.aload_n 0, 1) := by decide +kernel
theorem dX9_turnTrap_9 : decode cX9_turnTrap 9 = .ok (.iload_n 1, 1) := by decide +kernel
theorem dX9_turnTrap_10 : decode cX9_turnTrap 10 = .ok (.invokevirtual 408, 3) := by decide +kernel
theorem dX9_turnTrap_13 : decode cX9_turnTrap 13 = .ok (.ifCond .eq 5, 3) := by decide +kernel
theorem dX9_turnTrap_16 : decode cX9_turnTrap 16 = .ok (.iconst (-1), 1) := by decide +kernel
theorem dX9_turnTrap_17 : decode cX9_turnTrap 17 = .ok (.ireturn, 1) := by decide +kernel
theorem dX9_turnTrap_18 : decode cX9_turnTrap 18 = .ok (.aload_n 3, 1) := by decide +kernel
theorem dX9_turnTrap_19 : decode cX9_turnTrap 19 = .ok (.iload_n 1, 1) := by decide +kernel
theorem dX9_turnTrap_20 : decode cX9_turnTrap 20 = .ok (.invokevirtual 293, 3) := by decide +kernel
theorem dX9_turnTrap_23 : decode cX9_turnTrap 23 = .ok (.iload_n 2, 1) := by decide +kernel
theorem dX9_turnTrap_24 : decode cX9_turnTrap 24 = .ok (.if_icmp .ne 10, 3) := by decide +kernel
theorem dX9_turnTrap_27 : decode cX9_turnTrap 27 = .ok (.aload_n 0, 1) := by decide +kernel
theorem dX9_turnTrap_28 : decode cX9_turnTrap 28 = .ok (.iconst 5, 1) := by decide +kernel
theorem dX9_turnTrap_29 : decode cX9_turnTrap 29 = .ok (.iconst 0, 1) := by decide +kernel
theorem dX9_turnTrap_30 : decode cX9_turnTrap 30 = .ok (.invokevirtual 402, 3) := by decide +kernel
theorem dX9_turnTrap_33 : decode cX9_turnTrap 33 = .ok (.ireturn, 1) := by decide +kernel
theorem dX9_turnTrap_34 : decode cX9_turnTrap 34 = .ok (.aload_n 3, 1) := by decide +kernel
theorem dX9_turnTrap_35 : decode cX9_turnTrap 35 = .ok (.dup, 1) := by decide +kernel
theorem dX9_turnTrap_36 : decode cX9_turnTrap 36 = .ok (.getfield 319, 3) := by decide +kernel
theorem dX9_turnTrap_39 : decode cX9_turnTrap 39 = .ok (.iconst 1, 1) := by decide +kernel
theorem dX9_turnTrap_40 : decode cX9_turnTrap 40 = .ok (.iload_n 1, 1) := by decide +kernel
theorem dX9_turnTrap_41 : decode cX9_turnTrap 41 = .ok (.ishl, 1) := by decide +kernel
theorem dX9_turnTrap_42 : decode cX9_turnTrap 42 = .ok (.ixor, 1) := by decide +kernel
theorem dX9_turnTrap_43 : decode cX9_turnTrap 43 = .ok (.putfield 319, 3) := by decide +kernel
theorem dX9_turnTrap_46 : decode cX9_turnTrap 46 = .ok (.aload_n 0, 1) := by decide +kernel
theorem dX9_turnTrap_47 : decode cX9_turnTrap 47 = .ok (.invokevirtual 405, 3) := by decide +kernel
theorem dX9_turnTrap_50 : decode cX9_turnTrap 50 = .ok (.aload_n 3, 1) := by decide +kernel
theorem dX9_turnTrap_51 : decode cX9_turnTrap 51 = .ok (.getfield 319, 3) := by decide +kernel
theorem dX9_turnTrap_54 : decode cX9_turnTrap 54 = .ok (.invokestatic 286, 3) := by decide +kernel
theorem dX9_turnTrap_57 : decode cX9_turnTrap 57 = .ok (.ireturn, 1) := by decide +kernel
theorem dX9_setGeese_0 : decode cX9_setGeese 0 = .ok (.iload_n 1, 1) := by decide +kernel
theorem dX9_setGeese_1 : decode cX9_setGeese 1 = .ok (.iconst 1, 1) := by decide +kernel
theorem dX9_setGeese_2 : decode cX9_setGeese 2 = .ok (.if_icmp .lt 8, 3) := by decide +kernel
theorem dX9_setGeese_5 : decode cX9_setGeese 5 = .ok (.iload_n 1, 1) := by decide +kernel
theorem dX9_setGeese_6 : decode cX9_setGeese 6 = .ok (.iconst 2, 1) := by decide +kernel
theorem dX9_setGeese_7 : decode cX9_setGeese 7 = .ok (.if_icmp .le 10, 3) := by decide +kernel
theorem dX9_setGeese_10 : decode cX9_setGeese 10 = .ok (.aload_n 0, 1) := by decide +kernel
theorem dX9_setGeese_11 : decode cX9_setGeese 11 = .ok (.iconst 1, 1) := by decide +kernel
theorem dX9_setGeese_12 : decode cX9_setGeese 12 = .ok (.iconst 0, 1) := by decide +kernel
theorem dX9_setGeese_13 : decode cX9_setGeese 13 = .ok (.invokevirtual 402, 3) := by decide +kernel
theorem dX9_setGeese_16 : decode cX9_setGeese 16 = .ok (.ireturn, 1) := by decide +kernel
theorem dX9_setGeese_17 : decode cX9_setGeese 17 = .ok (.aload_n 0, 1) := by decide +kernel
theorem dX9_setGeese_18 : decode cX9_setGeese 18 = .ok (.getfield 10, 3) := by decide +kernel
theorem dX9_setGeese_21 : decode cX9_setGeese 21 = .ok (.getfield 138, 3) := by decide +kernel
theorem dX9_setGeese_24 : decode cX9_setGeese 24 = .ok (.getfield 322, 3) := by decide +kernel
theorem dX9_setGeese_27 : decode cX9_setGeese 27 = .ok (.istore_n 2, 1) := by decide +kernel
theorem dX9_setGeese_28 : decode cX9_setGeese 28 = .ok (.iload_n 1, 1) := by decide +kernel
theorem dX9_setGeese_29 : decode cX9_setGeese 29 = .ok (.iload_n 2, 1) := by decide +kernel
theorem dX9_setGeese_30 : decode cX9_setGeese 30 = .ok (.if_icmp .ne 10, 3) := by decide +kernel
theorem dX9_setGeese_33 : decode cX9_setGeese 33 = .ok (.aload_n 0, 1) := by decide +kernel
theorem dX9_setGeese_34 : decode cX9_setGeese 34 = .ok (.iconst 5, 1) := by decide +kernel
theorem dX9_setGeese_35 : decode cX9_setGeese 35 = .ok (.iconst 0, 1) := by decide +kernel
theorem dX9_setGeese_36 : decode cX9_setGeese 36 = .ok (.invokevirtual 402, 3) := by decide +kernel
theorem dX9_setGeese_39 : decode cX9_setGeese 39 = .ok (.ireturn, 1) := by decide +kernel
theorem dX9_setGeese_40 : decode cX9_setGeese 40 = .ok (.aload_n 0, 1) := by decide +kernel
theorem dX9_setGeese_41 : decode cX9_setGeese 41 = .ok (.getfield 10, 3) := by decide +kernel
theorem dX9_setGeese_44 : decode cX9_setGeese 44 = .ok (.getfield 138, 3) := by decide +kernel
theorem dX9_setGeese_47 : decode cX9_setGeese 47 = .ok (.iload_n 1, 1) := by decide +kernel
theorem dX9_setGeese_48 : decode cX9_setGeese 48 = .ok (.putfield 322, 3) := by decide +kernel
theorem dX9_setGeese_51 : decode cX9_setGeese 51 = .ok (.aload_n 0, 1) := by decide +kernel
theorem dX9_setGeese_52 : decode cX9_setGeese 52 = .ok (.invokevirtual 405, 3) := by decide +kernel
theorem dX9_setGeese_55 : decode cX9_setGeese 55 = .ok (.iload_n 2, 1) := by decide +kernel
theorem dX9_setGeese_56 : decode cX9_setGeese 56 = .ok (.ireturn, 1) := by decide +kernel
theorem dX9_startGame_0 : decode cX9_startGame 0 = .ok (.aload_n 0, 1) := by decide +kernel
theorem dX9_startGame_1 : decode cX9_startGame 1 = .ok (.getfield 10, 3) := by decide +kernel
theorem dX9_startGame_4 : decode cX9_startGame 4 = .ok (.getfield 138, 3) := by decide +kernel
theorem dX9_startGame_7 : decode cX9_startGame 7 = .ok (.iload_n 1, 1) := by decide +kernel
theorem dX9_startGame_8 : decode cX9_startGame 8 = .ok (.invokevirtual 268, 3) := by decide +kernel
theorem dX9_startGame_11 : decode cX9_startGame 11 = .ok (.ifCond .ne 11, 3) := by decide +kernel
theorem dX9_startGame_14 : decode cX9_startGame 14 = .ok (.aload_n 0, 1) := by decide +kernel
theorem dX9_startGame_15 : decode cX9_startGame 15 = .ok (.bipush 7, 2) := by decide +kernel
theorem dX9_startGame_17 : decode cX9_startGame 17 = .ok (.iload_n 1, 1) := by decide +kernel
theorem dX9_startGame_18 : decode cX9_startGame 18 = .ok (.invokevirtual 402, 3) := by decide +kernel
theorem dX9_startGame_21 : decode cX9_startGame 21 = .ok (.ireturn, 1) := by decide +kernel
theorem dX9_startGame_22 : decode cX9_startGame 22 = .ok (.aload_n 0, 1) := by decide +kernel
theorem dX9_startGame_23 : decode cX9_startGame 23 = .ok (.getfield 10, 3) := by decide +kernel
theorem dX9_startGame_26 : decode cX9_startGame 26 = .ok (.getfield 118, 3) := by decide +kernel
theorem dX9_startGame_29 : decode cX9_startGame 29 = .ok (.iload_n 1, 1) := by decide +kernel
theorem dX9_startGame_30 : decode cX9_startGame 30 = .ok (.invokevirtual 420, 3) := by decide +kernel
theorem dX9_startGame_33 : decode cX9_startGame 33 = .ok (.aload_n 0, 1) := by decide +kernel
theorem dX9_startGame_34 : decode cX9_startGame 34 = .ok (.getfield 10, 3) := by decide +kernel
theorem dX9_startGame_37 : decode cX9_startGame 37 = .ok (.dup, 1) := by decide +kernel
theorem dX9_startGame_38 : decode cX9_startGame 38 = .ok (.getfield 328, 3) := by decide +kernel
theorem dX9_startGame_41 : decode cX9_startGame 41 = .ok (.iconst 1, 1) := by decide +kernel
theorem dX9_startGame_42 : decode cX9_startGame 42 = .ok (.iadd, 1) := by decide +kernel
theorem dX9_startGame_43 : decode cX9_startGame 43 = .ok (.putfield 328, 3) := by decide +kernel
theorem dX9_startGame_46 : decode cX9_startGame 46 = .ok (.aload_n 0, 1) := by decide +kernel
theorem dX9_startGame_47 : decode cX9_startGame 47 = .ok (.getfield 10, 3) := by decide +kernel
theorem dX9_startGame_50 : decode cX9_startGame 50 = .ok (.getfield 138, 3) := by decide +kernel
theorem dX9_startGame_53 : decode cX9_startGame 53 = .ok (.iload_n 1, 1) := by decide +kernel
theorem dX9_startGame_54 : decode cX9_startGame 54 = .ok (.invokevirtual 172, 3) := by decide +kernel
theorem dX9_startGame_57 : decode cX9_startGame 57 = .ok (.invokestatic 176, 3) := by decide +kernel
theorem dX9_startGame_60 : decode cX9_startGame 60 = .ok (.ireturn, 1) := by decide +kernel
theorem dX9_makeMove_0 : decode cX9_makeMove 0 = .ok (.aload_n 0, 1) := by decide +kernel
theorem dX9_makeMove_1 : decode cX9_makeMove 1 = .ok (.getfield 10, 3) := by decide +kernel
theorem dX9_makeMove_4 : decode cX9_makeMove 4 = .ok (.getfield 118, 3) := by decide +kernel
theorem dX9_makeMove_7 : decode cX9_makeMove 7 = .ok (.astore_n 3, 1) := by decide +kernel
theorem dX9_makeMove_8 : decode cX9_makeMove 8 = .ok (.aload_n 3, 1) := by decide +kernel
theorem dX9_makeMove_9 : decode cX9_makeMove 9 = .ok (.getfield 122, 3) := by decide +kernel
theorem dX9_makeMove_12 : decode cX9_makeMove 12 = .ok (.ifCond .ne 11, 3) := by decide +kernel
theorem dX9_makeMove_15 : decode cX9_makeMove 15 = .ok (.aload_n 0, 1) := by decide +kernel
theorem dX9_makeMove_16 : decode cX9_makeMove 16 = .ok (.bipush 8, 2) := by decide +kernel
theorem dX9_makeMove_18 : decode cX9_makeMove 18 = .ok (.iconst 0, 1) := by decide +kernel
theorem dX9_makeMove_19 : decode cX9_makeMove 19 = .ok (.invokevirtual 402, 3) := by decide +kernel
theorem dX9_makeMove_22 : decode cX9_makeMove 22 = .ok (.ireturn, 1) := by decide +kernel
theorem dX9_makeMove_23 : decode cX9_makeMove 23 = .ok (.aload_n 3, 1) := by decide +kernel
theorem dX9_makeMove_24 : decode cX9_makeMove 24 = .ok (.invokevirtual 135, 3) := by decide +kernel
theorem dX9_makeMove_27 : decode cX9_makeMove 27 = .ok (.istore 4, 2) := by decide +kernel
theorem dX9_makeMove_29 : decode cX9_makeMove 29 = .ok (.aload_n 0, 1) := by decide +kernel
theorem dX9_makeMove_30 : decode cX9_makeMove 30 = .ok (.getfield 10, 3) := by decide +kernel
theorem dX9_makeMove_33 : decode cX9_makeMove 33 = .ok (.getfield 138, 3) := by decide +kernel
theorem dX9_makeMove_36 : decode cX9_makeMove 36 = .ok (.iload 4, 2) := by decide +kernel
theorem dX9_makeMove_38 : decode cX9_makeMove 38 = .ok (.invokevirtual 172, 3) := by decide +kernel
theorem dX9_makeMove_41 : decode cX9_makeMove 41 = .ok (.invokestatic 176, 3) := by decide +kernel
theorem dX9_makeMove_44 : decode cX9_makeMove 44 = .ok (.istore 5, 2) := by decide +kernel
theorem dX9_makeMove_46 : decode cX9_makeMove 46 = .ok (.iload 5, 2) := by decide +kernel
theorem dX9_makeMove_48 : decode cX9_makeMove 48 = .ok (.ifCond .ne 14, 3) := by decide +kernel
theorem dX9_makeMove_51 : decode cX9_makeMove 51 = .ok (.aload_n 0, 1) := by decide +kernel
theorem dX9_makeMove_52 : decode cX9_makeMove 52 = .ok (.bipush 9, 2) := by decide +kernel
theorem dX9_makeMove_54 : decode cX9_makeMove 54 = .ok (.aload_n 3, 1) := by decide +kernel
theorem dX9_makeMove_55 : decode cX9_makeMove 55 = .ok (.getfield 325, 3) := by decide +kernel
theorem dX9_makeMove_58 : decode cX9_makeMove 58 = .ok (.invokevirtual 402, 3) := by decide +kernel
theorem dX9_makeMove_61 : decode cX9_makeMove 61 = .ok (.ireturn, 1) := by decide +kernel
theorem dX9_makeMove_62 : decode cX9_makeMove 62 = .ok (.aload_n 0, 1) := by decide +kernel
theorem dX9_makeMove_63 : decode cX9_makeMove 63 = .ok (.getfield 10, 3) := by decide +kernel
theorem dX9_makeMove_66 : decode cX9_makeMove 66 = .ok (.getfield 138, 3) := by decide +kernel
theorem dX9_makeMove_69 : decode cX9_makeMove 69 = .ok (.iload 4, 2) := by decide +kernel
theorem dX9_makeMove_71 : decode cX9_makeMove 71 = .ok (.iload_n 1, 1) := by decide +kernel
theorem dX9_makeMove_72 : decode cX9_makeMove 72 = .ok (.iload_n 2, 1) := by decide +kernel
theorem dX9_makeMove_73 : decode cX9_makeMove 73 = .ok (.invokevirtual 215, 3) := by decide +kernel
theorem dX9_makeMove_76 : decode cX9_makeMove 76 = .ok (.ifCond .ne 12, 3) := by decide +kernel
theorem dX9_makeMove_79 : decode cX9_makeMove 79 = .ok (.aload_n 0, 1) := by decide +kernel
theorem dX9_makeMove_80 : decode cX9_makeMove 80 = .ok (.bipush 10, 2) := by decide +kernel
theorem dX9_makeMove_82 : decode cX9_makeMove 82 = .ok (.iload 5, 2) := by decide +kernel
theorem dX9_makeMove_84 : decode cX9_makeMove 84 = .ok (.invokevirtual 402, 3) := by decide +kernel
theorem dX9_makeMove_87 : decode cX9_makeMove 87 = .ok (.ireturn, 1) := by decide +kernel
theorem dX9_makeMove_88 : decode cX9_makeMove 88 = .ok (.aload_n 3, 1) := by decide +kernel
theorem dX9_makeMove_89 : decode cX9_makeMove 89 = .ok (.getfield 325, 3) := by decide +kernel
theorem dX9_makeMove_92 : decode cX9_makeMove 92 = .ok (.bipush 40, 2) := by decide +kernel
theorem dX9_makeMove_94 : decode cX9_makeMove 94 = .ok (.if_icmp .lt 11, 3) := by decide +kernel
theorem dX9_makeMove_97 : decode cX9_makeMove 97 = .ok (.aload_n 0, 1) := by decide +kernel
theorem dX9_makeMove_98 : decode cX9_makeMove 98 = .ok (.iconst 2, 1) := by decide +kernel
theorem dX9_makeMove_99 : decode cX9_makeMove 99 = .ok (.bipush 40, 2) := by decide +kernel
theorem dX9_makeMove_101 : decode cX9_makeMove 101 = .ok (.invokevirtual 402, 3) := by decide +kernel
theorem dX9_makeMove_104 : decode cX9_makeMove 104 = .ok (.ireturn, 1) := by decide +kernel
theorem dX9_makeMove_105 : decode cX9_makeMove 105 = .ok (.iload 4, 2) := by decide +kernel
theorem dX9_makeMove_107 : decode cX9_makeMove 107 = .ok (.iload_n 1, 1) := by decide +kernel
theorem dX9_makeMove_108 : decode cX9_makeMove 108 = .ok (.iload_n 2, 1) := by decide +kernel
theorem dX9_makeMove_109 : decode cX9_makeMove 109 = .ok (.invokestatic 220, 3) := by decide +kernel
theorem dX9_makeMove_112 : decode cX9_makeMove 112 = .ok (.istore 6, 2) := by decide +kernel
theorem dX9_makeMove_114 : decode cX9_makeMove 114 = .ok (.aload_n 3, 1) := by decide +kernel
theorem dX9_makeMove_115 : decode cX9_makeMove 115 = .ok (.iload_n 1, 1) := by decide +kernel
theorem dX9_makeMove_116 : decode cX9_makeMove 116 = .ok (.iload_n 2, 1) := by decide +kernel
theorem dX9_makeMove_117 : decode cX9_makeMove 117 = .ok (.invokestatic 423, 3) := by decide +kernel
theorem dX9_makeMove_120 : decode cX9_makeMove 120 = .ok (.iload 6, 2) := by decide +kernel
theorem dX9_makeMove_122 : decode cX9_makeMove 122 = .ok (.invokevirtual 426, 3) := by decide +kernel
theorem dX9_makeMove_125 : decode cX9_makeMove 125 = .ok (.aload_n 0, 1) := by decide +kernel
theorem dX9_makeMove_126 : decode cX9_makeMove 126 = .ok (.getfield 10, 3) := by decide +kernel
theorem dX9_makeMove_129 : decode cX9_makeMove 129 = .ok (.getfield 138, 3) := by decide +kernel
theorem dX9_makeMove_132 : decode cX9_makeMove 132 = .ok (.iload 6, 2) := by decide +kernel
theorem dX9_makeMove_134 : decode cX9_makeMove 134 = .ok (.invokevirtual 172, 3) := by decide +kernel
theorem dX9_makeMove_137 : decode cX9_makeMove 137 = .ok (.invokestatic 176, 3) := by decide +kernel
theorem dX9_makeMove_140 : decode cX9_makeMove 140 = .ok (.ireturn, 1) := by decide +kernel
theorem dX9_letPlay_0 : decode cX9_letPlay 0 = .ok (.aload_n 0, 1) := by decide +kernel
theorem dX9_letPlay_1 : decode cX9_letPlay 1 = .ok (.getfield 10, 3) := by decide +kernel
theorem dX9_letPlay_4 : decode cX9_letPlay 4 = .ok (.getfield 118, 3) := by decide +kernel
theorem dX9_letPlay_7 : decode cX9_letPlay 7 = .ok (.astore_n 2, 1) := by decide +kernel
theorem dX9_letPlay_8 : decode cX9_letPlay 8 = .ok (.iload_n 1, 1) := by decide +kernel
theorem dX9_letPlay_9 : decode cX9_letPlay 9 = .ok (.iconst 1, 1) := by decide +kernel
theorem dX9_letPlay_10 : decode cX9_letPlay 10 = .ok (.if_icmp .lt 9, 3) := by decide +kernel
theorem dX9_letPlay_13 : decode cX9_letPlay 13 = .ok (.iload_n 1, 1) := by decide +kernel
theorem dX9_letPlay_14 : decode cX9_letPlay 14 = .ok (.bipush 40, 2) := by decide +kernel
theorem dX9_letPlay_16 : decode cX9_letPlay 16 = .ok (.if_icmp .le 10, 3) := by decide +kernel
theorem dX9_letPlay_19 : decode cX9_letPlay 19 = .ok (.aload_n 0, 1) := by decide +kernel
theorem dX9_letPlay_20 : decode cX9_letPlay 20 = .ok (.iconst 1, 1) := by decide +kernel
theorem dX9_letPlay_21 : decode cX9_letPlay 21 = .ok (.iconst 0, 1) := by decide +kernel
theorem dX9_letPlay_22 : decode cX9_letPlay 22 = .ok (.invokevirtual 402, 3) := by decide +kernel
theorem dX9_letPlay_25 : decode cX9_letPlay 25 = .ok (.ireturn, 1) := by decide +kernel
theorem dX9_letPlay_26 : decode cX9_letPlay 26 = .ok (.aload_n 2, 1) := by decide +kernel
theorem dX9_letPlay_27 : decode cX9_letPlay 27 = .ok (.getfield 122, 3) := by decide +kernel
theorem dX9_letPlay_30 : decode cX9_letPlay 30 = .ok (.ifCond .ne 11, 3) := by decide +kernel
theorem dX9_letPlay_33 : decode cX9_letPlay 33 = .ok (.aload_n 0, 1) := by decide +kernel
theorem dX9_letPlay_34 : decode cX9_letPlay 34 = .ok (.bipush 8, 2) := by decide +kernel
theorem dX9_letPlay_36 : decode cX9_letPlay 36 = .ok (.iconst 0, 1) := by decide +kernel
theorem dX9_letPlay_37 : decode cX9_letPlay 37 = .ok (.invokevirtual 402, 3) := by decide +kernel
theorem dX9_letPlay_40 : decode cX9_letPlay 40 = .ok (.ireturn, 1) := by decide +kernel
theorem dX9_letPlay_41 : decode cX9_letPlay 41 = .ok (.aload_n 0, 1) := by decide +kernel
theorem dX9_letPlay_42 : decode cX9_letPlay 42 = .ok (.getfield 10, 3) := by decide +kernel
theorem dX9_letPlay_45 : decode cX9_letPlay 45 = .ok (.getfield 138, 3) := by decide +kernel
theorem dX9_letPlay_48 : decode cX9_letPlay 48 = .ok (.aload_n 2, 1) := by decide +kernel
theorem dX9_letPlay_49 : decode cX9_letPlay 49 = .ok (.invokevirtual 135, 3) := by decide +kernel
theorem dX9_letPlay_52 : decode cX9_letPlay 52 = .ok (.invokevirtual 172, 3) := by decide +kernel
theorem dX9_letPlay_55 : decode cX9_letPlay 55 = .ok (.lconst 0, 1) := by decide +kernel
theorem dX9_letPlay_56 : decode cX9_letPlay 56 = .ok (.lcmp, 1) := by decide +kernel
theorem dX9_letPlay_57 : decode cX9_letPlay 57 = .ok (.ifCond .ne 14, 3) := by decide +kernel
theorem dX9_letPlay_60 : decode cX9_letPlay 60 = .ok (.aload_n 0, 1) := by decide +kernel
theorem dX9_letPlay_61 : decode cX9_letPlay 61 = .ok (.bipush 9, 2) := by decide +kernel
theorem dX9_letPlay_63 : decode cX9_letPlay 63 = .ok (.aload_n 2, 1) := by decide +kernel
theorem dX9_letPlay_64 : decode cX9_letPlay 64 = .ok (.getfield 325, 3) := by decide +kernel
theorem dX9_letPlay_67 : decode cX9_letPlay 67 = .ok (.invokevirtual 402, 3) := by decide +kernel
theorem dX9_letPlay_70 : decode cX9_letPlay 70 = .ok (.ireturn, 1) := by decide +kernel
theorem dX9_letPlay_71 : decode cX9_letPlay 71 = .ok (.aload_n 2, 1) := by decide +kernel
theorem dX9_letPlay_72 : decode cX9_letPlay 72 = .ok (.getfield 325, 3) := by decide +kernel
theorem dX9_letPlay_75 : decode cX9_letPlay 75 = .ok (.bipush 40, 2) := by decide +kernel
theorem dX9_letPlay_77 : decode cX9_letPlay 77 = .ok (.if_icmp .lt 11, 3) := by decide +kernel
theorem dX9_letPlay_80 : decode cX9_letPlay 80 = .ok (.aload_n 0, 1) := by decide +kernel
theorem dX9_letPlay_81 : decode cX9_letPlay 81 = .ok (.iconst 2, 1) := by decide +kernel
theorem dX9_letPlay_82 : decode cX9_letPlay 82 = .ok (.bipush 40, 2) := by decide +kernel
theorem dX9_letPlay_84 : decode cX9_letPlay 84 = .ok (.invokevirtual 402, 3) := by decide +kernel
theorem dX9_letPlay_87 : decode cX9_letPlay 87 = .ok (.ireturn, 1) := by decide +kernel
theorem dX9_letPlay_88 : decode cX9_letPlay 88 = .ok (.aload_n 0, 1) := by decide +kernel
theorem dX9_letPlay_89 : decode cX9_letPlay 89 = .ok (.getfield 39, 3) := by decide +kernel
theorem dX9_letPlay_92 : decode cX9_letPlay 92 = .ok (.aload_n 0, 1) := by decide +kernel
theorem dX9_letPlay_93 : decode cX9_letPlay 93 = .ok (.getfield 10, 3) := by decide +kernel
theorem dX9_letPlay_96 : decode cX9_letPlay 96 = .ok (.getfield 138, 3) := by decide +kernel
theorem dX9_letPlay_99 : decode cX9_letPlay 99 = .ok (.invokevirtual 182, 3) := by decide +kernel
theorem dX9_letPlay_102 : decode cX9_letPlay 102 = .ok (.iconst 0, 1) := by decide +kernel
theorem dX9_letPlay_103 : decode cX9_letPlay 103 = .ok (.istore_n 3, 1) := by decide +kernel
theorem dX9_letPlay_104 : decode cX9_letPlay 104 = .ok (.iload_n 3, 1) := by decide +kernel
theorem dX9_letPlay_105 : decode cX9_letPlay 105 = .ok (.iload_n 1, 1) := by decide +kernel
theorem dX9_letPlay_106 : decode cX9_letPlay 106 = .ok (.if_icmp .ge 72, 3) := by decide +kernel
theorem dX9_letPlay_109 : decode cX9_letPlay 109 = .ok (.aload_n 2, 1) := by decide +kernel
theorem dX9_letPlay_110 : decode cX9_letPlay 110 = .ok (.getfield 325, 3) := by decide +kernel
theorem dX9_letPlay_113 : decode cX9_letPlay 113 = .ok (.bipush 40, 2) := by decide +kernel
theorem dX9_letPlay_115 : decode cX9_letPlay 115 = .ok (.if_icmp .ge 63, 3) := by decide +kernel
theorem dX9_letPlay_118 : decode cX9_letPlay 118 = .ok (.aload_n 2, 1) := by decide +kernel
theorem dX9_letPlay_119 : decode cX9_letPlay 119 = .ok (.invokevirtual 135, 3) := by decide +kernel
theorem dX9_letPlay_122 : decode cX9_letPlay 122 = .ok (.istore 4, 2) := by decide +kernel
theorem dX9_letPlay_124 : decode cX9_letPlay 124 = .ok (.aload_n 0, 1) := by decide +kernel
theorem dX9_letPlay_125 : decode cX9_letPlay 125 = .ok (.getfield 39, 3) := by decide +kernel
theorem dX9_letPlay_128 : decode cX9_letPlay 128 = .ok (.aload_n 0, 1) := by decide +kernel
theorem dX9_letPlay_129 : decode cX9_letPlay 129 = .ok (.getfield 10, 3) := by decide +kernel
theorem dX9_letPlay_132 : decode cX9_letPlay 132 = .ok (.getfield 138, 3) := by decide +kernel
theorem dX9_letPlay_135 : decode cX9_letPlay 135 = .ok (.iload 4, 2) := by decide +kernel
theorem dX9_letPlay_137 : decode cX9_letPlay 137 = .ok (.invokevirtual 209, 3) := by decide +kernel
theorem dX9_letPlay_140 : decode cX9_letPlay 140 = .ok (.istore 5, 2) := by decide +kernel
theorem dX9_letPlay_142 : decode cX9_letPlay 142 = .ok (.iload 5, 2) := by decide +kernel
theorem dX9_letPlay_144 : decode cX9_letPlay 144 = .ok (.iconst (-1), 1) := by decide +kernel
theorem dX9_letPlay_145 : decode cX9_letPlay 145 = .ok (.if_icmp .ne 6, 3) := by decide +kernel
theorem dX9_letPlay_148 : decode cX9_letPlay 148 = .ok (.goto 30, 3) := by decide +kernel
theorem dX9_letPlay_151 : decode cX9_letPlay 151 = .ok (.aload_n 2, 1) := by decide +kernel
theorem dX9_letPlay_152 : decode cX9_letPlay 152 = .ok (.iload 5, 2) := by decide +kernel
theorem dX9_letPlay_154 : decode cX9_letPlay 154 = .ok (.iload 4, 2) := by decide +kernel
theorem dX9_letPlay_156 : decode cX9_letPlay 156 = .ok (.iload 5, 2) := by decide +kernel
theorem dX9_letPlay_158 : decode cX9_letPlay 158 = .ok (.invokestatic 206, 3) := by decide +kernel
theorem dX9_letPlay_161 : decode cX9_letPlay 161 = .ok (.iload 5, 2) := by decide +kernel
theorem dX9_letPlay_163 : decode cX9_letPlay 163 = .ok (.invokestatic 203, 3) := by decide +kernel
theorem dX9_letPlay_166 : decode cX9_letPlay 166 = .ok (.invokestatic 220, 3) := by decide +kernel
theorem dX9_letPlay_169 : decode cX9_letPlay 169 = .ok (.invokevirtual 426, 3) := by decide +kernel
theorem dX9_letPlay_172 : decode cX9_letPlay 172 = .ok (.iinc 3 1, 3) := by decide +kernel
theorem dX9_letPlay_175 : decode cX9_letPlay 175 = .ok (.goto (-71), 3) := by decide +kernel
theorem dX9_letPlay_178 : decode cX9_letPlay 178 = .ok (.iload_n 3, 1) := by decide +kernel
theorem dX9_letPlay_179 : decode cX9_letPlay 179 = .ok (.ireturn, 1) := by decide +kernel
theorem dX9_takeBack_0 : decode cX9_takeBack 0 = .ok (.aload_n 0, 1) := by decide +kernel
theorem dX9_takeBack_1 : decode cX9_takeBack 1 = .ok (.getfield 10, 3) := by decide +kernel
theorem dX9_takeBack_4 : decode cX9_takeBack 4 = .ok (.getfield 118, 3) := by decide +kernel
theorem dX9_takeBack_7 : decode cX9_takeBack 7 = .ok (.astore_n 1, 1) := by decide +kernel
theorem dX9_takeBack_8 : decode cX9_takeBack 8 = .ok (.aload_n 1, 1) := by decide +kernel
theorem dX9_takeBack_9 : decode cX9_takeBack 9 = .ok (.getfield 122, 3) := by decide +kernel
theorem dX9_takeBack_12 : decode cX9_takeBack 12 = .ok (.ifCond .ne 11, 3) := by decide +kernel
theorem dX9_takeBack_15 : decode cX9_takeBack 15 = .ok (.aload_n 0, 1) := by decide +kernel
theorem dX9_takeBack_16 : decode cX9_takeBack 16 = .ok (.bipush 8, 2) := by decide +kernel
theorem dX9_takeBack_18 : decode cX9_takeBack 18 = .ok (.iconst 0, 1) := by decide +kernel
theorem dX9_takeBack_19 : decode cX9_takeBack 19 = .ok (.invokevirtual 402, 3) := by decide +kernel
theorem dX9_takeBack_22 : decode cX9_takeBack 22 = .ok (.ireturn, 1) := by decide +kernel
theorem dX9_takeBack_23 : decode cX9_takeBack 23 = .ok (.aload_n 1, 1) := by decide +kernel
theorem dX9_takeBack_24 : decode cX9_takeBack 24 = .ok (.getfield 325, 3) := by decide +kernel
theorem dX9_takeBack_27 : decode cX9_takeBack 27 = .ok (.ifCond .ne 11, 3) := by decide +kernel
theorem dX9_takeBack_30 : decode cX9_takeBack 30 = .ok (.aload_n 0, 1) := by decide +kernel
theorem dX9_takeBack_31 : decode cX9_takeBack 31 = .ok (.bipush 11, 2) := by decide +kernel
theorem dX9_takeBack_33 : decode cX9_takeBack 33 = .ok (.iconst 0, 1) := by decide +kernel
theorem dX9_takeBack_34 : decode cX9_takeBack 34 = .ok (.invokevirtual 402, 3) := by decide +kernel
theorem dX9_takeBack_37 : decode cX9_takeBack 37 = .ok (.ireturn, 1) := by decide +kernel
theorem dX9_takeBack_38 : decode cX9_takeBack 38 = .ok (.aload_n 1, 1) := by decide +kernel
theorem dX9_takeBack_39 : decode cX9_takeBack 39 = .ok (.dup, 1) := by decide +kernel
theorem dX9_takeBack_40 : decode cX9_takeBack 40 = .ok (.getfield 325, 3) := by decide +kernel
theorem dX9_takeBack_43 : decode cX9_takeBack 43 = .ok (.iconst 1, 1) := by decide +kernel
theorem dX9_takeBack_44 : decode cX9_takeBack 44 = .ok (.isub, 1) := by decide +kernel
theorem dX9_takeBack_45 : decode cX9_takeBack 45 = .ok (.putfield 325, 3) := by decide +kernel
theorem dX9_takeBack_48 : decode cX9_takeBack 48 = .ok (.aload_n 1, 1) := by decide +kernel
theorem dX9_takeBack_49 : decode cX9_takeBack 49 = .ok (.getfield 325, 3) := by decide +kernel
theorem dX9_takeBack_52 : decode cX9_takeBack 52 = .ok (.ireturn, 1) := by decide +kernel
theorem dX9_carriedOut_0 : decode cX9_carriedOut 0 = .ok (.aload_n 0, 1) := by decide +kernel
theorem dX9_carriedOut_1 : decode cX9_carriedOut 1 = .ok (.getfield 66, 3) := by decide +kernel
theorem dX9_carriedOut_4 : decode cX9_carriedOut 4 = .ok (.getfield 428, 3) := by decide +kernel
theorem dX9_carriedOut_7 : decode cX9_carriedOut 7 = .ok (.iload_n 1, 1) := by decide +kernel
theorem dX9_carriedOut_8 : decode cX9_carriedOut 8 = .ok (.invokestatic 282, 3) := by decide +kernel
theorem dX9_carriedOut_11 : decode cX9_carriedOut 11 = .ok (.istore_n 2, 1) := by decide +kernel
theorem dX9_carriedOut_12 : decode cX9_carriedOut 12 = .ok (.aload_n 0, 1) := by decide +kernel
theorem dX9_carriedOut_13 : decode cX9_carriedOut 13 = .ok (.getfield 66, 3) := by decide +kernel
theorem dX9_carriedOut_16 : decode cX9_carriedOut 16 = .ok (.getfield 429, 3) := by decide +kernel
theorem dX9_carriedOut_19 : decode cX9_carriedOut 19 = .ok (.iload_n 1, 1) := by decide +kernel
theorem dX9_carriedOut_20 : decode cX9_carriedOut 20 = .ok (.invokestatic 282, 3) := by decide +kernel
theorem dX9_carriedOut_23 : decode cX9_carriedOut 23 = .ok (.istore_n 3, 1) := by decide +kernel
theorem dX9_carriedOut_24 : decode cX9_carriedOut 24 = .ok (.aload_n 0, 1) := by decide +kernel
theorem dX9_carriedOut_25 : decode cX9_carriedOut 25 = .ok (.getfield 66, 3) := by decide +kernel
theorem dX9_carriedOut_28 : decode cX9_carriedOut 28 = .ok (.getfield 430, 3) := by decide +kernel
theorem dX9_carriedOut_31 : decode cX9_carriedOut 31 = .ok (.iload_n 1, 1) := by decide +kernel
theorem dX9_carriedOut_32 : decode cX9_carriedOut 32 = .ok (.invokestatic 282, 3) := by decide +kernel
theorem dX9_carriedOut_35 : decode cX9_carriedOut 35 = .ok (.tableswitch 167 97 120 #[161, 148, 167, 109, 167, 135, 142, 167, 167, 167, 167, 167, 154, 167, 167, 114, 167, 167, 167, 128, 167, 167, 167, 121], 109) := by decide +kernel
theorem dX9_carriedOut_144 : decode cX9_carriedOut 144 = .ok (.aload_n 0, 1) := by decide +kernel
theorem dX9_carriedOut_145 : decode cX9_carriedOut 145 = .ok (.invokevirtual 84, 3) := by decide +kernel
theorem dX9_carriedOut_148 : decode cX9_carriedOut 148 = .ok (.ireturn, 1) := by decide +kernel
theorem dX9_carriedOut_149 : decode cX9_carriedOut 149 = .ok (.aload_n 0, 1) := by decide +kernel
theorem dX9_carriedOut_150 : decode cX9_carriedOut 150 = .ok (.iload_n 2, 1) := by decide +kernel
theorem dX9_carriedOut_151 : decode cX9_carriedOut 151 = .ok (.iload_n 3, 1) := by decide +kernel
theorem dX9_carriedOut_152 : decode cX9_carriedOut 152 = .ok (.invokevirtual 92, 3) := by decide +kernel
theorem dX9_carriedOut_155 : decode cX9_carriedOut 155 = .ok (.ireturn, 1) := by decide +kernel
theorem dX9_carriedOut_156 : decode cX9_carriedOut 156 = .ok (.aload_n 0, 1) := by decide +kernel
theorem dX9_carriedOut_157 : decode cX9_carriedOut 157 = .ok (.iload_n 2, 1) := by decide +kernel
theorem dX9_carriedOut_158 : decode cX9_carriedOut 158 = .ok (.iload_n 3, 1) := by decide +kernel
theorem dX9_carriedOut_159 : decode cX9_carriedOut 159 = .ok (.invokevirtual 96, 3) := by decide +kernel
theorem dX9_carriedOut_162 : decode cX9_carriedOut 162 = .ok (.ireturn, 1) := by decide +kernel
theorem dX9_carriedOut_163 : decode cX9_carriedOut 163 = .ok (.aload_n 0, 1) := by decide +kernel
theorem dX9_carriedOut_164 : decode cX9_carriedOut 164 = .ok (.iload_n 2, 1) := by decide +kernel
theorem dX9_carriedOut_165 : decode cX9_carriedOut 165 = .ok (.iconst 1, 1) := by decide +kernel
theorem dX9_carriedOut_166 : decode cX9_carriedOut 166 = .ok (.invokevirtual 99, 3) := by decide +kernel
theorem dX9_carriedOut_169 : decode cX9_carriedOut 169 = .ok (.ireturn, 1) := by decide +kernel
theorem dX9_carriedOut_170 : decode cX9_carriedOut 170 = .ok (.aload_n 0, 1) := by decide +kernel
theorem dX9_carriedOut_171 : decode cX9_carriedOut 171 = .ok (.iload_n 2, 1) := by decide +kernel
theorem dX9_carriedOut_172 : decode cX9_carriedOut 172 = .ok (.iconst 0, 1) := by decide +kernel
theorem dX9_carriedOut_173 : decode cX9_carriedOut 173 = .ok (.invokevirtual 99, 3) := by decide +kernel
theorem dX9_carriedOut_176 : decode cX9_carriedOut 176 = .ok (.ireturn, 1) := by decide +kernel
theorem dX9_carriedOut_177 : decode cX9_carriedOut 177 = .ok (.aload_n 0, 1) := by decide +kernel
theorem dX9_carriedOut_178 : decode cX9_carriedOut 178 = .ok (.iload_n 2, 1) := by decide +kernel
theorem dX9_carriedOut_179 : decode cX9_carriedOut 179 = .ok (.invokevirtual 103, 3) := by decide +kernel
theorem dX9_carriedOut_182 : decode cX9_carriedOut 182 = .ok (.ireturn, 1) := by decide +kernel
theorem dX9_carriedOut_183 : decode cX9_carriedOut 183 = .ok (.aload_n 0, 1) := by decide +kernel
theorem dX9_carriedOut_184 : decode cX9_carriedOut 184 = .ok (.iload_n 2, 1) := by decide +kernel
theorem dX9_carriedOut_185 : decode cX9_carriedOut 185 = .ok (.invokevirtual 106, 3) := by decide +kernel
theorem dX9_carriedOut_188 : decode cX9_carriedOut 188 = .ok (.ireturn, 1) := by decide +kernel
theorem dX9_carriedOut_189 : decode cX9_carriedOut 189 = .ok (.aload_n 0, 1) := by decide +kernel
theorem dX9_carriedOut_190 : decode cX9_carriedOut 190 = .ok (.iload_n 2, 1) := by decide +kernel
theorem dX9_carriedOut_191 : decode cX9_carriedOut 191 = .ok (.iload_n 3, 1) := by decide +kernel
theorem dX9_carriedOut_192 : decode cX9_carriedOut 192 = .ok (.invokevirtual 109, 3) := by decide +kernel
theorem dX9_carriedOut_195 : decode cX9_carriedOut 195 = .ok (.ireturn, 1) := by decide +kernel
theorem dX9_carriedOut_196 : decode cX9_carriedOut 196 = .ok (.aload_n 0, 1) := by decide +kernel
theorem dX9_carriedOut_197 : decode cX9_carriedOut 197 = .ok (.iload_n 2, 1) := by decide +kernel
theorem dX9_carriedOut_198 : decode cX9_carriedOut 198 = .ok (.invokevirtual 112, 3) := by decide +kernel
theorem dX9_carriedOut_201 : decode cX9_carriedOut 201 = .ok (.ireturn, 1) := by decide +kernel
theorem dX9_carriedOut_202 : decode cX9_carriedOut 202 = .ok (.aload_n 0, 1) := by decide +kernel
theorem dX9_carriedOut_203 : decode cX9_carriedOut 203 = .ok (.invokevirtual 115, 3) := by decide +kernel
theorem dX9_carriedOut_206 : decode cX9_carriedOut 206 = .ok (.ireturn, 1) := by decide +kernel
theorem dX9_isRefusedFor_0 : decode cX9_isRefusedFor 0 = .ok (.aload_n 0, 1) := by decide +kernel
theorem dX9_isRefusedFor_1 : decode cX9_isRefusedFor 1 = .ok (.getfield 10, 3) := by decide +kernel
theorem dX9_isRefusedFor_4 : decode cX9_isRefusedFor 4 = .ok (.getfield 138, 3) := by decide +kernel
theorem dX9_isRefusedFor_7 : decode cX9_isRefusedFor 7 = .ok (.iload_n 1, 1) := by decide +kernel
theorem dX9_isRefusedFor_8 : decode cX9_isRefusedFor 8 = .ok (.invokevirtual 241, 3) := by decide +kernel
theorem dX9_isRefusedFor_11 : decode cX9_isRefusedFor 11 = .ok (.ifCond .eq 5, 3) := by decide +kernel
theorem dX9_isRefusedFor_14 : decode cX9_isRefusedFor 14 = .ok (.iconst 0, 1) := by decide +kernel
theorem dX9_isRefusedFor_15 : decode cX9_isRefusedFor 15 = .ok (.ireturn, 1) := by decide +kernel
theorem dX9_isRefusedFor_16 : decode cX9_isRefusedFor 16 = .ok (.aload_n 0, 1) := by decide +kernel
theorem dX9_isRefusedFor_17 : decode cX9_isRefusedFor 17 = .ok (.iconst 3, 1) := by decide +kernel
theorem dX9_isRefusedFor_18 : decode cX9_isRefusedFor 18 = .ok (.iload_n 1, 1) := by decide +kernel
theorem dX9_isRefusedFor_19 : decode cX9_isRefusedFor 19 = .ok (.invokevirtual 402, 3) := by decide +kernel
theorem dX9_isRefusedFor_22 : decode cX9_isRefusedFor 22 = .ok (.pop, 1) := by decide +kernel
theorem dX9_isRefusedFor_23 : decode cX9_isRefusedFor 23 = .ok (.iconst 1, 1) := by decide +kernel
theorem dX9_isRefusedFor_24 : decode cX9_isRefusedFor 24 = .ok (.ireturn, 1) := by decide +kernel
theorem dX9_refused_0 : decode cX9_refused 0 = .ok (.aload_n 0, 1) := by decide +kernel
theorem dX9_refused_1 : decode cX9_refused 1 = .ok (.getfield 73, 3) := by decide +kernel
theorem dX9_refused_4 : decode cX9_refused 4 = .ok (.iconst 1, 1) := by decide +kernel
theorem dX9_refused_5 : decode cX9_refused 5 = .ok (.putfield 365, 3) := by decide +kernel
theorem dX9_refused_8 : decode cX9_refused 8 = .ok (.aload_n 0, 1) := by decide +kernel
theorem dX9_refused_9 : decode cX9_refused 9 = .ok (.getfield 73, 3) := by decide +kernel
theorem dX9_refused_12 : decode cX9_refused 12 = .ok (.iload_n 1, 1) := by decide +kernel
theorem dX9_refused_13 : decode cX9_refused 13 = .ok (.putfield 370, 3) := by decide +kernel
theorem dX9_refused_16 : decode cX9_refused 16 = .ok (.aload_n 0, 1) := by decide +kernel
theorem dX9_refused_17 : decode cX9_refused 17 = .ok (.getfield 73, 3) := by decide +kernel
theorem dX9_refused_20 : decode cX9_refused 20 = .ok (.iload_n 2, 1) := by decide +kernel
theorem dX9_refused_21 : decode cX9_refused 21 = .ok (.putfield 373, 3) := by decide +kernel
theorem dX9_refused_24 : decode cX9_refused 24 = .ok (.aload_n 0, 1) := by decide +kernel
theorem dX9_refused_25 : decode cX9_refused 25 = .ok (.getfield 73, 3) := by decide +kernel
theorem dX9_refused_28 : decode cX9_refused 28 = .ok (.aload_n 0, 1) := by decide +kernel
theorem dX9_refused_29 : decode cX9_refused 29 = .ok (.getfield 357, 3) := by decide +kernel
theorem dX9_refused_32 : decode cX9_refused 32 = .ok (.putfield 376, 3) := by decide +kernel
theorem dX9_refused_35 : decode cX9_refused 35 = .ok (.iconst (-1), 1) := by decide +kernel
theorem dX9_refused_36 : decode cX9_refused 36 = .ok (.ireturn, 1) := by decide +kernel
theorem dX9_setAside_0 : decode cX9_setAside 0 = .ok (.aload_n 0, 1) := by decide +kernel
theorem dX9_setAside_1 : decode cX9_setAside 1 = .ok (.getfield 16, 3) := by decide +kernel
theorem dX9_setAside_4 : decode cX9_setAside 4 = .ok (.aload_n 0, 1) := by decide +kernel
theorem dX9_setAside_5 : decode cX9_setAside 5 = .ok (.getfield 10, 3) := by decide +kernel
theorem dX9_setAside_8 : decode cX9_setAside 8 = .ok (.invokevirtual 395, 3) := by decide +kernel
theorem dX9_setAside_11 : decode cX9_setAside 11 = .ok (.return_, 1) := by decide +kernel
theorem dX9_settled_0 : decode cX9_settled 0 = .ok (.iload_n 1, 1) := by decide +kernel
theorem dX9_settled_1 : decode cX9_settled 1 = .ok (.iconst (-1), 1) := by decide +kernel
theorem dX9_settled_2 : decode cX9_settled 2 = .ok (.if_icmp .ne 25, 3) := by decide +kernel
theorem dX9_settled_5 : decode cX9_settled 5 = .ok (.aload_n 0, 1) := by decide +kernel
theorem dX9_settled_6 : decode cX9_settled 6 = .ok (.getfield 10, 3) := by decide +kernel
theorem dX9_settled_9 : decode cX9_settled 9 = .ok (.aload_n 0, 1) := by decide +kernel
theorem dX9_settled_10 : decode cX9_settled 10 = .ok (.getfield 16, 3) := by decide +kernel
theorem dX9_settled_13 : decode cX9_settled 13 = .ok (.invokevirtual 395, 3) := by decide +kernel
theorem dX9_settled_16 : decode cX9_settled 16 = .ok (.new 433, 3) := by decide +kernel
theorem dX9_settled_19 : decode cX9_settled 19 = .ok (.dup, 1) := by decide +kernel
theorem dX9_settled_20 : decode cX9_settled 20 = .ok (.ldc_w 435, 3) := by decide +kernel
theorem dX9_settled_23 : decode cX9_settled 23 = .ok (.invokespecial 437, 3) := by decide +kernel
theorem dX9_settled_26 : decode cX9_settled 26 = .ok (.athrow, 1) := by decide +kernel
theorem dX9_settled_27 : decode cX9_settled 27 = .ok (.aload_n 0, 1) := by decide +kernel
theorem dX9_settled_28 : decode cX9_settled 28 = .ok (.getfield 25, 3) := by decide +kernel
theorem dX9_settled_31 : decode cX9_settled 31 = .ok (.aload_n 0, 1) := by decide +kernel
theorem dX9_settled_32 : decode cX9_settled 32 = .ok (.getfield 16, 3) := by decide +kernel
theorem dX9_settled_35 : decode cX9_settled 35 = .ok (.invokevirtual 438, 3) := by decide +kernel
theorem dX9_settled_38 : decode cX9_settled 38 = .ok (.iload_n 1, 1) := by decide +kernel
theorem dX9_settled_39 : decode cX9_settled 39 = .ok (.ireturn, 1) := by decide +kernel
theorem dX9_markChanged_0 : decode cX9_markChanged 0 = .ok (.aload_n 0, 1) := by decide +kernel
theorem dX9_markChanged_1 : decode cX9_markChanged 1 = .ok (.getfield 10, 3) := by decide +kernel
theorem dX9_markChanged_4 : decode cX9_markChanged 4 = .ok (.getfield 118, 3) := by decide +kernel
theorem dX9_markChanged_7 : decode cX9_markChanged 7 = .ok (.iconst 0, 1) := by decide +kernel
theorem dX9_markChanged_8 : decode cX9_markChanged 8 = .ok (.putfield 122, 3) := by decide +kernel
theorem dX9_markChanged_11 : decode cX9_markChanged 11 = .ok (.aload_n 0, 1) := by decide +kernel
theorem dX9_markChanged_12 : decode cX9_markChanged 12 = .ok (.getfield 10, 3) := by decide +kernel
theorem dX9_markChanged_15 : decode cX9_markChanged 15 = .ok (.getfield 138, 3) := by decide +kernel
theorem dX9_markChanged_18 : decode cX9_markChanged 18 = .ok (.aload_n 0, 1) := by decide +kernel
theorem dX9_markChanged_19 : decode cX9_markChanged 19 = .ok (.invokevirtual 259, 3) := by decide +kernel
theorem dX9_markChanged_22 : decode cX9_markChanged 22 = .ok (.putfield 262, 3) := by decide +kernel
theorem dX9_markChanged_25 : decode cX9_markChanged 25 = .ok (.return_, 1) := by decide +kernel
theorem dX9_newVersion_0 : decode cX9_newVersion 0 = .ok (.aload_n 0, 1) := by decide +kernel
theorem dX9_newVersion_1 : decode cX9_newVersion 1 = .ok (.dup, 1) := by decide +kernel
theorem dX9_newVersion_2 : decode cX9_newVersion 2 = .ok (.getfield 441, 3) := by decide +kernel
theorem dX9_newVersion_5 : decode cX9_newVersion 5 = .ok (.iconst 1, 1) := by decide +kernel
theorem dX9_newVersion_6 : decode cX9_newVersion 6 = .ok (.iadd, 1) := by decide +kernel
theorem dX9_newVersion_7 : decode cX9_newVersion 7 = .ok (.putfield 441, 3) := by decide +kernel
theorem dX9_newVersion_10 : decode cX9_newVersion 10 = .ok (.aload_n 0, 1) := by decide +kernel
theorem dX9_newVersion_11 : decode cX9_newVersion 11 = .ok (.getfield 441, 3) := by decide +kernel
theorem dX9_newVersion_14 : decode cX9_newVersion 14 = .ok (.ireturn, 1) := by decide +kernel
theorem dX9_needPosition_0 : decode cX9_needPosition 0 = .ok (.aload_n 0, 1) := by decide +kernel
theorem dX9_needPosition_1 : decode cX9_needPosition 1 = .ok (.getfield 10, 3) := by decide +kernel
theorem dX9_needPosition_4 : decode cX9_needPosition 4 = .ok (.getfield 138, 3) := by decide +kernel
theorem dX9_needPosition_7 : decode cX9_needPosition 7 = .ok (.iload_n 1, 1) := by decide +kernel
theorem dX9_needPosition_8 : decode cX9_needPosition 8 = .ok (.invokevirtual 268, 3) := by decide +kernel
theorem dX9_needPosition_11 : decode cX9_needPosition 11 = .ok (.ifCond .ne 13, 3) := by decide +kernel
theorem dX9_needPosition_14 : decode cX9_needPosition 14 = .ok (.new 128, 3) := by decide +kernel
theorem dX9_needPosition_17 : decode cX9_needPosition 17 = .ok (.dup, 1) := by decide +kernel
theorem dX9_needPosition_18 : decode cX9_needPosition 18 = .ok (.ldc 145, 2) := by decide +kernel
theorem dX9_needPosition_20 : decode cX9_needPosition 20 = .ok (.invokespecial 132, 3) := by decide +kernel
theorem dX9_needPosition_23 : decode cX9_needPosition 23 = .ok (.athrow, 1) := by decide +kernel
theorem dX9_needPosition_24 : decode cX9_needPosition 24 = .ok (.return_, 1) := by decide +kernel
theorem dX9_positionsIn_0 : decode cX9_positionsIn 0 = .ok (.aload_n 0, 1) := by decide +kernel
theorem dX9_positionsIn_1 : decode cX9_positionsIn 1 = .ok (.getfield 39, 3) := by decide +kernel
theorem dX9_positionsIn_4 : decode cX9_positionsIn 4 = .ok (.aload_n 0, 1) := by decide +kernel
theorem dX9_positionsIn_5 : decode cX9_positionsIn 5 = .ok (.getfield 10, 3) := by decide +kernel
theorem dX9_positionsIn_8 : decode cX9_positionsIn 8 = .ok (.getfield 138, 3) := by decide +kernel
theorem dX9_positionsIn_11 : decode cX9_positionsIn 11 = .ok (.invokevirtual 182, 3) := by decide +kernel
theorem dX9_positionsIn_14 : decode cX9_positionsIn 14 = .ok (.iconst 0, 1) := by decide +kernel
theorem dX9_positionsIn_15 : decode cX9_positionsIn 15 = .ok (.istore_n 2, 1) := by decide +kernel
theorem dX9_positionsIn_16 : decode cX9_positionsIn 16 = .ok (.iconst 0, 1) := by decide +kernel
theorem dX9_positionsIn_17 : decode cX9_positionsIn 17 = .ok (.istore_n 3, 1) := by decide +kernel
theorem dX9_positionsIn_18 : decode cX9_positionsIn 18 = .ok (.iload_n 3, 1) := by decide +kernel
theorem dX9_positionsIn_19 : decode cX9_positionsIn 19 = .ok (.aload_n 0, 1) := by decide +kernel
theorem dX9_positionsIn_20 : decode cX9_positionsIn 20 = .ok (.getfield 39, 3) := by decide +kernel
theorem dX9_positionsIn_23 : decode cX9_positionsIn 23 = .ok (.getfield 228, 3) := by decide +kernel
theorem dX9_positionsIn_26 : decode cX9_positionsIn 26 = .ok (.if_icmp .ge 31, 3) := by decide +kernel
theorem dX9_positionsIn_29 : decode cX9_positionsIn 29 = .ok (.aload_n 0, 1) := by decide +kernel
theorem dX9_positionsIn_30 : decode cX9_positionsIn 30 = .ok (.getfield 39, 3) := by decide +kernel
theorem dX9_positionsIn_33 : decode cX9_positionsIn 33 = .ok (.aload_n 0, 1) := by decide +kernel
theorem dX9_positionsIn_34 : decode cX9_positionsIn 34 = .ok (.getfield 39, 3) := by decide +kernel
theorem dX9_positionsIn_37 : decode cX9_positionsIn 37 = .ok (.iload_n 3, 1) := by decide +kernel
theorem dX9_positionsIn_38 : decode cX9_positionsIn 38 = .ok (.invokevirtual 231, 3) := by decide +kernel
theorem dX9_positionsIn_41 : decode cX9_positionsIn 41 = .ok (.invokevirtual 189, 3) := by decide +kernel
theorem dX9_positionsIn_44 : decode cX9_positionsIn 44 = .ok (.iload_n 1, 1) := by decide +kernel
theorem dX9_positionsIn_45 : decode cX9_positionsIn 45 = .ok (.if_icmp .ne 6, 3) := by decide +kernel
theorem dX9_positionsIn_48 : decode cX9_positionsIn 48 = .ok (.iinc 2 1, 3) := by decide +kernel
theorem dX9_positionsIn_51 : decode cX9_positionsIn 51 = .ok (.iinc 3 1, 3) := by decide +kernel
theorem dX9_positionsIn_54 : decode cX9_positionsIn 54 = .ok (.goto (-36), 3) := by decide +kernel
theorem dX9_positionsIn_57 : decode cX9_positionsIn 57 = .ok (.iload_n 2, 1) := by decide +kernel
theorem dX9_positionsIn_58 : decode cX9_positionsIn 58 = .ok (.ireturn, 1) := by decide +kernel
theorem dX9_winsOfFoxOn_0 : decode cX9_winsOfFoxOn 0 = .ok (.aload_n 0, 1) := by decide +kernel
theorem dX9_winsOfFoxOn_1 : decode cX9_winsOfFoxOn 1 = .ok (.getfield 39, 3) := by decide +kernel
theorem dX9_winsOfFoxOn_4 : decode cX9_winsOfFoxOn 4 = .ok (.aload_n 0, 1) := by decide +kernel
theorem dX9_winsOfFoxOn_5 : decode cX9_winsOfFoxOn 5 = .ok (.getfield 10, 3) := by decide +kernel
theorem dX9_winsOfFoxOn_8 : decode cX9_winsOfFoxOn 8 = .ok (.getfield 138, 3) := by decide +kernel
theorem dX9_winsOfFoxOn_11 : decode cX9_winsOfFoxOn 11 = .ok (.invokevirtual 182, 3) := by decide +kernel
theorem dX9_winsOfFoxOn_14 : decode cX9_winsOfFoxOn 14 = .ok (.iconst 0, 1) := by decide +kernel
theorem dX9_winsOfFoxOn_15 : decode cX9_winsOfFoxOn 15 = .ok (.istore_n 2, 1) := by decide +kernel
theorem dX9_winsOfFoxOn_16 : decode cX9_winsOfFoxOn 16 = .ok (.iconst 0, 1) := by decide +kernel
theorem dX9_winsOfFoxOn_17 : decode cX9_winsOfFoxOn 17 = .ok (.istore_n 3, 1) := by decide +kernel
theorem dX9_winsOfFoxOn_18 : decode cX9_winsOfFoxOn 18 = .ok (.iload_n 3, 1) := by decide +kernel
theorem dX9_winsOfFoxOn_19 : decode cX9_winsOfFoxOn 19 = .ok (.aload_n 0, 1) := by decide +kernel
theorem dX9_winsOfFoxOn_20 : decode cX9_winsOfFoxOn 20 = .ok (.getfield 39, 3) := by decide +kernel
theorem dX9_winsOfFoxOn_23 : decode cX9_winsOfFoxOn 23 = .ok (.getfield 228, 3) := by decide +kernel
theorem dX9_winsOfFoxOn_26 : decode cX9_winsOfFoxOn 26 = .ok (.if_icmp .ge 43, 3) := by decide +kernel
theorem dX9_winsOfFoxOn_29 : decode cX9_winsOfFoxOn 29 = .ok (.aload_n 0, 1) := by decide +kernel
theorem dX9_winsOfFoxOn_30 : decode cX9_winsOfFoxOn 30 = .ok (.getfield 39, 3) := by decide +kernel
theorem dX9_winsOfFoxOn_33 : decode cX9_winsOfFoxOn 33 = .ok (.iload_n 3, 1) := by decide +kernel
theorem dX9_winsOfFoxOn_34 : decode cX9_winsOfFoxOn 34 = .ok (.invokevirtual 231, 3) := by decide +kernel
theorem dX9_winsOfFoxOn_37 : decode cX9_winsOfFoxOn 37 = .ok (.istore 4, 2) := by decide +kernel
theorem dX9_winsOfFoxOn_39 : decode cX9_winsOfFoxOn 39 = .ok (.iload 4, 2) := by decide +kernel
theorem dX9_winsOfFoxOn_41 : decode cX9_winsOfFoxOn 41 = .ok (.invokestatic 160, 3) := by decide +kernel
theorem dX9_winsOfFoxOn_44 : decode cX9_winsOfFoxOn 44 = .ok (.iload_n 1, 1) := by decide +kernel
theorem dX9_winsOfFoxOn_45 : decode cX9_winsOfFoxOn 45 = .ok (.if_icmp .ne 18, 3) := by decide +kernel
theorem dX9_winsOfFoxOn_48 : decode cX9_winsOfFoxOn 48 = .ok (.aload_n 0, 1) := by decide +kernel
theorem dX9_winsOfFoxOn_49 : decode cX9_winsOfFoxOn 49 = .ok (.getfield 39, 3) := by decide +kernel
theorem dX9_winsOfFoxOn_52 : decode cX9_winsOfFoxOn 52 = .ok (.iload 4, 2) := by decide +kernel
theorem dX9_winsOfFoxOn_54 : decode cX9_winsOfFoxOn 54 = .ok (.invokevirtual 271, 3) := by decide +kernel
theorem dX9_winsOfFoxOn_57 : decode cX9_winsOfFoxOn 57 = .ok (.ifCond .eq 6, 3) := by decide +kernel
theorem dX9_winsOfFoxOn_60 : decode cX9_winsOfFoxOn 60 = .ok (.iinc 2 1, 3) := by decide +kernel
theorem dX9_winsOfFoxOn_63 : decode cX9_winsOfFoxOn 63 = .ok (.iinc 3 1, 3) := by decide +kernel
theorem dX9_winsOfFoxOn_66 : decode cX9_winsOfFoxOn 66 = .ok (.goto (-48), 3) := by decide +kernel
theorem dX9_winsOfFoxOn_69 : decode cX9_winsOfFoxOn 69 = .ok (.iload_n 2, 1) := by decide +kernel
theorem dX9_winsOfFoxOn_70 : decode cX9_winsOfFoxOn 70 = .ok (.ireturn, 1) := by decide +kernel
theorem dX9_accountOfPositions_0 : decode cX9_accountOfPositions 0 = .ok (.iload_n 1, 1) := by decide +kernel
theorem dX9_accountOfPositions_1 : decode cX9_accountOfPositions 1 = .ok (.iconst 5, 1) := by decide +kernel
theorem dX9_accountOfPositions_2 : decode cX9_accountOfPositions 2 = .ok (.if_icmp .ne 9, 3) := by decide +kernel
theorem dX9_accountOfPositions_5 : decode cX9_accountOfPositions 5 = .ok (.aload_n 0, 1) := by decide +kernel
theorem dX9_accountOfPositions_6 : decode cX9_accountOfPositions 6 = .ok (.iconst 0, 1) := by decide +kernel
theorem dX9_accountOfPositions_7 : decode cX9_accountOfPositions 7 = .ok (.invokevirtual 238, 3) := by decide +kernel
theorem dX9_accountOfPositions_10 : decode cX9_accountOfPositions 10 = .ok (.ireturn, 1) := by decide +kernel
theorem dX9_accountOfPositions_11 : decode cX9_accountOfPositions 11 = .ok (.aload_n 0, 1) := by decide +kernel
theorem dX9_accountOfPositions_12 : decode cX9_accountOfPositions 12 = .ok (.getfield 39, 3) := by decide +kernel
theorem dX9_accountOfPositions_15 : decode cX9_accountOfPositions 15 = .ok (.aload_n 0, 1) := by decide +kernel
theorem dX9_accountOfPositions_16 : decode cX9_accountOfPositions 16 = .ok (.getfield 10, 3) := by decide +kernel
theorem dX9_accountOfPositions_19 : decode cX9_accountOfPositions 19 = .ok (.getfield 138, 3) := by decide +kernel
theorem dX9_accountOfPositions_22 : decode cX9_accountOfPositions 22 = .ok (.invokevirtual 182, 3) := by decide +kernel
theorem dX9_accountOfPositions_25 : decode cX9_accountOfPositions 25 = .ok (.iload_n 1, 1) := by decide +kernel
theorem dX9_accountOfPositions_26 : decode cX9_accountOfPositions 26 = .ok (.iconst 4, 1) := by decide +kernel
theorem dX9_accountOfPositions_27 : decode cX9_accountOfPositions 27 = .ok (.if_icmp .ne 11, 3) := by decide +kernel
theorem dX9_accountOfPositions_30 : decode cX9_accountOfPositions 30 = .ok (.aload_n 0, 1) := by decide +kernel
theorem dX9_accountOfPositions_31 : decode cX9_accountOfPositions 31 = .ok (.getfield 39, 3) := by decide +kernel
theorem dX9_accountOfPositions_34 : decode cX9_accountOfPositions 34 = .ok (.getfield 228, 3) := by decide +kernel
theorem dX9_accountOfPositions_37 : decode cX9_accountOfPositions 37 = .ok (.ireturn, 1) := by decide +kernel
theorem dX9_accountOfPositions_38 : decode cX9_accountOfPositions 38 = .ok (.iconst (-1), 1) := by decide +kernel
theorem dX9_accountOfPositions_39 : decode cX9_accountOfPositions 39 = .ok (.istore_n 2, 1) := by decide +kernel
theorem dX9_accountOfPositions_40 : decode cX9_accountOfPositions 40 = .ok (.iconst 0, 1) := by decide +kernel
theorem dX9_accountOfPositions_41 : decode cX9_accountOfPositions 41 = .ok (.istore_n 3, 1) := by decide +kernel
theorem dX9_accountOfPositions_42 : decode cX9_accountOfPositions 42 = .ok (.iload_n 3, 1) := by decide +kernel
theorem dX9_accountOfPositions_43 : decode cX9_accountOfPositions 43 = .ok (.aload_n 0, 1) := by decide +kernel
theorem dX9_accountOfPositions_44 : decode cX9_accountOfPositions 44 = .ok (.getfield 39, 3) := by decide +kernel
theorem dX9_accountOfPositions_47 : decode cX9_accountOfPositions 47 = .ok (.getfield 228, 3) := by decide +kernel
theorem dX9_accountOfPositions_50 : decode cX9_accountOfPositions 50 = .ok (.if_icmp .ge 29, 3) := by decide +kernel
theorem dX9_accountOfPositions_53 : decode cX9_accountOfPositions 53 = .ok (.iload_n 2, 1) := by decide +kernel
theorem dX9_accountOfPositions_54 : decode cX9_accountOfPositions 54 = .ok (.aload_n 0, 1) := by decide +kernel
theorem dX9_accountOfPositions_55 : decode cX9_accountOfPositions 55 = .ok (.getfield 39, 3) := by decide +kernel
theorem dX9_accountOfPositions_58 : decode cX9_accountOfPositions 58 = .ok (.aload_n 0, 1) := by decide +kernel
theorem dX9_accountOfPositions_59 : decode cX9_accountOfPositions 59 = .ok (.getfield 39, 3) := by decide +kernel
theorem dX9_accountOfPositions_62 : decode cX9_accountOfPositions 62 = .ok (.iload_n 3, 1) := by decide +kernel
theorem dX9_accountOfPositions_63 : decode cX9_accountOfPositions 63 = .ok (.invokevirtual 231, 3) := by decide +kernel
theorem dX9_accountOfPositions_66 : decode cX9_accountOfPositions 66 = .ok (.invokevirtual 189, 3) := by decide +kernel
theorem dX9_accountOfPositions_69 : decode cX9_accountOfPositions 69 = .ok (.invokestatic 444, 3) := by decide +kernel
theorem dX9_accountOfPositions_72 : decode cX9_accountOfPositions 72 = .ok (.istore_n 2, 1) := by decide +kernel
theorem dX9_accountOfPositions_73 : decode cX9_accountOfPositions 73 = .ok (.iinc 3 1, 3) := by decide +kernel
theorem dX9_accountOfPositions_76 : decode cX9_accountOfPositions 76 = .ok (.goto (-34), 3) := by decide +kernel
theorem dX9_accountOfPositions_79 : decode cX9_accountOfPositions 79 = .ok (.iload_n 2, 1) := by decide +kernel
theorem dX9_accountOfPositions_80 : decode cX9_accountOfPositions 80 = .ok (.ireturn, 1) := by decide +kernel
theorem dX9_at_0 : decode cX9_at 0 = .ok (.iload_n 1, 1) := by decide +kernel
theorem dX9_at_1 : decode cX9_at 1 = .ok (.ifCond .lt 9, 3) := by decide +kernel
theorem dX9_at_4 : decode cX9_at 4 = .ok (.iload_n 1, 1) := by decide +kernel
theorem dX9_at_5 : decode cX9_at 5 = .ok (.aload_n 0, 1) := by decide +kernel
theorem dX9_at_6 : decode cX9_at 6 = .ok (.arraylength, 1) := by decide +kernel
theorem dX9_at_7 : decode cX9_at 7 = .ok (.if_icmp .lt 7, 3) := by decide +kernel
theorem dX9_at_10 : decode cX9_at 10 = .ok (.iconst 0, 1) := by decide +kernel
theorem dX9_at_11 : decode cX9_at 11 = .ok (.goto 6, 3) := by decide +kernel
theorem dX9_at_14 : decode cX9_at 14 = .ok (.aload_n 0, 1) := by decide +kernel
theorem dX9_at_15 : decode cX9_at 15 = .ok (.iload_n 1, 1) := by decide +kernel
theorem dX9_at_16 : decode cX9_at 16 = .ok (.iaload, 1) := by decide +kernel
theorem dX9_at_17 : decode cX9_at 17 = .ok (.ireturn, 1) := by decide +kernel
theorem dX9_put_0 : decode cX9_put 0 = .ok (.iload_n 1, 1) := by decide +kernel
theorem dX9_put_1 : decode cX9_put 1 = .ok (.ifCond .lt 13, 3) := by decide +kernel
theorem dX9_put_4 : decode cX9_put 4 = .ok (.iload_n 1, 1) := by decide +kernel
theorem dX9_put_5 : decode cX9_put 5 = .ok (.aload_n 0, 1) := by decide +kernel
theorem dX9_put_6 : decode cX9_put 6 = .ok (.arraylength, 1) := by decide +kernel
theorem dX9_put_7 : decode cX9_put 7 = .ok (.if_icmp .ge 7, 3) := by decide +kernel
theorem dX9_put_10 : decode cX9_put 10 = .ok (.aload_n 0, 1) := by decide +kernel
theorem dX9_put_11 : decode cX9_put 11 = .ok (.iload_n 1, 1) := by decide +kernel
theorem dX9_put_12 : decode cX9_put 12 = .ok (.iload_n 2, 1) := by decide +kernel
theorem dX9_put_13 : decode cX9_put 13 = .ok (.iastore, 1) := by decide +kernel
theorem dX9_put_14 : decode cX9_put 14 = .ok (.return_, 1) := by decide +kernel
theorem dX9_copy_0 : decode cX9_copy 0 = .ok (.aload_n 0, 1) := by decide +kernel
theorem dX9_copy_1 : decode cX9_copy 1 = .ok (.iconst 0, 1) := by decide +kernel
theorem dX9_copy_2 : decode cX9_copy 2 = .ok (.aload_n 1, 1) := by decide +kernel
theorem dX9_copy_3 : decode cX9_copy 3 = .ok (.iconst 0, 1) := by decide +kernel
theorem dX9_copy_4 : decode cX9_copy 4 = .ok (.aload_n 0, 1) := by decide +kernel
theorem dX9_copy_5 : decode cX9_copy 5 = .ok (.arraylength, 1) := by decide +kernel
theorem dX9_copy_6 : decode cX9_copy 6 = .ok (.aload_n 1, 1) := by decide +kernel
theorem dX9_copy_7 : decode cX9_copy 7 = .ok (.arraylength, 1) := by decide +kernel
theorem dX9_copy_8 : decode cX9_copy 8 = .ok (.invokestatic 449, 3) := by decide +kernel
theorem dX9_copy_11 : decode cX9_copy 11 = .ok (.invokestatic 452, 3) := by decide +kernel
theorem dX9_copy_14 : decode cX9_copy 14 = .ok (.return_, 1) := by decide +kernel
theorem dX9_numberOf_0 : decode cX9_numberOf 0 = .ok (.sipush 162, 3) := by decide +kernel
theorem dX9_numberOf_3 : decode cX9_numberOf 3 = .ok (.iload_n 0, 1) := by decide +kernel
theorem dX9_numberOf_4 : decode cX9_numberOf 4 = .ok (.imul, 1) := by decide +kernel
theorem dX9_numberOf_5 : decode cX9_numberOf 5 = .ok (.bipush 18, 2) := by decide +kernel
theorem dX9_numberOf_7 : decode cX9_numberOf 7 = .ok (.iload_n 1, 1) := by decide +kernel
theorem dX9_numberOf_8 : decode cX9_numberOf 8 = .ok (.imul, 1) := by decide +kernel
theorem dX9_numberOf_9 : decode cX9_numberOf 9 = .ok (.iadd, 1) := by decide +kernel
theorem dX9_numberOf_10 : decode cX9_numberOf 10 = .ok (.iconst 2, 1) := by decide +kernel
theorem dX9_numberOf_11 : decode cX9_numberOf 11 = .ok (.iload_n 2, 1) := by decide +kernel
theorem dX9_numberOf_12 : decode cX9_numberOf 12 = .ok (.iconst 1, 1) := by decide +kernel
theorem dX9_numberOf_13 : decode cX9_numberOf 13 = .ok (.iadd, 1) := by decide +kernel
theorem dX9_numberOf_14 : decode cX9_numberOf 14 = .ok (.imul, 1) := by decide +kernel
theorem dX9_numberOf_15 : decode cX9_numberOf 15 = .ok (.iadd, 1) := by decide +kernel
theorem dX9_numberOf_16 : decode cX9_numberOf 16 = .ok (.iload_n 3, 1) := by decide +kernel
theorem dX9_numberOf_17 : decode cX9_numberOf 17 = .ok (.iadd, 1) := by decide +kernel
theorem dX9_numberOf_18 : decode cX9_numberOf 18 = .ok (.ireturn, 1) := by decide +kernel
theorem dX9_foxOf_0 : decode cX9_foxOf 0 = .ok (.iload_n 0, 1) := by decide +kernel
theorem dX9_foxOf_1 : decode cX9_foxOf 1 = .ok (.sipush 162, 3) := by decide +kernel
theorem dX9_foxOf_4 : decode cX9_foxOf 4 = .ok (.idiv, 1) := by decide +kernel
theorem dX9_foxOf_5 : decode cX9_foxOf 5 = .ok (.ireturn, 1) := by decide +kernel
theorem dX9_firstOf_0 : decode cX9_firstOf 0 = .ok (.iload_n 0, 1) := by decide +kernel
theorem dX9_firstOf_1 : decode cX9_firstOf 1 = .ok (.sipush 162, 3) := by decide +kernel
theorem dX9_firstOf_4 : decode cX9_firstOf 4 = .ok (.irem, 1) := by decide +kernel
theorem dX9_firstOf_5 : decode cX9_firstOf 5 = .ok (.bipush 18, 2) := by decide +kernel
theorem dX9_firstOf_7 : decode cX9_firstOf 7 = .ok (.idiv, 1) := by decide +kernel
theorem dX9_firstOf_8 : decode cX9_firstOf 8 = .ok (.ireturn, 1) := by decide +kernel
theorem dX9_secondOf_0 : decode cX9_secondOf 0 = .ok (.iload_n 0, 1) := by decide +kernel
theorem dX9_secondOf_1 : decode cX9_secondOf 1 = .ok (.bipush 18, 2) := by decide +kernel
theorem dX9_secondOf_3 : decode cX9_secondOf 3 = .ok (.irem, 1) := by decide +kernel
theorem dX9_secondOf_4 : decode cX9_secondOf 4 = .ok (.iconst 2, 1) := by decide +kernel
theorem dX9_secondOf_5 : decode cX9_secondOf 5 = .ok (.idiv, 1) := by decide +kernel
theorem dX9_secondOf_6 : decode cX9_secondOf 6 = .ok (.iconst 1, 1) := by decide +kernel
theorem dX9_secondOf_7 : decode cX9_secondOf 7 = .ok (.isub, 1) := by decide +kernel
theorem dX9_secondOf_8 : decode cX9_secondOf 8 = .ok (.ireturn, 1) := by decide +kernel
theorem dX9_turnOf_0 : decode cX9_turnOf 0 = .ok (.iload_n 0, 1) := by decide +kernel
theorem dX9_turnOf_1 : decode cX9_turnOf 1 = .ok (.iconst 2, 1) := by decide +kernel
theorem dX9_turnOf_2 : decode cX9_turnOf 2 = .ok (.irem, 1) := by decide +kernel
theorem dX9_turnOf_3 : decode cX9_turnOf 3 = .ok (.ireturn, 1) := by decide +kernel
theorem dX9_shifted_0 : decode cX9_shifted 0 = .ok (.iload_n 0, 1) := by decide +kernel
theorem dX9_shifted_1 : decode cX9_shifted 1 = .ok (.invokestatic 160, 3) := by decide +kernel
theorem dX9_shifted_4 : decode cX9_shifted 4 = .ok (.istore_n 3, 1) := by decide +kernel
theorem dX9_shifted_5 : decode cX9_shifted 5 = .ok (.iload_n 0, 1) := by decide +kernel
theorem dX9_shifted_6 : decode cX9_shifted 6 = .ok (.invokestatic 163, 3) := by decide +kernel
theorem dX9_shifted_9 : decode cX9_shifted 9 = .ok (.istore 4, 2) := by decide +kernel
theorem dX9_shifted_11 : decode cX9_shifted 11 = .ok (.iload_n 0, 1) := by decide +kernel
theorem dX9_shifted_12 : decode cX9_shifted 12 = .ok (.invokestatic 166, 3) := by decide +kernel
theorem dX9_shifted_15 : decode cX9_shifted 15 = .ok (.istore 5, 2) := by decide +kernel
theorem dX9_shifted_17 : decode cX9_shifted 17 = .ok (.iconst 1, 1) := by decide +kernel
theorem dX9_shifted_18 : decode cX9_shifted 18 = .ok (.iload_n 0, 1) := by decide +kernel
theorem dX9_shifted_19 : decode cX9_shifted 19 = .ok (.invokestatic 169, 3) := by decide +kernel
theorem dX9_shifted_22 : decode cX9_shifted 22 = .ok (.isub, 1) := by decide +kernel
theorem dX9_shifted_23 : decode cX9_shifted 23 = .ok (.istore 6, 2) := by decide +kernel
theorem dX9_shifted_25 : decode cX9_shifted 25 = .ok (.iload_n 1, 1) := by decide +kernel
theorem dX9_shifted_26 : decode cX9_shifted 26 = .ok (.iload_n 3, 1) := by decide +kernel
theorem dX9_shifted_27 : decode cX9_shifted 27 = .ok (.if_icmp .ne 14, 3) := by decide +kernel
theorem dX9_shifted_30 : decode cX9_shifted 30 = .ok (.iload_n 2, 1) := by decide +kernel
theorem dX9_shifted_31 : decode cX9_shifted 31 = .ok (.iload 4, 2) := by decide +kernel
theorem dX9_shifted_33 : decode cX9_shifted 33 = .ok (.iload 5, 2) := by decide +kernel
theorem dX9_shifted_35 : decode cX9_shifted 35 = .ok (.iload 6, 2) := by decide +kernel
theorem dX9_shifted_37 : decode cX9_shifted 37 = .ok (.invokestatic 147, 3) := by decide +kernel
theorem dX9_shifted_40 : decode cX9_shifted 40 = .ok (.ireturn, 1) := by decide +kernel
theorem dX9_shifted_41 : decode cX9_shifted 41 = .ok (.iload_n 1, 1) := by decide +kernel
theorem dX9_shifted_42 : decode cX9_shifted 42 = .ok (.iload 4, 2) := by decide +kernel
theorem dX9_shifted_44 : decode cX9_shifted 44 = .ok (.if_icmp .ne 8, 3) := by decide +kernel
theorem dX9_shifted_47 : decode cX9_shifted 47 = .ok (.iload 5, 2) := by decide +kernel
theorem dX9_shifted_49 : decode cX9_shifted 49 = .ok (.goto 5, 3) := by decide +kernel
theorem dX9_shifted_52 : decode cX9_shifted 52 = .ok (.iload 4, 2) := by decide +kernel
theorem dX9_shifted_54 : decode cX9_shifted 54 = .ok (.istore 7, 2) := by decide +kernel
theorem dX9_shifted_56 : decode cX9_shifted 56 = .ok (.iload 7, 2) := by decide +kernel
theorem dX9_shifted_58 : decode cX9_shifted 58 = .ok (.iconst (-1), 1) := by decide +kernel
theorem dX9_shifted_59 : decode cX9_shifted 59 = .ok (.if_icmp .ne 12, 3) := by decide +kernel
theorem dX9_shifted_62 : decode cX9_shifted 62 = .ok (.iload_n 3, 1) := by decide +kernel
theorem dX9_shifted_63 : decode cX9_shifted 63 = .ok (.iload_n 2, 1) := by decide +kernel
theorem dX9_shifted_64 : decode cX9_shifted 64 = .ok (.iconst (-1), 1) := by decide +kernel
theorem dX9_shifted_65 : decode cX9_shifted 65 = .ok (.iload 6, 2) := by decide +kernel
theorem dX9_shifted_67 : decode cX9_shifted 67 = .ok (.invokestatic 147, 3) := by decide +kernel
theorem dX9_shifted_70 : decode cX9_shifted 70 = .ok (.ireturn, 1) := by decide +kernel
theorem dX9_shifted_71 : decode cX9_shifted 71 = .ok (.iload_n 3, 1) := by decide +kernel
theorem dX9_shifted_72 : decode cX9_shifted 72 = .ok (.iload_n 2, 1) := by decide +kernel
theorem dX9_shifted_73 : decode cX9_shifted 73 = .ok (.iload 7, 2) := by decide +kernel
theorem dX9_shifted_75 : decode cX9_shifted 75 = .ok (.invokestatic 449, 3) := by decide +kernel
theorem dX9_shifted_78 : decode cX9_shifted 78 = .ok (.iload_n 2, 1) := by decide +kernel
theorem dX9_shifted_79 : decode cX9_shifted 79 = .ok (.iload 7, 2) := by decide +kernel
theorem dX9_shifted_81 : decode cX9_shifted 81 = .ok (.invokestatic 444, 3) := by decide +kernel
theorem dX9_shifted_84 : decode cX9_shifted 84 = .ok (.iload 6, 2) := by decide +kernel
theorem dX9_shifted_86 : decode cX9_shifted 86 = .ok (.invokestatic 147, 3) := by decide +kernel
theorem dX9_shifted_89 : decode cX9_shifted 89 = .ok (.ireturn, 1) := by decide +kernel
theorem dX9_moveNumber_0 : decode cX9_moveNumber 0 = .ok (.bipush 8, 2) := by decide +kernel
theorem dX9_moveNumber_2 : decode cX9_moveNumber 2 = .ok (.iload_n 0, 1) := by decide +kernel
theorem dX9_moveNumber_3 : decode cX9_moveNumber 3 = .ok (.imul, 1) := by decide +kernel
theorem dX9_moveNumber_4 : decode cX9_moveNumber 4 = .ok (.iload_n 1, 1) := by decide +kernel
theorem dX9_moveNumber_5 : decode cX9_moveNumber 5 = .ok (.iadd, 1) := by decide +kernel
theorem dX9_moveNumber_6 : decode cX9_moveNumber 6 = .ok (.ireturn, 1) := by decide +kernel
theorem dX9_fromOf_0 : decode cX9_fromOf 0 = .ok (.iload_n 0, 1) := by decide +kernel
theorem dX9_fromOf_1 : decode cX9_fromOf 1 = .ok (.bipush 8, 2) := by decide +kernel
theorem dX9_fromOf_3 : decode cX9_fromOf 3 = .ok (.idiv, 1) := by decide +kernel
theorem dX9_fromOf_4 : decode cX9_fromOf 4 = .ok (.ireturn, 1) := by decide +kernel
theorem dX9_toOf_0 : decode cX9_toOf 0 = .ok (.iload_n 0, 1) := by decide +kernel
theorem dX9_toOf_1 : decode cX9_toOf 1 = .ok (.bipush 8, 2) := by decide +kernel
theorem dX9_toOf_3 : decode cX9_toOf 3 = .ok (.irem, 1) := by decide +kernel
theorem dX9_toOf_4 : decode cX9_toOf 4 = .ok (.ireturn, 1) := by decide +kernel
theorem dX9_firstMove_0 : decode cX9_firstMove 0 = .ok (.lload_n 0, 1) := by decide +kernel
theorem dX9_firstMove_1 : decode cX9_firstMove 1 = .ok (.lload_n 0, 1) := by decide +kernel
theorem dX9_firstMove_2 : decode cX9_firstMove 2 = .ok (.lneg, 1) := by decide +kernel
theorem dX9_firstMove_3 : decode cX9_firstMove 3 = .ok (.land, 1) := by decide +kernel
theorem dX9_firstMove_4 : decode cX9_firstMove 4 = .ok (.lconst 1, 1) := by decide +kernel
theorem dX9_firstMove_5 : decode cX9_firstMove 5 = .ok (.lsub, 1) := by decide +kernel
theorem dX9_firstMove_6 : decode cX9_firstMove 6 = .ok (.invokestatic 176, 3) := by decide +kernel
theorem dX9_firstMove_9 : decode cX9_firstMove 9 = .ok (.ireturn, 1) := by decide +kernel
theorem dX9_withoutFirst_0 : decode cX9_withoutFirst 0 = .ok (.lload_n 0, 1) := by decide +kernel
theorem dX9_withoutFirst_1 : decode cX9_withoutFirst 1 = .ok (.lload_n 0, 1) := by decide +kernel
theorem dX9_withoutFirst_2 : decode cX9_withoutFirst 2 = .ok (.lconst 1, 1) := by decide +kernel
theorem dX9_withoutFirst_3 : decode cX9_withoutFirst 3 = .ok (.lsub, 1) := by decide +kernel
theorem dX9_withoutFirst_4 : decode cX9_withoutFirst 4 = .ok (.land, 1) := by decide +kernel
theorem dX9_withoutFirst_5 : decode cX9_withoutFirst 5 = .ok (.lreturn, 1) := by decide +kernel
theorem dX9_above_0 : decode cX9_above 0 = .ok (.bipush (-2), 2) := by decide +kernel
theorem dX9_above_2 : decode cX9_above 2 = .ok (.iload_n 0, 1) := by decide +kernel
theorem dX9_above_3 : decode cX9_above 3 = .ok (.ishl, 1) := by decide +kernel
theorem dX9_above_4 : decode cX9_above 4 = .ok (.ireturn, 1) := by decide +kernel
theorem dX9_below_0 : decode cX9_below 0 = .ok (.iconst 1, 1) := by decide +kernel
theorem dX9_below_1 : decode cX9_below 1 = .ok (.iload_n 0, 1) := by decide +kernel
theorem dX9_below_2 : decode cX9_below 2 = .ok (.ishl, 1) := by decide +kernel
theorem dX9_below_3 : decode cX9_below 3 = .ok (.iconst 1, 1) := by decide +kernel
theorem dX9_below_4 : decode cX9_below 4 = .ok (.isub, 1) := by decide +kernel
theorem dX9_below_5 : decode cX9_below 5 = .ok (.ireturn, 1) := by decide +kernel
theorem dX9_bitOf_0 : decode cX9_bitOf 0 = .ok (.iload_n 0, 1) := by decide +kernel
theorem dX9_bitOf_1 : decode cX9_bitOf 1 = .ok (.ifCond .ge 7, 3) := by decide +kernel
theorem dX9_bitOf_4 : decode cX9_bitOf 4 = .ok (.iconst 0, 1) := by decide +kernel
theorem dX9_bitOf_5 : decode cX9_bitOf 5 = .ok (.goto 6, 3) := by decide +kernel
theorem dX9_bitOf_8 : decode cX9_bitOf 8 = .ok (.iconst 1, 1) := by decide +kernel
theorem dX9_bitOf_9 : decode cX9_bitOf 9 = .ok (.iload_n 0, 1) := by decide +kernel
theorem dX9_bitOf_10 : decode cX9_bitOf 10 = .ok (.ishl, 1) := by decide +kernel
theorem dX9_bitOf_11 : decode cX9_bitOf 11 = .ok (.ireturn, 1) := by decide +kernel
theorem dX10_init_0 : decode cX10_init 0 = .ok (.aload_n 0, 1) := by decide +kernel
theorem dX10_init_1 : decode cX10_init 1 = .ok (.invokespecial 3, 3) := by decide +kernel
theorem dX10_init_4 : decode cX10_init 4 = .ok (.aload_n 0, 1) := by decide +kernel
theorem dX10_init_5 : decode cX10_init 5 = .ok (.bipush 119, 2) := by decide +kernel
theorem dX10_init_7 : decode cX10_init 7 = .ok (.newarray .int, 2) := by decide +kernel
theorem dX10_init_9 : decode cX10_init 9 = .ok (.putfield 9, 3) := by decide +kernel
theorem dX10_init_12 : decode cX10_init 12 = .ok (.aload_n 0, 1) := by decide +kernel
theorem dX10_init_13 : decode cX10_init 13 = .ok (.bipush 119, 2) := by decide +kernel
theorem dX10_init_15 : decode cX10_init 15 = .ok (.newarray .int, 2) := by decide +kernel
theorem dX10_init_17 : decode cX10_init 17 = .ok (.putfield 13, 3) := by decide +kernel
theorem dX10_init_20 : decode cX10_init 20 = .ok (.aload_n 0, 1) := by decide +kernel
theorem dX10_init_21 : decode cX10_init 21 = .ok (.sipush 952, 3) := by decide +kernel
theorem dX10_init_24 : decode cX10_init 24 = .ok (.newarray .int, 2) := by decide +kernel
theorem dX10_init_26 : decode cX10_init 26 = .ok (.putfield 16, 3) := by decide +kernel
theorem dX10_init_29 : decode cX10_init 29 = .ok (.aload_n 0, 1) := by decide +kernel
theorem dX10_init_30 : decode cX10_init 30 = .ok (.bipush 119, 2) := by decide +kernel
theorem dX10_init_32 : decode cX10_init 32 = .ok (.newarray .int, 2) := by decide +kernel
theorem dX10_init_34 : decode cX10_init 34 = .ok (.putfield 19, 3) := by decide +kernel
theorem dX10_init_37 : decode cX10_init 37 = .ok (.aload_n 0, 1) := by decide +kernel
theorem dX10_init_38 : decode cX10_init 38 = .ok (.sipush 200, 3) := by decide +kernel
theorem dX10_init_41 : decode cX10_init 41 = .ok (.newarray .char, 2) := by decide +kernel
theorem dX10_init_43 : decode cX10_init 43 = .ok (.putfield 22, 3) := by decide +kernel
theorem dX10_init_46 : decode cX10_init 46 = .ok (.aload_n 0, 1) := by decide +kernel
theorem dX10_init_47 : decode cX10_init 47 = .ok (.bipush 60, 2) := by decide +kernel
theorem dX10_init_49 : decode cX10_init 49 = .ok (.newarray .char, 2) := by decide +kernel
theorem dX10_init_51 : decode cX10_init 51 = .ok (.putfield 26, 3) := by decide +kernel
theorem dX10_init_54 : decode cX10_init 54 = .ok (.aload_n 0, 1) := by decide +kernel
theorem dX10_init_55 : decode cX10_init 55 = .ok (.iconst 2, 1) := by decide +kernel
theorem dX10_init_56 : decode cX10_init 56 = .ok (.newarray .int, 2) := by decide +kernel
theorem dX10_init_58 : decode cX10_init 58 = .ok (.putfield 29, 3) := by decide +kernel
theorem dX10_init_61 : decode cX10_init 61 = .ok (.aload_n 0, 1) := by decide +kernel
theorem dX10_init_62 : decode cX10_init 62 = .ok (.iconst (-1), 1) := by decide +kernel
theorem dX10_init_63 : decode cX10_init 63 = .ok (.putfield 32, 3) := by decide +kernel
theorem dX10_init_66 : decode cX10_init 66 = .ok (.aload_n 0, 1) := by decide +kernel
theorem dX10_init_67 : decode cX10_init 67 = .ok (.bipush 8, 2) := by decide +kernel
theorem dX10_init_69 : decode cX10_init 69 = .ok (.newarray .int, 2) := by decide +kernel
theorem dX10_init_71 : decode cX10_init 71 = .ok (.putfield 36, 3) := by decide +kernel
theorem dX10_init_74 : decode cX10_init 74 = .ok (.aload_n 0, 1) := by decide +kernel
theorem dX10_init_75 : decode cX10_init 75 = .ok (.sipush 1296, 3) := by decide +kernel
theorem dX10_init_78 : decode cX10_init 78 = .ok (.newarray .int, 2) := by decide +kernel
theorem dX10_init_80 : decode cX10_init 80 = .ok (.putfield 39, 3) := by decide +kernel
theorem dX10_init_83 : decode cX10_init 83 = .ok (.aload_n 0, 1) := by decide +kernel
theorem dX10_init_84 : decode cX10_init 84 = .ok (.sipush 1296, 3) := by decide +kernel
theorem dX10_init_87 : decode cX10_init 87 = .ok (.newarray .int, 2) := by decide +kernel
theorem dX10_init_89 : decode cX10_init 89 = .ok (.putfield 42, 3) := by decide +kernel
theorem dX10_init_92 : decode cX10_init 92 = .ok (.aload_n 0, 1) := by decide +kernel
theorem dX10_init_93 : decode cX10_init 93 = .ok (.sipush 1296, 3) := by decide +kernel
theorem dX10_init_96 : decode cX10_init 96 = .ok (.newarray .int, 2) := by decide +kernel
theorem dX10_init_98 : decode cX10_init 98 = .ok (.putfield 45, 3) := by decide +kernel
theorem dX10_init_101 : decode cX10_init 101 = .ok (.aload_n 0, 1) := by decide +kernel
theorem dX10_init_102 : decode cX10_init 102 = .ok (.bipush 24, 2) := by decide +kernel
theorem dX10_init_104 : decode cX10_init 104 = .ok (.newarray .int, 2) := by decide +kernel
theorem dX10_init_106 : decode cX10_init 106 = .ok (.putfield 48, 3) := by decide +kernel
theorem dX10_init_109 : decode cX10_init 109 = .ok (.aload_n 0, 1) := by decide +kernel
theorem dX10_init_110 : decode cX10_init 110 = .ok (.bipush 24, 2) := by decide +kernel
theorem dX10_init_112 : decode cX10_init 112 = .ok (.newarray .int, 2) := by decide +kernel
theorem dX10_init_114 : decode cX10_init 114 = .ok (.putfield 51, 3) := by decide +kernel
theorem dX10_init_117 : decode cX10_init 117 = .ok (.aload_n 0, 1) := by decide +kernel
theorem dX10_init_118 : decode cX10_init 118 = .ok (.getfield 9, 3) := by decide +kernel
theorem dX10_init_121 : decode cX10_init 121 = .ok (.iconst 2, 1) := by decide +kernel
theorem dX10_init_122 : decode cX10_init 122 = .ok (.iconst 1, 1) := by decide +kernel
theorem dX10_init_123 : decode cX10_init 123 = .ok (.iastore, 1) := by decide +kernel
theorem dX10_init_124 : decode cX10_init 124 = .ok (.return_, 1) := by decide +kernel
theorem dX10_thrown_0 : decode cX10_thrown 0 = .ok (.aload_n 0, 1) := by decide +kernel
theorem dX10_thrown_1 : decode cX10_thrown 1 = .ok (.getfield 54, 3) := by decide +kernel
theorem dX10_thrown_4 : decode cX10_thrown 4 = .ok (.ireturn, 1) := by decide +kernel
theorem dX10_raises_0 : decode cX10_raises 0 = .ok (.aload_n 0, 1) := by decide +kernel
theorem dX10_raises_1 : decode cX10_raises 1 = .ok (.iload_n 1, 1) := by decide +kernel
theorem dX10_raises_2 : decode cX10_raises 2 = .ok (.putfield 54, 3) := by decide +kernel
theorem dX10_raises_5 : decode cX10_raises 5 = .ok (.iconst 0, 1) := by decide +kernel
theorem dX10_raises_6 : decode cX10_raises 6 = .ok (.ireturn, 1) := by decide +kernel
theorem dX10_in_0 : decode cX10_in 0 = .ok (.iload_n 0, 1) := by decide +kernel
theorem dX10_in_1 : decode cX10_in 1 = .ok (.iload_n 1, 1) := by decide +kernel
theorem dX10_in_2 : decode cX10_in 2 = .ok (.if_icmp .lt 12, 3) := by decide +kernel
theorem dX10_in_5 : decode cX10_in 5 = .ok (.iload_n 0, 1) := by decide +kernel
theorem dX10_in_6 : decode cX10_in 6 = .ok (.iload_n 2, 1) := by decide +kernel
theorem dX10_in_7 : decode cX10_in 7 = .ok (.if_icmp .gt 7, 3) := by decide +kernel
theorem dX10_in_10 : decode cX10_in 10 = .ok (.iconst 1, 1) := by decide +kernel
theorem dX10_in_11 : decode cX10_in 11 = .ok (.goto 4, 3) := by decide +kernel
theorem dX10_in_14 : decode cX10_in 14 = .ok (.iconst 0, 1) := by decide +kernel
theorem dX10_in_15 : decode cX10_in 15 = .ok (.ireturn, 1) := by decide +kernel
theorem dX10_tries_0 : decode cX10_tries 0 = .ok (.aload_n 0, 1) := by decide +kernel
theorem dX10_tries_1 : decode cX10_tries 1 = .ok (.iconst 0, 1) := by decide +kernel
theorem dX10_tries_2 : decode cX10_tries 2 = .ok (.putfield 54, 3) := by decide +kernel
theorem dX10_tries_5 : decode cX10_tries 5 = .ok (.aload_n 0, 1) := by decide +kernel
theorem dX10_tries_6 : decode cX10_tries 6 = .ok (.iconst 0, 1) := by decide +kernel
theorem dX10_tries_7 : decode cX10_tries 7 = .ok (.putfield 57, 3) := by decide +kernel
theorem dX10_tries_10 : decode cX10_tries 10 = .ok (.iconst 0, 1) := by decide +kernel
theorem dX10_tries_11 : decode cX10_tries 11 = .ok (.istore_n 1, 1) := by decide +kernel
theorem dX10_tries_12 : decode cX10_tries 12 = .ok (.iload_n 1, 1) := by decide +kernel
theorem dX10_tries_13 : decode cX10_tries 13 = .ok (.bipush 119, 2) := by decide +kernel
theorem dX10_tries_15 : decode cX10_tries 15 = .ok (.if_icmp .ge 21, 3) := by decide +kernel
theorem dX10_tries_18 : decode cX10_tries 18 = .ok (.aload_n 0, 1) := by decide +kernel
theorem dX10_tries_19 : decode cX10_tries 19 = .ok (.getfield 13, 3) := by decide +kernel
theorem dX10_tries_22 : decode cX10_tries 22 = .ok (.iload_n 1, 1) := by decide +kernel
theorem dX10_tries_23 : decode cX10_tries 23 = .ok (.aload_n 0, 1) := by decide +kernel
theorem dX10_tries_24 : decode cX10_tries 24 = .ok (.getfield 9, 3) := by decide +kernel
theorem dX10_tries_27 : decode cX10_tries 27 = .ok (.iload_n 1, 1) := by decide +kernel
theorem dX10_tries_28 : decode cX10_tries 28 = .ok (.iaload, 1) := by decide +kernel
theorem dX10_tries_29 : decode cX10_tries 29 = .ok (.iastore, 1) := by decide +kernel
theorem dX10_tries_30 : decode cX10_tries 30 = .ok (.iinc 1 1, 3) := by decide +kernel
theorem dX10_tries_33 : decode cX10_tries 33 = .ok (.goto (-21), 3) := by decide +kernel
theorem dX10_tries_36 : decode cX10_tries 36 = .ok (.return_, 1) := by decide +kernel
theorem dX10_keeps_0 : decode cX10_keeps 0 = .ok (.iload_n 1, 1) := by decide +kernel
theorem dX10_keeps_1 : decode cX10_keeps 1 = .ok (.ifCond .ge 9, 3) := by decide +kernel
theorem dX10_keeps_4 : decode cX10_keeps 4 = .ok (.aload_n 0, 1) := by decide +kernel
theorem dX10_keeps_5 : decode cX10_keeps 5 = .ok (.iconst 1, 1) := by decide +kernel
theorem dX10_keeps_6 : decode cX10_keeps 6 = .ok (.invokevirtual 61, 3) := by decide +kernel
theorem dX10_keeps_9 : decode cX10_keeps 9 = .ok (.ireturn, 1) := by decide +kernel
theorem dX10_keeps_10 : decode cX10_keeps 10 = .ok (.aload_n 0, 1) := by decide +kernel
theorem dX10_keeps_11 : decode cX10_keeps 11 = .ok (.getfield 65, 3) := by decide +kernel
theorem dX10_keeps_14 : decode cX10_keeps 14 = .ok (.bipush 8, 2) := by decide +kernel
theorem dX10_keeps_16 : decode cX10_keeps 16 = .ok (.if_icmp .ne 43, 3) := by decide +kernel
theorem dX10_keeps_19 : decode cX10_keeps 19 = .ok (.iconst 0, 1) := by decide +kernel
theorem dX10_keeps_20 : decode cX10_keeps 20 = .ok (.istore_n 2, 1) := by decide +kernel
theorem dX10_keeps_21 : decode cX10_keeps 21 = .ok (.iload_n 2, 1) := by decide +kernel
theorem dX10_keeps_22 : decode cX10_keeps 22 = .ok (.sipush 833, 3) := by decide +kernel
theorem dX10_keeps_25 : decode cX10_keeps 25 = .ok (.if_icmp .ge 24, 3) := by decide +kernel
theorem dX10_keeps_28 : decode cX10_keeps 28 = .ok (.aload_n 0, 1) := by decide +kernel
theorem dX10_keeps_29 : decode cX10_keeps 29 = .ok (.getfield 16, 3) := by decide +kernel
theorem dX10_keeps_32 : decode cX10_keeps 32 = .ok (.iload_n 2, 1) := by decide +kernel
theorem dX10_keeps_33 : decode cX10_keeps 33 = .ok (.aload_n 0, 1) := by decide +kernel
theorem dX10_keeps_34 : decode cX10_keeps 34 = .ok (.getfield 16, 3) := by decide +kernel
theorem dX10_keeps_37 : decode cX10_keeps 37 = .ok (.bipush 119, 2) := by decide +kernel
theorem dX10_keeps_39 : decode cX10_keeps 39 = .ok (.iload_n 2, 1) := by decide +kernel
theorem dX10_keeps_40 : decode cX10_keeps 40 = .ok (.iadd, 1) := by decide +kernel
theorem dX10_keeps_41 : decode cX10_keeps 41 = .ok (.iaload, 1) := by decide +kernel
theorem dX10_keeps_42 : decode cX10_keeps 42 = .ok (.iastore, 1) := by decide +kernel
theorem dX10_keeps_43 : decode cX10_keeps 43 = .ok (.iinc 2 1, 3) := by decide +kernel
theorem dX10_keeps_46 : decode cX10_keeps 46 = .ok (.goto (-25), 3) := by decide +kernel
theorem dX10_keeps_49 : decode cX10_keeps 49 = .ok (.aload_n 0, 1) := by decide +kernel
theorem dX10_keeps_50 : decode cX10_keeps 50 = .ok (.dup, 1) := by decide +kernel
theorem dX10_keeps_51 : decode cX10_keeps 51 = .ok (.getfield 65, 3) := by decide +kernel
theorem dX10_keeps_54 : decode cX10_keeps 54 = .ok (.iconst 1, 1) := by decide +kernel
theorem dX10_keeps_55 : decode cX10_keeps 55 = .ok (.isub, 1) := by decide +kernel
theorem dX10_keeps_56 : decode cX10_keeps 56 = .ok (.putfield 65, 3) := by decide +kernel
theorem dX10_keeps_59 : decode cX10_keeps 59 = .ok (.iconst 0, 1) := by decide +kernel
theorem dX10_keeps_60 : decode cX10_keeps 60 = .ok (.istore_n 2, 1) := by decide +kernel
theorem dX10_keeps_61 : decode cX10_keeps 61 = .ok (.iload_n 2, 1) := by decide +kernel
theorem dX10_keeps_62 : decode cX10_keeps 62 = .ok (.bipush 119, 2) := by decide +kernel
theorem dX10_keeps_64 : decode cX10_keeps 64 = .ok (.if_icmp .ge 29, 3) := by decide +kernel
theorem dX10_keeps_67 : decode cX10_keeps 67 = .ok (.aload_n 0, 1) := by decide +kernel
theorem dX10_keeps_68 : decode cX10_keeps 68 = .ok (.getfield 16, 3) := by decide +kernel
theorem dX10_keeps_71 : decode cX10_keeps 71 = .ok (.bipush 119, 2) := by decide +kernel
theorem dX10_keeps_73 : decode cX10_keeps 73 = .ok (.aload_n 0, 1) := by decide +kernel
theorem dX10_keeps_74 : decode cX10_keeps 74 = .ok (.getfield 65, 3) := by decide +kernel
theorem dX10_keeps_77 : decode cX10_keeps 77 = .ok (.imul, 1) := by decide +kernel
theorem dX10_keeps_78 : decode cX10_keeps 78 = .ok (.iload_n 2, 1) := by decide +kernel
theorem dX10_keeps_79 : decode cX10_keeps 79 = .ok (.iadd, 1) := by decide +kernel
theorem dX10_keeps_80 : decode cX10_keeps 80 = .ok (.aload_n 0, 1) := by decide +kernel
theorem dX10_keeps_81 : decode cX10_keeps 81 = .ok (.getfield 13, 3) := by decide +kernel
theorem dX10_keeps_84 : decode cX10_keeps 84 = .ok (.iload_n 2, 1) := by decide +kernel
theorem dX10_keeps_85 : decode cX10_keeps 85 = .ok (.iaload, 1) := by decide +kernel
theorem dX10_keeps_86 : decode cX10_keeps 86 = .ok (.iastore, 1) := by decide +kernel
theorem dX10_keeps_87 : decode cX10_keeps 87 = .ok (.iinc 2 1, 3) := by decide +kernel
theorem dX10_keeps_90 : decode cX10_keeps 90 = .ok (.goto (-29), 3) := by decide +kernel
theorem dX10_keeps_93 : decode cX10_keeps 93 = .ok (.aload_n 0, 1) := by decide +kernel
theorem dX10_keeps_94 : decode cX10_keeps 94 = .ok (.dup, 1) := by decide +kernel
theorem dX10_keeps_95 : decode cX10_keeps 95 = .ok (.getfield 65, 3) := by decide +kernel
theorem dX10_keeps_98 : decode cX10_keeps 98 = .ok (.iconst 1, 1) := by decide +kernel
theorem dX10_keeps_99 : decode cX10_keeps 99 = .ok (.iadd, 1) := by decide +kernel
theorem dX10_keeps_100 : decode cX10_keeps 100 = .ok (.putfield 65, 3) := by decide +kernel
theorem dX10_keeps_103 : decode cX10_keeps 103 = .ok (.iload_n 1, 1) := by decide +kernel
theorem dX10_keeps_104 : decode cX10_keeps 104 = .ok (.ireturn, 1) := by decide +kernel
theorem dX10_refuses_0 : decode cX10_refuses 0 = .ok (.aload_n 0, 1) := by decide +kernel
theorem dX10_refuses_1 : decode cX10_refuses 1 = .ok (.iload_n 1, 1) := by decide +kernel
theorem dX10_refuses_2 : decode cX10_refuses 2 = .ok (.putfield 68, 3) := by decide +kernel
theorem dX10_refuses_5 : decode cX10_refuses 5 = .ok (.aload_n 0, 1) := by decide +kernel
theorem dX10_refuses_6 : decode cX10_refuses 6 = .ok (.iload_n 2, 1) := by decide +kernel
theorem dX10_refuses_7 : decode cX10_refuses 7 = .ok (.putfield 71, 3) := by decide +kernel
theorem dX10_refuses_10 : decode cX10_refuses 10 = .ok (.aload_n 0, 1) := by decide +kernel
theorem dX10_refuses_11 : decode cX10_refuses 11 = .ok (.iconst 0, 1) := by decide +kernel
theorem dX10_refuses_12 : decode cX10_refuses 12 = .ok (.putfield 74, 3) := by decide +kernel
theorem dX10_refuses_15 : decode cX10_refuses 15 = .ok (.iconst (-1), 1) := by decide +kernel
theorem dX10_refuses_16 : decode cX10_refuses 16 = .ok (.ireturn, 1) := by decide +kernel
theorem dX10_isBurrow_0 : decode cX10_isBurrow 0 = .ok (.iload_n 1, 1) := by decide +kernel
theorem dX10_isBurrow_1 : decode cX10_isBurrow 1 = .ok (.iconst 0, 1) := by decide +kernel
theorem dX10_isBurrow_2 : decode cX10_isBurrow 2 = .ok (.aload_n 0, 1) := by decide +kernel
theorem dX10_isBurrow_3 : decode cX10_isBurrow 3 = .ok (.getfield 9, 3) := by decide +kernel
theorem dX10_isBurrow_6 : decode cX10_isBurrow 6 = .ok (.iconst 0, 1) := by decide +kernel
theorem dX10_isBurrow_7 : decode cX10_isBurrow 7 = .ok (.iaload, 1) := by decide +kernel
theorem dX10_isBurrow_8 : decode cX10_isBurrow 8 = .ok (.iconst 1, 1) := by decide +kernel
theorem dX10_isBurrow_9 : decode cX10_isBurrow 9 = .ok (.isub, 1) := by decide +kernel
theorem dX10_isBurrow_10 : decode cX10_isBurrow 10 = .ok (.invokestatic 77, 3) := by decide +kernel
theorem dX10_isBurrow_13 : decode cX10_isBurrow 13 = .ok (.ireturn, 1) := by decide +kernel
theorem dX10_path_0 : decode cX10_path 0 = .ok (.iconst 0, 1) := by decide +kernel
theorem dX10_path_1 : decode cX10_path 1 = .ok (.istore_n 3, 1) := by decide +kernel
theorem dX10_path_2 : decode cX10_path 2 = .ok (.iload_n 3, 1) := by decide +kernel
theorem dX10_path_3 : decode cX10_path 3 = .ok (.aload_n 0, 1) := by decide +kernel
theorem dX10_path_4 : decode cX10_path 4 = .ok (.getfield 9, 3) := by decide +kernel
theorem dX10_path_7 : decode cX10_path 7 = .ok (.iconst 3, 1) := by decide +kernel
theorem dX10_path_8 : decode cX10_path 8 = .ok (.iaload, 1) := by decide +kernel
theorem dX10_path_9 : decode cX10_path 9 = .ok (.if_icmp .ge 63, 3) := by decide +kernel
theorem dX10_path_12 : decode cX10_path 12 = .ok (.aload_n 0, 1) := by decide +kernel
theorem dX10_path_13 : decode cX10_path 13 = .ok (.getfield 9, 3) := by decide +kernel
theorem dX10_path_16 : decode cX10_path 16 = .ok (.bipush 7, 2) := by decide +kernel
theorem dX10_path_18 : decode cX10_path 18 = .ok (.iconst 2, 1) := by decide +kernel
theorem dX10_path_19 : decode cX10_path 19 = .ok (.iload_n 3, 1) := by decide +kernel
theorem dX10_path_20 : decode cX10_path 20 = .ok (.imul, 1) := by decide +kernel
theorem dX10_path_21 : decode cX10_path 21 = .ok (.iadd, 1) := by decide +kernel
theorem dX10_path_22 : decode cX10_path 22 = .ok (.iaload, 1) := by decide +kernel
theorem dX10_path_23 : decode cX10_path 23 = .ok (.istore 4, 2) := by decide +kernel
theorem dX10_path_25 : decode cX10_path 25 = .ok (.aload_n 0, 1) := by decide +kernel
theorem dX10_path_26 : decode cX10_path 26 = .ok (.getfield 9, 3) := by decide +kernel
theorem dX10_path_29 : decode cX10_path 29 = .ok (.bipush 7, 2) := by decide +kernel
theorem dX10_path_31 : decode cX10_path 31 = .ok (.iconst 2, 1) := by decide +kernel
theorem dX10_path_32 : decode cX10_path 32 = .ok (.iload_n 3, 1) := by decide +kernel
theorem dX10_path_33 : decode cX10_path 33 = .ok (.imul, 1) := by decide +kernel
theorem dX10_path_34 : decode cX10_path 34 = .ok (.iadd, 1) := by decide +kernel
theorem dX10_path_35 : decode cX10_path 35 = .ok (.iconst 1, 1) := by decide +kernel
theorem dX10_path_36 : decode cX10_path 36 = .ok (.iadd, 1) := by decide +kernel
theorem dX10_path_37 : decode cX10_path 37 = .ok (.iaload, 1) := by decide +kernel
theorem dX10_path_38 : decode cX10_path 38 = .ok (.istore 5, 2) := by decide +kernel
theorem dX10_path_40 : decode cX10_path 40 = .ok (.iload 4, 2) := by decide +kernel
theorem dX10_path_42 : decode cX10_path 42 = .ok (.iload_n 1, 1) := by decide +kernel
theorem dX10_path_43 : decode cX10_path 43 = .ok (.if_icmp .ne 9, 3) := by decide +kernel
theorem dX10_path_46 : decode cX10_path 46 = .ok (.iload 5, 2) := by decide +kernel
theorem dX10_path_48 : decode cX10_path 48 = .ok (.iload_n 2, 1) := by decide +kernel
theorem dX10_path_49 : decode cX10_path 49 = .ok (.if_icmp .eq 15, 3) := by decide +kernel
theorem dX10_path_52 : decode cX10_path 52 = .ok (.iload 4, 2) := by decide +kernel
theorem dX10_path_54 : decode cX10_path 54 = .ok (.iload_n 2, 1) := by decide +kernel
theorem dX10_path_55 : decode cX10_path 55 = .ok (.if_icmp .ne 11, 3) := by decide +kernel
theorem dX10_path_58 : decode cX10_path 58 = .ok (.iload 5, 2) := by decide +kernel
theorem dX10_path_60 : decode cX10_path 60 = .ok (.iload_n 1, 1) := by decide +kernel
theorem dX10_path_61 : decode cX10_path 61 = .ok (.if_icmp .ne 5, 3) := by decide +kernel
theorem dX10_path_64 : decode cX10_path 64 = .ok (.iload_n 3, 1) := by decide +kernel
theorem dX10_path_65 : decode cX10_path 65 = .ok (.ireturn, 1) := by decide +kernel
theorem dX10_path_66 : decode cX10_path 66 = .ok (.iinc 3 1, 3) := by decide +kernel
theorem dX10_path_69 : decode cX10_path 69 = .ok (.goto (-67), 3) := by decide +kernel
theorem dX10_path_72 : decode cX10_path 72 = .ok (.iconst (-1), 1) := by decide +kernel
theorem dX10_path_73 : decode cX10_path 73 = .ok (.ireturn, 1) := by decide +kernel
theorem dX10_isTrap_0 : decode cX10_isTrap 0 = .ok (.aload_n 0, 1) := by decide +kernel
theorem dX10_isTrap_1 : decode cX10_isTrap 1 = .ok (.getfield 9, 3) := by decide +kernel
theorem dX10_isTrap_4 : decode cX10_isTrap 4 = .ok (.iconst 1, 1) := by decide +kernel
theorem dX10_isTrap_5 : decode cX10_isTrap 5 = .ok (.iaload, 1) := by decide +kernel
theorem dX10_isTrap_6 : decode cX10_isTrap 6 = .ok (.iload_n 1, 1) := by decide +kernel
theorem dX10_isTrap_7 : decode cX10_isTrap 7 = .ok (.ishr, 1) := by decide +kernel
theorem dX10_isTrap_8 : decode cX10_isTrap 8 = .ok (.iconst 1, 1) := by decide +kernel
theorem dX10_isTrap_9 : decode cX10_isTrap 9 = .ok (.iand, 1) := by decide +kernel
theorem dX10_isTrap_10 : decode cX10_isTrap 10 = .ok (.iconst 1, 1) := by decide +kernel
theorem dX10_isTrap_11 : decode cX10_isTrap 11 = .ok (.if_icmp .ne 7, 3) := by decide +kernel
theorem dX10_isTrap_14 : decode cX10_isTrap 14 = .ok (.iconst 1, 1) := by decide +kernel
theorem dX10_isTrap_15 : decode cX10_isTrap 15 = .ok (.goto 4, 3) := by decide +kernel
theorem dX10_isTrap_18 : decode cX10_isTrap 18 = .ok (.iconst 0, 1) := by decide +kernel
theorem dX10_isTrap_19 : decode cX10_isTrap 19 = .ok (.ireturn, 1) := by decide +kernel
theorem dX10_fox_0 : decode cX10_fox 0 = .ok (.iload_n 0, 1) := by decide +kernel
theorem dX10_fox_1 : decode cX10_fox 1 = .ok (.sipush 162, 3) := by decide +kernel
theorem dX10_fox_4 : decode cX10_fox 4 = .ok (.idiv, 1) := by decide +kernel
theorem dX10_fox_5 : decode cX10_fox 5 = .ok (.ireturn, 1) := by decide +kernel
theorem dX10_first_0 : decode cX10_first 0 = .ok (.iload_n 0, 1) := by decide +kernel
theorem dX10_first_1 : decode cX10_first 1 = .ok (.sipush 162, 3) := by decide +kernel
theorem dX10_first_4 : decode cX10_first 4 = .ok (.irem, 1) := by decide +kernel
theorem dX10_first_5 : decode cX10_first 5 = .ok (.bipush 18, 2) := by decide +kernel
theorem dX10_first_7 : decode cX10_first 7 = .ok (.idiv, 1) := by decide +kernel
theorem dX10_first_8 : decode cX10_first 8 = .ok (.ireturn, 1) := by decide +kernel
theorem dX10_second_0 : decode cX10_second 0 = .ok (.iload_n 0, 1) := by decide +kernel
theorem dX10_second_1 : decode cX10_second 1 = .ok (.bipush 18, 2) := by decide +kernel
theorem dX10_second_3 : decode cX10_second 3 = .ok (.irem, 1) := by decide +kernel
theorem dX10_second_4 : decode cX10_second 4 = .ok (.iconst 2, 1) := by decide +kernel
theorem dX10_second_5 : decode cX10_second 5 = .ok (.idiv, 1) := by decide +kernel
theorem dX10_second_6 : decode cX10_second 6 = .ok (.iconst 1, 1) := by decide +kernel
theorem dX10_second_7 : decode cX10_second 7 = .ok (.isub, 1) := by decide +kernel
theorem dX10_second_8 : decode cX10_second 8 = .ok (.ireturn, 1) := by decide +kernel
theorem dX10_isGeese_0 : decode cX10_isGeese 0 = .ok (.iload_n 0, 1) := by decide +kernel
theorem dX10_isGeese_1 : decode cX10_isGeese 1 = .ok (.iconst 2, 1) := by decide +kernel
theorem dX10_isGeese_2 : decode cX10_isGeese 2 = .ok (.irem, 1) := by decide +kernel
theorem dX10_isGeese_3 : decode cX10_isGeese 3 = .ok (.iconst 1, 1) := by decide +kernel
theorem dX10_isGeese_4 : decode cX10_isGeese 4 = .ok (.if_icmp .ne 7, 3) := by decide +kernel
theorem dX10_isGeese_7 : decode cX10_isGeese 7 = .ok (.iconst 1, 1) := by decide +kernel
theorem dX10_isGeese_8 : decode cX10_isGeese 8 = .ok (.goto 4, 3) := by decide +kernel
theorem dX10_isGeese_11 : decode cX10_isGeese 11 = .ok (.iconst 0, 1) := by decide +kernel
theorem dX10_isGeese_12 : decode cX10_isGeese 12 = .ok (.ireturn, 1) := by decide +kernel
theorem dX10_numberOf_0 : decode cX10_numberOf 0 = .ok (.sipush 162, 3) := by decide +kernel
theorem dX10_numberOf_3 : decode cX10_numberOf 3 = .ok (.iload_n 0, 1) := by decide +kernel
theorem dX10_numberOf_4 : decode cX10_numberOf 4 = .ok (.imul, 1) := by decide +kernel
theorem dX10_numberOf_5 : decode cX10_numberOf 5 = .ok (.bipush 18, 2) := by decide +kernel
theorem dX10_numberOf_7 : decode cX10_numberOf 7 = .ok (.iload_n 1, 1) := by decide +kernel
theorem dX10_numberOf_8 : decode cX10_numberOf 8 = .ok (.imul, 1) := by decide +kernel
theorem dX10_numberOf_9 : decode cX10_numberOf 9 = .ok (.iadd, 1) := by decide +kernel
theorem dX10_numberOf_10 : decode cX10_numberOf 10 = .ok (.iconst 2, 1) := by decide +kernel
theorem dX10_numberOf_11 : decode cX10_numberOf 11 = .ok (.iload_n 2, 1) := by decide +kernel
theorem dX10_numberOf_12 : decode cX10_numberOf 12 = .ok (.iconst 1, 1) := by decide +kernel
theorem dX10_numberOf_13 : decode cX10_numberOf 13 = .ok (.iadd, 1) := by decide +kernel
theorem dX10_numberOf_14 : decode cX10_numberOf 14 = .ok (.imul, 1) := by decide +kernel
theorem dX10_numberOf_15 : decode cX10_numberOf 15 = .ok (.iadd, 1) := by decide +kernel
theorem dX10_numberOf_16 : decode cX10_numberOf 16 = .ok (.iload_n 3, 1) := by decide +kernel
theorem dX10_numberOf_17 : decode cX10_numberOf 17 = .ok (.ifCond .eq 7, 3) := by decide +kernel
theorem dX10_numberOf_20 : decode cX10_numberOf 20 = .ok (.iconst 1, 1) := by decide +kernel
theorem dX10_numberOf_21 : decode cX10_numberOf 21 = .ok (.goto 4, 3) := by decide +kernel
theorem dX10_numberOf_24 : decode cX10_numberOf 24 = .ok (.iconst 0, 1) := by decide +kernel
theorem dX10_numberOf_25 : decode cX10_numberOf 25 = .ok (.iadd, 1) := by decide +kernel
theorem dX10_numberOf_26 : decode cX10_numberOf 26 = .ok (.ireturn, 1) := by decide +kernel
theorem dX10_is_0 : decode cX10_is 0 = .ok (.aload_n 0, 1) := by decide +kernel
theorem dX10_is_1 : decode cX10_is 1 = .ok (.iload_n 1, 1) := by decide +kernel
theorem dX10_is_2 : decode cX10_is 2 = .ok (.invokevirtual 81, 3) := by decide +kernel
theorem dX10_is_5 : decode cX10_is 5 = .ok (.ifCond .eq 16, 3) := by decide +kernel
theorem dX10_is_8 : decode cX10_is 8 = .ok (.aload_n 0, 1) := by decide +kernel
theorem dX10_is_9 : decode cX10_is 9 = .ok (.iload_n 2, 1) := by decide +kernel
theorem dX10_is_10 : decode cX10_is 10 = .ok (.invokevirtual 81, 3) := by decide +kernel
theorem dX10_is_13 : decode cX10_is 13 = .ok (.ifCond .eq 8, 3) := by decide +kernel
theorem dX10_is_16 : decode cX10_is 16 = .ok (.iload_n 1, 1) := by decide +kernel
theorem dX10_is_17 : decode cX10_is 17 = .ok (.iload_n 2, 1) := by decide +kernel
theorem dX10_is_18 : decode cX10_is 18 = .ok (.if_icmp .ne 5, 3) := by decide +kernel
theorem dX10_is_21 : decode cX10_is 21 = .ok (.iconst 0, 1) := by decide +kernel
theorem dX10_is_22 : decode cX10_is 22 = .ok (.ireturn, 1) := by decide +kernel
theorem dX10_is_23 : decode cX10_is 23 = .ok (.aload_n 0, 1) := by decide +kernel
theorem dX10_is_24 : decode cX10_is 24 = .ok (.getfield 9, 3) := by decide +kernel
theorem dX10_is_27 : decode cX10_is 27 = .ok (.iconst 2, 1) := by decide +kernel
theorem dX10_is_28 : decode cX10_is 28 = .ok (.iaload, 1) := by decide +kernel
theorem dX10_is_29 : decode cX10_is 29 = .ok (.iconst 1, 1) := by decide +kernel
theorem dX10_is_30 : decode cX10_is 30 = .ok (.if_icmp .ne 16, 3) := by decide +kernel
theorem dX10_is_33 : decode cX10_is 33 = .ok (.iload_n 3, 1) := by decide +kernel
theorem dX10_is_34 : decode cX10_is 34 = .ok (.iconst (-1), 1) := by decide +kernel
theorem dX10_is_35 : decode cX10_is 35 = .ok (.if_icmp .ne 7, 3) := by decide +kernel
theorem dX10_is_38 : decode cX10_is 38 = .ok (.iconst 1, 1) := by decide +kernel
theorem dX10_is_39 : decode cX10_is 39 = .ok (.goto 30, 3) := by decide +kernel
theorem dX10_is_42 : decode cX10_is 42 = .ok (.iconst 0, 1) := by decide +kernel
theorem dX10_is_43 : decode cX10_is 43 = .ok (.goto 26, 3) := by decide +kernel
theorem dX10_is_46 : decode cX10_is 46 = .ok (.aload_n 0, 1) := by decide +kernel
theorem dX10_is_47 : decode cX10_is 47 = .ok (.iload_n 3, 1) := by decide +kernel
theorem dX10_is_48 : decode cX10_is 48 = .ok (.invokevirtual 81, 3) := by decide +kernel
theorem dX10_is_51 : decode cX10_is 51 = .ok (.ifCond .eq 17, 3) := by decide +kernel
theorem dX10_is_54 : decode cX10_is 54 = .ok (.iload_n 3, 1) := by decide +kernel
theorem dX10_is_55 : decode cX10_is 55 = .ok (.iload_n 2, 1) := by decide +kernel
theorem dX10_is_56 : decode cX10_is 56 = .ok (.if_icmp .le 12, 3) := by decide +kernel
theorem dX10_is_59 : decode cX10_is 59 = .ok (.iload_n 3, 1) := by decide +kernel
theorem dX10_is_60 : decode cX10_is 60 = .ok (.iload_n 1, 1) := by decide +kernel
theorem dX10_is_61 : decode cX10_is 61 = .ok (.if_icmp .eq 7, 3) := by decide +kernel
theorem dX10_is_64 : decode cX10_is 64 = .ok (.iconst 1, 1) := by decide +kernel
theorem dX10_is_65 : decode cX10_is 65 = .ok (.goto 4, 3) := by decide +kernel
theorem dX10_is_68 : decode cX10_is 68 = .ok (.iconst 0, 1) := by decide +kernel
theorem dX10_is_69 : decode cX10_is 69 = .ok (.ireturn, 1) := by decide +kernel
theorem dX10_isPosition_0 : decode cX10_isPosition 0 = .ok (.iload_n 1, 1) := by decide +kernel
theorem dX10_isPosition_1 : decode cX10_isPosition 1 = .ok (.iconst 0, 1) := by decide +kernel
theorem dX10_isPosition_2 : decode cX10_isPosition 2 = .ok (.sipush 1295, 3) := by decide +kernel
theorem dX10_isPosition_5 : decode cX10_isPosition 5 = .ok (.invokestatic 77, 3) := by decide +kernel
theorem dX10_isPosition_8 : decode cX10_isPosition 8 = .ok (.ifCond .eq 26, 3) := by decide +kernel
theorem dX10_isPosition_11 : decode cX10_isPosition 11 = .ok (.aload_n 0, 1) := by decide +kernel
theorem dX10_isPosition_12 : decode cX10_isPosition 12 = .ok (.iload_n 1, 1) := by decide +kernel
theorem dX10_isPosition_13 : decode cX10_isPosition 13 = .ok (.invokestatic 85, 3) := by decide +kernel
theorem dX10_isPosition_16 : decode cX10_isPosition 16 = .ok (.iload_n 1, 1) := by decide +kernel
theorem dX10_isPosition_17 : decode cX10_isPosition 17 = .ok (.invokestatic 88, 3) := by decide +kernel
theorem dX10_isPosition_20 : decode cX10_isPosition 20 = .ok (.iload_n 1, 1) := by decide +kernel
theorem dX10_isPosition_21 : decode cX10_isPosition 21 = .ok (.invokestatic 91, 3) := by decide +kernel
theorem dX10_isPosition_24 : decode cX10_isPosition 24 = .ok (.invokevirtual 94, 3) := by decide +kernel
theorem dX10_isPosition_27 : decode cX10_isPosition 27 = .ok (.ifCond .eq 7, 3) := by decide +kernel
theorem dX10_isPosition_30 : decode cX10_isPosition 30 = .ok (.iconst 1, 1) := by decide +kernel
theorem dX10_isPosition_31 : decode cX10_isPosition 31 = .ok (.goto 4, 3) := by decide +kernel
theorem dX10_isPosition_34 : decode cX10_isPosition 34 = .ok (.iconst 0, 1) := by decide +kernel
theorem dX10_isPosition_35 : decode cX10_isPosition 35 = .ok (.ireturn, 1) := by decide +kernel
theorem dX10_nears_0 : decode cX10_nears 0 = .ok (.iconst 0, 1) := by decide +kernel
theorem dX10_nears_1 : decode cX10_nears 1 = .ok (.istore_n 1, 1) := by decide +kernel
theorem dX10_nears_2 : decode cX10_nears 2 = .ok (.iload_n 1, 1) := by decide +kernel
theorem dX10_nears_3 : decode cX10_nears 3 = .ok (.bipush 8, 2) := by decide +kernel
theorem dX10_nears_5 : decode cX10_nears 5 = .ok (.if_icmp .ge 16, 3) := by decide +kernel
theorem dX10_nears_8 : decode cX10_nears 8 = .ok (.aload_n 0, 1) := by decide +kernel
theorem dX10_nears_9 : decode cX10_nears 9 = .ok (.getfield 36, 3) := by decide +kernel
theorem dX10_nears_12 : decode cX10_nears 12 = .ok (.iload_n 1, 1) := by decide +kernel
theorem dX10_nears_13 : decode cX10_nears 13 = .ok (.iconst 0, 1) := by decide +kernel
theorem dX10_nears_14 : decode cX10_nears 14 = .ok (.iastore, 1) := by decide +kernel
theorem dX10_nears_15 : decode cX10_nears 15 = .ok (.iinc 1 1, 3) := by decide +kernel
theorem dX10_nears_18 : decode cX10_nears 18 = .ok (.goto (-16), 3) := by decide +kernel
theorem dX10_nears_21 : decode cX10_nears 21 = .ok (.iconst 0, 1) := by decide +kernel
theorem dX10_nears_22 : decode cX10_nears 22 = .ok (.istore_n 1, 1) := by decide +kernel
theorem dX10_nears_23 : decode cX10_nears 23 = .ok (.iload_n 1, 1) := by decide +kernel
theorem dX10_nears_24 : decode cX10_nears 24 = .ok (.aload_n 0, 1) := by decide +kernel
theorem dX10_nears_25 : decode cX10_nears 25 = .ok (.getfield 9, 3) := by decide +kernel
theorem dX10_nears_28 : decode cX10_nears 28 = .ok (.iconst 3, 1) := by decide +kernel
theorem dX10_nears_29 : decode cX10_nears 29 = .ok (.iaload, 1) := by decide +kernel
theorem dX10_nears_30 : decode cX10_nears 30 = .ok (.if_icmp .ge 77, 3) := by decide +kernel
theorem dX10_nears_33 : decode cX10_nears 33 = .ok (.aload_n 0, 1) := by decide +kernel
theorem dX10_nears_34 : decode cX10_nears 34 = .ok (.getfield 36, 3) := by decide +kernel
theorem dX10_nears_37 : decode cX10_nears 37 = .ok (.aload_n 0, 1) := by decide +kernel
theorem dX10_nears_38 : decode cX10_nears 38 = .ok (.getfield 9, 3) := by decide +kernel
theorem dX10_nears_41 : decode cX10_nears 41 = .ok (.bipush 7, 2) := by decide +kernel
theorem dX10_nears_43 : decode cX10_nears 43 = .ok (.iconst 2, 1) := by decide +kernel
theorem dX10_nears_44 : decode cX10_nears 44 = .ok (.iload_n 1, 1) := by decide +kernel
theorem dX10_nears_45 : decode cX10_nears 45 = .ok (.imul, 1) := by decide +kernel
theorem dX10_nears_46 : decode cX10_nears 46 = .ok (.iadd, 1) := by decide +kernel
theorem dX10_nears_47 : decode cX10_nears 47 = .ok (.iaload, 1) := by decide +kernel
theorem dX10_nears_48 : decode cX10_nears 48 = .ok (.dup2, 1) := by decide +kernel
theorem dX10_nears_49 : decode cX10_nears 49 = .ok (.iaload, 1) := by decide +kernel
theorem dX10_nears_50 : decode cX10_nears 50 = .ok (.iconst 1, 1) := by decide +kernel
theorem dX10_nears_51 : decode cX10_nears 51 = .ok (.aload_n 0, 1) := by decide +kernel
theorem dX10_nears_52 : decode cX10_nears 52 = .ok (.getfield 9, 3) := by decide +kernel
theorem dX10_nears_55 : decode cX10_nears 55 = .ok (.bipush 7, 2) := by decide +kernel
theorem dX10_nears_57 : decode cX10_nears 57 = .ok (.iconst 2, 1) := by decide +kernel
theorem dX10_nears_58 : decode cX10_nears 58 = .ok (.iload_n 1, 1) := by decide +kernel
theorem dX10_nears_59 : decode cX10_nears 59 = .ok (.imul, 1) := by decide +kernel
theorem dX10_nears_60 : decode cX10_nears 60 = .ok (.iadd, 1) := by decide +kernel
theorem dX10_nears_61 : decode cX10_nears 61 = .ok (.iconst 1, 1) := by decide +kernel
theorem dX10_nears_62 : decode cX10_nears 62 = .ok (.iadd, 1) := by decide +kernel
theorem dX10_nears_63 : decode cX10_nears 63 = .ok (.iaload, 1) := by decide +kernel
theorem dX10_nears_64 : decode cX10_nears 64 = .ok (.ishl, 1) := by decide +kernel
theorem dX10_nears_65 : decode cX10_nears 65 = .ok (.ior, 1) := by decide +kernel
theorem dX10_nears_66 : decode cX10_nears 66 = .ok (.iastore, 1) := by decide +kernel
theorem dX10_nears_67 : decode cX10_nears 67 = .ok (.aload_n 0, 1) := by decide +kernel
theorem dX10_nears_68 : decode cX10_nears 68 = .ok (.getfield 36, 3) := by decide +kernel
theorem dX10_nears_71 : decode cX10_nears 71 = .ok (.aload_n 0, 1) := by decide +kernel
theorem dX10_nears_72 : decode cX10_nears 72 = .ok (.getfield 9, 3) := by decide +kernel
theorem dX10_nears_75 : decode cX10_nears 75 = .ok (.bipush 7, 2) := by decide +kernel
theorem dX10_nears_77 : decode cX10_nears 77 = .ok (.iconst 2, 1) := by decide +kernel
theorem dX10_nears_78 : decode cX10_nears 78 = .ok (.iload_n 1, 1) := by decide +kernel
theorem dX10_nears_79 : decode cX10_nears 79 = .ok (.imul, 1) := by decide +kernel
theorem dX10_nears_80 : decode cX10_nears 80 = .ok (.iadd, 1) := by decide +kernel
theorem dX10_nears_81 : decode cX10_nears 81 = .ok (.iconst 1, 1) := by decide +kernel
theorem dX10_nears_82 : decode cX10_nears 82 = .ok (.iadd, 1) := by decide +kernel
theorem dX10_nears_83 : decode cX10_nears 83 = .ok (.iaload, 1) := by decide +kernel
theorem dX10_nears_84 : decode cX10_nears 84 = .ok (.dup2, 1) := by decide +kernel
theorem dX10_nears_85 : decode cX10_nears 85 = .ok (.iaload, 1) := by decide +kernel
theorem dX10_nears_86 : decode cX10_nears 86 = .ok (.iconst 1, 1) := by decide +kernel
theorem dX10_nears_87 : decode cX10_nears 87 = .ok (.aload_n 0, 1) := by decide +kernel
theorem dX10_nears_88 : decode cX10_nears 88 = .ok (.getfield 9, 3) := by decide +kernel
theorem dX10_nears_91 : decode cX10_nears 91 = .ok (.bipush 7, 2) := by decide +kernel
theorem dX10_nears_93 : decode cX10_nears 93 = .ok (.iconst 2, 1) := by decide +kernel
theorem dX10_nears_94 : decode cX10_nears 94 = .ok (.iload_n 1, 1) := by decide +kernel
theorem dX10_nears_95 : decode cX10_nears 95 = .ok (.imul, 1) := by decide +kernel
theorem dX10_nears_96 : decode cX10_nears 96 = .ok (.iadd, 1) := by decide +kernel
theorem dX10_nears_97 : decode cX10_nears 97 = .ok (.iaload, 1) := by decide +kernel
theorem dX10_nears_98 : decode cX10_nears 98 = .ok (.ishl, 1) := by decide +kernel
theorem dX10_nears_99 : decode cX10_nears 99 = .ok (.ior, 1) := by decide +kernel
theorem dX10_nears_100 : decode cX10_nears 100 = .ok (.iastore, 1) := by decide +kernel
theorem dX10_nears_101 : decode cX10_nears 101 = .ok (.iinc 1 1, 3) := by decide +kernel
theorem dX10_nears_104 : decode cX10_nears 104 = .ok (.goto (-81), 3) := by decide +kernel
theorem dX10_nears_107 : decode cX10_nears 107 = .ok (.return_, 1) := by decide +kernel
theorem dX10_comes_0 : decode cX10_comes 0 = .ok (.iconst 1, 1) := by decide +kernel
theorem dX10_comes_1 : decode cX10_comes 1 = .ok (.iload_n 1, 1) := by decide +kernel
theorem dX10_comes_2 : decode cX10_comes 2 = .ok (.invokestatic 85, 3) := by decide +kernel
theorem dX10_comes_5 : decode cX10_comes 5 = .ok (.ishl, 1) := by decide +kernel
theorem dX10_comes_6 : decode cX10_comes 6 = .ok (.iconst 1, 1) := by decide +kernel
theorem dX10_comes_7 : decode cX10_comes 7 = .ok (.iload_n 1, 1) := by decide +kernel
theorem dX10_comes_8 : decode cX10_comes 8 = .ok (.invokestatic 88, 3) := by decide +kernel
theorem dX10_comes_11 : decode cX10_comes 11 = .ok (.ishl, 1) := by decide +kernel
theorem dX10_comes_12 : decode cX10_comes 12 = .ok (.ior, 1) := by decide +kernel
theorem dX10_comes_13 : decode cX10_comes 13 = .ok (.iload_n 1, 1) := by decide +kernel
theorem dX10_comes_14 : decode cX10_comes 14 = .ok (.invokestatic 91, 3) := by decide +kernel
theorem dX10_comes_17 : decode cX10_comes 17 = .ok (.ifCond .ge 7, 3) := by decide +kernel
theorem dX10_comes_20 : decode cX10_comes 20 = .ok (.iconst 0, 1) := by decide +kernel
theorem dX10_comes_21 : decode cX10_comes 21 = .ok (.goto 9, 3) := by decide +kernel
theorem dX10_comes_24 : decode cX10_comes 24 = .ok (.iconst 1, 1) := by decide +kernel
theorem dX10_comes_25 : decode cX10_comes 25 = .ok (.iload_n 1, 1) := by decide +kernel
theorem dX10_comes_26 : decode cX10_comes 26 = .ok (.invokestatic 91, 3) := by decide +kernel
theorem dX10_comes_29 : decode cX10_comes 29 = .ok (.ishl, 1) := by decide +kernel
theorem dX10_comes_30 : decode cX10_comes 30 = .ok (.ior, 1) := by decide +kernel
theorem dX10_comes_31 : decode cX10_comes 31 = .ok (.istore_n 3, 1) := by decide +kernel
theorem dX10_comes_32 : decode cX10_comes 32 = .ok (.iconst 0, 1) := by decide +kernel
theorem dX10_comes_33 : decode cX10_comes 33 = .ok (.istore 4, 2) := by decide +kernel
theorem dX10_comes_35 : decode cX10_comes 35 = .ok (.iload 4, 2) := by decide +kernel
theorem dX10_comes_37 : decode cX10_comes 37 = .ok (.aload_n 0, 1) := by decide +kernel
theorem dX10_comes_38 : decode cX10_comes 38 = .ok (.getfield 9, 3) := by decide +kernel
theorem dX10_comes_41 : decode cX10_comes 41 = .ok (.iconst 0, 1) := by decide +kernel
theorem dX10_comes_42 : decode cX10_comes 42 = .ok (.iaload, 1) := by decide +kernel
theorem dX10_comes_43 : decode cX10_comes 43 = .ok (.if_icmp .ge 86, 3) := by decide +kernel
theorem dX10_comes_46 : decode cX10_comes 46 = .ok (.aload_n 0, 1) := by decide +kernel
theorem dX10_comes_47 : decode cX10_comes 47 = .ok (.getfield 36, 3) := by decide +kernel
theorem dX10_comes_50 : decode cX10_comes 50 = .ok (.iload_n 2, 1) := by decide +kernel
theorem dX10_comes_51 : decode cX10_comes 51 = .ok (.iaload, 1) := by decide +kernel
theorem dX10_comes_52 : decode cX10_comes 52 = .ok (.iload 4, 2) := by decide +kernel
theorem dX10_comes_54 : decode cX10_comes 54 = .ok (.ishr, 1) := by decide +kernel
theorem dX10_comes_55 : decode cX10_comes 55 = .ok (.iconst 1, 1) := by decide +kernel
theorem dX10_comes_56 : decode cX10_comes 56 = .ok (.iand, 1) := by decide +kernel
theorem dX10_comes_57 : decode cX10_comes 57 = .ok (.ifCond .eq 66, 3) := by decide +kernel
theorem dX10_comes_60 : decode cX10_comes 60 = .ok (.iload_n 3, 1) := by decide +kernel
theorem dX10_comes_61 : decode cX10_comes 61 = .ok (.iload 4, 2) := by decide +kernel
theorem dX10_comes_63 : decode cX10_comes 63 = .ok (.ishr, 1) := by decide +kernel
theorem dX10_comes_64 : decode cX10_comes 64 = .ok (.iconst 1, 1) := by decide +kernel
theorem dX10_comes_65 : decode cX10_comes 65 = .ok (.iand, 1) := by decide +kernel
theorem dX10_comes_66 : decode cX10_comes 66 = .ok (.iconst 1, 1) := by decide +kernel
theorem dX10_comes_67 : decode cX10_comes 67 = .ok (.if_icmp .eq 56, 3) := by decide +kernel
theorem dX10_comes_70 : decode cX10_comes 70 = .ok (.aload_n 0, 1) := by decide +kernel
theorem dX10_comes_71 : decode cX10_comes 71 = .ok (.iload 4, 2) := by decide +kernel
theorem dX10_comes_73 : decode cX10_comes 73 = .ok (.invokevirtual 97, 3) := by decide +kernel
theorem dX10_comes_76 : decode cX10_comes 76 = .ok (.ifCond .ne 47, 3) := by decide +kernel
theorem dX10_comes_79 : decode cX10_comes 79 = .ok (.iload_n 1, 1) := by decide +kernel
theorem dX10_comes_80 : decode cX10_comes 80 = .ok (.invokestatic 100, 3) := by decide +kernel
theorem dX10_comes_83 : decode cX10_comes 83 = .ok (.ifCond .eq 12, 3) := by decide +kernel
theorem dX10_comes_86 : decode cX10_comes 86 = .ok (.iload 4, 2) := by decide +kernel
theorem dX10_comes_88 : decode cX10_comes 88 = .ok (.iload_n 2, 1) := by decide +kernel
theorem dX10_comes_89 : decode cX10_comes 89 = .ok (.if_icmp .ge 6, 3) := by decide +kernel
theorem dX10_comes_92 : decode cX10_comes 92 = .ok (.goto 31, 3) := by decide +kernel
theorem dX10_comes_95 : decode cX10_comes 95 = .ok (.aload_n 0, 1) := by decide +kernel
theorem dX10_comes_96 : decode cX10_comes 96 = .ok (.getfield 48, 3) := by decide +kernel
theorem dX10_comes_99 : decode cX10_comes 99 = .ok (.aload_n 0, 1) := by decide +kernel
theorem dX10_comes_100 : decode cX10_comes 100 = .ok (.getfield 103, 3) := by decide +kernel
theorem dX10_comes_103 : decode cX10_comes 103 = .ok (.iload_n 2, 1) := by decide +kernel
theorem dX10_comes_104 : decode cX10_comes 104 = .ok (.iastore, 1) := by decide +kernel
theorem dX10_comes_105 : decode cX10_comes 105 = .ok (.aload_n 0, 1) := by decide +kernel
theorem dX10_comes_106 : decode cX10_comes 106 = .ok (.getfield 51, 3) := by decide +kernel
theorem dX10_comes_109 : decode cX10_comes 109 = .ok (.aload_n 0, 1) := by decide +kernel
theorem dX10_comes_110 : decode cX10_comes 110 = .ok (.dup, 1) := by decide +kernel
theorem dX10_comes_111 : decode cX10_comes 111 = .ok (.getfield 103, 3) := by decide +kernel
theorem dX10_comes_114 : decode cX10_comes 114 = .ok (.dup_x1, 1) := by decide +kernel
theorem dX10_comes_115 : decode cX10_comes 115 = .ok (.iconst 1, 1) := by decide +kernel
theorem dX10_comes_116 : decode cX10_comes 116 = .ok (.iadd, 1) := by decide +kernel
theorem dX10_comes_117 : decode cX10_comes 117 = .ok (.putfield 103, 3) := by decide +kernel
theorem dX10_comes_120 : decode cX10_comes 120 = .ok (.iload 4, 2) := by decide +kernel
theorem dX10_comes_122 : decode cX10_comes 122 = .ok (.iastore, 1) := by decide +kernel
theorem dX10_comes_123 : decode cX10_comes 123 = .ok (.iinc 4 1, 3) := by decide +kernel
theorem dX10_comes_126 : decode cX10_comes 126 = .ok (.goto (-91), 3) := by decide +kernel
theorem dX10_comes_129 : decode cX10_comes 129 = .ok (.return_, 1) := by decide +kernel
theorem dX10_finds_0 : decode cX10_finds 0 = .ok (.aload_n 0, 1) := by decide +kernel
theorem dX10_finds_1 : decode cX10_finds 1 = .ok (.iconst 0, 1) := by decide +kernel
theorem dX10_finds_2 : decode cX10_finds 2 = .ok (.putfield 103, 3) := by decide +kernel
theorem dX10_finds_5 : decode cX10_finds 5 = .ok (.iload_n 1, 1) := by decide +kernel
theorem dX10_finds_6 : decode cX10_finds 6 = .ok (.invokestatic 100, 3) := by decide +kernel
theorem dX10_finds_9 : decode cX10_finds 9 = .ok (.ifCond .ne 12, 3) := by decide +kernel
theorem dX10_finds_12 : decode cX10_finds 12 = .ok (.aload_n 0, 1) := by decide +kernel
theorem dX10_finds_13 : decode cX10_finds 13 = .ok (.iload_n 1, 1) := by decide +kernel
theorem dX10_finds_14 : decode cX10_finds 14 = .ok (.iload_n 1, 1) := by decide +kernel
theorem dX10_finds_15 : decode cX10_finds 15 = .ok (.invokestatic 85, 3) := by decide +kernel
theorem dX10_finds_18 : decode cX10_finds 18 = .ok (.invokevirtual 106, 3) := by decide +kernel
theorem dX10_finds_21 : decode cX10_finds 21 = .ok (.iload_n 1, 1) := by decide +kernel
theorem dX10_finds_22 : decode cX10_finds 22 = .ok (.invokestatic 100, 3) := by decide +kernel
theorem dX10_finds_25 : decode cX10_finds 25 = .ok (.ifCond .eq 12, 3) := by decide +kernel
theorem dX10_finds_28 : decode cX10_finds 28 = .ok (.aload_n 0, 1) := by decide +kernel
theorem dX10_finds_29 : decode cX10_finds 29 = .ok (.iload_n 1, 1) := by decide +kernel
theorem dX10_finds_30 : decode cX10_finds 30 = .ok (.iload_n 1, 1) := by decide +kernel
theorem dX10_finds_31 : decode cX10_finds 31 = .ok (.invokestatic 88, 3) := by decide +kernel
theorem dX10_finds_34 : decode cX10_finds 34 = .ok (.invokevirtual 106, 3) := by decide +kernel
theorem dX10_finds_37 : decode cX10_finds 37 = .ok (.iload_n 1, 1) := by decide +kernel
theorem dX10_finds_38 : decode cX10_finds 38 = .ok (.invokestatic 100, 3) := by decide +kernel
theorem dX10_finds_41 : decode cX10_finds 41 = .ok (.ifCond .eq 19, 3) := by decide +kernel
theorem dX10_finds_44 : decode cX10_finds 44 = .ok (.iload_n 1, 1) := by decide +kernel
theorem dX10_finds_45 : decode cX10_finds 45 = .ok (.invokestatic 91, 3) := by decide +kernel
theorem dX10_finds_48 : decode cX10_finds 48 = .ok (.ifCond .lt 12, 3) := by decide +kernel
theorem dX10_finds_51 : decode cX10_finds 51 = .ok (.aload_n 0, 1) := by decide +kernel
theorem dX10_finds_52 : decode cX10_finds 52 = .ok (.iload_n 1, 1) := by decide +kernel
theorem dX10_finds_53 : decode cX10_finds 53 = .ok (.iload_n 1, 1) := by decide +kernel
theorem dX10_finds_54 : decode cX10_finds 54 = .ok (.invokestatic 91, 3) := by decide +kernel
theorem dX10_finds_57 : decode cX10_finds 57 = .ok (.invokevirtual 106, 3) := by decide +kernel
theorem dX10_finds_60 : decode cX10_finds 60 = .ok (.return_, 1) := by decide +kernel
theorem dX10_behind_0 : decode cX10_behind 0 = .ok (.iload_n 0, 1) := by decide +kernel
theorem dX10_behind_1 : decode cX10_behind 1 = .ok (.invokestatic 100, 3) := by decide +kernel
theorem dX10_behind_4 : decode cX10_behind 4 = .ok (.ifCond .ne 17, 3) := by decide +kernel
theorem dX10_behind_7 : decode cX10_behind 7 = .ok (.iload_n 2, 1) := by decide +kernel
theorem dX10_behind_8 : decode cX10_behind 8 = .ok (.iload_n 0, 1) := by decide +kernel
theorem dX10_behind_9 : decode cX10_behind 9 = .ok (.invokestatic 88, 3) := by decide +kernel
theorem dX10_behind_12 : decode cX10_behind 12 = .ok (.iload_n 0, 1) := by decide +kernel
theorem dX10_behind_13 : decode cX10_behind 13 = .ok (.invokestatic 91, 3) := by decide +kernel
theorem dX10_behind_16 : decode cX10_behind 16 = .ok (.iconst 1, 1) := by decide +kernel
theorem dX10_behind_17 : decode cX10_behind 17 = .ok (.invokestatic 110, 3) := by decide +kernel
theorem dX10_behind_20 : decode cX10_behind 20 = .ok (.ireturn, 1) := by decide +kernel
theorem dX10_behind_21 : decode cX10_behind 21 = .ok (.iload_n 0, 1) := by decide +kernel
theorem dX10_behind_22 : decode cX10_behind 22 = .ok (.invokestatic 88, 3) := by decide +kernel
theorem dX10_behind_25 : decode cX10_behind 25 = .ok (.iload_n 1, 1) := by decide +kernel
theorem dX10_behind_26 : decode cX10_behind 26 = .ok (.if_icmp .ne 7, 3) := by decide +kernel
theorem dX10_behind_29 : decode cX10_behind 29 = .ok (.iload_n 2, 1) := by decide +kernel
theorem dX10_behind_30 : decode cX10_behind 30 = .ok (.goto 7, 3) := by decide +kernel
theorem dX10_behind_33 : decode cX10_behind 33 = .ok (.iload_n 0, 1) := by decide +kernel
theorem dX10_behind_34 : decode cX10_behind 34 = .ok (.invokestatic 88, 3) := by decide +kernel
theorem dX10_behind_37 : decode cX10_behind 37 = .ok (.istore_n 3, 1) := by decide +kernel
theorem dX10_behind_38 : decode cX10_behind 38 = .ok (.iload_n 0, 1) := by decide +kernel
theorem dX10_behind_39 : decode cX10_behind 39 = .ok (.invokestatic 91, 3) := by decide +kernel
theorem dX10_behind_42 : decode cX10_behind 42 = .ok (.iload_n 1, 1) := by decide +kernel
theorem dX10_behind_43 : decode cX10_behind 43 = .ok (.if_icmp .ne 7, 3) := by decide +kernel
theorem dX10_behind_46 : decode cX10_behind 46 = .ok (.iload_n 2, 1) := by decide +kernel
theorem dX10_behind_47 : decode cX10_behind 47 = .ok (.goto 7, 3) := by decide +kernel
theorem dX10_behind_50 : decode cX10_behind 50 = .ok (.iload_n 0, 1) := by decide +kernel
theorem dX10_behind_51 : decode cX10_behind 51 = .ok (.invokestatic 91, 3) := by decide +kernel
theorem dX10_behind_54 : decode cX10_behind 54 = .ok (.istore 4, 2) := by decide +kernel
theorem dX10_behind_56 : decode cX10_behind 56 = .ok (.iload 4, 2) := by decide +kernel
theorem dX10_behind_58 : decode cX10_behind 58 = .ok (.ifCond .ge 17, 3) := by decide +kernel
theorem dX10_behind_61 : decode cX10_behind 61 = .ok (.iload_n 0, 1) := by decide +kernel
theorem dX10_behind_62 : decode cX10_behind 62 = .ok (.invokestatic 85, 3) := by decide +kernel
theorem dX10_behind_65 : decode cX10_behind 65 = .ok (.iload_n 3, 1) := by decide +kernel
theorem dX10_behind_66 : decode cX10_behind 66 = .ok (.iload 4, 2) := by decide +kernel
theorem dX10_behind_68 : decode cX10_behind 68 = .ok (.iconst 0, 1) := by decide +kernel
theorem dX10_behind_69 : decode cX10_behind 69 = .ok (.invokestatic 110, 3) := by decide +kernel
theorem dX10_behind_72 : decode cX10_behind 72 = .ok (.goto 23, 3) := by decide +kernel
theorem dX10_behind_75 : decode cX10_behind 75 = .ok (.iload_n 0, 1) := by decide +kernel
theorem dX10_behind_76 : decode cX10_behind 76 = .ok (.invokestatic 85, 3) := by decide +kernel
theorem dX10_behind_79 : decode cX10_behind 79 = .ok (.iload_n 3, 1) := by decide +kernel
theorem dX10_behind_80 : decode cX10_behind 80 = .ok (.iload 4, 2) := by decide +kernel
theorem dX10_behind_82 : decode cX10_behind 82 = .ok (.invokestatic 114, 3) := by decide +kernel
theorem dX10_behind_85 : decode cX10_behind 85 = .ok (.iload_n 3, 1) := by decide +kernel
theorem dX10_behind_86 : decode cX10_behind 86 = .ok (.iload 4, 2) := by decide +kernel
theorem dX10_behind_88 : decode cX10_behind 88 = .ok (.invokestatic 120, 3) := by decide +kernel
theorem dX10_behind_91 : decode cX10_behind 91 = .ok (.iconst 0, 1) := by decide +kernel
theorem dX10_behind_92 : decode cX10_behind 92 = .ok (.invokestatic 110, 3) := by decide +kernel
theorem dX10_behind_95 : decode cX10_behind 95 = .ok (.ireturn, 1) := by decide +kernel
theorem dX10_looks_0 : decode cX10_looks 0 = .ok (.iconst 0, 1) := by decide +kernel
theorem dX10_looks_1 : decode cX10_looks 1 = .ok (.istore_n 1, 1) := by decide +kernel
theorem dX10_looks_2 : decode cX10_looks 2 = .ok (.iload_n 1, 1) := by decide +kernel
theorem dX10_looks_3 : decode cX10_looks 3 = .ok (.sipush 1296, 3) := by decide +kernel
theorem dX10_looks_6 : decode cX10_looks 6 = .ok (.if_icmp .ge 23, 3) := by decide +kernel
theorem dX10_looks_9 : decode cX10_looks 9 = .ok (.aload_n 0, 1) := by decide +kernel
theorem dX10_looks_10 : decode cX10_looks 10 = .ok (.getfield 39, 3) := by decide +kernel
theorem dX10_looks_13 : decode cX10_looks 13 = .ok (.iload_n 1, 1) := by decide +kernel
theorem dX10_looks_14 : decode cX10_looks 14 = .ok (.iconst 0, 1) := by decide +kernel
theorem dX10_looks_15 : decode cX10_looks 15 = .ok (.iastore, 1) := by decide +kernel
theorem dX10_looks_16 : decode cX10_looks 16 = .ok (.aload_n 0, 1) := by decide +kernel
theorem dX10_looks_17 : decode cX10_looks 17 = .ok (.getfield 42, 3) := by decide +kernel
theorem dX10_looks_20 : decode cX10_looks 20 = .ok (.iload_n 1, 1) := by decide +kernel
theorem dX10_looks_21 : decode cX10_looks 21 = .ok (.iconst (-1), 1) := by decide +kernel
theorem dX10_looks_22 : decode cX10_looks 22 = .ok (.iastore, 1) := by decide +kernel
theorem dX10_looks_23 : decode cX10_looks 23 = .ok (.iinc 1 1, 3) := by decide +kernel
theorem dX10_looks_26 : decode cX10_looks 26 = .ok (.goto (-24), 3) := by decide +kernel
theorem dX10_looks_29 : decode cX10_looks 29 = .ok (.iconst 1, 1) := by decide +kernel
theorem dX10_looks_30 : decode cX10_looks 30 = .ok (.istore_n 1, 1) := by decide +kernel
theorem dX10_looks_31 : decode cX10_looks 31 = .ok (.iconst 0, 1) := by decide +kernel
theorem dX10_looks_32 : decode cX10_looks 32 = .ok (.istore_n 2, 1) := by decide +kernel
theorem dX10_looks_33 : decode cX10_looks 33 = .ok (.iload_n 1, 1) := by decide +kernel
theorem dX10_looks_34 : decode cX10_looks 34 = .ok (.ifCond .ne 8, 3) := by decide +kernel
theorem dX10_looks_37 : decode cX10_looks 37 = .ok (.iload_n 2, 1) := by decide +kernel
theorem dX10_looks_38 : decode cX10_looks 38 = .ok (.iconst 2, 1) := by decide +kernel
theorem dX10_looks_39 : decode cX10_looks 39 = .ok (.if_icmp .ge 213, 3) := by decide +kernel
theorem dX10_looks_42 : decode cX10_looks 42 = .ok (.iconst 0, 1) := by decide +kernel
theorem dX10_looks_43 : decode cX10_looks 43 = .ok (.istore_n 1, 1) := by decide +kernel
theorem dX10_looks_44 : decode cX10_looks 44 = .ok (.iconst 0, 1) := by decide +kernel
theorem dX10_looks_45 : decode cX10_looks 45 = .ok (.istore_n 3, 1) := by decide +kernel
theorem dX10_looks_46 : decode cX10_looks 46 = .ok (.iload_n 3, 1) := by decide +kernel
theorem dX10_looks_47 : decode cX10_looks 47 = .ok (.sipush 1296, 3) := by decide +kernel
theorem dX10_looks_50 : decode cX10_looks 50 = .ok (.if_icmp .ge 196, 3) := by decide +kernel
theorem dX10_looks_53 : decode cX10_looks 53 = .ok (.aload_n 0, 1) := by decide +kernel
theorem dX10_looks_54 : decode cX10_looks 54 = .ok (.getfield 39, 3) := by decide +kernel
theorem dX10_looks_57 : decode cX10_looks 57 = .ok (.iload_n 3, 1) := by decide +kernel
theorem dX10_looks_58 : decode cX10_looks 58 = .ok (.iaload, 1) := by decide +kernel
theorem dX10_looks_59 : decode cX10_looks 59 = .ok (.ifCond .ne 181, 3) := by decide +kernel
theorem dX10_looks_62 : decode cX10_looks 62 = .ok (.aload_n 0, 1) := by decide +kernel
theorem dX10_looks_63 : decode cX10_looks 63 = .ok (.iload_n 3, 1) := by decide +kernel
theorem dX10_looks_64 : decode cX10_looks 64 = .ok (.invokevirtual 123, 3) := by decide +kernel
theorem dX10_looks_67 : decode cX10_looks 67 = .ok (.ifCond .ne 6, 3) := by decide +kernel
theorem dX10_looks_70 : decode cX10_looks 70 = .ok (.goto 170, 3) := by decide +kernel
theorem dX10_looks_73 : decode cX10_looks 73 = .ok (.aload_n 0, 1) := by decide +kernel
theorem dX10_looks_74 : decode cX10_looks 74 = .ok (.iload_n 3, 1) := by decide +kernel
theorem dX10_looks_75 : decode cX10_looks 75 = .ok (.invokevirtual 126, 3) := by decide +kernel
theorem dX10_looks_78 : decode cX10_looks 78 = .ok (.iconst 0, 1) := by decide +kernel
theorem dX10_looks_79 : decode cX10_looks 79 = .ok (.istore 4, 2) := by decide +kernel
theorem dX10_looks_81 : decode cX10_looks 81 = .ok (.iconst 1, 1) := by decide +kernel
theorem dX10_looks_82 : decode cX10_looks 82 = .ok (.istore 5, 2) := by decide +kernel
theorem dX10_looks_84 : decode cX10_looks 84 = .ok (.iconst 0, 1) := by decide +kernel
theorem dX10_looks_85 : decode cX10_looks 85 = .ok (.istore 6, 2) := by decide +kernel
theorem dX10_looks_87 : decode cX10_looks 87 = .ok (.iload 6, 2) := by decide +kernel
theorem dX10_looks_89 : decode cX10_looks 89 = .ok (.aload_n 0, 1) := by decide +kernel
theorem dX10_looks_90 : decode cX10_looks 90 = .ok (.getfield 103, 3) := by decide +kernel
theorem dX10_looks_93 : decode cX10_looks 93 = .ok (.if_icmp .ge 109, 3) := by decide +kernel
theorem dX10_looks_96 : decode cX10_looks 96 = .ok (.iload_n 3, 1) := by decide +kernel
theorem dX10_looks_97 : decode cX10_looks 97 = .ok (.aload_n 0, 1) := by decide +kernel
theorem dX10_looks_98 : decode cX10_looks 98 = .ok (.getfield 48, 3) := by decide +kernel
theorem dX10_looks_101 : decode cX10_looks 101 = .ok (.iload 6, 2) := by decide +kernel
theorem dX10_looks_103 : decode cX10_looks 103 = .ok (.iaload, 1) := by decide +kernel
theorem dX10_looks_104 : decode cX10_looks 104 = .ok (.aload_n 0, 1) := by decide +kernel
theorem dX10_looks_105 : decode cX10_looks 105 = .ok (.getfield 51, 3) := by decide +kernel
theorem dX10_looks_108 : decode cX10_looks 108 = .ok (.iload 6, 2) := by decide +kernel
theorem dX10_looks_110 : decode cX10_looks 110 = .ok (.iaload, 1) := by decide +kernel
theorem dX10_looks_111 : decode cX10_looks 111 = .ok (.invokestatic 130, 3) := by decide +kernel
theorem dX10_looks_114 : decode cX10_looks 114 = .ok (.istore 7, 2) := by decide +kernel
theorem dX10_looks_116 : decode cX10_looks 116 = .ok (.aload_n 0, 1) := by decide +kernel
theorem dX10_looks_117 : decode cX10_looks 117 = .ok (.getfield 39, 3) := by decide +kernel
theorem dX10_looks_120 : decode cX10_looks 120 = .ok (.iload 7, 2) := by decide +kernel
theorem dX10_looks_122 : decode cX10_looks 122 = .ok (.iaload, 1) := by decide +kernel
theorem dX10_looks_123 : decode cX10_looks 123 = .ok (.ifCond .eq 18, 3) := by decide +kernel
theorem dX10_looks_126 : decode cX10_looks 126 = .ok (.aload_n 0, 1) := by decide +kernel
theorem dX10_looks_127 : decode cX10_looks 127 = .ok (.getfield 42, 3) := by decide +kernel
theorem dX10_looks_130 : decode cX10_looks 130 = .ok (.iload 7, 2) := by decide +kernel
theorem dX10_looks_132 : decode cX10_looks 132 = .ok (.iaload, 1) := by decide +kernel
theorem dX10_looks_133 : decode cX10_looks 133 = .ok (.iload_n 2, 1) := by decide +kernel
theorem dX10_looks_134 : decode cX10_looks 134 = .ok (.if_icmp .ge 7, 3) := by decide +kernel
theorem dX10_looks_137 : decode cX10_looks 137 = .ok (.iconst 1, 1) := by decide +kernel
theorem dX10_looks_138 : decode cX10_looks 138 = .ok (.goto 4, 3) := by decide +kernel
theorem dX10_looks_141 : decode cX10_looks 141 = .ok (.iconst 0, 1) := by decide +kernel
theorem dX10_looks_142 : decode cX10_looks 142 = .ok (.istore 8, 2) := by decide +kernel
theorem dX10_looks_144 : decode cX10_looks 144 = .ok (.iload 4, 2) := by decide +kernel
theorem dX10_looks_146 : decode cX10_looks 146 = .ok (.iload 8, 2) := by decide +kernel
theorem dX10_looks_148 : decode cX10_looks 148 = .ok (.ifCond .eq 18, 3) := by decide +kernel
theorem dX10_looks_151 : decode cX10_looks 151 = .ok (.aload_n 0, 1) := by decide +kernel
theorem dX10_looks_152 : decode cX10_looks 152 = .ok (.getfield 39, 3) := by decide +kernel
theorem dX10_looks_155 : decode cX10_looks 155 = .ok (.iload 7, 2) := by decide +kernel
theorem dX10_looks_157 : decode cX10_looks 157 = .ok (.iaload, 1) := by decide +kernel
theorem dX10_looks_158 : decode cX10_looks 158 = .ok (.iconst 2, 1) := by decide +kernel
theorem dX10_looks_159 : decode cX10_looks 159 = .ok (.if_icmp .ne 7, 3) := by decide +kernel
theorem dX10_looks_162 : decode cX10_looks 162 = .ok (.iconst 1, 1) := by decide +kernel
theorem dX10_looks_163 : decode cX10_looks 163 = .ok (.goto 4, 3) := by decide +kernel
theorem dX10_looks_166 : decode cX10_looks 166 = .ok (.iconst 0, 1) := by decide +kernel
theorem dX10_looks_167 : decode cX10_looks 167 = .ok (.ior, 1) := by decide +kernel
theorem dX10_looks_168 : decode cX10_looks 168 = .ok (.istore 4, 2) := by decide +kernel
theorem dX10_looks_170 : decode cX10_looks 170 = .ok (.iload 5, 2) := by decide +kernel
theorem dX10_looks_172 : decode cX10_looks 172 = .ok (.iload 8, 2) := by decide +kernel
theorem dX10_looks_174 : decode cX10_looks 174 = .ok (.ifCond .eq 18, 3) := by decide +kernel
theorem dX10_looks_177 : decode cX10_looks 177 = .ok (.aload_n 0, 1) := by decide +kernel
theorem dX10_looks_178 : decode cX10_looks 178 = .ok (.getfield 39, 3) := by decide +kernel
theorem dX10_looks_181 : decode cX10_looks 181 = .ok (.iload 7, 2) := by decide +kernel
theorem dX10_looks_183 : decode cX10_looks 183 = .ok (.iaload, 1) := by decide +kernel
theorem dX10_looks_184 : decode cX10_looks 184 = .ok (.iconst 1, 1) := by decide +kernel
theorem dX10_looks_185 : decode cX10_looks 185 = .ok (.if_icmp .ne 7, 3) := by decide +kernel
theorem dX10_looks_188 : decode cX10_looks 188 = .ok (.iconst 1, 1) := by decide +kernel
theorem dX10_looks_189 : decode cX10_looks 189 = .ok (.goto 4, 3) := by decide +kernel
theorem dX10_looks_192 : decode cX10_looks 192 = .ok (.iconst 0, 1) := by decide +kernel
theorem dX10_looks_193 : decode cX10_looks 193 = .ok (.iand, 1) := by decide +kernel
theorem dX10_looks_194 : decode cX10_looks 194 = .ok (.istore 5, 2) := by decide +kernel
theorem dX10_looks_196 : decode cX10_looks 196 = .ok (.iinc 6 1, 3) := by decide +kernel
theorem dX10_looks_199 : decode cX10_looks 199 = .ok (.goto (-112), 3) := by decide +kernel
theorem dX10_looks_202 : decode cX10_looks 202 = .ok (.iload 4, 2) := by decide +kernel
theorem dX10_looks_204 : decode cX10_looks 204 = .ok (.ifCond .ne 11, 3) := by decide +kernel
theorem dX10_looks_207 : decode cX10_looks 207 = .ok (.iload 5, 2) := by decide +kernel
theorem dX10_looks_209 : decode cX10_looks 209 = .ok (.ifCond .ne 6, 3) := by decide +kernel
theorem dX10_looks_212 : decode cX10_looks 212 = .ok (.goto 28, 3) := by decide +kernel
theorem dX10_looks_215 : decode cX10_looks 215 = .ok (.aload_n 0, 1) := by decide +kernel
theorem dX10_looks_216 : decode cX10_looks 216 = .ok (.getfield 39, 3) := by decide +kernel
theorem dX10_looks_219 : decode cX10_looks 219 = .ok (.iload_n 3, 1) := by decide +kernel
theorem dX10_looks_220 : decode cX10_looks 220 = .ok (.iload 4, 2) := by decide +kernel
theorem dX10_looks_222 : decode cX10_looks 222 = .ok (.ifCond .eq 7, 3) := by decide +kernel
theorem dX10_looks_225 : decode cX10_looks 225 = .ok (.iconst 1, 1) := by decide +kernel
theorem dX10_looks_226 : decode cX10_looks 226 = .ok (.goto 4, 3) := by decide +kernel
theorem dX10_looks_229 : decode cX10_looks 229 = .ok (.iconst 2, 1) := by decide +kernel
theorem dX10_looks_230 : decode cX10_looks 230 = .ok (.iastore, 1) := by decide +kernel
theorem dX10_looks_231 : decode cX10_looks 231 = .ok (.aload_n 0, 1) := by decide +kernel
theorem dX10_looks_232 : decode cX10_looks 232 = .ok (.getfield 42, 3) := by decide +kernel
theorem dX10_looks_235 : decode cX10_looks 235 = .ok (.iload_n 3, 1) := by decide +kernel
theorem dX10_looks_236 : decode cX10_looks 236 = .ok (.iload_n 2, 1) := by decide +kernel
theorem dX10_looks_237 : decode cX10_looks 237 = .ok (.iastore, 1) := by decide +kernel
theorem dX10_looks_238 : decode cX10_looks 238 = .ok (.iconst 1, 1) := by decide +kernel
theorem dX10_looks_239 : decode cX10_looks 239 = .ok (.istore_n 1, 1) := by decide +kernel
theorem dX10_looks_240 : decode cX10_looks 240 = .ok (.iinc 3 1, 3) := by decide +kernel
theorem dX10_looks_243 : decode cX10_looks 243 = .ok (.goto (-197), 3) := by decide +kernel
theorem dX10_looks_246 : decode cX10_looks 246 = .ok (.iinc 2 1, 3) := by decide +kernel
theorem dX10_looks_249 : decode cX10_looks 249 = .ok (.goto (-216), 3) := by decide +kernel
theorem dX10_looks_252 : decode cX10_looks 252 = .ok (.return_, 1) := by decide +kernel
theorem dX10_knows_0 : decode cX10_knows 0 = .ok (.aload_n 0, 1) := by decide +kernel
theorem dX10_knows_1 : decode cX10_knows 1 = .ok (.iconst 0, 1) := by decide +kernel
theorem dX10_knows_2 : decode cX10_knows 2 = .ok (.putfield 54, 3) := by decide +kernel
theorem dX10_knows_5 : decode cX10_knows 5 = .ok (.aload_n 0, 1) := by decide +kernel
theorem dX10_knows_6 : decode cX10_knows 6 = .ok (.invokevirtual 134, 3) := by decide +kernel
theorem dX10_knows_9 : decode cX10_knows 9 = .ok (.aload_n 0, 1) := by decide +kernel
theorem dX10_knows_10 : decode cX10_knows 10 = .ok (.getfield 57, 3) := by decide +kernel
theorem dX10_knows_13 : decode cX10_knows 13 = .ok (.ifCond .ne 7, 3) := by decide +kernel
theorem dX10_knows_16 : decode cX10_knows 16 = .ok (.aload_n 0, 1) := by decide +kernel
theorem dX10_knows_17 : decode cX10_knows 17 = .ok (.invokevirtual 137, 3) := by decide +kernel
theorem dX10_knows_20 : decode cX10_knows 20 = .ok (.aload_n 0, 1) := by decide +kernel
theorem dX10_knows_21 : decode cX10_knows 21 = .ok (.iconst 1, 1) := by decide +kernel
theorem dX10_knows_22 : decode cX10_knows 22 = .ok (.putfield 57, 3) := by decide +kernel
theorem dX10_knows_25 : decode cX10_knows 25 = .ok (.return_, 1) := by decide +kernel
theorem dX10_bestPlace_0 : decode cX10_bestPlace 0 = .ok (.aload_n 0, 1) := by decide +kernel
theorem dX10_bestPlace_1 : decode cX10_bestPlace 1 = .ok (.iload_n 1, 1) := by decide +kernel
theorem dX10_bestPlace_2 : decode cX10_bestPlace 2 = .ok (.invokevirtual 126, 3) := by decide +kernel
theorem dX10_bestPlace_5 : decode cX10_bestPlace 5 = .ok (.iconst (-1), 1) := by decide +kernel
theorem dX10_bestPlace_6 : decode cX10_bestPlace 6 = .ok (.istore_n 2, 1) := by decide +kernel
theorem dX10_bestPlace_7 : decode cX10_bestPlace 7 = .ok (.iconst 0, 1) := by decide +kernel
theorem dX10_bestPlace_8 : decode cX10_bestPlace 8 = .ok (.istore_n 3, 1) := by decide +kernel
theorem dX10_bestPlace_9 : decode cX10_bestPlace 9 = .ok (.iload_n 3, 1) := by decide +kernel
theorem dX10_bestPlace_10 : decode cX10_bestPlace 10 = .ok (.aload_n 0, 1) := by decide +kernel
theorem dX10_bestPlace_11 : decode cX10_bestPlace 11 = .ok (.getfield 103, 3) := by decide +kernel
theorem dX10_bestPlace_14 : decode cX10_bestPlace 14 = .ok (.if_icmp .ge 168, 3) := by decide +kernel
theorem dX10_bestPlace_17 : decode cX10_bestPlace 17 = .ok (.iload_n 1, 1) := by decide +kernel
theorem dX10_bestPlace_18 : decode cX10_bestPlace 18 = .ok (.aload_n 0, 1) := by decide +kernel
theorem dX10_bestPlace_19 : decode cX10_bestPlace 19 = .ok (.getfield 48, 3) := by decide +kernel
theorem dX10_bestPlace_22 : decode cX10_bestPlace 22 = .ok (.iload_n 3, 1) := by decide +kernel
theorem dX10_bestPlace_23 : decode cX10_bestPlace 23 = .ok (.iaload, 1) := by decide +kernel
theorem dX10_bestPlace_24 : decode cX10_bestPlace 24 = .ok (.aload_n 0, 1) := by decide +kernel
theorem dX10_bestPlace_25 : decode cX10_bestPlace 25 = .ok (.getfield 51, 3) := by decide +kernel
theorem dX10_bestPlace_28 : decode cX10_bestPlace 28 = .ok (.iload_n 3, 1) := by decide +kernel
theorem dX10_bestPlace_29 : decode cX10_bestPlace 29 = .ok (.iaload, 1) := by decide +kernel
theorem dX10_bestPlace_30 : decode cX10_bestPlace 30 = .ok (.invokestatic 130, 3) := by decide +kernel
theorem dX10_bestPlace_33 : decode cX10_bestPlace 33 = .ok (.istore 4, 2) := by decide +kernel
theorem dX10_bestPlace_35 : decode cX10_bestPlace 35 = .ok (.aload_n 0, 1) := by decide +kernel
theorem dX10_bestPlace_36 : decode cX10_bestPlace 36 = .ok (.getfield 39, 3) := by decide +kernel
theorem dX10_bestPlace_39 : decode cX10_bestPlace 39 = .ok (.iload_n 1, 1) := by decide +kernel
theorem dX10_bestPlace_40 : decode cX10_bestPlace 40 = .ok (.iaload, 1) := by decide +kernel
theorem dX10_bestPlace_41 : decode cX10_bestPlace 41 = .ok (.ifCond .ne 21, 3) := by decide +kernel
theorem dX10_bestPlace_44 : decode cX10_bestPlace 44 = .ok (.aload_n 0, 1) := by decide +kernel
theorem dX10_bestPlace_45 : decode cX10_bestPlace 45 = .ok (.getfield 39, 3) := by decide +kernel
theorem dX10_bestPlace_48 : decode cX10_bestPlace 48 = .ok (.iload 4, 2) := by decide +kernel
theorem dX10_bestPlace_50 : decode cX10_bestPlace 50 = .ok (.iaload, 1) := by decide +kernel
theorem dX10_bestPlace_51 : decode cX10_bestPlace 51 = .ok (.ifCond .ne 7, 3) := by decide +kernel
theorem dX10_bestPlace_54 : decode cX10_bestPlace 54 = .ok (.iconst 1, 1) := by decide +kernel
theorem dX10_bestPlace_55 : decode cX10_bestPlace 55 = .ok (.goto 30, 3) := by decide +kernel
theorem dX10_bestPlace_58 : decode cX10_bestPlace 58 = .ok (.iconst 0, 1) := by decide +kernel
theorem dX10_bestPlace_59 : decode cX10_bestPlace 59 = .ok (.goto 26, 3) := by decide +kernel
theorem dX10_bestPlace_62 : decode cX10_bestPlace 62 = .ok (.aload_n 0, 1) := by decide +kernel
theorem dX10_bestPlace_63 : decode cX10_bestPlace 63 = .ok (.getfield 39, 3) := by decide +kernel
theorem dX10_bestPlace_66 : decode cX10_bestPlace 66 = .ok (.iload 4, 2) := by decide +kernel
theorem dX10_bestPlace_68 : decode cX10_bestPlace 68 = .ok (.iaload, 1) := by decide +kernel
theorem dX10_bestPlace_69 : decode cX10_bestPlace 69 = .ok (.iconst 3, 1) := by decide +kernel
theorem dX10_bestPlace_70 : decode cX10_bestPlace 70 = .ok (.aload_n 0, 1) := by decide +kernel
theorem dX10_bestPlace_71 : decode cX10_bestPlace 71 = .ok (.getfield 39, 3) := by decide +kernel
theorem dX10_bestPlace_74 : decode cX10_bestPlace 74 = .ok (.iload_n 1, 1) := by decide +kernel
theorem dX10_bestPlace_75 : decode cX10_bestPlace 75 = .ok (.iaload, 1) := by decide +kernel
theorem dX10_bestPlace_76 : decode cX10_bestPlace 76 = .ok (.isub, 1) := by decide +kernel
theorem dX10_bestPlace_77 : decode cX10_bestPlace 77 = .ok (.if_icmp .ne 7, 3) := by decide +kernel
theorem dX10_bestPlace_80 : decode cX10_bestPlace 80 = .ok (.iconst 1, 1) := by decide +kernel
theorem dX10_bestPlace_81 : decode cX10_bestPlace 81 = .ok (.goto 4, 3) := by decide +kernel
theorem dX10_bestPlace_84 : decode cX10_bestPlace 84 = .ok (.iconst 0, 1) := by decide +kernel
theorem dX10_bestPlace_85 : decode cX10_bestPlace 85 = .ok (.istore 5, 2) := by decide +kernel
theorem dX10_bestPlace_87 : decode cX10_bestPlace 87 = .ok (.iload 5, 2) := by decide +kernel
theorem dX10_bestPlace_89 : decode cX10_bestPlace 89 = .ok (.ifCond .ne 6, 3) := by decide +kernel
theorem dX10_bestPlace_92 : decode cX10_bestPlace 92 = .ok (.goto 84, 3) := by decide +kernel
theorem dX10_bestPlace_95 : decode cX10_bestPlace 95 = .ok (.iload_n 2, 1) := by decide +kernel
theorem dX10_bestPlace_96 : decode cX10_bestPlace 96 = .ok (.ifCond .ge 7, 3) := by decide +kernel
theorem dX10_bestPlace_99 : decode cX10_bestPlace 99 = .ok (.iconst (-1), 1) := by decide +kernel
theorem dX10_bestPlace_100 : decode cX10_bestPlace 100 = .ok (.goto 24, 3) := by decide +kernel
theorem dX10_bestPlace_103 : decode cX10_bestPlace 103 = .ok (.aload_n 0, 1) := by decide +kernel
theorem dX10_bestPlace_104 : decode cX10_bestPlace 104 = .ok (.getfield 42, 3) := by decide +kernel
theorem dX10_bestPlace_107 : decode cX10_bestPlace 107 = .ok (.iload_n 1, 1) := by decide +kernel
theorem dX10_bestPlace_108 : decode cX10_bestPlace 108 = .ok (.aload_n 0, 1) := by decide +kernel
theorem dX10_bestPlace_109 : decode cX10_bestPlace 109 = .ok (.getfield 48, 3) := by decide +kernel
theorem dX10_bestPlace_112 : decode cX10_bestPlace 112 = .ok (.iload_n 2, 1) := by decide +kernel
theorem dX10_bestPlace_113 : decode cX10_bestPlace 113 = .ok (.iaload, 1) := by decide +kernel
theorem dX10_bestPlace_114 : decode cX10_bestPlace 114 = .ok (.aload_n 0, 1) := by decide +kernel
theorem dX10_bestPlace_115 : decode cX10_bestPlace 115 = .ok (.getfield 51, 3) := by decide +kernel
theorem dX10_bestPlace_118 : decode cX10_bestPlace 118 = .ok (.iload_n 2, 1) := by decide +kernel
theorem dX10_bestPlace_119 : decode cX10_bestPlace 119 = .ok (.iaload, 1) := by decide +kernel
theorem dX10_bestPlace_120 : decode cX10_bestPlace 120 = .ok (.invokestatic 130, 3) := by decide +kernel
theorem dX10_bestPlace_123 : decode cX10_bestPlace 123 = .ok (.iaload, 1) := by decide +kernel
theorem dX10_bestPlace_124 : decode cX10_bestPlace 124 = .ok (.istore 6, 2) := by decide +kernel
theorem dX10_bestPlace_126 : decode cX10_bestPlace 126 = .ok (.iload_n 2, 1) := by decide +kernel
theorem dX10_bestPlace_127 : decode cX10_bestPlace 127 = .ok (.ifCond .lt 47, 3) := by decide +kernel
theorem dX10_bestPlace_130 : decode cX10_bestPlace 130 = .ok (.aload_n 0, 1) := by decide +kernel
theorem dX10_bestPlace_131 : decode cX10_bestPlace 131 = .ok (.getfield 39, 3) := by decide +kernel
theorem dX10_bestPlace_134 : decode cX10_bestPlace 134 = .ok (.iload_n 1, 1) := by decide +kernel
theorem dX10_bestPlace_135 : decode cX10_bestPlace 135 = .ok (.iaload, 1) := by decide +kernel
theorem dX10_bestPlace_136 : decode cX10_bestPlace 136 = .ok (.iconst 1, 1) := by decide +kernel
theorem dX10_bestPlace_137 : decode cX10_bestPlace 137 = .ok (.if_icmp .ne 15, 3) := by decide +kernel
theorem dX10_bestPlace_140 : decode cX10_bestPlace 140 = .ok (.aload_n 0, 1) := by decide +kernel
theorem dX10_bestPlace_141 : decode cX10_bestPlace 141 = .ok (.getfield 42, 3) := by decide +kernel
theorem dX10_bestPlace_144 : decode cX10_bestPlace 144 = .ok (.iload 4, 2) := by decide +kernel
theorem dX10_bestPlace_146 : decode cX10_bestPlace 146 = .ok (.iaload, 1) := by decide +kernel
theorem dX10_bestPlace_147 : decode cX10_bestPlace 147 = .ok (.iload 6, 2) := by decide +kernel
theorem dX10_bestPlace_149 : decode cX10_bestPlace 149 = .ok (.if_icmp .lt 25, 3) := by decide +kernel
theorem dX10_bestPlace_152 : decode cX10_bestPlace 152 = .ok (.aload_n 0, 1) := by decide +kernel
theorem dX10_bestPlace_153 : decode cX10_bestPlace 153 = .ok (.getfield 39, 3) := by decide +kernel
theorem dX10_bestPlace_156 : decode cX10_bestPlace 156 = .ok (.iload_n 1, 1) := by decide +kernel
theorem dX10_bestPlace_157 : decode cX10_bestPlace 157 = .ok (.iaload, 1) := by decide +kernel
theorem dX10_bestPlace_158 : decode cX10_bestPlace 158 = .ok (.iconst 2, 1) := by decide +kernel
theorem dX10_bestPlace_159 : decode cX10_bestPlace 159 = .ok (.if_icmp .ne 17, 3) := by decide +kernel
theorem dX10_bestPlace_162 : decode cX10_bestPlace 162 = .ok (.aload_n 0, 1) := by decide +kernel
theorem dX10_bestPlace_163 : decode cX10_bestPlace 163 = .ok (.getfield 42, 3) := by decide +kernel
theorem dX10_bestPlace_166 : decode cX10_bestPlace 166 = .ok (.iload 4, 2) := by decide +kernel
theorem dX10_bestPlace_168 : decode cX10_bestPlace 168 = .ok (.iaload, 1) := by decide +kernel
theorem dX10_bestPlace_169 : decode cX10_bestPlace 169 = .ok (.iload 6, 2) := by decide +kernel
theorem dX10_bestPlace_171 : decode cX10_bestPlace 171 = .ok (.if_icmp .le 5, 3) := by decide +kernel
theorem dX10_bestPlace_174 : decode cX10_bestPlace 174 = .ok (.iload_n 3, 1) := by decide +kernel
theorem dX10_bestPlace_175 : decode cX10_bestPlace 175 = .ok (.istore_n 2, 1) := by decide +kernel
theorem dX10_bestPlace_176 : decode cX10_bestPlace 176 = .ok (.iinc 3 1, 3) := by decide +kernel
theorem dX10_bestPlace_179 : decode cX10_bestPlace 179 = .ok (.goto (-170), 3) := by decide +kernel
theorem dX10_bestPlace_182 : decode cX10_bestPlace 182 = .ok (.iload_n 2, 1) := by decide +kernel
theorem dX10_bestPlace_183 : decode cX10_bestPlace 183 = .ok (.ireturn, 1) := by decide +kernel
theorem dX10_endsGame_0 : decode cX10_endsGame 0 = .ok (.aload_n 0, 1) := by decide +kernel
theorem dX10_endsGame_1 : decode cX10_endsGame 1 = .ok (.getfield 9, 3) := by decide +kernel
theorem dX10_endsGame_4 : decode cX10_endsGame 4 = .ok (.iconst 4, 1) := by decide +kernel
theorem dX10_endsGame_5 : decode cX10_endsGame 5 = .ok (.iconst 0, 1) := by decide +kernel
theorem dX10_endsGame_6 : decode cX10_endsGame 6 = .ok (.iastore, 1) := by decide +kernel
theorem dX10_endsGame_7 : decode cX10_endsGame 7 = .ok (.aload_n 0, 1) := by decide +kernel
theorem dX10_endsGame_8 : decode cX10_endsGame 8 = .ok (.getfield 9, 3) := by decide +kernel
theorem dX10_endsGame_11 : decode cX10_endsGame 11 = .ok (.iconst 5, 1) := by decide +kernel
theorem dX10_endsGame_12 : decode cX10_endsGame 12 = .ok (.iconst 0, 1) := by decide +kernel
theorem dX10_endsGame_13 : decode cX10_endsGame 13 = .ok (.iastore, 1) := by decide +kernel
theorem dX10_endsGame_14 : decode cX10_endsGame 14 = .ok (.return_, 1) := by decide +kernel
theorem dX10_digs_0 : decode cX10_digs 0 = .ok (.aload_n 0, 1) := by decide +kernel
theorem dX10_digs_1 : decode cX10_digs 1 = .ok (.getfield 9, 3) := by decide +kernel
theorem dX10_digs_4 : decode cX10_digs 4 = .ok (.iconst 0, 1) := by decide +kernel
theorem dX10_digs_5 : decode cX10_digs 5 = .ok (.iaload, 1) := by decide +kernel
theorem dX10_digs_6 : decode cX10_digs 6 = .ok (.bipush 8, 2) := by decide +kernel
theorem dX10_digs_8 : decode cX10_digs 8 = .ok (.if_icmp .ne 11, 3) := by decide +kernel
theorem dX10_digs_11 : decode cX10_digs 11 = .ok (.aload_n 0, 1) := by decide +kernel
theorem dX10_digs_12 : decode cX10_digs 12 = .ok (.iconst 2, 1) := by decide +kernel
theorem dX10_digs_13 : decode cX10_digs 13 = .ok (.bipush 8, 2) := by decide +kernel
theorem dX10_digs_15 : decode cX10_digs 15 = .ok (.invokevirtual 140, 3) := by decide +kernel
theorem dX10_digs_18 : decode cX10_digs 18 = .ok (.ireturn, 1) := by decide +kernel
theorem dX10_digs_19 : decode cX10_digs 19 = .ok (.aload_n 0, 1) := by decide +kernel
theorem dX10_digs_20 : decode cX10_digs 20 = .ok (.invokevirtual 143, 3) := by decide +kernel
theorem dX10_digs_23 : decode cX10_digs 23 = .ok (.aload_n 0, 1) := by decide +kernel
theorem dX10_digs_24 : decode cX10_digs 24 = .ok (.getfield 9, 3) := by decide +kernel
theorem dX10_digs_27 : decode cX10_digs 27 = .ok (.iconst 0, 1) := by decide +kernel
theorem dX10_digs_28 : decode cX10_digs 28 = .ok (.dup2, 1) := by decide +kernel
theorem dX10_digs_29 : decode cX10_digs 29 = .ok (.iaload, 1) := by decide +kernel
theorem dX10_digs_30 : decode cX10_digs 30 = .ok (.dup_x2, 1) := by decide +kernel
theorem dX10_digs_31 : decode cX10_digs 31 = .ok (.iconst 1, 1) := by decide +kernel
theorem dX10_digs_32 : decode cX10_digs 32 = .ok (.iadd, 1) := by decide +kernel
theorem dX10_digs_33 : decode cX10_digs 33 = .ok (.iastore, 1) := by decide +kernel
theorem dX10_digs_34 : decode cX10_digs 34 = .ok (.ireturn, 1) := by decide +kernel
theorem dX10_dig_0 : decode cX10_dig 0 = .ok (.aload_n 0, 1) := by decide +kernel
theorem dX10_dig_1 : decode cX10_dig 1 = .ok (.invokevirtual 146, 3) := by decide +kernel
theorem dX10_dig_4 : decode cX10_dig 4 = .ok (.aload_n 0, 1) := by decide +kernel
theorem dX10_dig_5 : decode cX10_dig 5 = .ok (.aload_n 0, 1) := by decide +kernel
theorem dX10_dig_6 : decode cX10_dig 6 = .ok (.invokevirtual 149, 3) := by decide +kernel
theorem dX10_dig_9 : decode cX10_dig 9 = .ok (.invokevirtual 153, 3) := by decide +kernel
theorem dX10_dig_12 : decode cX10_dig 12 = .ok (.ireturn, 1) := by decide +kernel
theorem dX10_lacks_0 : decode cX10_lacks 0 = .ok (.aload_n 0, 1) := by decide +kernel
theorem dX10_lacks_1 : decode cX10_lacks 1 = .ok (.iload_n 1, 1) := by decide +kernel
theorem dX10_lacks_2 : decode cX10_lacks 2 = .ok (.invokevirtual 81, 3) := by decide +kernel
theorem dX10_lacks_5 : decode cX10_lacks 5 = .ok (.ifCond .ne 10, 3) := by decide +kernel
theorem dX10_lacks_8 : decode cX10_lacks 8 = .ok (.aload_n 0, 1) := by decide +kernel
theorem dX10_lacks_9 : decode cX10_lacks 9 = .ok (.iconst 3, 1) := by decide +kernel
theorem dX10_lacks_10 : decode cX10_lacks 10 = .ok (.iload_n 1, 1) := by decide +kernel
theorem dX10_lacks_11 : decode cX10_lacks 11 = .ok (.invokevirtual 140, 3) := by decide +kernel
theorem dX10_lacks_14 : decode cX10_lacks 14 = .ok (.ireturn, 1) := by decide +kernel
theorem dX10_lacks_15 : decode cX10_lacks 15 = .ok (.aload_n 0, 1) := by decide +kernel
theorem dX10_lacks_16 : decode cX10_lacks 16 = .ok (.iload_n 2, 1) := by decide +kernel
theorem dX10_lacks_17 : decode cX10_lacks 17 = .ok (.invokevirtual 81, 3) := by decide +kernel
theorem dX10_lacks_20 : decode cX10_lacks 20 = .ok (.ifCond .eq 7, 3) := by decide +kernel
theorem dX10_lacks_23 : decode cX10_lacks 23 = .ok (.iconst 0, 1) := by decide +kernel
theorem dX10_lacks_24 : decode cX10_lacks 24 = .ok (.goto 9, 3) := by decide +kernel
theorem dX10_lacks_27 : decode cX10_lacks 27 = .ok (.aload_n 0, 1) := by decide +kernel
theorem dX10_lacks_28 : decode cX10_lacks 28 = .ok (.iconst 3, 1) := by decide +kernel
theorem dX10_lacks_29 : decode cX10_lacks 29 = .ok (.iload_n 2, 1) := by decide +kernel
theorem dX10_lacks_30 : decode cX10_lacks 30 = .ok (.invokevirtual 140, 3) := by decide +kernel
theorem dX10_lacks_33 : decode cX10_lacks 33 = .ok (.ireturn, 1) := by decide +kernel
theorem dX10_treads_0 : decode cX10_treads 0 = .ok (.aload_n 0, 1) := by decide +kernel
theorem dX10_treads_1 : decode cX10_treads 1 = .ok (.iload_n 1, 1) := by decide +kernel
theorem dX10_treads_2 : decode cX10_treads 2 = .ok (.iload_n 2, 1) := by decide +kernel
theorem dX10_treads_3 : decode cX10_treads 3 = .ok (.invokevirtual 156, 3) := by decide +kernel
theorem dX10_treads_6 : decode cX10_treads 6 = .ok (.ifCond .ge 5, 3) := by decide +kernel
theorem dX10_treads_9 : decode cX10_treads 9 = .ok (.iconst (-1), 1) := by decide +kernel
theorem dX10_treads_10 : decode cX10_treads 10 = .ok (.ireturn, 1) := by decide +kernel
theorem dX10_treads_11 : decode cX10_treads 11 = .ok (.iload_n 1, 1) := by decide +kernel
theorem dX10_treads_12 : decode cX10_treads 12 = .ok (.iload_n 2, 1) := by decide +kernel
theorem dX10_treads_13 : decode cX10_treads 13 = .ok (.if_icmp .ne 10, 3) := by decide +kernel
theorem dX10_treads_16 : decode cX10_treads 16 = .ok (.aload_n 0, 1) := by decide +kernel
theorem dX10_treads_17 : decode cX10_treads 17 = .ok (.iconst 4, 1) := by decide +kernel
theorem dX10_treads_18 : decode cX10_treads 18 = .ok (.iload_n 1, 1) := by decide +kernel
theorem dX10_treads_19 : decode cX10_treads 19 = .ok (.invokevirtual 140, 3) := by decide +kernel
theorem dX10_treads_22 : decode cX10_treads 22 = .ok (.ireturn, 1) := by decide +kernel
theorem dX10_treads_23 : decode cX10_treads 23 = .ok (.aload_n 0, 1) := by decide +kernel
theorem dX10_treads_24 : decode cX10_treads 24 = .ok (.iload_n 1, 1) := by decide +kernel
theorem dX10_treads_25 : decode cX10_treads 25 = .ok (.iload_n 2, 1) := by decide +kernel
theorem dX10_treads_26 : decode cX10_treads 26 = .ok (.invokevirtual 159, 3) := by decide +kernel
theorem dX10_treads_29 : decode cX10_treads 29 = .ok (.ifCond .lt 10, 3) := by decide +kernel
theorem dX10_treads_32 : decode cX10_treads 32 = .ok (.aload_n 0, 1) := by decide +kernel
theorem dX10_treads_33 : decode cX10_treads 33 = .ok (.iconst 5, 1) := by decide +kernel
theorem dX10_treads_34 : decode cX10_treads 34 = .ok (.iconst 0, 1) := by decide +kernel
theorem dX10_treads_35 : decode cX10_treads 35 = .ok (.invokevirtual 140, 3) := by decide +kernel
theorem dX10_treads_38 : decode cX10_treads 38 = .ok (.ireturn, 1) := by decide +kernel
theorem dX10_treads_39 : decode cX10_treads 39 = .ok (.aload_n 0, 1) := by decide +kernel
theorem dX10_treads_40 : decode cX10_treads 40 = .ok (.getfield 9, 3) := by decide +kernel
theorem dX10_treads_43 : decode cX10_treads 43 = .ok (.iconst 3, 1) := by decide +kernel
theorem dX10_treads_44 : decode cX10_treads 44 = .ok (.iaload, 1) := by decide +kernel
theorem dX10_treads_45 : decode cX10_treads 45 = .ok (.bipush 16, 2) := by decide +kernel
theorem dX10_treads_47 : decode cX10_treads 47 = .ok (.if_icmp .ne 11, 3) := by decide +kernel
theorem dX10_treads_50 : decode cX10_treads 50 = .ok (.aload_n 0, 1) := by decide +kernel
theorem dX10_treads_51 : decode cX10_treads 51 = .ok (.iconst 2, 1) := by decide +kernel
theorem dX10_treads_52 : decode cX10_treads 52 = .ok (.bipush 16, 2) := by decide +kernel
theorem dX10_treads_54 : decode cX10_treads 54 = .ok (.invokevirtual 140, 3) := by decide +kernel
theorem dX10_treads_57 : decode cX10_treads 57 = .ok (.ireturn, 1) := by decide +kernel
theorem dX10_treads_58 : decode cX10_treads 58 = .ok (.aload_n 0, 1) := by decide +kernel
theorem dX10_treads_59 : decode cX10_treads 59 = .ok (.invokevirtual 143, 3) := by decide +kernel
theorem dX10_treads_62 : decode cX10_treads 62 = .ok (.aload_n 0, 1) := by decide +kernel
theorem dX10_treads_63 : decode cX10_treads 63 = .ok (.getfield 9, 3) := by decide +kernel
theorem dX10_treads_66 : decode cX10_treads 66 = .ok (.bipush 7, 2) := by decide +kernel
theorem dX10_treads_68 : decode cX10_treads 68 = .ok (.iconst 2, 1) := by decide +kernel
theorem dX10_treads_69 : decode cX10_treads 69 = .ok (.aload_n 0, 1) := by decide +kernel
theorem dX10_treads_70 : decode cX10_treads 70 = .ok (.getfield 9, 3) := by decide +kernel
theorem dX10_treads_73 : decode cX10_treads 73 = .ok (.iconst 3, 1) := by decide +kernel
theorem dX10_treads_74 : decode cX10_treads 74 = .ok (.iaload, 1) := by decide +kernel
theorem dX10_treads_75 : decode cX10_treads 75 = .ok (.imul, 1) := by decide +kernel
theorem dX10_treads_76 : decode cX10_treads 76 = .ok (.iadd, 1) := by decide +kernel
theorem dX10_treads_77 : decode cX10_treads 77 = .ok (.iload_n 1, 1) := by decide +kernel
theorem dX10_treads_78 : decode cX10_treads 78 = .ok (.iastore, 1) := by decide +kernel
