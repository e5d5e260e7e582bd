theorem dX9_best_51 : decode cX9_best 51 = .ok (.ireturn, 1) := by decide +kernel
theorem dX9_after_0 : decode cX9_after 0 = .ok (.aload_n 0, 1) := by decide +kernel
theorem dX9_after_1 : decode cX9_after 1 = .ok (.iload_n 1, 1) := by decide +kernel
theorem dX9_after_2 : decode cX9_after 2 = .ok (.invokevirtual 156, 3) := by decide +kernel
theorem dX9_after_5 : decode cX9_after 5 = .ok (.aload_n 0, 1) := by decide +kernel
theorem dX9_after_6 : decode cX9_after 6 = .ok (.getfield 10, 3) := by decide +kernel
theorem dX9_after_9 : decode cX9_after 9 = .ok (.getfield 138, 3) := by decide +kernel
theorem dX9_after_12 : decode cX9_after 12 = .ok (.iload_n 1, 1) := by decide +kernel
theorem dX9_after_13 : decode cX9_after 13 = .ok (.iload_n 2, 1) := by decide +kernel
theorem dX9_after_14 : decode cX9_after 14 = .ok (.iload_n 3, 1) := by decide +kernel
theorem dX9_after_15 : decode cX9_after 15 = .ok (.invokevirtual 215, 3) := by decide +kernel
theorem dX9_after_18 : decode cX9_after 18 = .ok (.ifCond .ne 13, 3) := by decide +kernel
theorem dX9_after_21 : decode cX9_after 21 = .ok (.new 128, 3) := by decide +kernel
theorem dX9_after_24 : decode cX9_after 24 = .ok (.dup, 1) := by decide +kernel
theorem dX9_after_25 : decode cX9_after 25 = .ok (.ldc 218, 2) := by decide +kernel
theorem dX9_after_27 : decode cX9_after 27 = .ok (.invokespecial 132, 3) := by decide +kernel
theorem dX9_after_30 : decode cX9_after 30 = .ok (.athrow, 1) := by decide +kernel
theorem dX9_after_31 : decode cX9_after 31 = .ok (.iload_n 1, 1) := by decide +kernel
theorem dX9_after_32 : decode cX9_after 32 = .ok (.iload_n 2, 1) := by decide +kernel
theorem dX9_after_33 : decode cX9_after 33 = .ok (.iload_n 3, 1) := by decide +kernel
theorem dX9_after_34 : decode cX9_after 34 = .ok (.invokestatic 220, 3) := by decide +kernel
theorem dX9_after_37 : decode cX9_after 37 = .ok (.ireturn, 1) := by decide +kernel
theorem dX9_ends_0 : decode cX9_ends 0 = .ok (.aload_n 0, 1) := by decide +kernel
theorem dX9_ends_1 : decode cX9_ends 1 = .ok (.iload_n 1, 1) := by decide +kernel
theorem dX9_ends_2 : decode cX9_ends 2 = .ok (.invokevirtual 156, 3) := by decide +kernel
theorem dX9_ends_5 : decode cX9_ends 5 = .ok (.aload_n 0, 1) := by decide +kernel
theorem dX9_ends_6 : decode cX9_ends 6 = .ok (.getfield 39, 3) := by decide +kernel
theorem dX9_ends_9 : decode cX9_ends 9 = .ok (.aload_n 0, 1) := by decide +kernel
theorem dX9_ends_10 : decode cX9_ends 10 = .ok (.getfield 10, 3) := by decide +kernel
theorem dX9_ends_13 : decode cX9_ends 13 = .ok (.getfield 138, 3) := by decide +kernel
theorem dX9_ends_16 : decode cX9_ends 16 = .ok (.invokevirtual 182, 3) := by decide +kernel
theorem dX9_ends_19 : decode cX9_ends 19 = .ok (.aload_n 0, 1) := by decide +kernel
theorem dX9_ends_20 : decode cX9_ends 20 = .ok (.getfield 39, 3) := by decide +kernel
theorem dX9_ends_23 : decode cX9_ends 23 = .ok (.iload_n 1, 1) := by decide +kernel
theorem dX9_ends_24 : decode cX9_ends 24 = .ok (.invokevirtual 189, 3) := by decide +kernel
theorem dX9_ends_27 : decode cX9_ends 27 = .ok (.istore_n 2, 1) := by decide +kernel
theorem dX9_ends_28 : decode cX9_ends 28 = .ok (.iload_n 2, 1) := by decide +kernel
theorem dX9_ends_29 : decode cX9_ends 29 = .ok (.ifCond .ge 13, 3) := by decide +kernel
theorem dX9_ends_32 : decode cX9_ends 32 = .ok (.new 128, 3) := by decide +kernel
theorem dX9_ends_35 : decode cX9_ends 35 = .ok (.dup, 1) := by decide +kernel
theorem dX9_ends_36 : decode cX9_ends 36 = .ok (.ldc 224, 2) := by decide +kernel
theorem dX9_ends_38 : decode cX9_ends 38 = .ok (.invokespecial 132, 3) := by decide +kernel
theorem dX9_ends_41 : decode cX9_ends 41 = .ok (.athrow, 1) := by decide +kernel
theorem dX9_ends_42 : decode cX9_ends 42 = .ok (.iload_n 1, 1) := by decide +kernel
theorem dX9_ends_43 : decode cX9_ends 43 = .ok (.istore_n 3, 1) := by decide +kernel
theorem dX9_ends_44 : decode cX9_ends 44 = .ok (.iconst 0, 1) := by decide +kernel
theorem dX9_ends_45 : decode cX9_ends 45 = .ok (.istore 4, 2) := by decide +kernel
theorem dX9_ends_47 : decode cX9_ends 47 = .ok (.iload 4, 2) := by decide +kernel
theorem dX9_ends_49 : decode cX9_ends 49 = .ok (.iload_n 2, 1) := by decide +kernel
theorem dX9_ends_50 : decode cX9_ends 50 = .ok (.if_icmp .ge 50, 3) := by decide +kernel
theorem dX9_ends_53 : decode cX9_ends 53 = .ok (.aload_n 0, 1) := by decide +kernel
theorem dX9_ends_54 : decode cX9_ends 54 = .ok (.getfield 39, 3) := by decide +kernel
theorem dX9_ends_57 : decode cX9_ends 57 = .ok (.aload_n 0, 1) := by decide +kernel
theorem dX9_ends_58 : decode cX9_ends 58 = .ok (.getfield 10, 3) := by decide +kernel
theorem dX9_ends_61 : decode cX9_ends 61 = .ok (.getfield 138, 3) := by decide +kernel
theorem dX9_ends_64 : decode cX9_ends 64 = .ok (.iload_n 3, 1) := by decide +kernel
theorem dX9_ends_65 : decode cX9_ends 65 = .ok (.invokevirtual 209, 3) := by decide +kernel
theorem dX9_ends_68 : decode cX9_ends 68 = .ok (.istore 5, 2) := by decide +kernel
theorem dX9_ends_70 : decode cX9_ends 70 = .ok (.iload 5, 2) := by decide +kernel
theorem dX9_ends_72 : decode cX9_ends 72 = .ok (.iconst (-1), 1) := by decide +kernel
theorem dX9_ends_73 : decode cX9_ends 73 = .ok (.if_icmp .ne 6, 3) := by decide +kernel
theorem dX9_ends_76 : decode cX9_ends 76 = .ok (.goto 24, 3) := by decide +kernel
theorem dX9_ends_79 : decode cX9_ends 79 = .ok (.iload_n 3, 1) := by decide +kernel
theorem dX9_ends_80 : decode cX9_ends 80 = .ok (.iload 5, 2) := by decide +kernel
theorem dX9_ends_82 : decode cX9_ends 82 = .ok (.invokestatic 206, 3) := by decide +kernel
theorem dX9_ends_85 : decode cX9_ends 85 = .ok (.iload 5, 2) := by decide +kernel
theorem dX9_ends_87 : decode cX9_ends 87 = .ok (.invokestatic 203, 3) := by decide +kernel
theorem dX9_ends_90 : decode cX9_ends 90 = .ok (.invokestatic 220, 3) := by decide +kernel
theorem dX9_ends_93 : decode cX9_ends 93 = .ok (.istore_n 3, 1) := by decide +kernel
theorem dX9_ends_94 : decode cX9_ends 94 = .ok (.iinc 4 1, 3) := by decide +kernel
theorem dX9_ends_97 : decode cX9_ends 97 = .ok (.goto (-50), 3) := by decide +kernel
theorem dX9_ends_100 : decode cX9_ends 100 = .ok (.iload_n 3, 1) := by decide +kernel
theorem dX9_ends_101 : decode cX9_ends 101 = .ok (.ireturn, 1) := by decide +kernel
theorem dX9_count_0 : decode cX9_count 0 = .ok (.iload_n 1, 1) := by decide +kernel
theorem dX9_count_1 : decode cX9_count 1 = .ok (.ifCond .lt 8, 3) := by decide +kernel
theorem dX9_count_4 : decode cX9_count 4 = .ok (.iload_n 1, 1) := by decide +kernel
theorem dX9_count_5 : decode cX9_count 5 = .ok (.iconst 2, 1) := by decide +kernel
theorem dX9_count_6 : decode cX9_count 6 = .ok (.if_icmp .le 13, 3) := by decide +kernel
theorem dX9_count_9 : decode cX9_count 9 = .ok (.new 151, 3) := by decide +kernel
theorem dX9_count_12 : decode cX9_count 12 = .ok (.dup, 1) := by decide +kernel
theorem dX9_count_13 : decode cX9_count 13 = .ok (.ldc 226, 2) := by decide +kernel
theorem dX9_count_15 : decode cX9_count 15 = .ok (.invokespecial 155, 3) := by decide +kernel
theorem dX9_count_18 : decode cX9_count 18 = .ok (.athrow, 1) := by decide +kernel
theorem dX9_count_19 : decode cX9_count 19 = .ok (.aload_n 0, 1) := by decide +kernel
theorem dX9_count_20 : decode cX9_count 20 = .ok (.getfield 39, 3) := by decide +kernel
theorem dX9_count_23 : decode cX9_count 23 = .ok (.aload_n 0, 1) := by decide +kernel
theorem dX9_count_24 : decode cX9_count 24 = .ok (.getfield 10, 3) := by decide +kernel
theorem dX9_count_27 : decode cX9_count 27 = .ok (.getfield 138, 3) := by decide +kernel
theorem dX9_count_30 : decode cX9_count 30 = .ok (.invokevirtual 182, 3) := by decide +kernel
theorem dX9_count_33 : decode cX9_count 33 = .ok (.iload_n 2, 1) := by decide +kernel
theorem dX9_count_34 : decode cX9_count 34 = .ok (.ifCond .eq 7, 3) := by decide +kernel
theorem dX9_count_37 : decode cX9_count 37 = .ok (.iconst 1, 1) := by decide +kernel
theorem dX9_count_38 : decode cX9_count 38 = .ok (.goto 4, 3) := by decide +kernel
theorem dX9_count_41 : decode cX9_count 41 = .ok (.iconst 0, 1) := by decide +kernel
theorem dX9_count_42 : decode cX9_count 42 = .ok (.istore_n 3, 1) := by decide +kernel
theorem dX9_count_43 : decode cX9_count 43 = .ok (.iconst 0, 1) := by decide +kernel
theorem dX9_count_44 : decode cX9_count 44 = .ok (.istore 4, 2) := by decide +kernel
theorem dX9_count_46 : decode cX9_count 46 = .ok (.iconst 0, 1) := by decide +kernel
theorem dX9_count_47 : decode cX9_count 47 = .ok (.istore 5, 2) := by decide +kernel
theorem dX9_count_49 : decode cX9_count 49 = .ok (.iload 5, 2) := by decide +kernel
theorem dX9_count_51 : decode cX9_count 51 = .ok (.aload_n 0, 1) := by decide +kernel
theorem dX9_count_52 : decode cX9_count 52 = .ok (.getfield 39, 3) := by decide +kernel
theorem dX9_count_55 : decode cX9_count 55 = .ok (.getfield 228, 3) := by decide +kernel
theorem dX9_count_58 : decode cX9_count 58 = .ok (.if_icmp .ge 45, 3) := by decide +kernel
theorem dX9_count_61 : decode cX9_count 61 = .ok (.aload_n 0, 1) := by decide +kernel
theorem dX9_count_62 : decode cX9_count 62 = .ok (.getfield 39, 3) := by decide +kernel
theorem dX9_count_65 : decode cX9_count 65 = .ok (.iload 5, 2) := by decide +kernel
theorem dX9_count_67 : decode cX9_count 67 = .ok (.invokevirtual 231, 3) := by decide +kernel
theorem dX9_count_70 : decode cX9_count 70 = .ok (.istore 6, 2) := by decide +kernel
theorem dX9_count_72 : decode cX9_count 72 = .ok (.iload 6, 2) := by decide +kernel
theorem dX9_count_74 : decode cX9_count 74 = .ok (.invokestatic 169, 3) := by decide +kernel
theorem dX9_count_77 : decode cX9_count 77 = .ok (.iload_n 3, 1) := by decide +kernel
theorem dX9_count_78 : decode cX9_count 78 = .ok (.if_icmp .ne 19, 3) := by decide +kernel
theorem dX9_count_81 : decode cX9_count 81 = .ok (.aload_n 0, 1) := by decide +kernel
theorem dX9_count_82 : decode cX9_count 82 = .ok (.getfield 39, 3) := by decide +kernel
theorem dX9_count_85 : decode cX9_count 85 = .ok (.iload 6, 2) := by decide +kernel
theorem dX9_count_87 : decode cX9_count 87 = .ok (.invokevirtual 186, 3) := by decide +kernel
theorem dX9_count_90 : decode cX9_count 90 = .ok (.iload_n 1, 1) := by decide +kernel
theorem dX9_count_91 : decode cX9_count 91 = .ok (.if_icmp .ne 6, 3) := by decide +kernel
theorem dX9_count_94 : decode cX9_count 94 = .ok (.iinc 4 1, 3) := by decide +kernel
theorem dX9_count_97 : decode cX9_count 97 = .ok (.iinc 5 1, 3) := by decide +kernel
theorem dX9_count_100 : decode cX9_count 100 = .ok (.goto (-51), 3) := by decide +kernel
theorem dX9_count_103 : decode cX9_count 103 = .ok (.iload 4, 2) := by decide +kernel
theorem dX9_count_105 : decode cX9_count 105 = .ok (.ireturn, 1) := by decide +kernel
theorem dX9_longest_0 : decode cX9_longest 0 = .ok (.aload_n 0, 1) := by decide +kernel
theorem dX9_longest_1 : decode cX9_longest 1 = .ok (.getfield 39, 3) := by decide +kernel
theorem dX9_longest_4 : decode cX9_longest 4 = .ok (.aload_n 0, 1) := by decide +kernel
theorem dX9_longest_5 : decode cX9_longest 5 = .ok (.getfield 10, 3) := by decide +kernel
theorem dX9_longest_8 : decode cX9_longest 8 = .ok (.getfield 138, 3) := by decide +kernel
theorem dX9_longest_11 : decode cX9_longest 11 = .ok (.invokevirtual 182, 3) := by decide +kernel
theorem dX9_longest_14 : decode cX9_longest 14 = .ok (.iload_n 1, 1) := by decide +kernel
theorem dX9_longest_15 : decode cX9_longest 15 = .ok (.ifCond .eq 7, 3) := by decide +kernel
theorem dX9_longest_18 : decode cX9_longest 18 = .ok (.iconst 1, 1) := by decide +kernel
theorem dX9_longest_19 : decode cX9_longest 19 = .ok (.goto 4, 3) := by decide +kernel
theorem dX9_longest_22 : decode cX9_longest 22 = .ok (.iconst 0, 1) := by decide +kernel
theorem dX9_longest_23 : decode cX9_longest 23 = .ok (.istore_n 2, 1) := by decide +kernel
theorem dX9_longest_24 : decode cX9_longest 24 = .ok (.iconst (-1), 1) := by decide +kernel
theorem dX9_longest_25 : decode cX9_longest 25 = .ok (.istore_n 3, 1) := by decide +kernel
theorem dX9_longest_26 : decode cX9_longest 26 = .ok (.iconst (-1), 1) := by decide +kernel
theorem dX9_longest_27 : decode cX9_longest 27 = .ok (.istore 4, 2) := by decide +kernel
theorem dX9_longest_29 : decode cX9_longest 29 = .ok (.iconst 0, 1) := by decide +kernel
theorem dX9_longest_30 : decode cX9_longest 30 = .ok (.istore 5, 2) := by decide +kernel
theorem dX9_longest_32 : decode cX9_longest 32 = .ok (.iload 5, 2) := by decide +kernel
theorem dX9_longest_34 : decode cX9_longest 34 = .ok (.aload_n 0, 1) := by decide +kernel
theorem dX9_longest_35 : decode cX9_longest 35 = .ok (.getfield 39, 3) := by decide +kernel
theorem dX9_longest_38 : decode cX9_longest 38 = .ok (.getfield 228, 3) := by decide +kernel
theorem dX9_longest_41 : decode cX9_longest 41 = .ok (.if_icmp .ge 82, 3) := by decide +kernel
theorem dX9_longest_44 : decode cX9_longest 44 = .ok (.aload_n 0, 1) := by decide +kernel
theorem dX9_longest_45 : decode cX9_longest 45 = .ok (.getfield 39, 3) := by decide +kernel
theorem dX9_longest_48 : decode cX9_longest 48 = .ok (.iload 5, 2) := by decide +kernel
theorem dX9_longest_50 : decode cX9_longest 50 = .ok (.invokevirtual 231, 3) := by decide +kernel
theorem dX9_longest_53 : decode cX9_longest 53 = .ok (.istore 6, 2) := by decide +kernel
theorem dX9_longest_55 : decode cX9_longest 55 = .ok (.iload 6, 2) := by decide +kernel
theorem dX9_longest_57 : decode cX9_longest 57 = .ok (.invokestatic 169, 3) := by decide +kernel
theorem dX9_longest_60 : decode cX9_longest 60 = .ok (.iload_n 2, 1) := by decide +kernel
theorem dX9_longest_61 : decode cX9_longest 61 = .ok (.if_icmp .ne 20, 3) := by decide +kernel
theorem dX9_longest_64 : decode cX9_longest 64 = .ok (.aload_n 0, 1) := by decide +kernel
theorem dX9_longest_65 : decode cX9_longest 65 = .ok (.getfield 39, 3) := by decide +kernel
theorem dX9_longest_68 : decode cX9_longest 68 = .ok (.iload 6, 2) := by decide +kernel
theorem dX9_longest_70 : decode cX9_longest 70 = .ok (.invokevirtual 186, 3) := by decide +kernel
theorem dX9_longest_73 : decode cX9_longest 73 = .ok (.iconst 1, 1) := by decide +kernel
theorem dX9_longest_74 : decode cX9_longest 74 = .ok (.if_icmp .ne 7, 3) := by decide +kernel
theorem dX9_longest_77 : decode cX9_longest 77 = .ok (.iconst 1, 1) := by decide +kernel
theorem dX9_longest_78 : decode cX9_longest 78 = .ok (.goto 4, 3) := by decide +kernel
theorem dX9_longest_81 : decode cX9_longest 81 = .ok (.iconst 0, 1) := by decide +kernel
theorem dX9_longest_82 : decode cX9_longest 82 = .ok (.istore 7, 2) := by decide +kernel
theorem dX9_longest_84 : decode cX9_longest 84 = .ok (.iload 7, 2) := by decide +kernel
theorem dX9_longest_86 : decode cX9_longest 86 = .ok (.ifCond .eq 31, 3) := by decide +kernel
theorem dX9_longest_89 : decode cX9_longest 89 = .ok (.aload_n 0, 1) := by decide +kernel
theorem dX9_longest_90 : decode cX9_longest 90 = .ok (.getfield 39, 3) := by decide +kernel
theorem dX9_longest_93 : decode cX9_longest 93 = .ok (.iload 6, 2) := by decide +kernel
theorem dX9_longest_95 : decode cX9_longest 95 = .ok (.invokevirtual 189, 3) := by decide +kernel
theorem dX9_longest_98 : decode cX9_longest 98 = .ok (.iload 4, 2) := by decide +kernel
theorem dX9_longest_100 : decode cX9_longest 100 = .ok (.if_icmp .le 17, 3) := by decide +kernel
theorem dX9_longest_103 : decode cX9_longest 103 = .ok (.iload 6, 2) := by decide +kernel
theorem dX9_longest_105 : decode cX9_longest 105 = .ok (.istore_n 3, 1) := by decide +kernel
theorem dX9_longest_106 : decode cX9_longest 106 = .ok (.aload_n 0, 1) := by decide +kernel
theorem dX9_longest_107 : decode cX9_longest 107 = .ok (.getfield 39, 3) := by decide +kernel
theorem dX9_longest_110 : decode cX9_longest 110 = .ok (.iload 6, 2) := by decide +kernel
theorem dX9_longest_112 : decode cX9_longest 112 = .ok (.invokevirtual 189, 3) := by decide +kernel
theorem dX9_longest_115 : decode cX9_longest 115 = .ok (.istore 4, 2) := by decide +kernel
theorem dX9_longest_117 : decode cX9_longest 117 = .ok (.iinc 5 1, 3) := by decide +kernel
theorem dX9_longest_120 : decode cX9_longest 120 = .ok (.goto (-88), 3) := by decide +kernel
theorem dX9_longest_123 : decode cX9_longest 123 = .ok (.iload_n 3, 1) := by decide +kernel
theorem dX9_longest_124 : decode cX9_longest 124 = .ok (.iconst (-1), 1) := by decide +kernel
theorem dX9_longest_125 : decode cX9_longest 125 = .ok (.if_icmp .ne 13, 3) := by decide +kernel
theorem dX9_longest_128 : decode cX9_longest 128 = .ok (.new 128, 3) := by decide +kernel
theorem dX9_longest_131 : decode cX9_longest 131 = .ok (.dup, 1) := by decide +kernel
theorem dX9_longest_132 : decode cX9_longest 132 = .ok (.ldc 234, 2) := by decide +kernel
theorem dX9_longest_134 : decode cX9_longest 134 = .ok (.invokespecial 132, 3) := by decide +kernel
theorem dX9_longest_137 : decode cX9_longest 137 = .ok (.athrow, 1) := by decide +kernel
theorem dX9_longest_138 : decode cX9_longest 138 = .ok (.iload_n 3, 1) := by decide +kernel
theorem dX9_longest_139 : decode cX9_longest 139 = .ok (.ireturn, 1) := by decide +kernel
theorem dX9_wonIn_0 : decode cX9_wonIn 0 = .ok (.iload_n 1, 1) := by decide +kernel
theorem dX9_wonIn_1 : decode cX9_wonIn 1 = .ok (.ifCond .ge 13, 3) := by decide +kernel
theorem dX9_wonIn_4 : decode cX9_wonIn 4 = .ok (.new 151, 3) := by decide +kernel
theorem dX9_wonIn_7 : decode cX9_wonIn 7 = .ok (.dup, 1) := by decide +kernel
theorem dX9_wonIn_8 : decode cX9_wonIn 8 = .ok (.ldc 236, 2) := by decide +kernel
theorem dX9_wonIn_10 : decode cX9_wonIn 10 = .ok (.invokespecial 155, 3) := by decide +kernel
theorem dX9_wonIn_13 : decode cX9_wonIn 13 = .ok (.athrow, 1) := by decide +kernel
theorem dX9_wonIn_14 : decode cX9_wonIn 14 = .ok (.aload_n 0, 1) := by decide +kernel
theorem dX9_wonIn_15 : decode cX9_wonIn 15 = .ok (.iload_n 1, 1) := by decide +kernel
theorem dX9_wonIn_16 : decode cX9_wonIn 16 = .ok (.invokevirtual 238, 3) := by decide +kernel
theorem dX9_wonIn_19 : decode cX9_wonIn 19 = .ok (.ireturn, 1) := by decide +kernel
theorem dX9_wouldChange_0 : decode cX9_wouldChange 0 = .ok (.aload_n 0, 1) := by decide +kernel
theorem dX9_wouldChange_1 : decode cX9_wouldChange 1 = .ok (.getfield 10, 3) := by decide +kernel
theorem dX9_wouldChange_4 : decode cX9_wouldChange 4 = .ok (.getfield 138, 3) := by decide +kernel
theorem dX9_wouldChange_7 : decode cX9_wouldChange 7 = .ok (.iload_n 1, 1) := by decide +kernel
theorem dX9_wouldChange_8 : decode cX9_wouldChange 8 = .ok (.invokevirtual 241, 3) := by decide +kernel
theorem dX9_wouldChange_11 : decode cX9_wouldChange 11 = .ok (.ifCond .eq 17, 3) := by decide +kernel
theorem dX9_wouldChange_14 : decode cX9_wouldChange 14 = .ok (.aload_n 0, 1) := by decide +kernel
theorem dX9_wouldChange_15 : decode cX9_wouldChange 15 = .ok (.getfield 10, 3) := by decide +kernel
theorem dX9_wouldChange_18 : decode cX9_wouldChange 18 = .ok (.getfield 138, 3) := by decide +kernel
theorem dX9_wouldChange_21 : decode cX9_wouldChange 21 = .ok (.iload_n 2, 1) := by decide +kernel
theorem dX9_wouldChange_22 : decode cX9_wouldChange 22 = .ok (.invokevirtual 241, 3) := by decide +kernel
theorem dX9_wouldChange_25 : decode cX9_wouldChange 25 = .ok (.ifCond .ne 13, 3) := by decide +kernel
theorem dX9_wouldChange_28 : decode cX9_wouldChange 28 = .ok (.new 245, 3) := by decide +kernel
theorem dX9_wouldChange_31 : decode cX9_wouldChange 31 = .ok (.dup, 1) := by decide +kernel
theorem dX9_wouldChange_32 : decode cX9_wouldChange 32 = .ok (.ldc 247, 2) := by decide +kernel
theorem dX9_wouldChange_34 : decode cX9_wouldChange 34 = .ok (.invokespecial 249, 3) := by decide +kernel
theorem dX9_wouldChange_37 : decode cX9_wouldChange 37 = .ok (.athrow, 1) := by decide +kernel
theorem dX9_wouldChange_38 : decode cX9_wouldChange 38 = .ok (.iload_n 1, 1) := by decide +kernel
theorem dX9_wouldChange_39 : decode cX9_wouldChange 39 = .ok (.iload_n 2, 1) := by decide +kernel
theorem dX9_wouldChange_40 : decode cX9_wouldChange 40 = .ok (.if_icmp .ne 13, 3) := by decide +kernel
theorem dX9_wouldChange_43 : decode cX9_wouldChange 43 = .ok (.new 151, 3) := by decide +kernel
theorem dX9_wouldChange_46 : decode cX9_wouldChange 46 = .ok (.dup, 1) := by decide +kernel
theorem dX9_wouldChange_47 : decode cX9_wouldChange 47 = .ok (.ldc 250, 2) := by decide +kernel
theorem dX9_wouldChange_49 : decode cX9_wouldChange 49 = .ok (.invokespecial 155, 3) := by decide +kernel
theorem dX9_wouldChange_52 : decode cX9_wouldChange 52 = .ok (.athrow, 1) := by decide +kernel
theorem dX9_wouldChange_53 : decode cX9_wouldChange 53 = .ok (.aload_n 0, 1) := by decide +kernel
theorem dX9_wouldChange_54 : decode cX9_wouldChange 54 = .ok (.getfield 32, 3) := by decide +kernel
theorem dX9_wouldChange_57 : decode cX9_wouldChange 57 = .ok (.aload_n 0, 1) := by decide +kernel
theorem dX9_wouldChange_58 : decode cX9_wouldChange 58 = .ok (.getfield 10, 3) := by decide +kernel
theorem dX9_wouldChange_61 : decode cX9_wouldChange 61 = .ok (.getfield 138, 3) := by decide +kernel
theorem dX9_wouldChange_64 : decode cX9_wouldChange 64 = .ok (.invokevirtual 252, 3) := by decide +kernel
theorem dX9_wouldChange_67 : decode cX9_wouldChange 67 = .ok (.aload_n 0, 1) := by decide +kernel
theorem dX9_wouldChange_68 : decode cX9_wouldChange 68 = .ok (.getfield 32, 3) := by decide +kernel
theorem dX9_wouldChange_71 : decode cX9_wouldChange 71 = .ok (.iload_n 1, 1) := by decide +kernel
theorem dX9_wouldChange_72 : decode cX9_wouldChange 72 = .ok (.iload_n 2, 1) := by decide +kernel
theorem dX9_wouldChange_73 : decode cX9_wouldChange 73 = .ok (.invokevirtual 255, 3) := by decide +kernel
theorem dX9_wouldChange_76 : decode cX9_wouldChange 76 = .ok (.aload_n 0, 1) := by decide +kernel
theorem dX9_wouldChange_77 : decode cX9_wouldChange 77 = .ok (.getfield 32, 3) := by decide +kernel
theorem dX9_wouldChange_80 : decode cX9_wouldChange 80 = .ok (.aload_n 0, 1) := by decide +kernel
theorem dX9_wouldChange_81 : decode cX9_wouldChange 81 = .ok (.invokevirtual 259, 3) := by decide +kernel
theorem dX9_wouldChange_84 : decode cX9_wouldChange 84 = .ok (.putfield 262, 3) := by decide +kernel
theorem dX9_wouldChange_87 : decode cX9_wouldChange 87 = .ok (.aload_n 0, 1) := by decide +kernel
theorem dX9_wouldChange_88 : decode cX9_wouldChange 88 = .ok (.getfield 39, 3) := by decide +kernel
theorem dX9_wouldChange_91 : decode cX9_wouldChange 91 = .ok (.aload_n 0, 1) := by decide +kernel
theorem dX9_wouldChange_92 : decode cX9_wouldChange 92 = .ok (.getfield 10, 3) := by decide +kernel
theorem dX9_wouldChange_95 : decode cX9_wouldChange 95 = .ok (.getfield 138, 3) := by decide +kernel
theorem dX9_wouldChange_98 : decode cX9_wouldChange 98 = .ok (.invokevirtual 182, 3) := by decide +kernel
theorem dX9_wouldChange_101 : decode cX9_wouldChange 101 = .ok (.aload_n 0, 1) := by decide +kernel
theorem dX9_wouldChange_102 : decode cX9_wouldChange 102 = .ok (.getfield 43, 3) := by decide +kernel
theorem dX9_wouldChange_105 : decode cX9_wouldChange 105 = .ok (.aload_n 0, 1) := by decide +kernel
theorem dX9_wouldChange_106 : decode cX9_wouldChange 106 = .ok (.getfield 32, 3) := by decide +kernel
theorem dX9_wouldChange_109 : decode cX9_wouldChange 109 = .ok (.invokevirtual 182, 3) := by decide +kernel
theorem dX9_wouldChange_112 : decode cX9_wouldChange 112 = .ok (.iconst 0, 1) := by decide +kernel
theorem dX9_wouldChange_113 : decode cX9_wouldChange 113 = .ok (.istore_n 3, 1) := by decide +kernel
theorem dX9_wouldChange_114 : decode cX9_wouldChange 114 = .ok (.iconst 0, 1) := by decide +kernel
theorem dX9_wouldChange_115 : decode cX9_wouldChange 115 = .ok (.istore 4, 2) := by decide +kernel
theorem dX9_wouldChange_117 : decode cX9_wouldChange 117 = .ok (.iload 4, 2) := by decide +kernel
theorem dX9_wouldChange_119 : decode cX9_wouldChange 119 = .ok (.aload_n 0, 1) := by decide +kernel
theorem dX9_wouldChange_120 : decode cX9_wouldChange 120 = .ok (.getfield 39, 3) := by decide +kernel
theorem dX9_wouldChange_123 : decode cX9_wouldChange 123 = .ok (.getfield 228, 3) := by decide +kernel
theorem dX9_wouldChange_126 : decode cX9_wouldChange 126 = .ok (.if_icmp .ge 44, 3) := by decide +kernel
theorem dX9_wouldChange_129 : decode cX9_wouldChange 129 = .ok (.aload_n 0, 1) := by decide +kernel
theorem dX9_wouldChange_130 : decode cX9_wouldChange 130 = .ok (.getfield 39, 3) := by decide +kernel
theorem dX9_wouldChange_133 : decode cX9_wouldChange 133 = .ok (.iload 4, 2) := by decide +kernel
theorem dX9_wouldChange_135 : decode cX9_wouldChange 135 = .ok (.invokevirtual 231, 3) := by decide +kernel
theorem dX9_wouldChange_138 : decode cX9_wouldChange 138 = .ok (.istore 5, 2) := by decide +kernel
theorem dX9_wouldChange_140 : decode cX9_wouldChange 140 = .ok (.aload_n 0, 1) := by decide +kernel
theorem dX9_wouldChange_141 : decode cX9_wouldChange 141 = .ok (.getfield 39, 3) := by decide +kernel
theorem dX9_wouldChange_144 : decode cX9_wouldChange 144 = .ok (.iload 5, 2) := by decide +kernel
theorem dX9_wouldChange_146 : decode cX9_wouldChange 146 = .ok (.invokevirtual 186, 3) := by decide +kernel
theorem dX9_wouldChange_149 : decode cX9_wouldChange 149 = .ok (.aload_n 0, 1) := by decide +kernel
theorem dX9_wouldChange_150 : decode cX9_wouldChange 150 = .ok (.getfield 43, 3) := by decide +kernel
theorem dX9_wouldChange_153 : decode cX9_wouldChange 153 = .ok (.iload 5, 2) := by decide +kernel
theorem dX9_wouldChange_155 : decode cX9_wouldChange 155 = .ok (.invokevirtual 186, 3) := by decide +kernel
theorem dX9_wouldChange_158 : decode cX9_wouldChange 158 = .ok (.if_icmp .eq 6, 3) := by decide +kernel
theorem dX9_wouldChange_161 : decode cX9_wouldChange 161 = .ok (.iinc 3 1, 3) := by decide +kernel
theorem dX9_wouldChange_164 : decode cX9_wouldChange 164 = .ok (.iinc 4 1, 3) := by decide +kernel
theorem dX9_wouldChange_167 : decode cX9_wouldChange 167 = .ok (.goto (-50), 3) := by decide +kernel
theorem dX9_wouldChange_170 : decode cX9_wouldChange 170 = .ok (.iload_n 3, 1) := by decide +kernel
theorem dX9_wouldChange_171 : decode cX9_wouldChange 171 = .ok (.ireturn, 1) := by decide +kernel
theorem dX9_bestBurrow_0 : decode cX9_bestBurrow 0 = .ok (.aload_n 0, 1) := by decide +kernel
theorem dX9_bestBurrow_1 : decode cX9_bestBurrow 1 = .ok (.iload_n 1, 1) := by decide +kernel
theorem dX9_bestBurrow_2 : decode cX9_bestBurrow 2 = .ok (.invokevirtual 156, 3) := by decide +kernel
theorem dX9_bestBurrow_5 : decode cX9_bestBurrow 5 = .ok (.aload_n 0, 1) := by decide +kernel
theorem dX9_bestBurrow_6 : decode cX9_bestBurrow 6 = .ok (.getfield 39, 3) := by decide +kernel
theorem dX9_bestBurrow_9 : decode cX9_bestBurrow 9 = .ok (.aload_n 0, 1) := by decide +kernel
theorem dX9_bestBurrow_10 : decode cX9_bestBurrow 10 = .ok (.getfield 10, 3) := by decide +kernel
theorem dX9_bestBurrow_13 : decode cX9_bestBurrow 13 = .ok (.getfield 138, 3) := by decide +kernel
theorem dX9_bestBurrow_16 : decode cX9_bestBurrow 16 = .ok (.invokevirtual 182, 3) := by decide +kernel
theorem dX9_bestBurrow_19 : decode cX9_bestBurrow 19 = .ok (.iconst (-1), 1) := by decide +kernel
theorem dX9_bestBurrow_20 : decode cX9_bestBurrow 20 = .ok (.istore_n 2, 1) := by decide +kernel
theorem dX9_bestBurrow_21 : decode cX9_bestBurrow 21 = .ok (.iconst 0, 1) := by decide +kernel
theorem dX9_bestBurrow_22 : decode cX9_bestBurrow 22 = .ok (.istore_n 3, 1) := by decide +kernel
theorem dX9_bestBurrow_23 : decode cX9_bestBurrow 23 = .ok (.iconst 0, 1) := by decide +kernel
theorem dX9_bestBurrow_24 : decode cX9_bestBurrow 24 = .ok (.istore 4, 2) := by decide +kernel
theorem dX9_bestBurrow_26 : decode cX9_bestBurrow 26 = .ok (.iload 4, 2) := by decide +kernel
theorem dX9_bestBurrow_28 : decode cX9_bestBurrow 28 = .ok (.aload_n 0, 1) := by decide +kernel
theorem dX9_bestBurrow_29 : decode cX9_bestBurrow 29 = .ok (.getfield 10, 3) := by decide +kernel
theorem dX9_bestBurrow_32 : decode cX9_bestBurrow 32 = .ok (.getfield 138, 3) := by decide +kernel
theorem dX9_bestBurrow_35 : decode cX9_bestBurrow 35 = .ok (.getfield 265, 3) := by decide +kernel
theorem dX9_bestBurrow_38 : decode cX9_bestBurrow 38 = .ok (.if_icmp .ge 85, 3) := by decide +kernel
theorem dX9_bestBurrow_41 : decode cX9_bestBurrow 41 = .ok (.iload_n 1, 1) := by decide +kernel
theorem dX9_bestBurrow_42 : decode cX9_bestBurrow 42 = .ok (.sipush 162, 3) := by decide +kernel
theorem dX9_bestBurrow_45 : decode cX9_bestBurrow 45 = .ok (.iload 4, 2) := by decide +kernel
theorem dX9_bestBurrow_47 : decode cX9_bestBurrow 47 = .ok (.iload_n 1, 1) := by decide +kernel
theorem dX9_bestBurrow_48 : decode cX9_bestBurrow 48 = .ok (.invokestatic 160, 3) := by decide +kernel
theorem dX9_bestBurrow_51 : decode cX9_bestBurrow 51 = .ok (.isub, 1) := by decide +kernel
theorem dX9_bestBurrow_52 : decode cX9_bestBurrow 52 = .ok (.imul, 1) := by decide +kernel
theorem dX9_bestBurrow_53 : decode cX9_bestBurrow 53 = .ok (.iadd, 1) := by decide +kernel
theorem dX9_bestBurrow_54 : decode cX9_bestBurrow 54 = .ok (.istore 5, 2) := by decide +kernel
theorem dX9_bestBurrow_56 : decode cX9_bestBurrow 56 = .ok (.aload_n 0, 1) := by decide +kernel
theorem dX9_bestBurrow_57 : decode cX9_bestBurrow 57 = .ok (.getfield 10, 3) := by decide +kernel
theorem dX9_bestBurrow_60 : decode cX9_bestBurrow 60 = .ok (.getfield 138, 3) := by decide +kernel
theorem dX9_bestBurrow_63 : decode cX9_bestBurrow 63 = .ok (.iload 5, 2) := by decide +kernel
theorem dX9_bestBurrow_65 : decode cX9_bestBurrow 65 = .ok (.invokevirtual 268, 3) := by decide +kernel
theorem dX9_bestBurrow_68 : decode cX9_bestBurrow 68 = .ok (.ifCond .eq 49, 3) := by decide +kernel
theorem dX9_bestBurrow_71 : decode cX9_bestBurrow 71 = .ok (.aload_n 0, 1) := by decide +kernel
theorem dX9_bestBurrow_72 : decode cX9_bestBurrow 72 = .ok (.getfield 39, 3) := by decide +kernel
theorem dX9_bestBurrow_75 : decode cX9_bestBurrow 75 = .ok (.iload 5, 2) := by decide +kernel
theorem dX9_bestBurrow_77 : decode cX9_bestBurrow 77 = .ok (.invokevirtual 271, 3) := by decide +kernel
theorem dX9_bestBurrow_80 : decode cX9_bestBurrow 80 = .ok (.ifCond .ne 6, 3) := by decide +kernel
theorem dX9_bestBurrow_83 : decode cX9_bestBurrow 83 = .ok (.goto 34, 3) := by decide +kernel
theorem dX9_bestBurrow_86 : decode cX9_bestBurrow 86 = .ok (.iload_n 2, 1) := by decide +kernel
theorem dX9_bestBurrow_87 : decode cX9_bestBurrow 87 = .ok (.iconst (-1), 1) := by decide +kernel
theorem dX9_bestBurrow_88 : decode cX9_bestBurrow 88 = .ok (.if_icmp .eq 16, 3) := by decide +kernel
theorem dX9_bestBurrow_91 : decode cX9_bestBurrow 91 = .ok (.aload_n 0, 1) := by decide +kernel
theorem dX9_bestBurrow_92 : decode cX9_bestBurrow 92 = .ok (.getfield 39, 3) := by decide +kernel
theorem dX9_bestBurrow_95 : decode cX9_bestBurrow 95 = .ok (.iload 5, 2) := by decide +kernel
theorem dX9_bestBurrow_97 : decode cX9_bestBurrow 97 = .ok (.invokevirtual 189, 3) := by decide +kernel
theorem dX9_bestBurrow_100 : decode cX9_bestBurrow 100 = .ok (.iload_n 3, 1) := by decide +kernel
theorem dX9_bestBurrow_101 : decode cX9_bestBurrow 101 = .ok (.if_icmp .ge 16, 3) := by decide +kernel
theorem dX9_bestBurrow_104 : decode cX9_bestBurrow 104 = .ok (.iload 4, 2) := by decide +kernel
theorem dX9_bestBurrow_106 : decode cX9_bestBurrow 106 = .ok (.istore_n 2, 1) := by decide +kernel
theorem dX9_bestBurrow_107 : decode cX9_bestBurrow 107 = .ok (.aload_n 0, 1) := by decide +kernel
theorem dX9_bestBurrow_108 : decode cX9_bestBurrow 108 = .ok (.getfield 39, 3) := by decide +kernel
theorem dX9_bestBurrow_111 : decode cX9_bestBurrow 111 = .ok (.iload 5, 2) := by decide +kernel
theorem dX9_bestBurrow_113 : decode cX9_bestBurrow 113 = .ok (.invokevirtual 189, 3) := by decide +kernel
theorem dX9_bestBurrow_116 : decode cX9_bestBurrow 116 = .ok (.istore_n 3, 1) := by decide +kernel
theorem dX9_bestBurrow_117 : decode cX9_bestBurrow 117 = .ok (.iinc 4 1, 3) := by decide +kernel
theorem dX9_bestBurrow_120 : decode cX9_bestBurrow 120 = .ok (.goto (-94), 3) := by decide +kernel
theorem dX9_bestBurrow_123 : decode cX9_bestBurrow 123 = .ok (.iload_n 2, 1) := by decide +kernel
theorem dX9_bestBurrow_124 : decode cX9_bestBurrow 124 = .ok (.iconst (-1), 1) := by decide +kernel
theorem dX9_bestBurrow_125 : decode cX9_bestBurrow 125 = .ok (.if_icmp .ne 14, 3) := by decide +kernel
theorem dX9_bestBurrow_128 : decode cX9_bestBurrow 128 = .ok (.new 128, 3) := by decide +kernel
theorem dX9_bestBurrow_131 : decode cX9_bestBurrow 131 = .ok (.dup, 1) := by decide +kernel
theorem dX9_bestBurrow_132 : decode cX9_bestBurrow 132 = .ok (.ldc_w 274, 3) := by decide +kernel
theorem dX9_bestBurrow_135 : decode cX9_bestBurrow 135 = .ok (.invokespecial 132, 3) := by decide +kernel
theorem dX9_bestBurrow_138 : decode cX9_bestBurrow 138 = .ok (.athrow, 1) := by decide +kernel
theorem dX9_bestBurrow_139 : decode cX9_bestBurrow 139 = .ok (.iload_n 2, 1) := by decide +kernel
theorem dX9_bestBurrow_140 : decode cX9_bestBurrow 140 = .ok (.ireturn, 1) := by decide +kernel
theorem dX9_burrowOf_0 : decode cX9_burrowOf 0 = .ok (.aload_n 0, 1) := by decide +kernel
theorem dX9_burrowOf_1 : decode cX9_burrowOf 1 = .ok (.getfield 10, 3) := by decide +kernel
theorem dX9_burrowOf_4 : decode cX9_burrowOf 4 = .ok (.getfield 138, 3) := by decide +kernel
theorem dX9_burrowOf_7 : decode cX9_burrowOf 7 = .ok (.iload_n 1, 1) := by decide +kernel
theorem dX9_burrowOf_8 : decode cX9_burrowOf 8 = .ok (.invokevirtual 241, 3) := by decide +kernel
theorem dX9_burrowOf_11 : decode cX9_burrowOf 11 = .ok (.ifCond .ne 13, 3) := by decide +kernel
theorem dX9_burrowOf_14 : decode cX9_burrowOf 14 = .ok (.new 245, 3) := by decide +kernel
theorem dX9_burrowOf_17 : decode cX9_burrowOf 17 = .ok (.dup, 1) := by decide +kernel
theorem dX9_burrowOf_18 : decode cX9_burrowOf 18 = .ok (.ldc 247, 2) := by decide +kernel
theorem dX9_burrowOf_20 : decode cX9_burrowOf 20 = .ok (.invokespecial 249, 3) := by decide +kernel
theorem dX9_burrowOf_23 : decode cX9_burrowOf 23 = .ok (.athrow, 1) := by decide +kernel
theorem dX9_burrowOf_24 : decode cX9_burrowOf 24 = .ok (.iload_n 2, 1) := by decide +kernel
theorem dX9_burrowOf_25 : decode cX9_burrowOf 25 = .ok (.ifCond .lt 8, 3) := by decide +kernel
theorem dX9_burrowOf_28 : decode cX9_burrowOf 28 = .ok (.iload_n 2, 1) := by decide +kernel
theorem dX9_burrowOf_29 : decode cX9_burrowOf 29 = .ok (.iconst 3, 1) := by decide +kernel
theorem dX9_burrowOf_30 : decode cX9_burrowOf 30 = .ok (.if_icmp .le 14, 3) := by decide +kernel
theorem dX9_burrowOf_33 : decode cX9_burrowOf 33 = .ok (.new 151, 3) := by decide +kernel
theorem dX9_burrowOf_36 : decode cX9_burrowOf 36 = .ok (.dup, 1) := by decide +kernel
theorem dX9_burrowOf_37 : decode cX9_burrowOf 37 = .ok (.ldc_w 276, 3) := by decide +kernel
theorem dX9_burrowOf_40 : decode cX9_burrowOf 40 = .ok (.invokespecial 155, 3) := by decide +kernel
theorem dX9_burrowOf_43 : decode cX9_burrowOf 43 = .ok (.athrow, 1) := by decide +kernel
theorem dX9_burrowOf_44 : decode cX9_burrowOf 44 = .ok (.iload_n 2, 1) := by decide +kernel
theorem dX9_burrowOf_45 : decode cX9_burrowOf 45 = .ok (.tableswitch 88 0 2 #[27, 45, 68], 27) := by decide +kernel
theorem dX9_burrowOf_72 : decode cX9_burrowOf 72 = .ok (.aload_n 0, 1) := by decide +kernel
theorem dX9_burrowOf_73 : decode cX9_burrowOf 73 = .ok (.getfield 10, 3) := by decide +kernel
theorem dX9_burrowOf_76 : decode cX9_burrowOf 76 = .ok (.getfield 138, 3) := by decide +kernel
theorem dX9_burrowOf_79 : decode cX9_burrowOf 79 = .ok (.getfield 278, 3) := by decide +kernel
theorem dX9_burrowOf_82 : decode cX9_burrowOf 82 = .ok (.iload_n 1, 1) := by decide +kernel
theorem dX9_burrowOf_83 : decode cX9_burrowOf 83 = .ok (.invokestatic 282, 3) := by decide +kernel
theorem dX9_burrowOf_86 : decode cX9_burrowOf 86 = .ok (.invokestatic 286, 3) := by decide +kernel
theorem dX9_burrowOf_89 : decode cX9_burrowOf 89 = .ok (.ireturn, 1) := by decide +kernel
theorem dX9_burrowOf_90 : decode cX9_burrowOf 90 = .ok (.aload_n 0, 1) := by decide +kernel
theorem dX9_burrowOf_91 : decode cX9_burrowOf 91 = .ok (.getfield 10, 3) := by decide +kernel
theorem dX9_burrowOf_94 : decode cX9_burrowOf 94 = .ok (.getfield 138, 3) := by decide +kernel
theorem dX9_burrowOf_97 : decode cX9_burrowOf 97 = .ok (.getfield 278, 3) := by decide +kernel
theorem dX9_burrowOf_100 : decode cX9_burrowOf 100 = .ok (.iload_n 1, 1) := by decide +kernel
theorem dX9_burrowOf_101 : decode cX9_burrowOf 101 = .ok (.invokestatic 282, 3) := by decide +kernel
theorem dX9_burrowOf_104 : decode cX9_burrowOf 104 = .ok (.iload_n 1, 1) := by decide +kernel
theorem dX9_burrowOf_105 : decode cX9_burrowOf 105 = .ok (.invokestatic 290, 3) := by decide +kernel
theorem dX9_burrowOf_108 : decode cX9_burrowOf 108 = .ok (.iand, 1) := by decide +kernel
theorem dX9_burrowOf_109 : decode cX9_burrowOf 109 = .ok (.invokestatic 286, 3) := by decide +kernel
theorem dX9_burrowOf_112 : decode cX9_burrowOf 112 = .ok (.ireturn, 1) := by decide +kernel
theorem dX9_burrowOf_113 : decode cX9_burrowOf 113 = .ok (.aload_n 0, 1) := by decide +kernel
theorem dX9_burrowOf_114 : decode cX9_burrowOf 114 = .ok (.getfield 10, 3) := by decide +kernel
theorem dX9_burrowOf_117 : decode cX9_burrowOf 117 = .ok (.getfield 138, 3) := by decide +kernel
theorem dX9_burrowOf_120 : decode cX9_burrowOf 120 = .ok (.iload_n 1, 1) := by decide +kernel
theorem dX9_burrowOf_121 : decode cX9_burrowOf 121 = .ok (.invokevirtual 293, 3) := by decide +kernel
theorem dX9_burrowOf_124 : decode cX9_burrowOf 124 = .ok (.ifCond .eq 7, 3) := by decide +kernel
theorem dX9_burrowOf_127 : decode cX9_burrowOf 127 = .ok (.iconst 1, 1) := by decide +kernel
theorem dX9_burrowOf_128 : decode cX9_burrowOf 128 = .ok (.goto 4, 3) := by decide +kernel
theorem dX9_burrowOf_131 : decode cX9_burrowOf 131 = .ok (.iconst 0, 1) := by decide +kernel
theorem dX9_burrowOf_132 : decode cX9_burrowOf 132 = .ok (.ireturn, 1) := by decide +kernel
theorem dX9_burrowOf_133 : decode cX9_burrowOf 133 = .ok (.aload_n 0, 1) := by decide +kernel
theorem dX9_burrowOf_134 : decode cX9_burrowOf 134 = .ok (.iload_n 1, 1) := by decide +kernel
theorem dX9_burrowOf_135 : decode cX9_burrowOf 135 = .ok (.invokevirtual 296, 3) := by decide +kernel
theorem dX9_burrowOf_138 : decode cX9_burrowOf 138 = .ok (.ireturn, 1) := by decide +kernel
theorem dX9_pathOf_0 : decode cX9_pathOf 0 = .ok (.iload_n 1, 1) := by decide +kernel
theorem dX9_pathOf_1 : decode cX9_pathOf 1 = .ok (.ifCond .lt 17, 3) := by decide +kernel
theorem dX9_pathOf_4 : decode cX9_pathOf 4 = .ok (.iload_n 1, 1) := by decide +kernel
theorem dX9_pathOf_5 : decode cX9_pathOf 5 = .ok (.aload_n 0, 1) := by decide +kernel
theorem dX9_pathOf_6 : decode cX9_pathOf 6 = .ok (.getfield 10, 3) := by decide +kernel
theorem dX9_pathOf_9 : decode cX9_pathOf 9 = .ok (.getfield 138, 3) := by decide +kernel
theorem dX9_pathOf_12 : decode cX9_pathOf 12 = .ok (.getfield 299, 3) := by decide +kernel
theorem dX9_pathOf_15 : decode cX9_pathOf 15 = .ok (.if_icmp .lt 14, 3) := by decide +kernel
theorem dX9_pathOf_18 : decode cX9_pathOf 18 = .ok (.new 245, 3) := by decide +kernel
theorem dX9_pathOf_21 : decode cX9_pathOf 21 = .ok (.dup, 1) := by decide +kernel
theorem dX9_pathOf_22 : decode cX9_pathOf 22 = .ok (.ldc_w 302, 3) := by decide +kernel
theorem dX9_pathOf_25 : decode cX9_pathOf 25 = .ok (.invokespecial 249, 3) := by decide +kernel
theorem dX9_pathOf_28 : decode cX9_pathOf 28 = .ok (.athrow, 1) := by decide +kernel
theorem dX9_pathOf_29 : decode cX9_pathOf 29 = .ok (.iload_n 2, 1) := by decide +kernel
theorem dX9_pathOf_30 : decode cX9_pathOf 30 = .ok (.ifCond .eq 16, 3) := by decide +kernel
theorem dX9_pathOf_33 : decode cX9_pathOf 33 = .ok (.aload_n 0, 1) := by decide +kernel
theorem dX9_pathOf_34 : decode cX9_pathOf 34 = .ok (.getfield 10, 3) := by decide +kernel
theorem dX9_pathOf_37 : decode cX9_pathOf 37 = .ok (.getfield 138, 3) := by decide +kernel
theorem dX9_pathOf_40 : decode cX9_pathOf 40 = .ok (.getfield 304, 3) := by decide +kernel
theorem dX9_pathOf_43 : decode cX9_pathOf 43 = .ok (.goto 13, 3) := by decide +kernel
theorem dX9_pathOf_46 : decode cX9_pathOf 46 = .ok (.aload_n 0, 1) := by decide +kernel
theorem dX9_pathOf_47 : decode cX9_pathOf 47 = .ok (.getfield 10, 3) := by decide +kernel
theorem dX9_pathOf_50 : decode cX9_pathOf 50 = .ok (.getfield 138, 3) := by decide +kernel
theorem dX9_pathOf_53 : decode cX9_pathOf 53 = .ok (.getfield 307, 3) := by decide +kernel
theorem dX9_pathOf_56 : decode cX9_pathOf 56 = .ok (.iload_n 1, 1) := by decide +kernel
theorem dX9_pathOf_57 : decode cX9_pathOf 57 = .ok (.invokestatic 282, 3) := by decide +kernel
theorem dX9_pathOf_60 : decode cX9_pathOf 60 = .ok (.ireturn, 1) := by decide +kernel
theorem dX9_meanMoves_0 : decode cX9_meanMoves 0 = .ok (.aload_n 0, 1) := by decide +kernel
theorem dX9_meanMoves_1 : decode cX9_meanMoves 1 = .ok (.getfield 39, 3) := by decide +kernel
theorem dX9_meanMoves_4 : decode cX9_meanMoves 4 = .ok (.aload_n 0, 1) := by decide +kernel
theorem dX9_meanMoves_5 : decode cX9_meanMoves 5 = .ok (.getfield 10, 3) := by decide +kernel
theorem dX9_meanMoves_8 : decode cX9_meanMoves 8 = .ok (.getfield 138, 3) := by decide +kernel
theorem dX9_meanMoves_11 : decode cX9_meanMoves 11 = .ok (.invokevirtual 182, 3) := by decide +kernel
theorem dX9_meanMoves_14 : decode cX9_meanMoves 14 = .ok (.iconst 0, 1) := by decide +kernel
theorem dX9_meanMoves_15 : decode cX9_meanMoves 15 = .ok (.istore_n 1, 1) := by decide +kernel
theorem dX9_meanMoves_16 : decode cX9_meanMoves 16 = .ok (.iconst 0, 1) := by decide +kernel
theorem dX9_meanMoves_17 : decode cX9_meanMoves 17 = .ok (.istore_n 2, 1) := by decide +kernel
theorem dX9_meanMoves_18 : decode cX9_meanMoves 18 = .ok (.iconst 0, 1) := by decide +kernel
theorem dX9_meanMoves_19 : decode cX9_meanMoves 19 = .ok (.istore_n 3, 1) := by decide +kernel
theorem dX9_meanMoves_20 : decode cX9_meanMoves 20 = .ok (.iload_n 3, 1) := by decide +kernel
theorem dX9_meanMoves_21 : decode cX9_meanMoves 21 = .ok (.aload_n 0, 1) := by decide +kernel
theorem dX9_meanMoves_22 : decode cX9_meanMoves 22 = .ok (.getfield 39, 3) := by decide +kernel
theorem dX9_meanMoves_25 : decode cX9_meanMoves 25 = .ok (.getfield 228, 3) := by decide +kernel
theorem dX9_meanMoves_28 : decode cX9_meanMoves 28 = .ok (.if_icmp .ge 39, 3) := by decide +kernel
theorem dX9_meanMoves_31 : decode cX9_meanMoves 31 = .ok (.aload_n 0, 1) := by decide +kernel
theorem dX9_meanMoves_32 : decode cX9_meanMoves 32 = .ok (.getfield 39, 3) := by decide +kernel
theorem dX9_meanMoves_35 : decode cX9_meanMoves 35 = .ok (.aload_n 0, 1) := by decide +kernel
theorem dX9_meanMoves_36 : decode cX9_meanMoves 36 = .ok (.getfield 39, 3) := by decide +kernel
theorem dX9_meanMoves_39 : decode cX9_meanMoves 39 = .ok (.iload_n 3, 1) := by decide +kernel
theorem dX9_meanMoves_40 : decode cX9_meanMoves 40 = .ok (.invokevirtual 231, 3) := by decide +kernel
theorem dX9_meanMoves_43 : decode cX9_meanMoves 43 = .ok (.invokevirtual 189, 3) := by decide +kernel
theorem dX9_meanMoves_46 : decode cX9_meanMoves 46 = .ok (.istore 4, 2) := by decide +kernel
theorem dX9_meanMoves_48 : decode cX9_meanMoves 48 = .ok (.iload 4, 2) := by decide +kernel
theorem dX9_meanMoves_50 : decode cX9_meanMoves 50 = .ok (.ifCond .lt 11, 3) := by decide +kernel
theorem dX9_meanMoves_53 : decode cX9_meanMoves 53 = .ok (.iload_n 1, 1) := by decide +kernel
theorem dX9_meanMoves_54 : decode cX9_meanMoves 54 = .ok (.iload 4, 2) := by decide +kernel
theorem dX9_meanMoves_56 : decode cX9_meanMoves 56 = .ok (.iadd, 1) := by decide +kernel
theorem dX9_meanMoves_57 : decode cX9_meanMoves 57 = .ok (.istore_n 1, 1) := by decide +kernel
theorem dX9_meanMoves_58 : decode cX9_meanMoves 58 = .ok (.iinc 2 1, 3) := by decide +kernel
theorem dX9_meanMoves_61 : decode cX9_meanMoves 61 = .ok (.iinc 3 1, 3) := by decide +kernel
theorem dX9_meanMoves_64 : decode cX9_meanMoves 64 = .ok (.goto (-44), 3) := by decide +kernel
theorem dX9_meanMoves_67 : decode cX9_meanMoves 67 = .ok (.iload_n 2, 1) := by decide +kernel
theorem dX9_meanMoves_68 : decode cX9_meanMoves 68 = .ok (.ifCond .ne 14, 3) := by decide +kernel
theorem dX9_meanMoves_71 : decode cX9_meanMoves 71 = .ok (.new 310, 3) := by decide +kernel
theorem dX9_meanMoves_74 : decode cX9_meanMoves 74 = .ok (.dup, 1) := by decide +kernel
theorem dX9_meanMoves_75 : decode cX9_meanMoves 75 = .ok (.ldc_w 312, 3) := by decide +kernel
theorem dX9_meanMoves_78 : decode cX9_meanMoves 78 = .ok (.invokespecial 314, 3) := by decide +kernel
theorem dX9_meanMoves_81 : decode cX9_meanMoves 81 = .ok (.athrow, 1) := by decide +kernel
theorem dX9_meanMoves_82 : decode cX9_meanMoves 82 = .ok (.iload_n 1, 1) := by decide +kernel
theorem dX9_meanMoves_83 : decode cX9_meanMoves 83 = .ok (.i2d, 1) := by decide +kernel
theorem dX9_meanMoves_84 : decode cX9_meanMoves 84 = .ok (.iload_n 2, 1) := by decide +kernel
theorem dX9_meanMoves_85 : decode cX9_meanMoves 85 = .ok (.i2d, 1) := by decide +kernel
theorem dX9_meanMoves_86 : decode cX9_meanMoves 86 = .ok (.ddiv, 1) := by decide +kernel
theorem dX9_meanMoves_87 : decode cX9_meanMoves 87 = .ok (.dreturn, 1) := by decide +kernel
theorem dX9_drawn_0 : decode cX9_drawn 0 = .ok (.aload_n 0, 1) := by decide +kernel
theorem dX9_drawn_1 : decode cX9_drawn 1 = .ok (.getfield 39, 3) := by decide +kernel
theorem dX9_drawn_4 : decode cX9_drawn 4 = .ok (.aload_n 0, 1) := by decide +kernel
theorem dX9_drawn_5 : decode cX9_drawn 5 = .ok (.getfield 10, 3) := by decide +kernel
theorem dX9_drawn_8 : decode cX9_drawn 8 = .ok (.getfield 138, 3) := by decide +kernel
theorem dX9_drawn_11 : decode cX9_drawn 11 = .ok (.invokevirtual 182, 3) := by decide +kernel
theorem dX9_drawn_14 : decode cX9_drawn 14 = .ok (.aload_n 0, 1) := by decide +kernel
theorem dX9_drawn_15 : decode cX9_drawn 15 = .ok (.getfield 39, 3) := by decide +kernel
theorem dX9_drawn_18 : decode cX9_drawn 18 = .ok (.getfield 228, 3) := by decide +kernel
theorem dX9_drawn_21 : decode cX9_drawn 21 = .ok (.ifCond .ne 14, 3) := by decide +kernel
theorem dX9_drawn_24 : decode cX9_drawn 24 = .ok (.new 310, 3) := by decide +kernel
theorem dX9_drawn_27 : decode cX9_drawn 27 = .ok (.dup, 1) := by decide +kernel
theorem dX9_drawn_28 : decode cX9_drawn 28 = .ok (.ldc_w 315, 3) := by decide +kernel
theorem dX9_drawn_31 : decode cX9_drawn 31 = .ok (.invokespecial 314, 3) := by decide +kernel
theorem dX9_drawn_34 : decode cX9_drawn 34 = .ok (.athrow, 1) := by decide +kernel
theorem dX9_drawn_35 : decode cX9_drawn 35 = .ok (.aload_n 0, 1) := by decide +kernel
theorem dX9_drawn_36 : decode cX9_drawn 36 = .ok (.iconst (-1), 1) := by decide +kernel
theorem dX9_drawn_37 : decode cX9_drawn 37 = .ok (.invokevirtual 238, 3) := by decide +kernel
theorem dX9_drawn_40 : decode cX9_drawn 40 = .ok (.i2f, 1) := by decide +kernel
theorem dX9_drawn_41 : decode cX9_drawn 41 = .ok (.aload_n 0, 1) := by decide +kernel
theorem dX9_drawn_42 : decode cX9_drawn 42 = .ok (.getfield 39, 3) := by decide +kernel
theorem dX9_drawn_45 : decode cX9_drawn 45 = .ok (.getfield 228, 3) := by decide +kernel
theorem dX9_drawn_48 : decode cX9_drawn 48 = .ok (.i2f, 1) := by decide +kernel
theorem dX9_drawn_49 : decode cX9_drawn 49 = .ok (.fdiv, 1) := by decide +kernel
theorem dX9_drawn_50 : decode cX9_drawn 50 = .ok (.freturn, 1) := by decide +kernel
theorem dX9_account_0 : decode cX9_account 0 = .ok (.iload_n 1, 1) := by decide +kernel
theorem dX9_account_1 : decode cX9_account 1 = .ok (.ifCond .lt 9, 3) := by decide +kernel
theorem dX9_account_4 : decode cX9_account 4 = .ok (.iload_n 1, 1) := by decide +kernel
theorem dX9_account_5 : decode cX9_account 5 = .ok (.bipush 10, 2) := by decide +kernel
theorem dX9_account_7 : decode cX9_account 7 = .ok (.if_icmp .le 14, 3) := by decide +kernel
theorem dX9_account_10 : decode cX9_account 10 = .ok (.new 151, 3) := by decide +kernel
theorem dX9_account_13 : decode cX9_account 13 = .ok (.dup, 1) := by decide +kernel
theorem dX9_account_14 : decode cX9_account 14 = .ok (.ldc_w 317, 3) := by decide +kernel
theorem dX9_account_17 : decode cX9_account 17 = .ok (.invokespecial 155, 3) := by decide +kernel
theorem dX9_account_20 : decode cX9_account 20 = .ok (.athrow, 1) := by decide +kernel
theorem dX9_account_21 : decode cX9_account 21 = .ok (.iload_n 1, 1) := by decide +kernel
theorem dX9_account_22 : decode cX9_account 22 = .ok (.tableswitch 157 0 10 #[58, 69, 80, 94, 157, 157, 157, 105, 133, 141, 149], 58) := by decide +kernel
theorem dX9_account_80 : decode cX9_account 80 = .ok (.aload_n 0, 1) := by decide +kernel
theorem dX9_account_81 : decode cX9_account 81 = .ok (.getfield 10, 3) := by decide +kernel
theorem dX9_account_84 : decode cX9_account 84 = .ok (.getfield 138, 3) := by decide +kernel
theorem dX9_account_87 : decode cX9_account 87 = .ok (.getfield 265, 3) := by decide +kernel
theorem dX9_account_90 : decode cX9_account 90 = .ok (.ireturn, 1) := by decide +kernel
theorem dX9_account_91 : decode cX9_account 91 = .ok (.aload_n 0, 1) := by decide +kernel
theorem dX9_account_92 : decode cX9_account 92 = .ok (.getfield 10, 3) := by decide +kernel
theorem dX9_account_95 : decode cX9_account 95 = .ok (.getfield 138, 3) := by decide +kernel
theorem dX9_account_98 : decode cX9_account 98 = .ok (.getfield 299, 3) := by decide +kernel
theorem dX9_account_101 : decode cX9_account 101 = .ok (.ireturn, 1) := by decide +kernel
theorem dX9_account_102 : decode cX9_account 102 = .ok (.aload_n 0, 1) := by decide +kernel
theorem dX9_account_103 : decode cX9_account 103 = .ok (.getfield 10, 3) := by decide +kernel
theorem dX9_account_106 : decode cX9_account 106 = .ok (.getfield 138, 3) := by decide +kernel
theorem dX9_account_109 : decode cX9_account 109 = .ok (.getfield 319, 3) := by decide +kernel
theorem dX9_account_112 : decode cX9_account 112 = .ok (.invokestatic 286, 3) := by decide +kernel
theorem dX9_account_115 : decode cX9_account 115 = .ok (.ireturn, 1) := by decide +kernel
theorem dX9_account_116 : decode cX9_account 116 = .ok (.aload_n 0, 1) := by decide +kernel
theorem dX9_account_117 : decode cX9_account 117 = .ok (.getfield 10, 3) := by decide +kernel
theorem dX9_account_120 : decode cX9_account 120 = .ok (.getfield 138, 3) := by decide +kernel
theorem dX9_account_123 : decode cX9_account 123 = .ok (.getfield 322, 3) := by decide +kernel
theorem dX9_account_126 : decode cX9_account 126 = .ok (.ireturn, 1) := by decide +kernel
theorem dX9_account_127 : decode cX9_account 127 = .ok (.aload_n 0, 1) := by decide +kernel
theorem dX9_account_128 : decode cX9_account 128 = .ok (.getfield 10, 3) := by decide +kernel
theorem dX9_account_131 : decode cX9_account 131 = .ok (.getfield 118, 3) := by decide +kernel
theorem dX9_account_134 : decode cX9_account 134 = .ok (.getfield 122, 3) := by decide +kernel
theorem dX9_account_137 : decode cX9_account 137 = .ok (.ifCond .eq 16, 3) := by decide +kernel
theorem dX9_account_140 : decode cX9_account 140 = .ok (.aload_n 0, 1) := by decide +kernel
theorem dX9_account_141 : decode cX9_account 141 = .ok (.getfield 10, 3) := by decide +kernel
theorem dX9_account_144 : decode cX9_account 144 = .ok (.getfield 118, 3) := by decide +kernel
theorem dX9_account_147 : decode cX9_account 147 = .ok (.getfield 325, 3) := by decide +kernel
theorem dX9_account_150 : decode cX9_account 150 = .ok (.goto 4, 3) := by decide +kernel
theorem dX9_account_153 : decode cX9_account 153 = .ok (.iconst (-1), 1) := by decide +kernel
theorem dX9_account_154 : decode cX9_account 154 = .ok (.ireturn, 1) := by decide +kernel
theorem dX9_account_155 : decode cX9_account 155 = .ok (.aload_n 0, 1) := by decide +kernel
theorem dX9_account_156 : decode cX9_account 156 = .ok (.getfield 10, 3) := by decide +kernel
theorem dX9_account_159 : decode cX9_account 159 = .ok (.getfield 328, 3) := by decide +kernel
theorem dX9_account_162 : decode cX9_account 162 = .ok (.ireturn, 1) := by decide +kernel
theorem dX9_account_163 : decode cX9_account 163 = .ok (.aload_n 0, 1) := by decide +kernel
theorem dX9_account_164 : decode cX9_account 164 = .ok (.getfield 25, 3) := by decide +kernel
theorem dX9_account_167 : decode cX9_account 167 = .ok (.getfield 331, 3) := by decide +kernel
theorem dX9_account_170 : decode cX9_account 170 = .ok (.ireturn, 1) := by decide +kernel
theorem dX9_account_171 : decode cX9_account 171 = .ok (.aload_n 0, 1) := by decide +kernel
theorem dX9_account_172 : decode cX9_account 172 = .ok (.getfield 56, 3) := by decide +kernel
theorem dX9_account_175 : decode cX9_account 175 = .ok (.getfield 333, 3) := by decide +kernel
theorem dX9_account_178 : decode cX9_account 178 = .ok (.ireturn, 1) := by decide +kernel
theorem dX9_account_179 : decode cX9_account 179 = .ok (.aload_n 0, 1) := by decide +kernel
theorem dX9_account_180 : decode cX9_account 180 = .ok (.iload_n 1, 1) := by decide +kernel
theorem dX9_account_181 : decode cX9_account 181 = .ok (.invokevirtual 336, 3) := by decide +kernel
theorem dX9_account_184 : decode cX9_account 184 = .ok (.ireturn, 1) := by decide +kernel
theorem dX9_append_0 : decode cX9_append 0 = .ok (.aload_n 0, 1) := by decide +kernel
theorem dX9_append_1 : decode cX9_append 1 = .ok (.getfield 56, 3) := by decide +kernel
theorem dX9_append_4 : decode cX9_append 4 = .ok (.getfield 333, 3) := by decide +kernel
theorem dX9_append_7 : decode cX9_append 7 = .ok (.bipush 60, 2) := by decide +kernel
theorem dX9_append_9 : decode cX9_append 9 = .ok (.if_icmp .lt 14, 3) := by decide +kernel
theorem dX9_append_12 : decode cX9_append 12 = .ok (.new 339, 3) := by decide +kernel
theorem dX9_append_15 : decode cX9_append 15 = .ok (.dup, 1) := by decide +kernel
theorem dX9_append_16 : decode cX9_append 16 = .ok (.ldc_w 341, 3) := by decide +kernel
theorem dX9_append_19 : decode cX9_append 19 = .ok (.invokespecial 343, 3) := by decide +kernel
theorem dX9_append_22 : decode cX9_append 22 = .ok (.athrow, 1) := by decide +kernel
theorem dX9_append_23 : decode cX9_append 23 = .ok (.aload_n 0, 1) := by decide +kernel
theorem dX9_append_24 : decode cX9_append 24 = .ok (.getfield 56, 3) := by decide +kernel
theorem dX9_append_27 : decode cX9_append 27 = .ok (.iload_n 1, 1) := by decide +kernel
theorem dX9_append_28 : decode cX9_append 28 = .ok (.invokevirtual 344, 3) := by decide +kernel
theorem dX9_append_31 : decode cX9_append 31 = .ok (.aload_n 0, 1) := by decide +kernel
theorem dX9_append_32 : decode cX9_append 32 = .ok (.getfield 56, 3) := by decide +kernel
theorem dX9_append_35 : decode cX9_append 35 = .ok (.getfield 333, 3) := by decide +kernel
theorem dX9_append_38 : decode cX9_append 38 = .ok (.ireturn, 1) := by decide +kernel
theorem dX9_commands_0 : decode cX9_commands 0 = .ok (.aload_n 0, 1) := by decide +kernel
theorem dX9_commands_1 : decode cX9_commands 1 = .ok (.aload_n 0, 1) := by decide +kernel
theorem dX9_commands_2 : decode cX9_commands 2 = .ok (.getfield 66, 3) := by decide +kernel
theorem dX9_commands_5 : decode cX9_commands 5 = .ok (.aload_n 0, 1) := by decide +kernel
theorem dX9_commands_6 : decode cX9_commands 6 = .ok (.getfield 56, 3) := by decide +kernel
theorem dX9_commands_9 : decode cX9_commands 9 = .ok (.invokevirtual 348, 3) := by decide +kernel
theorem dX9_commands_12 : decode cX9_commands 12 = .ok (.putfield 77, 3) := by decide +kernel
theorem dX9_commands_15 : decode cX9_commands 15 = .ok (.aload_n 0, 1) := by decide +kernel
theorem dX9_commands_16 : decode cX9_commands 16 = .ok (.getfield 56, 3) := by decide +kernel
theorem dX9_commands_19 : decode cX9_commands 19 = .ok (.iconst 0, 1) := by decide +kernel
theorem dX9_commands_20 : decode cX9_commands 20 = .ok (.putfield 333, 3) := by decide +kernel
theorem dX9_commands_23 : decode cX9_commands 23 = .ok (.aload_n 0, 1) := by decide +kernel
theorem dX9_commands_24 : decode cX9_commands 24 = .ok (.getfield 77, 3) := by decide +kernel
theorem dX9_commands_27 : decode cX9_commands 27 = .ok (.iconst (-1), 1) := by decide +kernel
theorem dX9_commands_28 : decode cX9_commands 28 = .ok (.if_icmp .eq 14, 3) := by decide +kernel
theorem dX9_commands_31 : decode cX9_commands 31 = .ok (.new 151, 3) := by decide +kernel
theorem dX9_commands_34 : decode cX9_commands 34 = .ok (.dup, 1) := by decide +kernel
theorem dX9_commands_35 : decode cX9_commands 35 = .ok (.ldc_w 352, 3) := by decide +kernel
theorem dX9_commands_38 : decode cX9_commands 38 = .ok (.invokespecial 155, 3) := by decide +kernel
theorem dX9_commands_41 : decode cX9_commands 41 = .ok (.athrow, 1) := by decide +kernel
theorem dX9_commands_42 : decode cX9_commands 42 = .ok (.aload_n 0, 1) := by decide +kernel
theorem dX9_commands_43 : decode cX9_commands 43 = .ok (.invokevirtual 81, 3) := by decide +kernel
theorem dX9_commands_46 : decode cX9_commands 46 = .ok (.aload_n 0, 1) := by decide +kernel
theorem dX9_commands_47 : decode cX9_commands 47 = .ok (.getfield 66, 3) := by decide +kernel
theorem dX9_commands_50 : decode cX9_commands 50 = .ok (.getfield 354, 3) := by decide +kernel
theorem dX9_commands_53 : decode cX9_commands 53 = .ok (.istore_n 1, 1) := by decide +kernel
theorem dX9_commands_54 : decode cX9_commands 54 = .ok (.iconst 0, 1) := by decide +kernel
theorem dX9_commands_55 : decode cX9_commands 55 = .ok (.istore_n 2, 1) := by decide +kernel
theorem dX9_commands_56 : decode cX9_commands 56 = .ok (.iload_n 2, 1) := by decide +kernel
theorem dX9_commands_57 : decode cX9_commands 57 = .ok (.aload_n 0, 1) := by decide +kernel
theorem dX9_commands_58 : decode cX9_commands 58 = .ok (.getfield 66, 3) := by decide +kernel
theorem dX9_commands_61 : decode cX9_commands 61 = .ok (.getfield 354, 3) := by decide +kernel
theorem dX9_commands_64 : decode cX9_commands 64 = .ok (.if_icmp .ge 30, 3) := by decide +kernel
theorem dX9_commands_67 : decode cX9_commands 67 = .ok (.iload_n 1, 1) := by decide +kernel
theorem dX9_commands_68 : decode cX9_commands 68 = .ok (.iconst (-1), 1) := by decide +kernel
theorem dX9_commands_69 : decode cX9_commands 69 = .ok (.if_icmp .eq 25, 3) := by decide +kernel
theorem dX9_commands_72 : decode cX9_commands 72 = .ok (.aload_n 0, 1) := by decide +kernel
theorem dX9_commands_73 : decode cX9_commands 73 = .ok (.iload_n 2, 1) := by decide +kernel
theorem dX9_commands_74 : decode cX9_commands 74 = .ok (.putfield 357, 3) := by decide +kernel
theorem dX9_commands_77 : decode cX9_commands 77 = .ok (.aload_n 0, 1) := by decide +kernel
theorem dX9_commands_78 : decode cX9_commands 78 = .ok (.iload_n 2, 1) := by decide +kernel
theorem dX9_commands_79 : decode cX9_commands 79 = .ok (.invokevirtual 360, 3) := by decide +kernel
theorem dX9_commands_82 : decode cX9_commands 82 = .ok (.iconst (-1), 1) := by decide +kernel
theorem dX9_commands_83 : decode cX9_commands 83 = .ok (.if_icmp .ne 5, 3) := by decide +kernel
theorem dX9_commands_86 : decode cX9_commands 86 = .ok (.iconst (-1), 1) := by decide +kernel
theorem dX9_commands_87 : decode cX9_commands 87 = .ok (.istore_n 1, 1) := by decide +kernel
theorem dX9_commands_88 : decode cX9_commands 88 = .ok (.iinc 2 1, 3) := by decide +kernel
theorem dX9_commands_91 : decode cX9_commands 91 = .ok (.goto (-35), 3) := by decide +kernel
theorem dX9_commands_94 : decode cX9_commands 94 = .ok (.aload_n 0, 1) := by decide +kernel
theorem dX9_commands_95 : decode cX9_commands 95 = .ok (.iconst 0, 1) := by decide +kernel
theorem dX9_commands_96 : decode cX9_commands 96 = .ok (.putfield 357, 3) := by decide +kernel
theorem dX9_commands_99 : decode cX9_commands 99 = .ok (.aload_n 0, 1) := by decide +kernel
theorem dX9_commands_100 : decode cX9_commands 100 = .ok (.iload_n 1, 1) := by decide +kernel
theorem dX9_commands_101 : decode cX9_commands 101 = .ok (.invokevirtual 88, 3) := by decide +kernel
theorem dX9_commands_104 : decode cX9_commands 104 = .ok (.ireturn, 1) := by decide +kernel
theorem dX9_faultPosition_0 : decode cX9_faultPosition 0 = .ok (.aload_n 0, 1) := by decide +kernel
theorem dX9_faultPosition_1 : decode cX9_faultPosition 1 = .ok (.getfield 77, 3) := by decide +kernel
theorem dX9_faultPosition_4 : decode cX9_faultPosition 4 = .ok (.ireturn, 1) := by decide +kernel
theorem dX9_reason_0 : decode cX9_reason 0 = .ok (.iload_n 1, 1) := by decide +kernel
theorem dX9_reason_1 : decode cX9_reason 1 = .ok (.ifCond .lt 8, 3) := by decide +kernel
theorem dX9_reason_4 : decode cX9_reason 4 = .ok (.iload_n 1, 1) := by decide +kernel
theorem dX9_reason_5 : decode cX9_reason 5 = .ok (.iconst 2, 1) := by decide +kernel
theorem dX9_reason_6 : decode cX9_reason 6 = .ok (.if_icmp .le 14, 3) := by decide +kernel
theorem dX9_reason_9 : decode cX9_reason 9 = .ok (.new 151, 3) := by decide +kernel
theorem dX9_reason_12 : decode cX9_reason 12 = .ok (.dup, 1) := by decide +kernel
theorem dX9_reason_13 : decode cX9_reason 13 = .ok (.ldc_w 363, 3) := by decide +kernel
theorem dX9_reason_16 : decode cX9_reason 16 = .ok (.invokespecial 155, 3) := by decide +kernel
theorem dX9_reason_19 : decode cX9_reason 19 = .ok (.athrow, 1) := by decide +kernel
theorem dX9_reason_20 : decode cX9_reason 20 = .ok (.aload_n 0, 1) := by decide +kernel
theorem dX9_reason_21 : decode cX9_reason 21 = .ok (.getfield 73, 3) := by decide +kernel
theorem dX9_reason_24 : decode cX9_reason 24 = .ok (.getfield 365, 3) := by decide +kernel
theorem dX9_reason_27 : decode cX9_reason 27 = .ok (.ifCond .ne 14, 3) := by decide +kernel
theorem dX9_reason_30 : decode cX9_reason 30 = .ok (.new 128, 3) := by decide +kernel
theorem dX9_reason_33 : decode cX9_reason 33 = .ok (.dup, 1) := by decide +kernel
theorem dX9_reason_34 : decode cX9_reason 34 = .ok (.ldc_w 368, 3) := by decide +kernel
theorem dX9_reason_37 : decode cX9_reason 37 = .ok (.invokespecial 132, 3) := by decide +kernel
theorem dX9_reason_40 : decode cX9_reason 40 = .ok (.athrow, 1) := by decide +kernel
theorem dX9_reason_41 : decode cX9_reason 41 = .ok (.iload_n 1, 1) := by decide +kernel
theorem dX9_reason_42 : decode cX9_reason 42 = .ok (.ifCond .ne 11, 3) := by decide +kernel
theorem dX9_reason_45 : decode cX9_reason 45 = .ok (.aload_n 0, 1) := by decide +kernel
theorem dX9_reason_46 : decode cX9_reason 46 = .ok (.getfield 73, 3) := by decide +kernel
theorem dX9_reason_49 : decode cX9_reason 49 = .ok (.getfield 370, 3) := by decide +kernel
theorem dX9_reason_52 : decode cX9_reason 52 = .ok (.ireturn, 1) := by decide +kernel
theorem dX9_reason_53 : decode cX9_reason 53 = .ok (.iload_n 1, 1) := by decide +kernel
theorem dX9_reason_54 : decode cX9_reason 54 = .ok (.iconst 1, 1) := by decide +kernel
theorem dX9_reason_55 : decode cX9_reason 55 = .ok (.if_icmp .ne 13, 3) := by decide +kernel
theorem dX9_reason_58 : decode cX9_reason 58 = .ok (.aload_n 0, 1) := by decide +kernel
theorem dX9_reason_59 : decode cX9_reason 59 = .ok (.getfield 73, 3) := by decide +kernel
theorem dX9_reason_62 : decode cX9_reason 62 = .ok (.getfield 373, 3) := by decide +kernel
theorem dX9_reason_65 : decode cX9_reason 65 = .ok (.goto 10, 3) := by decide +kernel
theorem dX9_reason_68 : decode cX9_reason 68 = .ok (.aload_n 0, 1) := by decide +kernel
theorem dX9_reason_69 : decode cX9_reason 69 = .ok (.getfield 73, 3) := by decide +kernel
theorem dX9_reason_72 : decode cX9_reason 72 = .ok (.getfield 376, 3) := by decide +kernel
theorem dX9_reason_75 : decode cX9_reason 75 = .ok (.ireturn, 1) := by decide +kernel
theorem dX9_line_0 : decode cX9_line 0 = .ok (.aload_n 0, 1) := by decide +kernel
theorem dX9_line_1 : decode cX9_line 1 = .ok (.getfield 60, 3) := by decide +kernel
theorem dX9_line_4 : decode cX9_line 4 = .ok (.iconst 0, 1) := by decide +kernel
theorem dX9_line_5 : decode cX9_line 5 = .ok (.putfield 333, 3) := by decide +kernel
theorem dX9_line_8 : decode cX9_line 8 = .ok (.aload_n 0, 1) := by decide +kernel
theorem dX9_line_9 : decode cX9_line 9 = .ok (.getfield 10, 3) := by decide +kernel
theorem dX9_line_12 : decode cX9_line 12 = .ok (.getfield 118, 3) := by decide +kernel
theorem dX9_line_15 : decode cX9_line 15 = .ok (.astore_n 1, 1) := by decide +kernel
theorem dX9_line_16 : decode cX9_line 16 = .ok (.aload_n 1, 1) := by decide +kernel
theorem dX9_line_17 : decode cX9_line 17 = .ok (.getfield 122, 3) := by decide +kernel
theorem dX9_line_20 : decode cX9_line 20 = .ok (.ifCond .eq 10, 3) := by decide +kernel
theorem dX9_line_23 : decode cX9_line 23 = .ok (.aload_n 1, 1) := by decide +kernel
theorem dX9_line_24 : decode cX9_line 24 = .ok (.getfield 325, 3) := by decide +kernel
theorem dX9_line_27 : decode cX9_line 27 = .ok (.goto 4, 3) := by decide +kernel
theorem dX9_line_30 : decode cX9_line 30 = .ok (.iconst 0, 1) := by decide +kernel
theorem dX9_line_31 : decode cX9_line 31 = .ok (.istore_n 2, 1) := by decide +kernel
theorem dX9_line_32 : decode cX9_line 32 = .ok (.iconst 0, 1) := by decide +kernel
theorem dX9_line_33 : decode cX9_line 33 = .ok (.istore_n 3, 1) := by decide +kernel
theorem dX9_line_34 : decode cX9_line 34 = .ok (.iload_n 3, 1) := by decide +kernel
theorem dX9_line_35 : decode cX9_line 35 = .ok (.iload_n 2, 1) := by decide +kernel
theorem dX9_line_36 : decode cX9_line 36 = .ok (.if_icmp .ge 105, 3) := by decide +kernel
theorem dX9_line_39 : decode cX9_line 39 = .ok (.iload_n 3, 1) := by decide +kernel
theorem dX9_line_40 : decode cX9_line 40 = .ok (.ifCond .le 12, 3) := by decide +kernel
theorem dX9_line_43 : decode cX9_line 43 = .ok (.aload_n 0, 1) := by decide +kernel
theorem dX9_line_44 : decode cX9_line 44 = .ok (.getfield 60, 3) := by decide +kernel
theorem dX9_line_47 : decode cX9_line 47 = .ok (.bipush 32, 2) := by decide +kernel
theorem dX9_line_49 : decode cX9_line 49 = .ok (.invokevirtual 344, 3) := by decide +kernel
theorem dX9_line_52 : decode cX9_line 52 = .ok (.aload_n 1, 1) := by decide +kernel
theorem dX9_line_53 : decode cX9_line 53 = .ok (.getfield 377, 3) := by decide +kernel
theorem dX9_line_56 : decode cX9_line 56 = .ok (.iload_n 3, 1) := by decide +kernel
theorem dX9_line_57 : decode cX9_line 57 = .ok (.invokestatic 282, 3) := by decide +kernel
theorem dX9_line_60 : decode cX9_line 60 = .ok (.istore 4, 2) := by decide +kernel
theorem dX9_line_62 : decode cX9_line 62 = .ok (.aload_n 1, 1) := by decide +kernel
theorem dX9_line_63 : decode cX9_line 63 = .ok (.getfield 380, 3) := by decide +kernel
theorem dX9_line_66 : decode cX9_line 66 = .ok (.iload_n 3, 1) := by decide +kernel
theorem dX9_line_67 : decode cX9_line 67 = .ok (.invokestatic 282, 3) := by decide +kernel
theorem dX9_line_70 : decode cX9_line 70 = .ok (.invokestatic 169, 3) := by decide +kernel
theorem dX9_line_73 : decode cX9_line 73 = .ok (.iconst 1, 1) := by decide +kernel
theorem dX9_line_74 : decode cX9_line 74 = .ok (.if_icmp .ne 7, 3) := by decide +kernel
theorem dX9_line_77 : decode cX9_line 77 = .ok (.iconst 1, 1) := by decide +kernel
theorem dX9_line_78 : decode cX9_line 78 = .ok (.goto 4, 3) := by decide +kernel
theorem dX9_line_81 : decode cX9_line 81 = .ok (.iconst 0, 1) := by decide +kernel
theorem dX9_line_82 : decode cX9_line 82 = .ok (.istore 5, 2) := by decide +kernel
theorem dX9_line_84 : decode cX9_line 84 = .ok (.aload_n 0, 1) := by decide +kernel
theorem dX9_line_85 : decode cX9_line 85 = .ok (.getfield 60, 3) := by decide +kernel
theorem dX9_line_88 : decode cX9_line 88 = .ok (.bipush 48, 2) := by decide +kernel
theorem dX9_line_90 : decode cX9_line 90 = .ok (.iload 4, 2) := by decide +kernel
theorem dX9_line_92 : decode cX9_line 92 = .ok (.invokestatic 206, 3) := by decide +kernel
theorem dX9_line_95 : decode cX9_line 95 = .ok (.iadd, 1) := by decide +kernel
theorem dX9_line_96 : decode cX9_line 96 = .ok (.i2c, 1) := by decide +kernel
theorem dX9_line_97 : decode cX9_line 97 = .ok (.invokevirtual 344, 3) := by decide +kernel
theorem dX9_line_100 : decode cX9_line 100 = .ok (.aload_n 0, 1) := by decide +kernel
theorem dX9_line_101 : decode cX9_line 101 = .ok (.getfield 60, 3) := by decide +kernel
theorem dX9_line_104 : decode cX9_line 104 = .ok (.iload 5, 2) := by decide +kernel
theorem dX9_line_106 : decode cX9_line 106 = .ok (.ifCond .eq 8, 3) := by decide +kernel
theorem dX9_line_109 : decode cX9_line 109 = .ok (.bipush 103, 2) := by decide +kernel
theorem dX9_line_111 : decode cX9_line 111 = .ok (.goto 5, 3) := by decide +kernel
theorem dX9_line_114 : decode cX9_line 114 = .ok (.bipush 102, 2) := by decide +kernel
theorem dX9_line_116 : decode cX9_line 116 = .ok (.invokevirtual 344, 3) := by decide +kernel
theorem dX9_line_119 : decode cX9_line 119 = .ok (.aload_n 0, 1) := by decide +kernel
theorem dX9_line_120 : decode cX9_line 120 = .ok (.getfield 60, 3) := by decide +kernel
theorem dX9_line_123 : decode cX9_line 123 = .ok (.bipush 48, 2) := by decide +kernel
theorem dX9_line_125 : decode cX9_line 125 = .ok (.iload 4, 2) := by decide +kernel
theorem dX9_line_127 : decode cX9_line 127 = .ok (.invokestatic 203, 3) := by decide +kernel
theorem dX9_line_130 : decode cX9_line 130 = .ok (.iadd, 1) := by decide +kernel
theorem dX9_line_131 : decode cX9_line 131 = .ok (.i2c, 1) := by decide +kernel
theorem dX9_line_132 : decode cX9_line 132 = .ok (.invokevirtual 344, 3) := by decide +kernel
theorem dX9_line_135 : decode cX9_line 135 = .ok (.iinc 3 1, 3) := by decide +kernel
theorem dX9_line_138 : decode cX9_line 138 = .ok (.goto (-104), 3) := by decide +kernel
theorem dX9_line_141 : decode cX9_line 141 = .ok (.aload_n 0, 1) := by decide +kernel
theorem dX9_line_142 : decode cX9_line 142 = .ok (.getfield 60, 3) := by decide +kernel
theorem dX9_line_145 : decode cX9_line 145 = .ok (.getfield 333, 3) := by decide +kernel
theorem dX9_line_148 : decode cX9_line 148 = .ok (.ireturn, 1) := by decide +kernel
theorem dX9_character_0 : decode cX9_character 0 = .ok (.iload_n 1, 1) := by decide +kernel
theorem dX9_character_1 : decode cX9_character 1 = .ok (.ifCond .lt 14, 3) := by decide +kernel
theorem dX9_character_4 : decode cX9_character 4 = .ok (.iload_n 1, 1) := by decide +kernel
theorem dX9_character_5 : decode cX9_character 5 = .ok (.aload_n 0, 1) := by decide +kernel
theorem dX9_character_6 : decode cX9_character 6 = .ok (.getfield 60, 3) := by decide +kernel
theorem dX9_character_9 : decode cX9_character 9 = .ok (.getfield 333, 3) := by decide +kernel
theorem dX9_character_12 : decode cX9_character 12 = .ok (.if_icmp .lt 14, 3) := by decide +kernel
theorem dX9_character_15 : decode cX9_character 15 = .ok (.new 245, 3) := by decide +kernel
theorem dX9_character_18 : decode cX9_character 18 = .ok (.dup, 1) := by decide +kernel
theorem dX9_character_19 : decode cX9_character 19 = .ok (.ldc_w 383, 3) := by decide +kernel
theorem dX9_character_22 : decode cX9_character 22 = .ok (.invokespecial 249, 3) := by decide +kernel
theorem dX9_character_25 : decode cX9_character 25 = .ok (.athrow, 1) := by decide +kernel
theorem dX9_character_26 : decode cX9_character 26 = .ok (.aload_n 0, 1) := by decide +kernel
theorem dX9_character_27 : decode cX9_character 27 = .ok (.getfield 60, 3) := by decide +kernel
theorem dX9_character_30 : decode cX9_character 30 = .ok (.iload_n 1, 1) := by decide +kernel
theorem dX9_character_31 : decode cX9_character 31 = .ok (.invokevirtual 385, 3) := by decide +kernel
theorem dX9_character_34 : decode cX9_character 34 = .ok (.ireturn, 1) := by decide +kernel
theorem dX9_undo_0 : decode cX9_undo 0 = .ok (.aload_n 0, 1) := by decide +kernel
theorem dX9_undo_1 : decode cX9_undo 1 = .ok (.getfield 25, 3) := by decide +kernel
theorem dX9_undo_4 : decode cX9_undo 4 = .ok (.getfield 331, 3) := by decide +kernel
theorem dX9_undo_7 : decode cX9_undo 7 = .ok (.ifCond .ne 14, 3) := by decide +kernel
theorem dX9_undo_10 : decode cX9_undo 10 = .ok (.new 339, 3) := by decide +kernel
theorem dX9_undo_13 : decode cX9_undo 13 = .ok (.dup, 1) := by decide +kernel
theorem dX9_undo_14 : decode cX9_undo 14 = .ok (.ldc_w 389, 3) := by decide +kernel
theorem dX9_undo_17 : decode cX9_undo 17 = .ok (.invokespecial 343, 3) := by decide +kernel
theorem dX9_undo_20 : decode cX9_undo 20 = .ok (.athrow, 1) := by decide +kernel
theorem dX9_undo_21 : decode cX9_undo 21 = .ok (.aload_n 0, 1) := by decide +kernel
theorem dX9_undo_22 : decode cX9_undo 22 = .ok (.getfield 25, 3) := by decide +kernel
theorem dX9_undo_25 : decode cX9_undo 25 = .ok (.aload_n 0, 1) := by decide +kernel
theorem dX9_undo_26 : decode cX9_undo 26 = .ok (.getfield 10, 3) := by decide +kernel
theorem dX9_undo_29 : decode cX9_undo 29 = .ok (.invokevirtual 391, 3) := by decide +kernel
theorem dX9_undo_32 : decode cX9_undo 32 = .ok (.aload_n 0, 1) := by decide +kernel
theorem dX9_undo_33 : decode cX9_undo 33 = .ok (.getfield 25, 3) := by decide +kernel
theorem dX9_undo_36 : decode cX9_undo 36 = .ok (.getfield 331, 3) := by decide +kernel
theorem dX9_undo_39 : decode cX9_undo 39 = .ok (.ireturn, 1) := by decide +kernel
theorem dX9_save_0 : decode cX9_save 0 = .ok (.aload_n 0, 1) := by decide +kernel
theorem dX9_save_1 : decode cX9_save 1 = .ok (.getfield 19, 3) := by decide +kernel
theorem dX9_save_4 : decode cX9_save 4 = .ok (.aload_n 0, 1) := by decide +kernel
theorem dX9_save_5 : decode cX9_save 5 = .ok (.getfield 10, 3) := by decide +kernel
theorem dX9_save_8 : decode cX9_save 8 = .ok (.invokevirtual 395, 3) := by decide +kernel
theorem dX9_save_11 : decode cX9_save 11 = .ok (.aload_n 0, 1) := by decide +kernel
theorem dX9_save_12 : decode cX9_save 12 = .ok (.iconst 1, 1) := by decide +kernel
theorem dX9_save_13 : decode cX9_save 13 = .ok (.putfield 397, 3) := by decide +kernel
theorem dX9_save_16 : decode cX9_save 16 = .ok (.aload_n 0, 1) := by decide +kernel
theorem dX9_save_17 : decode cX9_save 17 = .ok (.getfield 10, 3) := by decide +kernel
theorem dX9_save_20 : decode cX9_save 20 = .ok (.getfield 138, 3) := by decide +kernel
theorem dX9_save_23 : decode cX9_save 23 = .ok (.getfield 265, 3) := by decide +kernel
theorem dX9_save_26 : decode cX9_save 26 = .ok (.ireturn, 1) := by decide +kernel
theorem dX9_restore_0 : decode cX9_restore 0 = .ok (.aload_n 0, 1) := by decide +kernel
theorem dX9_restore_1 : decode cX9_restore 1 = .ok (.getfield 397, 3) := by decide +kernel
theorem dX9_restore_4 : decode cX9_restore 4 = .ok (.ifCond .ne 14, 3) := by decide +kernel
theorem dX9_restore_7 : decode cX9_restore 7 = .ok (.new 339, 3) := by decide +kernel
theorem dX9_restore_10 : decode cX9_restore 10 = .ok (.dup, 1) := by decide +kernel
theorem dX9_restore_11 : decode cX9_restore 11 = .ok (.ldc_w 400, 3) := by decide +kernel
theorem dX9_restore_14 : decode cX9_restore 14 = .ok (.invokespecial 343, 3) := by decide +kernel
theorem dX9_restore_17 : decode cX9_restore 17 = .ok (.athrow, 1) := by decide +kernel
theorem dX9_restore_18 : decode cX9_restore 18 = .ok (.aload_n 0, 1) := by decide +kernel
theorem dX9_restore_19 : decode cX9_restore 19 = .ok (.getfield 10, 3) := by decide +kernel
theorem dX9_restore_22 : decode cX9_restore 22 = .ok (.aload_n 0, 1) := by decide +kernel
theorem dX9_restore_23 : decode cX9_restore 23 = .ok (.getfield 19, 3) := by decide +kernel
theorem dX9_restore_26 : decode cX9_restore 26 = .ok (.invokevirtual 395, 3) := by decide +kernel
theorem dX9_restore_29 : decode cX9_restore 29 = .ok (.aload_n 0, 1) := by decide +kernel
theorem dX9_restore_30 : decode cX9_restore 30 = .ok (.getfield 25, 3) := by decide +kernel
theorem dX9_restore_33 : decode cX9_restore 33 = .ok (.iconst 0, 1) := by decide +kernel
theorem dX9_restore_34 : decode cX9_restore 34 = .ok (.putfield 331, 3) := by decide +kernel
theorem dX9_restore_37 : decode cX9_restore 37 = .ok (.aload_n 0, 1) := by decide +kernel
theorem dX9_restore_38 : decode cX9_restore 38 = .ok (.getfield 10, 3) := by decide +kernel
theorem dX9_restore_41 : decode cX9_restore 41 = .ok (.getfield 138, 3) := by decide +kernel
theorem dX9_restore_44 : decode cX9_restore 44 = .ok (.getfield 265, 3) := by decide +kernel
theorem dX9_restore_47 : decode cX9_restore 47 = .ok (.ireturn, 1) := by decide +kernel
theorem dX9_addBurrow_0 : decode cX9_addBurrow 0 = .ok (.aload_n 0, 1) := by decide +kernel
theorem dX9_addBurrow_1 : decode cX9_addBurrow 1 = .ok (.getfield 10, 3) := by decide +kernel
theorem dX9_addBurrow_4 : decode cX9_addBurrow 4 = .ok (.getfield 138, 3) := by decide +kernel
theorem dX9_addBurrow_7 : decode cX9_addBurrow 7 = .ok (.astore_n 1, 1) := by decide +kernel
theorem dX9_addBurrow_8 : decode cX9_addBurrow 8 = .ok (.aload_n 1, 1) := by decide +kernel
theorem dX9_addBurrow_9 : decode cX9_addBurrow 9 = .ok (.getfield 265, 3) := by decide +kernel
theorem dX9_addBurrow_12 : decode cX9_addBurrow 12 = .ok (.bipush 8, 2) := by decide +kernel
theorem dX9_addBurrow_14 : decode cX9_addBurrow 14 = .ok (.if_icmp .lt 11, 3) := by decide +kernel
theorem dX9_addBurrow_17 : decode cX9_addBurrow 17 = .ok (.aload_n 0, 1) := by decide +kernel
theorem dX9_addBurrow_18 : decode cX9_addBurrow 18 = .ok (.iconst 2, 1) := by decide +kernel
theorem dX9_addBurrow_19 : decode cX9_addBurrow 19 = .ok (.bipush 8, 2) := by decide +kernel
theorem dX9_addBurrow_21 : decode cX9_addBurrow 21 = .ok (.invokevirtual 402, 3) := by decide +kernel
theorem dX9_addBurrow_24 : decode cX9_addBurrow 24 = .ok (.ireturn, 1) := by decide +kernel
theorem dX9_addBurrow_25 : decode cX9_addBurrow 25 = .ok (.aload_n 1, 1) := by decide +kernel
theorem dX9_addBurrow_26 : decode cX9_addBurrow 26 = .ok (.dup, 1) := by decide +kernel
theorem dX9_addBurrow_27 : decode cX9_addBurrow 27 = .ok (.getfield 265, 3) := by decide +kernel
theorem dX9_addBurrow_30 : decode cX9_addBurrow 30 = .ok (.iconst 1, 1) := by decide +kernel
theorem dX9_addBurrow_31 : decode cX9_addBurrow 31 = .ok (.iadd, 1) := by decide +kernel
theorem dX9_addBurrow_32 : decode cX9_addBurrow 32 = .ok (.putfield 265, 3) := by decide +kernel
theorem dX9_addBurrow_35 : decode cX9_addBurrow 35 = .ok (.aload_n 0, 1) := by decide +kernel
theorem dX9_addBurrow_36 : decode cX9_addBurrow 36 = .ok (.invokevirtual 405, 3) := by decide +kernel
theorem dX9_addBurrow_39 : decode cX9_addBurrow 39 = .ok (.aload_n 1, 1) := by decide +kernel
theorem dX9_addBurrow_40 : decode cX9_addBurrow 40 = .ok (.getfield 265, 3) := by decide +kernel
theorem dX9_addBurrow_43 : decode cX9_addBurrow 43 = .ok (.iconst 1, 1) := by decide +kernel
theorem dX9_addBurrow_44 : decode cX9_addBurrow 44 = .ok (.isub, 1) := by decide +kernel
theorem dX9_addBurrow_45 : decode cX9_addBurrow 45 = .ok (.ireturn, 1) := by decide +kernel
theorem dX9_addPath_0 : decode cX9_addPath 0 = .ok (.aload_n 0, 1) := by decide +kernel
theorem dX9_addPath_1 : decode cX9_addPath 1 = .ok (.getfield 10, 3) := by decide +kernel
theorem dX9_addPath_4 : decode cX9_addPath 4 = .ok (.getfield 138, 3) := by decide +kernel
theorem dX9_addPath_7 : decode cX9_addPath 7 = .ok (.astore_n 3, 1) := by decide +kernel
theorem dX9_addPath_8 : decode cX9_addPath 8 = .ok (.aload_n 0, 1) := by decide +kernel
theorem dX9_addPath_9 : decode cX9_addPath 9 = .ok (.iload_n 1, 1) := by decide +kernel
theorem dX9_addPath_10 : decode cX9_addPath 10 = .ok (.invokevirtual 408, 3) := by decide +kernel
theorem dX9_addPath_13 : decode cX9_addPath 13 = .ok (.ifCond .ne 11, 3) := by decide +kernel
theorem dX9_addPath_16 : decode cX9_addPath 16 = .ok (.aload_n 0, 1) := by decide +kernel
theorem dX9_addPath_17 : decode cX9_addPath 17 = .ok (.iload_n 2, 1) := by decide +kernel
theorem dX9_addPath_18 : decode cX9_addPath 18 = .ok (.invokevirtual 408, 3) := by decide +kernel
theorem dX9_addPath_21 : decode cX9_addPath 21 = .ok (.ifCond .eq 5, 3) := by decide +kernel
theorem dX9_addPath_24 : decode cX9_addPath 24 = .ok (.iconst (-1), 1) := by decide +kernel
theorem dX9_addPath_25 : decode cX9_addPath 25 = .ok (.ireturn, 1) := by decide +kernel
theorem dX9_addPath_26 : decode cX9_addPath 26 = .ok (.iload_n 1, 1) := by decide +kernel
theorem dX9_addPath_27 : decode cX9_addPath 27 = .ok (.iload_n 2, 1) := by decide +kernel
theorem dX9_addPath_28 : decode cX9_addPath 28 = .ok (.if_icmp .ne 10, 3) := by decide +kernel
theorem dX9_addPath_31 : decode cX9_addPath 31 = .ok (.aload_n 0, 1) := by decide +kernel
theorem dX9_addPath_32 : decode cX9_addPath 32 = .ok (.iconst 4, 1) := by decide +kernel
theorem dX9_addPath_33 : decode cX9_addPath 33 = .ok (.iload_n 1, 1) := by decide +kernel
theorem dX9_addPath_34 : decode cX9_addPath 34 = .ok (.invokevirtual 402, 3) := by decide +kernel
theorem dX9_addPath_37 : decode cX9_addPath 37 = .ok (.ireturn, 1) := by decide +kernel
theorem dX9_addPath_38 : decode cX9_addPath 38 = .ok (.aload_n 3, 1) := by decide +kernel
theorem dX9_addPath_39 : decode cX9_addPath 39 = .ok (.iload_n 1, 1) := by decide +kernel
theorem dX9_addPath_40 : decode cX9_addPath 40 = .ok (.iload_n 2, 1) := by decide +kernel
theorem dX9_addPath_41 : decode cX9_addPath 41 = .ok (.invokevirtual 411, 3) := by decide +kernel
theorem dX9_addPath_44 : decode cX9_addPath 44 = .ok (.iconst (-1), 1) := by decide +kernel
theorem dX9_addPath_45 : decode cX9_addPath 45 = .ok (.if_icmp .eq 10, 3) := by decide +kernel
theorem dX9_addPath_48 : decode cX9_addPath 48 = .ok (.aload_n 0, 1) := by decide +kernel
theorem dX9_addPath_49 : decode cX9_addPath 49 = .ok (.iconst 5, 1) := by decide +kernel
theorem dX9_addPath_50 : decode cX9_addPath 50 = .ok (.iconst 0, 1) := by decide +kernel
theorem dX9_addPath_51 : decode cX9_addPath 51 = .ok (.invokevirtual 402, 3) := by decide +kernel
theorem dX9_addPath_54 : decode cX9_addPath 54 = .ok (.ireturn, 1) := by decide +kernel
theorem dX9_addPath_55 : decode cX9_addPath 55 = .ok (.aload_n 3, 1) := by decide +kernel
theorem dX9_addPath_56 : decode cX9_addPath 56 = .ok (.getfield 299, 3) := by decide +kernel
theorem dX9_addPath_59 : decode cX9_addPath 59 = .ok (.bipush 16, 2) := by decide +kernel
theorem dX9_addPath_61 : decode cX9_addPath 61 = .ok (.if_icmp .lt 11, 3) := by decide +kernel
theorem dX9_addPath_64 : decode cX9_addPath 64 = .ok (.aload_n 0, 1) := by decide +kernel
theorem dX9_addPath_65 : decode cX9_addPath 65 = .ok (.iconst 2, 1) := by decide +kernel
theorem dX9_addPath_66 : decode cX9_addPath 66 = .ok (.bipush 16, 2) := by decide +kernel
theorem dX9_addPath_68 : decode cX9_addPath 68 = .ok (.invokevirtual 402, 3) := by decide +kernel
theorem dX9_addPath_71 : decode cX9_addPath 71 = .ok (.ireturn, 1) := by decide +kernel
theorem dX9_addPath_72 : decode cX9_addPath 72 = .ok (.aload_n 3, 1) := by decide +kernel
theorem dX9_addPath_73 : decode cX9_addPath 73 = .ok (.iload_n 1, 1) := by decide +kernel
theorem dX9_addPath_74 : decode cX9_addPath 74 = .ok (.iload_n 2, 1) := by decide +kernel
theorem dX9_addPath_75 : decode cX9_addPath 75 = .ok (.invokevirtual 414, 3) := by decide +kernel
theorem dX9_addPath_78 : decode cX9_addPath 78 = .ok (.aload_n 0, 1) := by decide +kernel
theorem dX9_addPath_79 : decode cX9_addPath 79 = .ok (.invokevirtual 405, 3) := by decide +kernel
theorem dX9_addPath_82 : decode cX9_addPath 82 = .ok (.aload_n 3, 1) := by decide +kernel
theorem dX9_addPath_83 : decode cX9_addPath 83 = .ok (.getfield 299, 3) := by decide +kernel
theorem dX9_addPath_86 : decode cX9_addPath 86 = .ok (.iconst 1, 1) := by decide +kernel
theorem dX9_addPath_87 : decode cX9_addPath 87 = .ok (.isub, 1) := by decide +kernel
theorem dX9_addPath_88 : decode cX9_addPath 88 = .ok (.ireturn, 1) := by decide +kernel
theorem dX9_dropPath_0 : decode cX9_dropPath 0 = .ok (.aload_n 0, 1) := by decide +kernel
theorem dX9_dropPath_1 : decode cX9_dropPath 1 = .ok (.getfield 10, 3) := by decide +kernel
theorem dX9_dropPath_4 : decode cX9_dropPath 4 = .ok (.getfield 138, 3) := by decide +kernel
theorem dX9_dropPath_7 : decode cX9_dropPath 7 = .ok (.astore_n 3, 1) := by decide +kernel
theorem dX9_dropPath_8 : decode cX9_dropPath 8 = .ok (.aload_n 0, 1) := by decide +kernel
theorem dX9_dropPath_9 : decode cX9_dropPath 9 = .ok (.iload_n 1, 1) := by decide +kernel
theorem dX9_dropPath_10 : decode cX9_dropPath 10 = .ok (.invokevirtual 408, 3) := by decide +kernel
theorem dX9_dropPath_13 : decode cX9_dropPath 13 = .ok (.ifCond .ne 11, 3) := by decide +kernel
theorem dX9_dropPath_16 : decode cX9_dropPath 16 = .ok (.aload_n 0, 1) := by decide +kernel
theorem dX9_dropPath_17 : decode cX9_dropPath 17 = .ok (.iload_n 2, 1) := by decide +kernel
theorem dX9_dropPath_18 : decode cX9_dropPath 18 = .ok (.invokevirtual 408, 3) := by decide +kernel
theorem dX9_dropPath_21 : decode cX9_dropPath 21 = .ok (.ifCond .eq 5, 3) := by decide +kernel
theorem dX9_dropPath_24 : decode cX9_dropPath 24 = .ok (.iconst (-1), 1) := by decide +kernel
theorem dX9_dropPath_25 : decode cX9_dropPath 25 = .ok (.ireturn, 1) := by decide +kernel
theorem dX9_dropPath_26 : decode cX9_dropPath 26 = .ok (.aload_n 3, 1) := by decide +kernel
theorem dX9_dropPath_27 : decode cX9_dropPath 27 = .ok (.iload_n 1, 1) := by decide +kernel
theorem dX9_dropPath_28 : decode cX9_dropPath 28 = .ok (.iload_n 2, 1) := by decide +kernel
theorem dX9_dropPath_29 : decode cX9_dropPath 29 = .ok (.invokevirtual 411, 3) := by decide +kernel
theorem dX9_dropPath_32 : decode cX9_dropPath 32 = .ok (.istore 4, 2) := by decide +kernel
theorem dX9_dropPath_34 : decode cX9_dropPath 34 = .ok (.iload 4, 2) := by decide +kernel
theorem dX9_dropPath_36 : decode cX9_dropPath 36 = .ok (.iconst (-1), 1) := by decide +kernel
theorem dX9_dropPath_37 : decode cX9_dropPath 37 = .ok (.if_icmp .ne 11, 3) := by decide +kernel
theorem dX9_dropPath_40 : decode cX9_dropPath 40 = .ok (.aload_n 0, 1) := by decide +kernel
theorem dX9_dropPath_41 : decode cX9_dropPath 41 = .ok (.bipush 6, 2) := by decide +kernel
theorem dX9_dropPath_43 : decode cX9_dropPath 43 = .ok (.iload_n 1, 1) := by decide +kernel
theorem dX9_dropPath_44 : decode cX9_dropPath 44 = .ok (.invokevirtual 402, 3) := by decide +kernel
theorem dX9_dropPath_47 : decode cX9_dropPath 47 = .ok (.ireturn, 1) := by decide +kernel
theorem dX9_dropPath_48 : decode cX9_dropPath 48 = .ok (.aload_n 3, 1) := by decide +kernel
theorem dX9_dropPath_49 : decode cX9_dropPath 49 = .ok (.iload 4, 2) := by decide +kernel
theorem dX9_dropPath_51 : decode cX9_dropPath 51 = .ok (.invokevirtual 417, 3) := by decide +kernel
theorem dX9_dropPath_54 : decode cX9_dropPath 54 = .ok (.aload_n 0, 1) := by decide +kernel
theorem dX9_dropPath_55 : decode cX9_dropPath 55 = .ok (.invokevirtual 405, 3) := by decide +kernel
theorem dX9_dropPath_58 : decode cX9_dropPath 58 = .ok (.aload_n 3, 1) := by decide +kernel
theorem dX9_dropPath_59 : decode cX9_dropPath 59 = .ok (.getfield 299, 3) := by decide +kernel
theorem dX9_dropPath_62 : decode cX9_dropPath 62 = .ok (.ireturn, 1) := by decide +kernel
theorem dX9_turnTrap_0 : decode cX9_turnTrap 0 = .ok (.aload_n 0, 1) := by decide +kernel
theorem dX9_turnTrap_1 : decode cX9_turnTrap 1 = .ok (.getfield 10, 3) := by decide +kernel
theorem dX9_turnTrap_4 : decode cX9_turnTrap 4 = .ok (.getfield 138, 3) := by decide +kernel
theorem dX9_turnTrap_7 : decode cX9_turnTrap 7 = .ok (.astore_n 3, 1) := by decide +kernel
theorem dX9_turnTrap_8 : decode cX9_turnTrap 8 = .ok (.aload_n 0, 1) := by decide +kernel
theorem dX9_turnTrap_9 : decode cX9_turnTrap 9 = .ok (.iload_n 1, 1) := by decide +kernel
theorem dX9_turnTrap_10 : decode cX9_turnTrap 10 = .ok (.invokevirtual 408, 3) := by decide +kernel
theorem dX9_turnTrap_13 : decode cX9_turnTrap 13 = .ok (.ifCond .eq 5, 3) := by decide +kernel
theorem dX9_turnTrap_16 : decode cX9_turnTrap 16 = .ok (.iconst (-1), 1) := by decide +kernel
theorem dX9_turnTrap_17 : decode cX9_turnTrap 17 = .ok (.ireturn, 1) := by decide +kernel
theorem dX9_turnTrap_18 : decode cX9_turnTrap 18 = .ok (.aload_n 3, 1) := by decide +kernel
theorem dX9_turnTrap_19 : decode cX9_turnTrap 19 = .ok (.iload_n 1, 1) := by decide +kernel
theorem dX9_turnTrap_20 : decode cX9_turnTrap 20 = .ok (.invokevirtual 293, 3) := by decide +kernel
theorem dX9_turnTrap_23 : decode cX9_turnTrap 23 = .ok (.iload_n 2, 1) := by decide +kernel
theorem dX9_turnTrap_24 : decode cX9_turnTrap 24 = .ok (.if_icmp .ne 10, 3) := by decide +kernel
theorem dX9_turnTrap_27 : decode cX9_turnTrap 27 = .ok (.aload_n 0, 1) := by decide +kernel
theorem dX9_turnTrap_28 : decode cX9_turnTrap 28 = .ok (.iconst 5, 1) := by decide +kernel
theorem dX9_turnTrap_29 : decode cX9_turnTrap 29 = .ok (.iconst 0, 1) := by decide +kernel
theorem dX9_turnTrap_30 : decode cX9_turnTrap 30 = .ok (.invokevirtual 402, 3) := by decide +kernel
theorem dX9_turnTrap_33 : decode cX9_turnTrap 33 = .ok (.ireturn, 1) := by decide +kernel
theorem dX9_turnTrap_34 : decode cX9_turnTrap 34 = .ok (.aload_n 3, 1) := by decide +kernel
theorem dX9_turnTrap_35 : decode cX9_turnTrap 35 = .ok (.dup, 1) := by decide +kernel
theorem dX9_turnTrap_36 : decode cX9_turnTrap 36 = .ok (.getfield 319, 3) := by decide +kernel
theorem dX9_turnTrap_39 : decode cX9_turnTrap 39 = .ok (.iconst 1, 1) := by decide +kernel
theorem dX9_turnTrap_40 : decode cX9_turnTrap 40 = .ok (.iload_n 1, 1) := by decide +kernel
theorem dX9_turnTrap_41 : decode cX9_turnTrap 41 = .ok (.ishl, 1) := by decide +kernel
theorem dX9_turnTrap_42 : decode cX9_turnTrap 42 = .ok (.ixor, 1) := by decide +kernel
theorem dX9_turnTrap_43 : decode cX9_turnTrap 43 = .ok (.putfield 319, 3) := by decide +kernel
theorem dX9_turnTrap_46 : decode cX9_turnTrap 46 = .ok (.aload_n 0, 1) := by decide +kernel
theorem dX9_turnTrap_47 : decode cX9_turnTrap 47 = .ok (.invokevirtual 405, 3) := by decide +kernel
theorem dX9_turnTrap_50 : decode cX9_turnTrap 50 = .ok (.aload_n 3, 1) := by decide +kernel
theorem dX9_turnTrap_51 : decode cX9_turnTrap 51 = .ok (.getfield 319, 3) := by decide +kernel
theorem dX9_turnTrap_54 : decode cX9_turnTrap 54 = .ok (.invokestatic 286, 3) := by decide +kernel
theorem dX9_turnTrap_57 : decode cX9_turnTrap 57 = .ok (.ireturn, 1) := by decide +kernel
theorem dX9_setGeese_0 : decode cX9_setGeese 0 = .ok (.iload_n 1, 1) := by decide +kernel
theorem dX9_setGeese_1 : decode cX9_setGeese 1 = .ok (.iconst 1, 1) := by decide +kernel
theorem dX9_setGeese_2 : decode cX9_setGeese 2 = .ok (.if_icmp .lt 8, 3) := by decide +kernel
theorem dX9_setGeese_5 : decode cX9_setGeese 5 = .ok (.iload_n 1, 1) := by decide +kernel
theorem dX9_setGeese_6 : decode cX9_setGeese 6 = .ok (.iconst 2, 1) := by decide +kernel
theorem dX9_setGeese_7 : decode cX9_setGeese 7 = .ok (.if_icmp .le 10, 3) := by decide +kernel
theorem dX9_setGeese_10 : decode cX9_setGeese 10 = .ok (.aload_n 0, 1) := by decide +kernel
theorem dX9_setGeese_11 : decode cX9_setGeese 11 = .ok (.iconst 1, 1) := by decide +kernel
theorem dX9_setGeese_12 : decode cX9_setGeese 12 = .ok (.iconst 0, 1) := by decide +kernel
theorem dX9_setGeese_13 : decode cX9_setGeese 13 = .ok (.invokevirtual 402, 3) := by decide +kernel
theorem dX9_setGeese_16 : decode cX9_setGeese 16 = .ok (.ireturn, 1) := by decide +kernel
theorem dX9_setGeese_17 : decode cX9_setGeese 17 = .ok (.aload_n 0, 1) := by decide +kernel
theorem dX9_setGeese_18 : decode cX9_setGeese 18 = .ok (.getfield 10, 3) := by decide +kernel
theorem dX9_setGeese_21 : decode cX9_setGeese 21 = .ok (.getfield 138, 3) := by decide +kernel
theorem dX9_setGeese_24 : decode cX9_setGeese 24 = .ok (.getfield 322, 3) := by decide +kernel
theorem dX9_setGeese_27 : decode cX9_setGeese 27 = .ok (.istore_n 2, 1) := by decide +kernel
theorem dX9_setGeese_28 : decode cX9_setGeese 28 = .ok (.iload_n 1, 1) := by decide +kernel
theorem dX9_setGeese_29 : decode cX9_setGeese 29 = .ok (.iload_n 2, 1) := by decide +kernel
theorem dX9_setGeese_30 : decode cX9_setGeese 30 = .ok (.if_icmp .ne 10, 3) := by decide +kernel
theorem dX9_setGeese_33 : decode cX9_setGeese 33 = .ok (.aload_n 0, 1) := by decide +kernel
theorem dX9_setGeese_34 : decode cX9_setGeese 34 = .ok (.iconst 5, 1) := by decide +kernel
theorem dX9_setGeese_35 : decode cX9_setGeese 35 = .ok (.iconst 0, 1) := by decide +kernel
theorem dX9_setGeese_36 : decode cX9_setGeese 36 = .ok (.invokevirtual 402, 3) := by decide +kernel
theorem dX9_setGeese_39 : decode cX9_setGeese 39 = .ok (.ireturn, 1) := by decide +kernel
theorem dX9_setGeese_40 : decode cX9_setGeese 40 = .ok (.aload_n 0, 1) := by decide +kernel
theorem dX9_setGeese_41 : decode cX9_setGeese 41 = .ok (.getfield 10, 3) := by decide +kernel
theorem dX9_setGeese_44 : decode cX9_setGeese 44 = .ok (.getfield 138, 3) := by decide +kernel
theorem dX9_setGeese_47 : decode cX9_setGeese 47 = .ok (.iload_n 1, 1) := by decide +kernel
theorem dX9_setGeese_48 : decode cX9_setGeese 48 = .ok (.putfield 322, 3) := by decide +kernel
theorem dX9_setGeese_51 : decode cX9_setGeese 51 = .ok (.aload_n 0, 1) := by decide +kernel
theorem dX9_setGeese_52 : decode cX9_setGeese 52 = .ok (.invokevirtual 405, 3) := by decide +kernel
theorem dX9_setGeese_55 : decode cX9_setGeese 55 = .ok (.iload_n 2, 1) := by decide +kernel
theorem dX9_setGeese_56 : decode cX9_setGeese 56 = .ok (.ireturn, 1) := by decide +kernel
theorem dX9_startGame_0 : decode cX9_startGame 0 = .ok (.aload_n 0, 1) := by decide +kernel
theorem dX9_startGame_1 : decode cX9_startGame 1 = .ok (.getfield 10, 3) := by decide +kernel
theorem dX9_startGame_4 : decode cX9_startGame 4 = .ok (.getfield 138, 3) := by decide +kernel
theorem dX9_startGame_7 : decode cX9_startGame 7 = .ok (.iload_n 1, 1) := by decide +kernel
theorem dX9_startGame_8 : decode cX9_startGame 8 = .ok (.invokevirtual 268, 3) := by decide +kernel
theorem dX9_startGame_11 : decode cX9_startGame 11 = .ok (.ifCond .ne 11, 3) := by decide +kernel
theorem dX9_startGame_14 : decode cX9_startGame 14 = .ok (.aload_n 0, 1) := by decide +kernel
theorem dX9_startGame_15 : decode cX9_startGame 15 = .ok (.bipush 7, 2) := by decide +kernel
theorem dX9_startGame_17 : decode cX9_startGame 17 = .ok (.iload_n 1, 1) := by decide +kernel
theorem dX9_startGame_18 : decode cX9_startGame 18 = .ok (.invokevirtual 402, 3) := by decide +kernel
theorem dX9_startGame_21 : decode cX9_startGame 21 = .ok (.ireturn, 1) := by decide +kernel
theorem dX9_startGame_22 : decode cX9_startGame 22 = .ok (.aload_n 0, 1) := by decide +kernel
theorem dX9_startGame_23 : decode cX9_startGame 23 = .ok (.getfield 10, 3) := by decide +kernel
theorem dX9_startGame_26 : decode cX9_startGame 26 = .ok (.getfield 118, 3) := by decide +kernel
theorem dX9_startGame_29 : decode cX9_startGame 29 = .ok (.iload_n 1, 1) := by decide +kernel
theorem dX9_startGame_30 : decode cX9_startGame 30 = .ok (.invokevirtual 420, 3) := by decide +kernel
theorem dX9_startGame_33 : decode cX9_startGame 33 = .ok (.aload_n 0, 1) := by decide +kernel
theorem dX9_startGame_34 : decode cX9_startGame 34 = .ok (.getfield 10, 3) := by decide +kernel
theorem dX9_startGame_37 : decode cX9_startGame 37 = .ok (.dup, 1) := by decide +kernel
theorem dX9_startGame_38 : decode cX9_startGame 38 = .ok (.getfield 328, 3) := by decide +kernel
theorem dX9_startGame_41 : decode cX9_startGame 41 = .ok (.iconst 1, 1) := by decide +kernel
theorem dX9_startGame_42 : decode cX9_startGame 42 = .ok (.iadd, 1) := by decide +kernel
theorem dX9_startGame_43 : decode cX9_startGame 43 = .ok (.putfield 328, 3) := by decide +kernel
theorem dX9_startGame_46 : decode cX9_startGame 46 = .ok (.aload_n 0, 1) := by decide +kernel
theorem dX9_startGame_47 : decode cX9_startGame 47 = .ok (.getfield 10, 3) := by decide +kernel
theorem dX9_startGame_50 : decode cX9_startGame 50 = .ok (.getfield 138, 3) := by decide +kernel
theorem dX9_startGame_53 : decode cX9_startGame 53 = .ok (.iload_n 1, 1) := by decide +kernel
theorem dX9_startGame_54 : decode cX9_startGame 54 = .ok (.invokevirtual 172, 3) := by decide +kernel
theorem dX9_startGame_57 : decode cX9_startGame 57 = .ok (.invokestatic 176, 3) := by decide +kernel
theorem dX9_startGame_60 : decode cX9_startGame 60 = .ok (.ireturn, 1) := by decide +kernel
theorem dX9_makeMove_0 : decode cX9_makeMove 0 = .ok (.aload_n 0, 1) := by decide +kernel
theorem dX9_makeMove_1 : decode cX9_makeMove 1 = .ok (.getfield 10, 3) := by decide +kernel
theorem dX9_makeMove_4 : decode cX9_makeMove 4 = .ok (.getfield 118, 3) := by decide +kernel
theorem dX9_makeMove_7 : decode cX9_makeMove 7 = .ok (.astore_n 3, 1) := by decide +kernel
theorem dX9_makeMove_8 : decode cX9_makeMove 8 = .ok (.aload_n 3, 1) := by decide +kernel
theorem dX9_makeMove_9 : decode cX9_makeMove 9 = .ok (.getfield 122, 3) := by decide +kernel
theorem dX9_makeMove_12 : decode cX9_makeMove 12 = .ok (.ifCond .ne 11, 3) := by decide +kernel
theorem dX9_makeMove_15 : decode cX9_makeMove 15 = .ok (.aload_n 0, 1) := by decide +kernel
theorem dX9_makeMove_16 : decode cX9_makeMove 16 = .ok (.bipush 8, 2) := by decide +kernel
theorem dX9_makeMove_18 : decode cX9_makeMove 18 = .ok (.iconst 0, 1) := by decide +kernel
theorem dX9_makeMove_19 : decode cX9_makeMove 19 = .ok (.invokevirtual 402, 3) := by decide +kernel
theorem dX9_makeMove_22 : decode cX9_makeMove 22 = .ok (.ireturn, 1) := by decide +kernel
theorem dX9_makeMove_23 : decode cX9_makeMove 23 = .ok (.aload_n 3, 1) := by decide +kernel
theorem dX9_makeMove_24 : decode cX9_makeMove 24 = .ok (.invokevirtual 135, 3) := by decide +kernel
theorem dX9_makeMove_27 : decode cX9_makeMove 27 = .ok (.istore 4, 2) := by decide +kernel
theorem dX9_makeMove_29 : decode cX9_makeMove 29 = .ok (.aload_n 0, 1) := by decide +kernel
theorem dX9_makeMove_30 : decode cX9_makeMove 30 = .ok (.getfield 10, 3) := by decide +kernel
theorem dX9_makeMove_33 : decode cX9_makeMove 33 = .ok (.getfield 138, 3) := by decide +kernel
theorem dX9_makeMove_36 : decode cX9_makeMove 36 = .ok (.iload 4, 2) := by decide +kernel
theorem dX9_makeMove_38 : decode cX9_makeMove 38 = .ok (.invokevirtual 172, 3) := by decide +kernel
theorem dX9_makeMove_41 : decode cX9_makeMove 41 = .ok (.invokestatic 176, 3) := by decide +kernel
theorem dX9_makeMove_44 : decode cX9_makeMove 44 = .ok (.istore 5, 2) := by decide +kernel
theorem dX9_makeMove_46 : decode cX9_makeMove 46 = .ok (.iload 5, 2) := by decide +kernel
theorem dX9_makeMove_48 : decode cX9_makeMove 48 = .ok (.ifCond .ne 14, 3) := by decide +kernel
theorem dX9_makeMove_51 : decode cX9_makeMove 51 = .ok (.aload_n 0, 1) := by decide +kernel
theorem dX9_makeMove_52 : decode cX9_makeMove 52 = .ok (.bipush 9, 2) := by decide +kernel
theorem dX9_makeMove_54 : decode cX9_makeMove 54 = .ok (.aload_n 3, 1) := by decide +kernel
theorem dX9_makeMove_55 : decode cX9_makeMove 55 = .ok (.getfield 325, 3) := by decide +kernel
theorem dX9_makeMove_58 : decode cX9_makeMove 58 = .ok (.invokevirtual 402, 3) := by decide +kernel
theorem dX9_makeMove_61 : decode cX9_makeMove 61 = .ok (.ireturn, 1) := by decide +kernel
theorem dX9_makeMove_62 : decode cX9_makeMove 62 = .ok (.aload_n 0, 1) := by decide +kernel
theorem dX9_makeMove_63 : decode cX9_makeMove 63 = .ok (.getfield 10, 3) := by decide +kernel
theorem dX9_makeMove_66 : decode cX9_makeMove 66 = .ok (.getfield 138, 3) := by decide +kernel
theorem dX9_makeMove_69 : decode cX9_makeMove 69 = .ok (.iload 4, 2) := by decide +kernel
theorem dX9_makeMove_71 : decode cX9_makeMove 71 = .ok (.iload_n 1, 1) := by decide +kernel
theorem dX9_makeMove_72 : decode cX9_makeMove 72 = .ok (.iload_n 2, 1) := by decide +kernel
theorem dX9_makeMove_73 : decode cX9_makeMove 73 = .ok (.invokevirtual 215, 3) := by decide +kernel
theorem dX9_makeMove_76 : decode cX9_makeMove 76 = .ok (.ifCond .ne 12, 3) := by decide +kernel
theorem dX9_makeMove_79 : decode cX9_makeMove 79 = .ok (.aload_n 0, 1) := by decide +kernel
theorem dX9_makeMove_80 : decode cX9_makeMove 80 = .ok (.bipush 10, 2) := by decide +kernel
theorem dX9_makeMove_82 : decode cX9_makeMove 82 = .ok (.iload 5, 2) := by decide +kernel
theorem dX9_makeMove_84 : decode cX9_makeMove 84 = .ok (.invokevirtual 402, 3) := by decide +kernel
theorem dX9_makeMove_87 : decode cX9_makeMove 87 = .ok (.ireturn, 1) := by decide +kernel
theorem dX9_makeMove_88 : decode cX9_makeMove 88 = .ok (.aload_n 3, 1) := by decide +kernel
theorem dX9_makeMove_89 : decode cX9_makeMove 89 = .ok (.getfield 325, 3) := by decide +kernel
theorem dX9_makeMove_92 : decode cX9_makeMove 92 = .ok (.bipush 40, 2) := by decide +kernel
theorem dX9_makeMove_94 : decode cX9_makeMove 94 = .ok (.if_icmp .lt 11, 3) := by decide +kernel
theorem dX9_makeMove_97 : decode cX9_makeMove 97 = .ok (.aload_n 0, 1) := by decide +kernel
theorem dX9_makeMove_98 : decode cX9_makeMove 98 = .ok (.iconst 2, 1) := by decide +kernel
theorem dX9_makeMove_99 : decode cX9_makeMove 99 = .ok (.bipush 40, 2) := by decide +kernel
theorem dX9_makeMove_101 : decode cX9_makeMove 101 = .ok (.invokevirtual 402, 3) := by decide +kernel
theorem dX9_makeMove_104 : decode cX9_makeMove 104 = .ok (.ireturn, 1) := by decide +kernel
theorem dX9_makeMove_105 : decode cX9_makeMove 105 = .ok (.iload 4, 2) := by decide +kernel
theorem dX9_makeMove_107 : decode cX9_makeMove 107 = .ok (.iload_n 1, 1) := by decide +kernel
theorem dX9_makeMove_108 : decode cX9_makeMove 108 = .ok (.iload_n 2, 1) := by decide +kernel
theorem dX9_makeMove_109 : decode cX9_makeMove 109 = .ok (.invokestatic 220, 3) := by decide +kernel
theorem dX9_makeMove_112 : decode cX9_makeMove 112 = .ok (.istore 6, 2) := by decide +kernel
theorem dX9_makeMove_114 : decode cX9_makeMove 114 = .ok (.aload_n 3, 1) := by decide +kernel
theorem dX9_makeMove_115 : decode cX9_makeMove 115 = .ok (.iload_n 1, 1) := by decide +kernel
theorem dX9_makeMove_116 : decode cX9_makeMove 116 = .ok (.iload_n 2, 1) := by decide +kernel
theorem dX9_makeMove_117 : decode cX9_makeMove 117 = .ok (.invokestatic 423, 3) := by decide +kernel
theorem dX9_makeMove_120 : decode cX9_makeMove 120 = .ok (.iload 6, 2) := by decide +kernel
theorem dX9_makeMove_122 : decode cX9_makeMove 122 = .ok (.invokevirtual 426, 3) := by decide +kernel
theorem dX9_makeMove_125 : decode cX9_makeMove 125 = .ok (.aload_n 0, 1) := by decide +kernel
theorem dX9_makeMove_126 : decode cX9_makeMove 126 = .ok (.getfield 10, 3) := by decide +kernel
theorem dX9_makeMove_129 : decode cX9_makeMove 129 = .ok (.getfield 138, 3) := by decide +kernel
theorem dX9_makeMove_132 : decode cX9_makeMove 132 = .ok (.iload 6, 2) := by decide +kernel
theorem dX9_makeMove_134 : decode cX9_makeMove 134 = .ok (.invokevirtual 172, 3) := by decide +kernel
theorem dX9_makeMove_137 : decode cX9_makeMove 137 = .ok (.invokestatic 176, 3) := by decide +kernel
theorem dX9_makeMove_140 : decode cX9_makeMove 140 = .ok (.ireturn, 1) := by decide +kernel
theorem dX9_letPlay_0 : decode cX9_letPlay 0 = .ok (.aload_n 0, 1) := by decide +kernel
theorem dX9_letPlay_1 : decode cX9_letPlay 1 = .ok (.getfield 10, 3) := by decide +kernel
theorem dX9_letPlay_4 : decode cX9_letPlay 4 = .ok (.getfield 118, 3) := by decide +kernel
theorem dX9_letPlay_7 : decode cX9_letPlay 7 = .ok (.astore_n 2, 1) := by decide +kernel
theorem dX9_letPlay_8 : decode cX9_letPlay 8 = .ok (.iload_n 1, 1) := by decide +kernel
theorem dX9_letPlay_9 : decode cX9_letPlay 9 = .ok (.iconst 1, 1) := by decide +kernel
theorem dX9_letPlay_10 : decode cX9_letPlay 10 = .ok (.if_icmp .lt 9, 3) := by decide +kernel
theorem dX9_letPlay_13 : decode cX9_letPlay 13 = .ok (.iload_n 1, 1) := by decide +kernel
theorem dX9_letPlay_14 : decode cX9_letPlay 14 = .ok (.bipush 40, 2) := by decide +kernel
theorem dX9_letPlay_16 : decode cX9_letPlay 16 = .ok (.if_icmp .le 10, 3) := by decide +kernel
theorem dX9_letPlay_19 : decode cX9_letPlay 19 = .ok (.aload_n 0, 1) := by decide +kernel
theorem dX9_letPlay_20 : decode cX9_letPlay 20 = .ok (.iconst 1, 1) := by decide +kernel
theorem dX9_letPlay_21 : decode cX9_letPlay 21 = .ok (.iconst 0, 1) := by decide +kernel
theorem dX9_letPlay_22 : decode cX9_letPlay 22 = .ok (.invokevirtual 402, 3) := by decide +kernel
theorem dX9_letPlay_25 : decode cX9_letPlay 25 = .ok (.ireturn, 1) := by decide +kernel
theorem dX9_letPlay_26 : decode cX9_letPlay 26 = .ok (.aload_n 2, 1) := by decide +kernel
theorem dX9_letPlay_27 : decode cX9_letPlay 27 = .ok (.getfield 122, 3) := by decide +kernel
theorem dX9_letPlay_30 : decode cX9_letPlay 30 = .ok (.ifCond .ne 11, 3) := by decide +kernel
theorem dX9_letPlay_33 : decode cX9_letPlay 33 = .ok (.aload_n 0, 1) := by decide +kernel
theorem dX9_letPlay_34 : decode cX9_letPlay 34 = .ok (.bipush 8, 2) := by decide +kernel
theorem dX9_letPlay_36 : decode cX9_letPlay 36 = .ok (.iconst 0, 1) := by decide +kernel
theorem dX9_letPlay_37 : decode cX9_letPlay 37 = .ok (.invokevirtual 402, 3) := by decide +kernel
theorem dX9_letPlay_40 : decode cX9_letPlay 40 = .ok (.ireturn, 1) := by decide +kernel
theorem dX9_letPlay_41 : decode cX9_letPlay 41 = .ok (.aload_n 0, 1) := by decide +kernel
theorem dX9_letPlay_42 : decode cX9_letPlay 42 = .ok (.getfield 10, 3) := by decide +kernel
theorem dX9_letPlay_45 : decode cX9_letPlay 45 = .ok (.getfield 138, 3) := by decide +kernel
theorem dX9_letPlay_48 : decode cX9_letPlay 48 = .ok (.aload_n 2, 1) := by decide +kernel
theorem dX9_letPlay_49 : decode cX9_letPlay 49 = .ok (.invokevirtual 135, 3) := by decide +kernel
theorem dX9_letPlay_52 : decode cX9_letPlay 52 = .ok (.invokevirtual 172, 3) := by decide +kernel
theorem dX9_letPlay_55 : decode cX9_letPlay 55 = .ok (.lconst 0, 1) := by decide +kernel
theorem dX9_letPlay_56 : decode cX9_letPlay 56 = .ok (.lcmp, 1) := by decide +kernel
theorem dX9_letPlay_57 : decode cX9_letPlay 57 = .ok (.ifCond .ne 14, 3) := by decide +kernel
theorem dX9_letPlay_60 : decode cX9_letPlay 60 = .ok (.aload_n 0, 1) := by decide +kernel
theorem dX9_letPlay_61 : decode cX9_letPlay 61 = .ok (.bipush 9, 2) := by decide +kernel
theorem dX9_letPlay_63 : decode cX9_letPlay 63 = .ok (.aload_n 2, 1) := by decide +kernel
theorem dX9_letPlay_64 : decode cX9_letPlay 64 = .ok (.getfield 325, 3) := by decide +kernel
theorem dX9_letPlay_67 : decode cX9_letPlay 67 = .ok (.invokevirtual 402, 3) := by decide +kernel
theorem dX9_letPlay_70 : decode cX9_letPlay 70 = .ok (.ireturn, 1) := by decide +kernel
theorem dX9_letPlay_71 : decode cX9_letPlay 71 = .ok (.aload_n 2, 1) := by decide +kernel
theorem dX9_letPlay_72 : decode cX9_letPlay 72 = .ok (.getfield 325, 3) := by decide +kernel
theorem dX9_letPlay_75 : decode cX9_letPlay 75 = .ok (.bipush 40, 2) := by decide +kernel
theorem dX9_letPlay_77 : decode cX9_letPlay 77 = .ok (.if_icmp .lt 11, 3) := by decide +kernel
theorem dX9_letPlay_80 : decode cX9_letPlay 80 = .ok (.aload_n 0, 1) := by decide +kernel
theorem dX9_letPlay_81 : decode cX9_letPlay 81 = .ok (.iconst 2, 1) := by decide +kernel
theorem dX9_letPlay_82 : decode cX9_letPlay 82 = .ok (.bipush 40, 2) := by decide +kernel
theorem dX9_letPlay_84 : decode cX9_letPlay 84 = .ok (.invokevirtual 402, 3) := by decide +kernel
theorem dX9_letPlay_87 : decode cX9_letPlay 87 = .ok (.ireturn, 1) := by decide +kernel
theorem dX9_letPlay_88 : decode cX9_letPlay 88 = .ok (.aload_n 0, 1) := by decide +kernel
theorem dX9_letPlay_89 : decode cX9_letPlay 89 = .ok (.getfield 39, 3) := by decide +kernel
theorem dX9_letPlay_92 : decode cX9_letPlay 92 = .ok (.aload_n 0, 1) := by decide +kernel
theorem dX9_letPlay_93 : decode cX9_letPlay 93 = .ok (.getfield 10, 3) := by decide +kernel
theorem dX9_letPlay_96 : decode cX9_letPlay 96 = .ok (.getfield 138, 3) := by decide +kernel
theorem dX9_letPlay_99 : decode cX9_letPlay 99 = .ok (.invokevirtual 182, 3) := by decide +kernel
theorem dX9_letPlay_102 : decode cX9_letPlay 102 = .ok (.iconst 0, 1) := by decide +kernel
theorem dX9_letPlay_103 : decode cX9_letPlay 103 = .ok (.istore_n 3, 1) := by decide +kernel
theorem dX9_letPlay_104 : decode cX9_letPlay 104 = .ok (.iload_n 3, 1) := by decide +kernel
theorem dX9_letPlay_105 : decode cX9_letPlay 105 = .ok (.iload_n 1, 1) := by decide +kernel
theorem dX9_letPlay_106 : decode cX9_letPlay 106 = .ok (.if_icmp .ge 72, 3) := by decide +kernel
theorem dX9_letPlay_109 : decode cX9_letPlay 109 = .ok (.aload_n 2, 1) := by decide +kernel
theorem dX9_letPlay_110 : decode cX9_letPlay 110 = .ok (.getfield 325, 3) := by decide +kernel
theorem dX9_letPlay_113 : decode cX9_letPlay 113 = .ok (.bipush 40, 2) := by decide +kernel
theorem dX9_letPlay_115 : decode cX9_letPlay 115 = .ok (.if_icmp .ge 63, 3) := by decide +kernel
theorem dX9_letPlay_118 : decode cX9_letPlay 118 = .ok (.aload_n 2, 1) := by decide +kernel
theorem dX9_letPlay_119 : decode cX9_letPlay 119 = .ok (.invokevirtual 135, 3) := by decide +kernel
theorem dX9_letPlay_122 : decode cX9_letPlay 122 = .ok (.istore 4, 2) := by decide +kernel
theorem dX9_letPlay_124 : decode cX9_letPlay 124 = .ok (.aload_n 0, 1) := by decide +kernel
theorem dX9_letPlay_125 : decode cX9_letPlay 125 = .ok (.getfield 39, 3) := by decide +kernel
theorem dX9_letPlay_128 : decode cX9_letPlay 128 = .ok (.aload_n 0, 1) := by decide +kernel
theorem dX9_letPlay_129 : decode cX9_letPlay 129 = .ok (.getfield 10, 3) := by decide +kernel
theorem dX9_letPlay_132 : decode cX9_letPlay 132 = .ok (.getfield 138, 3) := by decide +kernel
theorem dX9_letPlay_135 : decode cX9_letPlay 135 = .ok (.iload 4, 2) := by decide +kernel
theorem dX9_letPlay_137 : decode cX9_letPlay 137 = .ok (.invokevirtual 209, 3) := by decide +kernel
theorem dX9_letPlay_140 : decode cX9_letPlay 140 = .ok (.istore 5, 2) := by decide +kernel
theorem dX9_letPlay_142 : decode cX9_letPlay 142 = .ok (.iload 5, 2) := by decide +kernel
theorem dX9_letPlay_144 : decode cX9_letPlay 144 = .ok (.iconst (-1), 1) := by decide +kernel
theorem dX9_letPlay_145 : decode cX9_letPlay 145 = .ok (.if_icmp .ne 6, 3) := by decide +kernel
theorem dX9_letPlay_148 : decode cX9_letPlay 148 = .ok (.goto 30, 3) := by decide +kernel
theorem dX9_letPlay_151 : decode cX9_letPlay 151 = .ok (.aload_n 2, 1) := by decide +kernel
theorem dX9_letPlay_152 : decode cX9_letPlay 152 = .ok (.iload 5, 2) := by decide +kernel
theorem dX9_letPlay_154 : decode cX9_letPlay 154 = .ok (.iload 4, 2) := by decide +kernel
theorem dX9_letPlay_156 : decode cX9_letPlay 156 = .ok (.iload 5, 2) := by decide +kernel
theorem dX9_letPlay_158 : decode cX9_letPlay 158 = .ok (.invokestatic 206, 3) := by decide +kernel
theorem dX9_letPlay_161 : decode cX9_letPlay 161 = .ok (.iload 5, 2) := by decide +kernel
theorem dX9_letPlay_163 : decode cX9_letPlay 163 = .ok (.invokestatic 203, 3) := by decide +kernel
theorem dX9_letPlay_166 : decode cX9_letPlay 166 = .ok (.invokestatic 220, 3) := by decide +kernel
theorem dX9_letPlay_169 : decode cX9_letPlay 169 = .ok (.invokevirtual 426, 3) := by decide +kernel
theorem dX9_letPlay_172 : decode cX9_letPlay 172 = .ok (.iinc 3 1, 3) := by decide +kernel
theorem dX9_letPlay_175 : decode cX9_letPlay 175 = .ok (.goto (-71), 3) := by decide +kernel
theorem dX9_letPlay_178 : decode cX9_letPlay 178 = .ok (.iload_n 3, 1) := by decide +kernel
theorem dX9_letPlay_179 : decode cX9_letPlay 179 = .ok (.ireturn, 1) := by decide +kernel
theorem dX9_takeBack_0 : decode cX9_takeBack 0 = .ok (.aload_n 0, 1) := by decide +kernel
theorem dX9_takeBack_1 : decode cX9_takeBack 1 = .ok (.getfield 10, 3) := by decide +kernel
theorem dX9_takeBack_4 : decode cX9_takeBack 4 = .ok (.getfield 118, 3) := by decide +kernel
theorem dX9_takeBack_7 : decode cX9_takeBack 7 = .ok (.astore_n 1, 1) := by decide +kernel
theorem dX9_takeBack_8 : decode cX9_takeBack 8 = .ok (.aload_n 1, 1) := by decide +kernel
theorem dX9_takeBack_9 : decode cX9_takeBack 9 = .ok (.getfield 122, 3) := by decide +kernel
theorem dX9_takeBack_12 : decode cX9_takeBack 12 = .ok (.ifCond .ne 11, 3) := by decide +kernel
theorem dX9_takeBack_15 : decode cX9_takeBack 15 = .ok (.aload_n 0, 1) := by decide +kernel
theorem dX9_takeBack_16 : decode cX9_takeBack 16 = .ok (.bipush 8, 2) := by decide +kernel
theorem dX9_takeBack_18 : decode cX9_takeBack 18 = .ok (.iconst 0, 1) := by decide +kernel
theorem dX9_takeBack_19 : decode cX9_takeBack 19 = .ok (.invokevirtual 402, 3) := by decide +kernel
theorem dX9_takeBack_22 : decode cX9_takeBack 22 = .ok (.ireturn, 1) := by decide +kernel
theorem dX9_takeBack_23 : decode cX9_takeBack 23 = .ok (.aload_n 1, 1) := by decide +kernel
theorem dX9_takeBack_24 : decode cX9_takeBack 24 = .ok (.getfield 325, 3) := by decide +kernel
theorem dX9_takeBack_27 : decode cX9_takeBack 27 = .ok (.ifCond .ne 11, 3) := by decide +kernel
theorem dX9_takeBack_30 : decode cX9_takeBack 30 = .ok (.aload_n 0, 1) := by decide +kernel
theorem dX9_takeBack_31 : decode cX9_takeBack 31 = .ok (.bipush 11, 2) := by decide +kernel
theorem dX9_takeBack_33 : decode cX9_takeBack 33 = .ok (.iconst 0, 1) := by decide +kernel
theorem dX9_takeBack_34 : decode cX9_takeBack 34 = .ok (.invokevirtual 402, 3) := by decide +kernel
theorem dX9_takeBack_37 : decode cX9_takeBack 37 = .ok (.ireturn, 1) := by decide +kernel
theorem dX9_takeBack_38 : decode cX9_takeBack 38 = .ok (.aload_n 1, 1) := by decide +kernel
theorem dX9_takeBack_39 : decode cX9_takeBack 39 = .ok (.dup, 1) := by decide +kernel
theorem dX9_takeBack_40 : decode cX9_takeBack 40 = .ok (.getfield 325, 3) := by decide +kernel
theorem dX9_takeBack_43 : decode cX9_takeBack 43 = .ok (.iconst 1, 1) := by decide +kernel
theorem dX9_takeBack_44 : decode cX9_takeBack 44 = .ok (.isub, 1) := by decide +kernel
theorem dX9_takeBack_45 : decode cX9_takeBack 45 = .ok (.putfield 325, 3) := by decide +kernel
theorem dX9_takeBack_48 : decode cX9_takeBack 48 = .ok (.aload_n 1, 1) := by decide +kernel
theorem dX9_takeBack_49 : decode cX9_takeBack 49 = .ok (.getfield 325, 3) := by decide +kernel
theorem dX9_takeBack_52 : decode cX9_takeBack 52 = .ok (.ireturn, 1) := by decide +kernel
theorem dX9_carriedOut_0 : decode cX9_carriedOut 0 = .ok (.aload_n 0, 1) := by decide +kernel
theorem dX9_carriedOut_1 : decode cX9_carriedOut 1 = .ok (.getfield 66, 3) := by decide +kernel
theorem dX9_carriedOut_4 : decode cX9_carriedOut 4 = .ok (.getfield 428, 3) := by decide +kernel
theorem dX9_carriedOut_7 : decode cX9_carriedOut 7 = .ok (.iload_n 1, 1) := by decide +kernel
theorem dX9_carriedOut_8 : decode cX9_carriedOut 8 = .ok (.invokestatic 282, 3) := by decide +kernel
theorem dX9_carriedOut_11 : decode cX9_carriedOut 11 = .ok (.istore_n 2, 1) := by decide +kernel
theorem dX9_carriedOut_12 : decode cX9_carriedOut 12 = .ok (.aload_n 0, 1) := by decide +kernel
theorem dX9_carriedOut_13 : decode cX9_carriedOut 13 = .ok (.getfield 66, 3) := by decide +kernel
theorem dX9_carriedOut_16 : decode cX9_carriedOut 16 = .ok (.getfield 429, 3) := by decide +kernel
theorem dX9_carriedOut_19 : decode cX9_carriedOut 19 = .ok (.iload_n 1, 1) := by decide +kernel
theorem dX9_carriedOut_20 : decode cX9_carriedOut 20 = .ok (.invokestatic 282, 3) := by decide +kernel
theorem dX9_carriedOut_23 : decode cX9_carriedOut 23 = .ok (.istore_n 3, 1) := by decide +kernel
theorem dX9_carriedOut_24 : decode cX9_carriedOut 24 = .ok (.aload_n 0, 1) := by decide +kernel
theorem dX9_carriedOut_25 : decode cX9_carriedOut 25 = .ok (.getfield 66, 3) := by decide +kernel
theorem dX9_carriedOut_28 : decode cX9_carriedOut 28 = .ok (.getfield 430, 3) := by decide +kernel
theorem dX9_carriedOut_31 : decode cX9_carriedOut 31 = .ok (.iload_n 1, 1) := by decide +kernel
theorem dX9_carriedOut_32 : decode cX9_carriedOut 32 = .ok (.invokestatic 282, 3) := by decide +kernel
theorem dX9_carriedOut_35 : decode cX9_carriedOut 35 = .ok (.tableswitch 167 97 120 #[161, 148, 167, 109, 167, 135, 142, 167, 167, 167, 167, 167, 154, 167, 167, 114, 167, 167, 167, 128, 167, 167, 167, 121], 109) := by decide +kernel
theorem dX9_carriedOut_144 : decode cX9_carriedOut 144 = .ok (.aload_n 0, 1) := by decide +kernel
theorem dX9_carriedOut_145 : decode cX9_carriedOut 145 = .ok (.invokevirtual 84, 3) := by decide +kernel
theorem dX9_carriedOut_148 : decode cX9_carriedOut 148 = .ok (.ireturn, 1) := by decide +kernel
theorem dX9_carriedOut_149 : decode cX9_carriedOut 149 = .ok (.aload_n 0, 1) := by decide +kernel
theorem dX9_carriedOut_150 : decode cX9_carriedOut 150 = .ok (.iload_n 2, 1) := by decide +kernel
theorem dX9_carriedOut_151 : decode cX9_carriedOut 151 = .ok (.iload_n 3, 1) := by decide +kernel
theorem dX9_carriedOut_152 : decode cX9_carriedOut 152 = .ok (.invokevirtual 92, 3) := by decide +kernel
theorem dX9_carriedOut_155 : decode cX9_carriedOut 155 = .ok (.ireturn, 1) := by decide +kernel
theorem dX9_carriedOut_156 : decode cX9_carriedOut 156 = .ok (.aload_n 0, 1) := by decide +kernel
theorem dX9_carriedOut_157 : decode cX9_carriedOut 157 = .ok (.iload_n 2, 1) := by decide +kernel
theorem dX9_carriedOut_158 : decode cX9_carriedOut 158 = .ok (.iload_n 3, 1) := by decide +kernel
theorem dX9_carriedOut_159 : decode cX9_carriedOut 159 = .ok (.invokevirtual 96, 3) := by decide +kernel
theorem dX9_carriedOut_162 : decode cX9_carriedOut 162 = .ok (.ireturn, 1) := by decide +kernel
theorem dX9_carriedOut_163 : decode cX9_carriedOut 163 = .ok (.aload_n 0, 1) := by decide +kernel
theorem dX9_carriedOut_164 : decode cX9_carriedOut 164 = .ok (.iload_n 2, 1) := by decide +kernel
theorem dX9_carriedOut_165 : decode cX9_carriedOut 165 = .ok (.iconst 1, 1) := by decide +kernel
theorem dX9_carriedOut_166 : decode cX9_carriedOut 166 = .ok (.invokevirtual 99, 3) := by decide +kernel
theorem dX9_carriedOut_169 : decode cX9_carriedOut 169 = .ok (.ireturn, 1) := by decide +kernel
theorem dX9_carriedOut_170 : decode cX9_carriedOut 170 = .ok (.aload_n 0, 1) := by decide +kernel
theorem dX9_carriedOut_171 : decode cX9_carriedOut 171 = .ok (.iload_n 2, 1) := by decide +kernel
theorem dX9_carriedOut_172 : decode cX9_carriedOut 172 = .ok (.iconst 0, 1) := by decide +kernel
theorem dX9_carriedOut_173 : decode cX9_carriedOut 173 = .ok (.invokevirtual 99, 3) := by decide +kernel
theorem dX9_carriedOut_176 : decode cX9_carriedOut 176 = .ok (.ireturn, 1) := by decide +kernel
theorem dX9_carriedOut_177 : decode cX9_carriedOut 177 = .ok (.aload_n 0, 1) := by decide +kernel
theorem dX9_carriedOut_178 : decode cX9_carriedOut 178 = .ok (.iload_n 2, 1) := by decide +kernel
theorem dX9_carriedOut_179 : decode cX9_carriedOut 179 = .ok (.invokevirtual 103, 3) := by decide +kernel
theorem dX9_carriedOut_182 : decode cX9_carriedOut 182 = .ok (.ireturn, 1) := by decide +kernel
theorem dX9_carriedOut_183 : decode cX9_carriedOut 183 = .ok (.aload_n 0, 1) := by decide +kernel
theorem dX9_carriedOut_184 : decode cX9_carriedOut 184 = .ok (.iload_n 2, 1) := by decide +kernel
theorem dX9_carriedOut_185 : decode cX9_carriedOut 185 = .ok (.invokevirtual 106, 3) := by decide +kernel
theorem dX9_carriedOut_188 : decode cX9_carriedOut 188 = .ok (.ireturn, 1) := by decide +kernel
theorem dX9_carriedOut_189 : decode cX9_carriedOut 189 = .ok (.aload_n 0, 1) := by decide +kernel
theorem dX9_carriedOut_190 : decode cX9_carriedOut 190 = .ok (.iload_n 2, 1) := by decide +kernel
theorem dX9_carriedOut_191 : decode cX9_carriedOut 191 = .ok (.iload_n 3, 1) := by decide +kernel
theorem dX9_carriedOut_192 : decode cX9_carriedOut 192 = .ok (.invokevirtual 109, 3) := by decide +kernel
theorem dX9_carriedOut_195 : decode cX9_carriedOut 195 = .ok (.ireturn, 1) := by decide +kernel
theorem dX9_carriedOut_196 : decode cX9_carriedOut 196 = .ok (.aload_n 0, 1) := by decide +kernel
theorem dX9_carriedOut_197 : decode cX9_carriedOut 197 = .ok (.iload_n 2, 1) := by decide +kernel
theorem dX9_carriedOut_198 : decode cX9_carriedOut 198 = .ok (.invokevirtual 112, 3) := by decide +kernel
theorem dX9_carriedOut_201 : decode cX9_carriedOut 201 = .ok (.ireturn, 1) := by decide +kernel
theorem dX9_carriedOut_202 : decode cX9_carriedOut 202 = .ok (.aload_n 0, 1) := by decide +kernel
theorem dX9_carriedOut_203 : decode cX9_carriedOut 203 = .ok (.invokevirtual 115, 3) := by decide +kernel
theorem dX9_carriedOut_206 : decode cX9_carriedOut 206 = .ok (.ireturn, 1) := by decide +kernel
theorem dX9_isRefusedFor_0 : decode cX9_isRefusedFor 0 = .ok (.aload_n 0, 1) := by decide +kernel
theorem dX9_isRefusedFor_1 : decode cX9_isRefusedFor 1 = .ok (.getfield 10, 3) := by decide +kernel
theorem dX9_isRefusedFor_4 : decode cX9_isRefusedFor 4 = .ok (.getfield 138, 3) := by decide +kernel
theorem dX9_isRefusedFor_7 : decode cX9_isRefusedFor 7 = .ok (.iload_n 1, 1) := by decide +kernel
theorem dX9_isRefusedFor_8 : decode cX9_isRefusedFor 8 = .ok (.invokevirtual 241, 3) := by decide +kernel
theorem dX9_isRefusedFor_11 : decode cX9_isRefusedFor 11 = .ok (.ifCond .eq 5, 3) := by decide +kernel
theorem dX9_isRefusedFor_14 : decode cX9_isRefusedFor 14 = .ok (.iconst 0, 1) := by decide +kernel
theorem dX9_isRefusedFor_15 : decode cX9_isRefusedFor 15 = .ok (.ireturn, 1) := by decide +kernel
theorem dX9_isRefusedFor_16 : decode cX9_isRefusedFor 16 = .ok (.aload_n 0, 1) := by decide +kernel
theorem dX9_isRefusedFor_17 : decode cX9_isRefusedFor 17 = .ok (.iconst 3, 1) := by decide +kernel
theorem dX9_isRefusedFor_18 : decode cX9_isRefusedFor 18 = .ok (.iload_n 1, 1) := by decide +kernel
theorem dX9_isRefusedFor_19 : decode cX9_isRefusedFor 19 = .ok (.invokevirtual 402, 3) := by decide +kernel
theorem dX9_isRefusedFor_22 : decode cX9_isRefusedFor 22 = .ok (.pop, 1) := by decide +kernel
theorem dX9_isRefusedFor_23 : decode cX9_isRefusedFor 23 = .ok (.iconst 1, 1) := by decide +kernel
theorem dX9_isRefusedFor_24 : decode cX9_isRefusedFor 24 = .ok (.ireturn, 1) := by decide +kernel
theorem dX9_refused_0 : decode cX9_refused 0 = .ok (.aload_n 0, 1) := by decide +kernel
theorem dX9_refused_1 : decode cX9_refused 1 = .ok (.getfield 73, 3) := by decide +kernel
theorem dX9_refused_4 : decode cX9_refused 4 = .ok (.iconst 1, 1) := by decide +kernel
theorem dX9_refused_5 : decode cX9_refused 5 = .ok (.putfield 365, 3) := by decide +kernel
theorem dX9_refused_8 : decode cX9_refused 8 = .ok (.aload_n 0, 1) := by decide +kernel
theorem dX9_refused_9 : decode cX9_refused 9 = .ok (.getfield 73, 3) := by decide +kernel
theorem dX9_refused_12 : decode cX9_refused 12 = .ok (.iload_n 1, 1) := by decide +kernel
theorem dX9_refused_13 : decode cX9_refused 13 = .ok (.putfield 370, 3) := by decide +kernel
theorem dX9_refused_16 : decode cX9_refused 16 = .ok (.aload_n 0, 1) := by decide +kernel
theorem dX9_refused_17 : decode cX9_refused 17 = .ok (.getfield 73, 3) := by decide +kernel
theorem dX9_refused_20 : decode cX9_refused 20 = .ok (.iload_n 2, 1) := by decide +kernel
theorem dX9_refused_21 : decode cX9_refused 21 = .ok (.putfield 373, 3) := by decide +kernel
theorem dX9_refused_24 : decode cX9_refused 24 = .ok (.aload_n 0, 1) := by decide +kernel
theorem dX9_refused_25 : decode cX9_refused 25 = .ok (.getfield 73, 3) := by decide +kernel
theorem dX9_refused_28 : decode cX9_refused 28 = .ok (.aload_n 0, 1) := by decide +kernel
theorem dX9_refused_29 : decode cX9_refused 29 = .ok (.getfield 357, 3) := by decide +kernel
theorem dX9_refused_32 : decode cX9_refused 32 = .ok (.putfield 376, 3) := by decide +kernel
theorem dX9_refused_35 : decode cX9_refused 35 = .ok (.iconst (-1), 1) := by decide +kernel
theorem dX9_refused_36 : decode cX9_refused 36 = .ok (.ireturn, 1) := by decide +kernel
theorem dX9_setAside_0 : decode cX9_setAside 0 = .ok (.aload_n 0, 1) := by decide +kernel
theorem dX9_setAside_1 : decode cX9_setAside 1 = .ok (.getfield 16, 3) := by decide +kernel
theorem dX9_setAside_4 : decode cX9_setAside 4 = .ok (.aload_n 0, 1) := by decide +kernel
theorem dX9_setAside_5 : decode cX9_setAside 5 = .ok (.getfield 10, 3) := by decide +kernel
theorem dX9_setAside_8 : decode cX9_setAside 8 = .ok (.invokevirtual 395, 3) := by decide +kernel
theorem dX9_setAside_11 : decode cX9_setAside 11 = .ok (.return_, 1) := by decide +kernel
theorem dX9_settled_0 : decode cX9_settled 0 = .ok (.iload_n 1, 1) := by decide +kernel
theorem dX9_settled_1 : decode cX9_settled 1 = .ok (.iconst (-1), 1) := by decide +kernel
theorem dX9_settled_2 : decode cX9_settled 2 = .ok (.if_icmp .ne 25, 3) := by decide +kernel
theorem dX9_settled_5 : decode cX9_settled 5 = .ok (.aload_n 0, 1) := by decide +kernel
theorem dX9_settled_6 : decode cX9_settled 6 = .ok (.getfield 10, 3) := by decide +kernel
theorem dX9_settled_9 : decode cX9_settled 9 = .ok (.aload_n 0, 1) := by decide +kernel
theorem dX9_settled_10 : decode cX9_settled 10 = .ok (.getfield 16, 3) := by decide +kernel
theorem dX9_settled_13 : decode cX9_settled 13 = .ok (.invokevirtual 395, 3) := by decide +kernel
theorem dX9_settled_16 : decode cX9_settled 16 = .ok (.new 433, 3) := by decide +kernel
theorem dX9_settled_19 : decode cX9_settled 19 = .ok (.dup, 1) := by decide +kernel
theorem dX9_settled_20 : decode cX9_settled 20 = .ok (.ldc_w 435, 3) := by decide +kernel
theorem dX9_settled_23 : decode cX9_settled 23 = .ok (.invokespecial 437, 3) := by decide +kernel
theorem dX9_settled_26 : decode cX9_settled 26 = .ok (.athrow, 1) := by decide +kernel
theorem dX9_settled_27 : decode cX9_settled 27 = .ok (.aload_n 0, 1) := by decide +kernel
theorem dX9_settled_28 : decode cX9_settled 28 = .ok (.getfield 25, 3) := by decide +kernel
theorem dX9_settled_31 : decode cX9_settled 31 = .ok (.aload_n 0, 1) := by decide +kernel
theorem dX9_settled_32 : decode cX9_settled 32 = .ok (.getfield 16, 3) := by decide +kernel
theorem dX9_settled_35 : decode cX9_settled 35 = .ok (.invokevirtual 438, 3) := by decide +kernel
theorem dX9_settled_38 : decode cX9_settled 38 = .ok (.iload_n 1, 1) := by decide +kernel
theorem dX9_settled_39 : decode cX9_settled 39 = .ok (.ireturn, 1) := by decide +kernel
theorem dX9_markChanged_0 : decode cX9_markChanged 0 = .ok (.aload_n 0, 1) := by decide +kernel
theorem dX9_markChanged_1 : decode cX9_markChanged 1 = .ok (.getfield 10, 3) := by decide +kernel
theorem dX9_markChanged_4 : decode cX9_markChanged 4 = .ok (.getfield 118, 3) := by decide +kernel
theorem dX9_markChanged_7 : decode cX9_markChanged 7 = .ok (.iconst 0, 1) := by decide +kernel
theorem dX9_markChanged_8 : decode cX9_markChanged 8 = .ok (.putfield 122, 3) := by decide +kernel
theorem dX9_markChanged_11 : decode cX9_markChanged 11 = .ok (.aload_n 0, 1) := by decide +kernel
theorem dX9_markChanged_12 : decode cX9_markChanged 12 = .ok (.getfield 10, 3) := by decide +kernel
theorem dX9_markChanged_15 : decode cX9_markChanged 15 = .ok (.getfield 138, 3) := by decide +kernel
theorem dX9_markChanged_18 : decode cX9_markChanged 18 = .ok (.aload_n 0, 1) := by decide +kernel
theorem dX9_markChanged_19 : decode cX9_markChanged 19 = .ok (.invokevirtual 259, 3) := by decide +kernel
theorem dX9_markChanged_22 : decode cX9_markChanged 22 = .ok (.putfield 262, 3) := by decide +kernel
theorem dX9_markChanged_25 : decode cX9_markChanged 25 = .ok (.return_, 1) := by decide +kernel
theorem dX9_newVersion_0 : decode cX9_newVersion 0 = .ok (.aload_n 0, 1) := by decide +kernel
theorem dX9_newVersion_1 : decode cX9_newVersion 1 = .ok (.dup, 1) := by decide +kernel
theorem dX9_newVersion_2 : decode cX9_newVersion 2 = .ok (.getfield 441, 3) := by decide +kernel
theorem dX9_newVersion_5 : decode cX9_newVersion 5 = .ok (.iconst 1, 1) := by decide +kernel
theorem dX9_newVersion_6 : decode cX9_newVersion 6 = .ok (.iadd, 1) := by decide +kernel
theorem dX9_newVersion_7 : decode cX9_newVersion 7 = .ok (.putfield 441, 3) := by decide +kernel
theorem dX9_newVersion_10 : decode cX9_newVersion 10 = .ok (.aload_n 0, 1) := by decide +kernel
theorem dX9_newVersion_11 : decode cX9_newVersion 11 = .ok (.getfield 441, 3) := by decide +kernel
theorem dX9_newVersion_14 : decode cX9_newVersion 14 = .ok (.ireturn, 1) := by decide +kernel
theorem dX9_needPosition_0 : decode cX9_needPosition 0 = .ok (.aload_n 0, 1) := by decide +kernel
theorem dX9_needPosition_1 : decode cX9_needPosition 1 = .ok (.getfield 10, 3) := by decide +kernel
theorem dX9_needPosition_4 : decode cX9_needPosition 4 = .ok (.getfield 138, 3) := by decide +kernel
theorem dX9_needPosition_7 : decode cX9_needPosition 7 = .ok (.iload_n 1, 1) := by decide +kernel
theorem dX9_needPosition_8 : decode cX9_needPosition 8 = .ok (.invokevirtual 268, 3) := by decide +kernel
theorem dX9_needPosition_11 : decode cX9_needPosition 11 = .ok (.ifCond .ne 13, 3) := by decide +kernel
theorem dX9_needPosition_14 : decode cX9_needPosition 14 = .ok (.new 128, 3) := by decide +kernel
theorem dX9_needPosition_17 : decode cX9_needPosition 17 = .ok (.dup, 1) := by decide +kernel
theorem dX9_needPosition_18 : decode cX9_needPosition 18 = .ok (.ldc 145, 2) := by decide +kernel
theorem dX9_needPosition_20 : decode cX9_needPosition 20 = .ok (.invokespecial 132, 3) := by decide +kernel
theorem dX9_needPosition_23 : decode cX9_needPosition 23 = .ok (.athrow, 1) := by decide +kernel
theorem dX9_needPosition_24 : decode cX9_needPosition 24 = .ok (.return_, 1) := by decide +kernel
theorem dX9_positionsIn_0 : decode cX9_positionsIn 0 = .ok (.aload_n 0, 1) := by decide +kernel
theorem dX9_positionsIn_1 : decode cX9_positionsIn 1 = .ok (.getfield 39, 3) := by decide +kernel
theorem dX9_positionsIn_4 : decode cX9_positionsIn 4 = .ok (.aload_n 0, 1) := by decide +kernel
theorem dX9_positionsIn_5 : decode cX9_positionsIn 5 = .ok (.getfield 10, 3) := by decide +kernel
theorem dX9_positionsIn_8 : decode cX9_positionsIn 8 = .ok (.getfield 138, 3) := by decide +kernel
theorem dX9_positionsIn_11 : decode cX9_positionsIn 11 = .ok (.invokevirtual 182, 3) := by decide +kernel
theorem dX9_positionsIn_14 : decode cX9_positionsIn 14 = .ok (.iconst 0, 1) := by decide +kernel
theorem dX9_positionsIn_15 : decode cX9_positionsIn 15 = .ok (.istore_n 2, 1) := by decide +kernel
theorem dX9_positionsIn_16 : decode cX9_positionsIn 16 = .ok (.iconst 0, 1) := by decide +kernel
theorem dX9_positionsIn_17 : decode cX9_positionsIn 17 = .ok (.istore_n 3, 1) := by decide +kernel
theorem dX9_positionsIn_18 : decode cX9_positionsIn 18 = .ok (.iload_n 3, 1) := by decide +kernel
theorem dX9_positionsIn_19 : decode cX9_positionsIn 19 = .ok (.aload_n 0, 1) := by decide +kernel
theorem dX9_positionsIn_20 : decode cX9_positionsIn 20 = .ok (.getfield 39, 3) := by decide +kernel
theorem dX9_positionsIn_23 : decode cX9_positionsIn 23 = .ok (.getfield 228, 3) := by decide +kernel
theorem dX9_positionsIn_26 : decode cX9_positionsIn 26 = .ok (.if_icmp .ge 31, 3) := by decide +kernel
theorem dX9_positionsIn_29 : decode cX9_positionsIn 29 = .ok (.aload_n 0, 1) := by decide +kernel
theorem dX9_positionsIn_30 : decode cX9_positionsIn 30 = .ok (.getfield 39, 3) := by decide +kernel
theorem dX9_positionsIn_33 : decode cX9_positionsIn 33 = .ok (.aload_n 0, 1) := by decide +kernel
theorem dX9_positionsIn_34 : decode cX9_positionsIn 34 = .ok (.getfield 39, 3) := by decide +kernel
theorem dX9_positionsIn_37 : decode cX9_positionsIn 37 = .ok (.iload_n 3, 1) := by decide +kernel
theorem dX9_positionsIn_38 : decode cX9_positionsIn 38 = .ok (.invokevirtual 231, 3) := by decide +kernel
theorem dX9_positionsIn_41 : decode cX9_positionsIn 41 = .ok (.invokevirtual 189, 3) := by decide +kernel
theorem dX9_positionsIn_44 : decode cX9_positionsIn 44 = .ok (.iload_n 1, 1) := by decide +kernel
theorem dX9_positionsIn_45 : decode cX9_positionsIn 45 = .ok (.if_icmp .ne 6, 3) := by decide +kernel
theorem dX9_positionsIn_48 : decode cX9_positionsIn 48 = .ok (.iinc 2 1, 3) := by decide +kernel
theorem dX9_positionsIn_51 : decode cX9_positionsIn 51 = .ok (.iinc 3 1, 3) := by decide +kernel
theorem dX9_positionsIn_54 : decode cX9_positionsIn 54 = .ok (.goto (-36), 3) := by decide +kernel
theorem dX9_positionsIn_57 : decode cX9_positionsIn 57 = .ok (.iload_n 2, 1) := by decide +kernel
theorem dX9_positionsIn_58 : decode cX9_positionsIn 58 = .ok (.ireturn, 1) := by decide +kernel
theorem dX9_winsOfFoxOn_0 : decode cX9_winsOfFoxOn 0 = .ok (.aload_n 0, 1) := by decide +kernel
theorem dX9_winsOfFoxOn_1 : decode cX9_winsOfFoxOn 1 = .ok (.getfield 39, 3) := by decide +kernel
theorem dX9_winsOfFoxOn_4 : decode cX9_winsOfFoxOn 4 = .ok (.aload_n 0, 1) := by decide +kernel
theorem dX9_winsOfFoxOn_5 : decode cX9_winsOfFoxOn 5 = .ok (.getfield 10, 3) := by decide +kernel
theorem dX9_winsOfFoxOn_8 : decode cX9_winsOfFoxOn 8 = .ok (.getfield 138, 3) := by decide +kernel
theorem dX9_winsOfFoxOn_11 : decode cX9_winsOfFoxOn 11 = .ok (.invokevirtual 182, 3) := by decide +kernel
theorem dX9_winsOfFoxOn_14 : decode cX9_winsOfFoxOn 14 = .ok (.iconst 0, 1) := by decide +kernel
theorem dX9_winsOfFoxOn_15 : decode cX9_winsOfFoxOn 15 = .ok (.istore_n 2, 1) := by decide +kernel
theorem dX9_winsOfFoxOn_16 : decode cX9_winsOfFoxOn 16 = .ok (.iconst 0, 1) := by decide +kernel
theorem dX9_winsOfFoxOn_17 : decode cX9_winsOfFoxOn 17 = .ok (.istore_n 3, 1) := by decide +kernel
theorem dX9_winsOfFoxOn_18 : decode cX9_winsOfFoxOn 18 = .ok (.iload_n 3, 1) := by decide +kernel
theorem dX9_winsOfFoxOn_19 : decode cX9_winsOfFoxOn 19 = .ok (.aload_n 0, 1) := by decide +kernel
theorem dX9_winsOfFoxOn_20 : decode cX9_winsOfFoxOn 20 = .ok (.getfield 39, 3) := by decide +kernel
theorem dX9_winsOfFoxOn_23 : decode cX9_winsOfFoxOn 23 = .ok (.getfield 228, 3) := by decide +kernel
theorem dX9_winsOfFoxOn_26 : decode cX9_winsOfFoxOn 26 = .ok (.if_icmp .ge 43, 3) := by decide +kernel
theorem dX9_winsOfFoxOn_29 : decode cX9_winsOfFoxOn 29 = .ok (.aload_n 0, 1) := by decide +kernel
theorem dX9_winsOfFoxOn_30 : decode cX9_winsOfFoxOn 30 = .ok (.getfield 39, 3) := by decide +kernel
theorem dX9_winsOfFoxOn_33 : decode cX9_winsOfFoxOn 33 = .ok (.iload_n 3, 1) := by decide +kernel
theorem dX9_winsOfFoxOn_34 : decode cX9_winsOfFoxOn 34 = .ok (.invokevirtual 231, 3) := by decide +kernel
theorem dX9_winsOfFoxOn_37 : decode cX9_winsOfFoxOn 37 = .ok (.istore 4, 2) := by decide +kernel
theorem dX9_winsOfFoxOn_39 : decode cX9_winsOfFoxOn 39 = .ok (.iload 4, 2) := by decide +kernel
theorem dX9_winsOfFoxOn_41 : decode cX9_winsOfFoxOn 41 = .ok (.invokestatic 160, 3) := by decide +kernel
theorem dX9_winsOfFoxOn_44 : decode cX9_winsOfFoxOn 44 = .ok (.iload_n 1, 1) := by decide +kernel
theorem dX9_winsOfFoxOn_45 : decode cX9_winsOfFoxOn 45 = .ok (.if_icmp .ne 18, 3) := by decide +kernel
theorem dX9_winsOfFoxOn_48 : decode cX9_winsOfFoxOn 48 = .ok (.aload_n 0, 1) := by decide +kernel
theorem dX9_winsOfFoxOn_49 : decode cX9_winsOfFoxOn 49 = .ok (.getfield 39, 3) := by decide +kernel
theorem dX9_winsOfFoxOn_52 : decode cX9_winsOfFoxOn 52 = .ok (.iload 4, 2) := by decide +kernel
theorem dX9_winsOfFoxOn_54 : decode cX9_winsOfFoxOn 54 = .ok (.invokevirtual 271, 3) := by decide +kernel
theorem dX9_winsOfFoxOn_57 : decode cX9_winsOfFoxOn 57 = .ok (.ifCond .eq 6, 3) := by decide +kernel
theorem dX9_winsOfFoxOn_60 : decode cX9_winsOfFoxOn 60 = .ok (.iinc 2 1, 3) := by decide +kernel
theorem dX9_winsOfFoxOn_63 : decode cX9_winsOfFoxOn 63 = .ok (.iinc 3 1, 3) := by decide +kernel
theorem dX9_winsOfFoxOn_66 : decode cX9_winsOfFoxOn 66 = .ok (.goto (-48), 3) := by decide +kernel
theorem dX9_winsOfFoxOn_69 : decode cX9_winsOfFoxOn 69 = .ok (.iload_n 2, 1) := by decide +kernel
theorem dX9_winsOfFoxOn_70 : decode cX9_winsOfFoxOn 70 = .ok (.ireturn, 1) := by decide +kernel
theorem dX9_accountOfPositions_0 : decode cX9_accountOfPositions 0 = .ok (.iload_n 1, 1) := by decide +kernel
theorem dX9_accountOfPositions_1 : decode cX9_accountOfPositions 1 = .ok (.iconst 5, 1) := by decide +kernel
theorem dX9_accountOfPositions_2 : decode cX9_accountOfPositions 2 = .ok (.if_icmp .ne 9, 3) := by decide +kernel
theorem dX9_accountOfPositions_5 : decode cX9_accountOfPositions 5 = .ok (.aload_n 0, 1) := by decide +kernel
theorem dX9_accountOfPositions_6 : decode cX9_accountOfPositions 6 = .ok (.iconst 0, 1) := by decide +kernel
theorem dX9_accountOfPositions_7 : decode cX9_accountOfPositions 7 = .ok (.invokevirtual 238, 3) := by decide +kernel
theorem dX9_accountOfPositions_10 : decode cX9_accountOfPositions 10 = .ok (.ireturn, 1) := by decide +kernel
theorem dX9_accountOfPositions_11 : decode cX9_accountOfPositions 11 = .ok (.aload_n 0, 1) := by decide +kernel
theorem dX9_accountOfPositions_12 : decode cX9_accountOfPositions 12 = .ok (.getfield 39, 3) := by decide +kernel
theorem dX9_accountOfPositions_15 : decode cX9_accountOfPositions 15 = .ok (.aload_n 0, 1) := by decide +kernel
theorem dX9_accountOfPositions_16 : decode cX9_accountOfPositions 16 = .ok (.getfield 10, 3) := by decide +kernel
theorem dX9_accountOfPositions_19 : decode cX9_accountOfPositions 19 = .ok (.getfield 138, 3) := by decide +kernel
theorem dX9_accountOfPositions_22 : decode cX9_accountOfPositions 22 = .ok (.invokevirtual 182, 3) := by decide +kernel
theorem dX9_accountOfPositions_25 : decode cX9_accountOfPositions 25 = .ok (.iload_n 1, 1) := by decide +kernel
theorem dX9_accountOfPositions_26 : decode cX9_accountOfPositions 26 = .ok (.iconst 4, 1) := by decide +kernel
theorem dX9_accountOfPositions_27 : decode cX9_accountOfPositions 27 = .ok (.if_icmp .ne 11, 3) := by decide +kernel
theorem dX9_accountOfPositions_30 : decode cX9_accountOfPositions 30 = .ok (.aload_n 0, 1) := by decide +kernel
theorem dX9_accountOfPositions_31 : decode cX9_accountOfPositions 31 = .ok (.getfield 39, 3) := by decide +kernel
theorem dX9_accountOfPositions_34 : decode cX9_accountOfPositions 34 = .ok (.getfield 228, 3) := by decide +kernel
theorem dX9_accountOfPositions_37 : decode cX9_accountOfPositions 37 = .ok (.ireturn, 1) := by decide +kernel
theorem dX9_accountOfPositions_38 : decode cX9_accountOfPositions 38 = .ok (.iconst (-1), 1) := by decide +kernel
theorem dX9_accountOfPositions_39 : decode cX9_accountOfPositions 39 = .ok (.istore_n 2, 1) := by decide +kernel
theorem dX9_accountOfPositions_40 : decode cX9_accountOfPositions 40 = .ok (.iconst 0, 1) := by decide +kernel
theorem dX9_accountOfPositions_41 : decode cX9_accountOfPositions 41 = .ok (.istore_n 3, 1) := by decide +kernel
theorem dX9_accountOfPositions_42 : decode cX9_accountOfPositions 42 = .ok (.iload_n 3, 1) := by decide +kernel
theorem dX9_accountOfPositions_43 : decode cX9_accountOfPositions 43 = .ok (.aload_n 0, 1) := by decide +kernel
theorem dX9_accountOfPositions_44 : decode cX9_accountOfPositions 44 = .ok (.getfield 39, 3) := by decide +kernel
theorem dX9_accountOfPositions_47 : decode cX9_accountOfPositions 47 = .ok (.getfield 228, 3) := by decide +kernel
theorem dX9_accountOfPositions_50 : decode cX9_accountOfPositions 50 = .ok (.if_icmp .ge 29, 3) := by decide +kernel
theorem dX9_accountOfPositions_53 : decode cX9_accountOfPositions 53 = .ok (.iload_n 2, 1) := by decide +kernel
theorem dX9_accountOfPositions_54 : decode cX9_accountOfPositions 54 = .ok (.aload_n 0, 1) := by decide +kernel
theorem dX9_accountOfPositions_55 : decode cX9_accountOfPositions 55 = .ok (.getfield 39, 3) := by decide +kernel
theorem dX9_accountOfPositions_58 : decode cX9_accountOfPositions 58 = .ok (.aload_n 0, 1) := by decide +kernel
theorem dX9_accountOfPositions_59 : decode cX9_accountOfPositions 59 = .ok (.getfield 39, 3) := by decide +kernel
theorem dX9_accountOfPositions_62 : decode cX9_accountOfPositions 62 = .ok (.iload_n 3, 1) := by decide +kernel
theorem dX9_accountOfPositions_63 : decode cX9_accountOfPositions 63 = .ok (.invokevirtual 231, 3) := by decide +kernel
theorem dX9_accountOfPositions_66 : decode cX9_accountOfPositions 66 = .ok (.invokevirtual 189, 3) := by decide +kernel
theorem dX9_accountOfPositions_69 : decode cX9_accountOfPositions 69 = .ok (.invokestatic 444, 3) := by decide +kernel
theorem dX9_accountOfPositions_72 : decode cX9_accountOfPositions 72 = .ok (.istore_n 2, 1) := by decide +kernel
theorem dX9_accountOfPositions_73 : decode cX9_accountOfPositions 73 = .ok (.iinc 3 1, 3) := by decide +kernel
theorem dX9_accountOfPositions_76 : decode cX9_accountOfPositions 76 = .ok (.goto (-34), 3) := by decide +kernel
theorem dX9_accountOfPositions_79 : decode cX9_accountOfPositions 79 = .ok (.iload_n 2, 1) := by decide +kernel
theorem dX9_accountOfPositions_80 : decode cX9_accountOfPositions 80 = .ok (.ireturn, 1) := by decide +kernel
theorem dX9_at_0 : decode cX9_at 0 = .ok (.iload_n 1, 1) := by decide +kernel
theorem dX9_at_1 : decode cX9_at 1 = .ok (.ifCond .lt 9, 3) := by decide +kernel
theorem dX9_at_4 : decode cX9_at 4 = .ok (.iload_n 1, 1) := by decide +kernel
theorem dX9_at_5 : decode cX9_at 5 = .ok (.aload_n 0, 1) := by decide +kernel
theorem dX9_at_6 : decode cX9_at 6 = .ok (.arraylength, 1) := by decide +kernel
theorem dX9_at_7 : decode cX9_at 7 = .ok (.if_icmp .lt 7, 3) := by decide +kernel
theorem dX9_at_10 : decode cX9_at 10 = .ok (.iconst 0, 1) := by decide +kernel
theorem dX9_at_11 : decode cX9_at 11 = .ok (.goto 6, 3) := by decide +kernel
theorem dX9_at_14 : decode cX9_at 14 = .ok (.aload_n 0, 1) := by decide +kernel
theorem dX9_at_15 : decode cX9_at 15 = .ok (.iload_n 1, 1) := by decide +kernel
theorem dX9_at_16 : decode cX9_at 16 = .ok (.iaload, 1) := by decide +kernel
theorem dX9_at_17 : decode cX9_at 17 = .ok (.ireturn, 1) := by decide +kernel
theorem dX9_put_0 : decode cX9_put 0 = .ok (.iload_n 1, 1) := by decide +kernel
theorem dX9_put_1 : decode cX9_put 1 = .ok (.ifCond .lt 13, 3) := by decide +kernel
theorem dX9_put_4 : decode cX9_put 4 = .ok (.iload_n 1, 1) := by decide +kernel
theorem dX9_put_5 : decode cX9_put 5 = .ok (.aload_n 0, 1) := by decide +kernel
theorem dX9_put_6 : decode cX9_put 6 = .ok (.arraylength, 1) := by decide +kernel
theorem dX9_put_7 : decode cX9_put 7 = .ok (.if_icmp .ge 7, 3) := by decide +kernel
theorem dX9_put_10 : decode cX9_put 10 = .ok (.aload_n 0, 1) := by decide +kernel
theorem dX9_put_11 : decode cX9_put 11 = .ok (.iload_n 1, 1) := by decide +kernel
theorem dX9_put_12 : decode cX9_put 12 = .ok (.iload_n 2, 1) := by decide +kernel
theorem dX9_put_13 : decode cX9_put 13 = .ok (.iastore, 1) := by decide +kernel
theorem dX9_put_14 : decode cX9_put 14 = .ok (.return_, 1) := by decide +kernel
theorem dX9_copy_0 : decode cX9_copy 0 = .ok (.aload_n 0, 1) := by decide +kernel
theorem dX9_copy_1 : decode cX9_copy 1 = .ok (.iconst 0, 1) := by decide +kernel
theorem dX9_copy_2 : decode cX9_copy 2 = .ok (.aload_n 1, 1) := by decide +kernel
theorem dX9_copy_3 : decode cX9_copy 3 = .ok (.iconst 0, 1) := by decide +kernel
theorem dX9_copy_4 : decode cX9_copy 4 = .ok (.aload_n 0, 1) := by decide +kernel
theorem dX9_copy_5 : decode cX9_copy 5 = .ok (.arraylength, 1) := by decide +kernel
theorem dX9_copy_6 : decode cX9_copy 6 = .ok (.aload_n 1, 1) := by decide +kernel
theorem dX9_copy_7 : decode cX9_copy 7 = .ok (.arraylength, 1) := by decide +kernel
theorem dX9_copy_8 : decode cX9_copy 8 = .ok (.invokestatic 449, 3) := by decide +kernel
theorem dX9_copy_11 : decode cX9_copy 11 = .ok (.invokestatic 452, 3) := by decide +kernel
theorem dX9_copy_14 : decode cX9_copy 14 = .ok (.return_, 1) := by decide +kernel
theorem dX9_numberOf_0 : decode cX9_numberOf 0 = .ok (.sipush 162, 3) := by decide +kernel
theorem dX9_numberOf_3 : decode cX9_numberOf 3 = .ok (.iload_n 0, 1) := by decide +kernel
theorem dX9_numberOf_4 : decode cX9_numberOf 4 = .ok (.imul, 1) := by decide +kernel
theorem dX9_numberOf_5 : decode cX9_numberOf 5 = .ok (.bipush 18, 2) := by decide +kernel
theorem dX9_numberOf_7 : decode cX9_numberOf 7 = .ok (.iload_n 1, 1) := by decide +kernel
theorem dX9_numberOf_8 : decode cX9_numberOf 8 = .ok (.imul, 1) := by decide +kernel
theorem dX9_numberOf_9 : decode cX9_numberOf 9 = .ok (.iadd, 1) := by decide +kernel
theorem dX9_numberOf_10 : decode cX9_numberOf 10 = .ok (.iconst 2, 1) := by decide +kernel
theorem dX9_numberOf_11 : decode cX9_numberOf 11 = .ok (.iload_n 2, 1) := by decide +kernel
theorem dX9_numberOf_12 : decode cX9_numberOf 12 = .ok (.iconst 1, 1) := by decide +kernel
theorem dX9_numberOf_13 : decode cX9_numberOf 13 = .ok (.iadd, 1) := by decide +kernel
theorem dX9_numberOf_14 : decode cX9_numberOf 14 = .ok (.imul, 1) := by decide +kernel
theorem dX9_numberOf_15 : decode cX9_numberOf 15 = .ok (.iadd, 1) := by decide +kernel
theorem dX9_numberOf_16 : decode cX9_numberOf 16 = .ok (.iload_n 3, 1) := by decide +kernel
theorem dX9_numberOf_17 : decode cX9_numberOf 17 = .ok (.iadd, 1) := by decide +kernel
theorem dX9_numberOf_18 : decode cX9_numberOf 18 = .ok (.ireturn, 1) := by decide +kernel
theorem dX9_foxOf_0 : decode cX9_foxOf 0 = .ok (.iload_n 0, 1) := by decide +kernel
theorem dX9_foxOf_1 : decode cX9_foxOf 1 = .ok (.sipush 162, 3) := by decide +kernel
theorem dX9_foxOf_4 : decode cX9_foxOf 4 = .ok (.idiv, 1) := by decide +kernel
theorem dX9_foxOf_5 : decode cX9_foxOf 5 = .ok (.ireturn, 1) := by decide +kernel
theorem dX9_firstOf_0 : decode cX9_firstOf 0 = .ok (.iload_n 0, 1) := by decide +kernel
theorem dX9_firstOf_1 : decode cX9_firstOf 1 = .ok (.sipush 162, 3) := by decide +kernel
theorem dX9_firstOf_4 : decode cX9_firstOf 4 = .ok (.irem, 1) := by decide +kernel
theorem dX9_firstOf_5 : decode cX9_firstOf 5 = .ok (.bipush 18, 2) := by decide +kernel
theorem dX9_firstOf_7 : decode cX9_firstOf 7 = .ok (.idiv, 1) := by decide +kernel
theorem dX9_firstOf_8 : decode cX9_firstOf 8 = .ok (.ireturn, 1) := by decide +kernel
theorem dX9_secondOf_0 : decode cX9_secondOf 0 = .ok (.iload_n 0, 1) := by decide +kernel
theorem dX9_secondOf_1 : decode cX9_secondOf 1 = .ok (.bipush 18, 2) := by decide +kernel
theorem dX9_secondOf_3 : decode cX9_secondOf 3 = .ok (.irem, 1) := by decide +kernel
theorem dX9_secondOf_4 : decode cX9_secondOf 4 = .ok (.iconst 2, 1) := by decide +kernel
theorem dX9_secondOf_5 : decode cX9_secondOf 5 = .ok (.idiv, 1) := by decide +kernel
theorem dX9_secondOf_6 : decode cX9_secondOf 6 = .ok (.iconst 1, 1) := by decide +kernel
theorem dX9_secondOf_7 : decode cX9_secondOf 7 = .ok (.isub, 1) := by decide +kernel
theorem dX9_secondOf_8 : decode cX9_secondOf 8 = .ok (.ireturn, 1) := by decide +kernel
theorem dX9_turnOf_0 : decode cX9_turnOf 0 = .ok (.iload_n 0, 1) := by decide +kernel
theorem dX9_turnOf_1 : decode cX9_turnOf 1 = .ok (.iconst 2, 1) := by decide +kernel
theorem dX9_turnOf_2 : decode cX9_turnOf 2 = .ok (.irem, 1) := by decide +kernel
theorem dX9_turnOf_3 : decode cX9_turnOf 3 = .ok (.ireturn, 1) := by decide +kernel
theorem dX9_shifted_0 : decode cX9_shifted 0 = .ok (.iload_n 0, 1) := by decide +kernel
theorem dX9_shifted_1 : decode cX9_shifted 1 = .ok (.invokestatic 160, 3) := by decide +kernel
theorem dX9_shifted_4 : decode cX9_shifted 4 = .ok (.istore_n 3, 1) := by decide +kernel
theorem dX9_shifted_5 : decode cX9_shifted 5 = .ok (.iload_n 0, 1) := by decide +kernel
theorem dX9_shifted_6 : decode cX9_shifted 6 = .ok (.invokestatic 163, 3) := by decide +kernel
theorem dX9_shifted_9 : decode cX9_shifted 9 = .ok (.istore 4, 2) := by decide +kernel
theorem dX9_shifted_11 : decode cX9_shifted 11 = .ok (.iload_n 0, 1) := by decide +kernel
theorem dX9_shifted_12 : decode cX9_shifted 12 = .ok (.invokestatic 166, 3) := by decide +kernel
theorem dX9_shifted_15 : decode cX9_shifted 15 = .ok (.istore 5, 2) := by decide +kernel
theorem dX9_shifted_17 : decode cX9_shifted 17 = .ok (.iconst 1, 1) := by decide +kernel
theorem dX9_shifted_18 : decode cX9_shifted 18 = .ok (.iload_n 0, 1) := by decide +kernel
theorem dX9_shifted_19 : decode cX9_shifted 19 = .ok (.invokestatic 169, 3) := by decide +kernel
theorem dX9_shifted_22 : decode cX9_shifted 22 = .ok (.isub, 1) := by decide +kernel
theorem dX9_shifted_23 : decode cX9_shifted 23 = .ok (.istore 6, 2) := by decide +kernel
theorem dX9_shifted_25 : decode cX9_shifted 25 = .ok (.iload_n 1, 1) := by decide +kernel
theorem dX9_shifted_26 : decode cX9_shifted 26 = .ok (.iload_n 3, 1) := by decide +kernel
theorem dX9_shifted_27 : decode cX9_shifted 27 = .ok (.if_icmp .ne 14, 3) := by decide +kernel
theorem dX9_shifted_30 : decode cX9_shifted 30 = .ok (.iload_n 2, 1) := by decide +kernel
theorem dX9_shifted_31 : decode cX9_shifted 31 = .ok (.iload 4, 2) := by decide +kernel
theorem dX9_shifted_33 : decode cX9_shifted 33 = .ok (.iload 5, 2) := by decide +kernel
theorem dX9_shifted_35 : decode cX9_shifted 35 = .ok (.iload 6, 2) := by decide +kernel
theorem dX9_shifted_37 : decode cX9_shifted 37 = .ok (.invokestatic 147, 3) := by decide +kernel
theorem dX9_shifted_40 : decode cX9_shifted 40 = .ok (.ireturn, 1) := by decide +kernel
theorem dX9_shifted_41 : decode cX9_shifted 41 = .ok (.iload_n 1, 1) := by decide +kernel
theorem dX9_shifted_42 : decode cX9_shifted 42 = .ok (.iload 4, 2) := by decide +kernel
theorem dX9_shifted_44 : decode cX9_shifted 44 = .ok (.if_icmp .ne 8, 3) := by decide +kernel
theorem dX9_shifted_47 : decode cX9_shifted 47 = .ok (.iload 5, 2) := by decide +kernel
theorem dX9_shifted_49 : decode cX9_shifted 49 = .ok (.goto 5, 3) := by decide +kernel
theorem dX9_shifted_52 : decode cX9_shifted 52 = .ok (.iload 4, 2) := by decide +kernel
theorem dX9_shifted_54 : decode cX9_shifted 54 = .ok (.istore 7, 2) := by decide +kernel
theorem dX9_shifted_56 : decode cX9_shifted 56 = .ok (.iload 7, 2) := by decide +kernel
theorem dX9_shifted_58 : decode cX9_shifted 58 = .ok (.iconst (-1), 1) := by decide +kernel
theorem dX9_shifted_59 : decode cX9_shifted 59 = .ok (.if_icmp .ne 12, 3) := by decide +kernel
theorem dX9_shifted_62 : decode cX9_shifted 62 = .ok (.iload_n 3, 1) := by decide +kernel
theorem dX9_shifted_63 : decode cX9_shifted 63 = .ok (.iload_n 2, 1) := by decide +kernel
theorem dX9_shifted_64 : decode cX9_shifted 64 = .ok (.iconst (-1), 1) := by decide +kernel
theorem dX9_shifted_65 : decode cX9_shifted 65 = .ok (.iload 6, 2) := by decide +kernel
theorem dX9_shifted_67 : decode cX9_shifted 67 = .ok (.invokestatic 147, 3) := by decide +kernel
theorem dX9_shifted_70 : decode cX9_shifted 70 = .ok (.ireturn, 1) := by decide +kernel
theorem dX9_shifted_71 : decode cX9_shifted 71 = .ok (.iload_n 3, 1) := by decide +kernel
theorem dX9_shifted_72 : decode cX9_shifted 72 = .ok (.iload_n 2, 1) := by decide +kernel
theorem dX9_shifted_73 : decode cX9_shifted 73 = .ok (.iload 7, 2) := by decide +kernel
theorem dX9_shifted_75 : decode cX9_shifted 75 = .ok (.invokestatic 449, 3) := by decide +kernel
theorem dX9_shifted_78 : decode cX9_shifted 78 = .ok (.iload_n 2, 1) := by decide +kernel
theorem dX9_shifted_79 : decode cX9_shifted 79 = .ok (.iload 7, 2) := by decide +kernel
theorem dX9_shifted_81 : decode cX9_shifted 81 = .ok (.invokestatic 444, 3) := by decide +kernel
theorem dX9_shifted_84 : decode cX9_shifted 84 = .ok (.iload 6, 2) := by decide +kernel
theorem dX9_shifted_86 : decode cX9_shifted 86 = .ok (.invokestatic 147, 3) := by decide +kernel
theorem dX9_shifted_89 : decode cX9_shifted 89 = .ok (.ireturn, 1) := by decide +kernel
theorem dX9_moveNumber_0 : decode cX9_moveNumber 0 = .ok (.bipush 8, 2) := by decide +kernel
theorem dX9_moveNumber_2 : decode cX9_moveNumber 2 = .ok (.iload_n 0, 1) := by decide +kernel
theorem dX9_moveNumber_3 : decode cX9_moveNumber 3 = .ok (.imul, 1) := by decide +kernel
theorem dX9_moveNumber_4 : decode cX9_moveNumber 4 = .ok (.iload_n 1, 1) := by decide +kernel
theorem dX9_moveNumber_5 : decode cX9_moveNumber 5 = .ok (.iadd, 1) := by decide +kernel
theorem dX9_moveNumber_6 : decode cX9_moveNumber 6 = .ok (.ireturn, 1) := by decide +kernel
theorem dX9_fromOf_0 : decode cX9_fromOf 0 = .ok (.iload_n 0, 1) := by decide +kernel
theorem dX9_fromOf_1 : decode cX9_fromOf 1 = .ok (.bipush 8, 2) := by decide +kernel
theorem dX9_fromOf_3 : decode cX9_fromOf 3 = .ok (.idiv, 1) := by decide +kernel
theorem dX9_fromOf_4 : decode cX9_fromOf 4 = .ok (.ireturn, 1) := by decide +kernel
theorem dX9_toOf_0 : decode cX9_toOf 0 = .ok (.iload_n 0, 1) := by decide +kernel
theorem dX9_toOf_1 : decode cX9_toOf 1 = .ok (.bipush 8, 2) := by decide +kernel
theorem dX9_toOf_3 : decode cX9_toOf 3 = .ok (.irem, 1) := by decide +kernel
theorem dX9_toOf_4 : decode cX9_toOf 4 = .ok (.ireturn, 1) := by decide +kernel
theorem dX9_firstMove_0 : decode cX9_firstMove 0 = .ok (.lload_n 0, 1) := by decide +kernel
theorem dX9_firstMove_1 : decode cX9_firstMove 1 = .ok (.lload_n 0, 1) := by decide +kernel
theorem dX9_firstMove_2 : decode cX9_firstMove 2 = .ok (.lneg, 1) := by decide +kernel
theorem dX9_firstMove_3 : decode cX9_firstMove 3 = .ok (.land, 1) := by decide +kernel
theorem dX9_firstMove_4 : decode cX9_firstMove 4 = .ok (.lconst 1, 1) := by decide +kernel
theorem dX9_firstMove_5 : decode cX9_firstMove 5 = .ok (.lsub, 1) := by decide +kernel
theorem dX9_firstMove_6 : decode cX9_firstMove 6 = .ok (.invokestatic 176, 3) := by decide +kernel
theorem dX9_firstMove_9 : decode cX9_firstMove 9 = .ok (.ireturn, 1) := by decide +kernel
theorem dX9_withoutFirst_0 : decode cX9_withoutFirst 0 = .ok (.lload_n 0, 1) := by decide +kernel
theorem dX9_withoutFirst_1 : decode cX9_withoutFirst 1 = .ok (.lload_n 0, 1) := by decide +kernel
theorem dX9_withoutFirst_2 : decode cX9_withoutFirst 2 = .ok (.lconst 1, 1) := by decide +kernel
theorem dX9_withoutFirst_3 : decode cX9_withoutFirst 3 = .ok (.lsub, 1) := by decide +kernel
theorem dX9_withoutFirst_4 : decode cX9_withoutFirst 4 = .ok (.land, 1) := by decide +kernel
theorem dX9_withoutFirst_5 : decode cX9_withoutFirst 5 = .ok (.lreturn, 1) := by decide +kernel
theorem dX9_above_0 : decode cX9_above 0 = .ok (.bipush (-2), 2) := by decide +kernel
theorem dX9_above_2 : decode cX9_above 2 = .ok (.iload_n 0, 1) := by decide +kernel
theorem dX9_above_3 : decode cX9_above 3 = .ok (.ishl, 1) := by decide +kernel
theorem dX9_above_4 : decode cX9_above 4 = .ok (.ireturn, 1) := by decide +kernel
theorem dX9_below_0 : decode cX9_below 0 = .ok (.iconst 1, 1) := by decide +kernel
theorem dX9_below_1 : decode cX9_below 1 = .ok (.iload_n 0, 1) := by decide +kernel
theorem dX9_below_2 : decode cX9_below 2 = .ok (.ishl, 1) := by decide +kernel
theorem dX9_below_3 : decode cX9_below 3 = .ok (.iconst 1, 1) := by decide +kernel
theorem dX9_below_4 : decode cX9_below 4 = .ok (.isub, 1) := by decide +kernel
theorem dX9_below_5 : decode cX9_below 5 = .ok (.ireturn, 1) := by decide +kernel
theorem dX9_bitOf_0 : decode cX9_bitOf 0 = .ok (.iload_n 0, 1) := by decide +kernel
theorem dX9_bitOf_1 : decode cX9_bitOf 1 = .ok (.ifCond .ge 7, 3) := by decide +kernel
theorem dX9_bitOf_4 : decode cX9_bitOf 4 = .ok (.iconst 0, 1) := by decide +kernel
theorem dX9_bitOf_5 : decode cX9_bitOf 5 = .ok (.goto 6, 3) := by decide +kernel
theorem dX9_bitOf_8 : decode cX9_bitOf 8 = .ok (.iconst 1, 1) := by decide +kernel
theorem dX9_bitOf_9 : decode cX9_bitOf 9 = .ok (.iload_n 0, 1) := by decide +kernel
theorem dX9_bitOf_10 : decode cX9_bitOf 10 = .ok (.ishl, 1) := by decide +kernel
theorem dX9_bitOf_11 : decode cX9_bitOf 11 = .ok (.ireturn, 1) := by decide +kernel
theorem dJ5_init_d00df_0 : decode cJ5_init_d00df 0 = .ok (.aload_n 0, 1) := by decide +kernel
theorem dJ5_init_d00df_1 : decode cJ5_init_d00df 1 = .ok (.invokespecial 3, 3) := by decide +kernel
theorem dJ5_init_d00df_4 : decode cJ5_init_d00df 4 = .ok (.getstatic 18, 3) := by decide +kernel
theorem dJ5_init_d00df_7 : decode cJ5_init_d00df 7 = .ok (.ifCond .eq 18, 3) := by decide +kernel
theorem dJ5_init_d00df_10 : decode cJ5_init_d00df 10 = .ok (.aload_n 0, 1) := by decide +kernel
theorem dJ5_init_d00df_11 : decode cJ5_init_d00df 11 = .ok (.iload_n 1, 1) := by decide +kernel
theorem dJ5_init_d00df_12 : decode cJ5_init_d00df 12 = .ok (.newarray .byte, 2) := by decide +kernel
theorem dJ5_init_d00df_14 : decode cJ5_init_d00df 14 = .ok (.putfield 15, 3) := by decide +kernel
theorem dJ5_init_d00df_17 : decode cJ5_init_d00df 17 = .ok (.aload_n 0, 1) := by decide +kernel
theorem dJ5_init_d00df_18 : decode cJ5_init_d00df 18 = .ok (.iconst 0, 1) := by decide +kernel
theorem dJ5_init_d00df_19 : decode cJ5_init_d00df 19 = .ok (.putfield 22, 3) := by decide +kernel
theorem dJ5_init_d00df_22 : decode cJ5_init_d00df 22 = .ok (.goto 16, 3) := by decide +kernel
theorem dJ5_init_d00df_25 : decode cJ5_init_d00df 25 = .ok (.aload_n 0, 1) := by decide +kernel
theorem dJ5_init_d00df_26 : decode cJ5_init_d00df 26 = .ok (.iload_n 1, 1) := by decide +kernel
theorem dJ5_init_d00df_27 : decode cJ5_init_d00df 27 = .ok (.invokestatic 26, 3) := by decide +kernel
theorem dJ5_init_d00df_30 : decode cJ5_init_d00df 30 = .ok (.putfield 15, 3) := by decide +kernel
theorem dJ5_init_d00df_33 : decode cJ5_init_d00df 33 = .ok (.aload_n 0, 1) := by decide +kernel
theorem dJ5_init_d00df_34 : decode cJ5_init_d00df 34 = .ok (.iconst 1, 1) := by decide +kernel
theorem dJ5_init_d00df_35 : decode cJ5_init_d00df 35 = .ok (.putfield 22, 3) := by decide +kernel
theorem dJ5_init_d00df_38 : decode cJ5_init_d00df 38 = .ok (.return_, 1) := by decide +kernel
theorem dJ5_length_8abf5_0 : decode cJ5_length_8abf5 0 = .ok (.aload_n 0, 1) := by decide +kernel
theorem dJ5_length_8abf5_1 : decode cJ5_length_8abf5 1 = .ok (.getfield 79, 3) := by decide +kernel
theorem dJ5_length_8abf5_4 : decode cJ5_length_8abf5 4 = .ok (.ireturn, 1) := by decide +kernel
theorem dJ5_ensureCapacityInternal_d00df_0 : decode cJ5_ensureCapacityInternal_d00df 0 = .ok (.aload_n 0, 1) := by decide +kernel
theorem dJ5_ensureCapacityInternal_d00df_1 : decode cJ5_ensureCapacityInternal_d00df 1 = .ok (.getfield 15, 3) := by decide +kernel
theorem dJ5_ensureCapacityInternal_d00df_4 : decode cJ5_ensureCapacityInternal_d00df 4 = .ok (.arraylength, 1) := by decide +kernel
theorem dJ5_ensureCapacityInternal_d00df_5 : decode cJ5_ensureCapacityInternal_d00df 5 = .ok (.aload_n 0, 1) := by decide +kernel
theorem dJ5_ensureCapacityInternal_d00df_6 : decode cJ5_ensureCapacityInternal_d00df 6 = .ok (.getfield 22, 3) := by decide +kernel
theorem dJ5_ensureCapacityInternal_d00df_9 : decode cJ5_ensureCapacityInternal_d00df 9 = .ok (.ishr, 1) := by decide +kernel
theorem dJ5_ensureCapacityInternal_d00df_10 : decode cJ5_ensureCapacityInternal_d00df 10 = .ok (.istore_n 2, 1) := by decide +kernel
theorem dJ5_ensureCapacityInternal_d00df_11 : decode cJ5_ensureCapacityInternal_d00df 11 = .ok (.iload_n 1, 1) := by decide +kernel
theorem dJ5_ensureCapacityInternal_d00df_12 : decode cJ5_ensureCapacityInternal_d00df 12 = .ok (.iload_n 2, 1) := by decide +kernel
theorem dJ5_ensureCapacityInternal_d00df_13 : decode cJ5_ensureCapacityInternal_d00df 13 = .ok (.isub, 1) := by decide +kernel
theorem dJ5_ensureCapacityInternal_d00df_14 : decode cJ5_ensureCapacityInternal_d00df 14 = .ok (.ifCond .le 24, 3) := by decide +kernel
theorem dJ5_ensureCapacityInternal_d00df_17 : decode cJ5_ensureCapacityInternal_d00df 17 = .ok (.aload_n 0, 1) := by decide +kernel
theorem dJ5_ensureCapacityInternal_d00df_18 : decode cJ5_ensureCapacityInternal_d00df 18 = .ok (.aload_n 0, 1) := by decide +kernel
theorem dJ5_ensureCapacityInternal_d00df_19 : decode cJ5_ensureCapacityInternal_d00df 19 = .ok (.getfield 15, 3) := by decide +kernel
theorem dJ5_ensureCapacityInternal_d00df_22 : decode cJ5_ensureCapacityInternal_d00df 22 = .ok (.aload_n 0, 1) := by decide +kernel
theorem dJ5_ensureCapacityInternal_d00df_23 : decode cJ5_ensureCapacityInternal_d00df 23 = .ok (.iload_n 1, 1) := by decide +kernel
theorem dJ5_ensureCapacityInternal_d00df_24 : decode cJ5_ensureCapacityInternal_d00df 24 = .ok (.invokevirtual 104, 3) := by decide +kernel
theorem dJ5_ensureCapacityInternal_d00df_27 : decode cJ5_ensureCapacityInternal_d00df 27 = .ok (.aload_n 0, 1) := by decide +kernel
theorem dJ5_ensureCapacityInternal_d00df_28 : decode cJ5_ensureCapacityInternal_d00df 28 = .ok (.getfield 22, 3) := by decide +kernel
theorem dJ5_ensureCapacityInternal_d00df_31 : decode cJ5_ensureCapacityInternal_d00df 31 = .ok (.ishl, 1) := by decide +kernel
theorem dJ5_ensureCapacityInternal_d00df_32 : decode cJ5_ensureCapacityInternal_d00df 32 = .ok (.invokestatic 108, 3) := by decide +kernel
theorem dJ5_ensureCapacityInternal_d00df_35 : decode cJ5_ensureCapacityInternal_d00df 35 = .ok (.putfield 15, 3) := by decide +kernel
theorem dJ5_ensureCapacityInternal_d00df_38 : decode cJ5_ensureCapacityInternal_d00df 38 = .ok (.return_, 1) := by decide +kernel
theorem dJ5_append_cf1ce_0 : decode cJ5_append_cf1ce 0 = .ok (.aload_n 1, 1) := by decide +kernel
theorem dJ5_append_cf1ce_1 : decode cJ5_append_cf1ce 1 = .ok (.ifnonnull 8, 3) := by decide +kernel
theorem dJ5_append_cf1ce_4 : decode cJ5_append_cf1ce 4 = .ok (.aload_n 0, 1) := by decide +kernel
theorem dJ5_append_cf1ce_5 : decode cJ5_append_cf1ce 5 = .ok (.invokevirtual 204, 3) := by decide +kernel
theorem dJ5_append_cf1ce_8 : decode cJ5_append_cf1ce 8 = .ok (.areturn, 1) := by decide +kernel
theorem dJ5_append_cf1ce_9 : decode cJ5_append_cf1ce 9 = .ok (.aload_n 1, 1) := by decide +kernel
theorem dJ5_append_cf1ce_10 : decode cJ5_append_cf1ce 10 = .ok (.invokevirtual 32, 3) := by decide +kernel
theorem dJ5_append_cf1ce_13 : decode cJ5_append_cf1ce 13 = .ok (.istore_n 2, 1) := by decide +kernel
theorem dJ5_append_cf1ce_14 : decode cJ5_append_cf1ce 14 = .ok (.aload_n 0, 1) := by decide +kernel
theorem dJ5_append_cf1ce_15 : decode cJ5_append_cf1ce 15 = .ok (.aload_n 0, 1) := by decide +kernel
theorem dJ5_append_cf1ce_16 : decode cJ5_append_cf1ce 16 = .ok (.getfield 79, 3) := by decide +kernel
theorem dJ5_append_cf1ce_19 : decode cJ5_append_cf1ce 19 = .ok (.iload_n 2, 1) := by decide +kernel
theorem dJ5_append_cf1ce_20 : decode cJ5_append_cf1ce 20 = .ok (.iadd, 1) := by decide +kernel
theorem dJ5_append_cf1ce_21 : decode cJ5_append_cf1ce 21 = .ok (.invokevirtual 100, 3) := by decide +kernel
theorem dJ5_append_cf1ce_24 : decode cJ5_append_cf1ce 24 = .ok (.aload_n 0, 1) := by decide +kernel
theorem dJ5_append_cf1ce_25 : decode cJ5_append_cf1ce 25 = .ok (.aload_n 0, 1) := by decide +kernel
theorem dJ5_append_cf1ce_26 : decode cJ5_append_cf1ce 26 = .ok (.getfield 79, 3) := by decide +kernel
theorem dJ5_append_cf1ce_29 : decode cJ5_append_cf1ce 29 = .ok (.aload_n 1, 1) := by decide +kernel
theorem dJ5_append_cf1ce_30 : decode cJ5_append_cf1ce 30 = .ok (.invokevirtual 208, 3) := by decide +kernel
theorem dJ5_append_cf1ce_33 : decode cJ5_append_cf1ce 33 = .ok (.aload_n 0, 1) := by decide +kernel
theorem dJ5_append_cf1ce_34 : decode cJ5_append_cf1ce 34 = .ok (.dup, 1) := by decide +kernel
theorem dJ5_append_cf1ce_35 : decode cJ5_append_cf1ce 35 = .ok (.getfield 79, 3) := by decide +kernel
theorem dJ5_append_cf1ce_38 : decode cJ5_append_cf1ce 38 = .ok (.iload_n 2, 1) := by decide +kernel
theorem dJ5_append_cf1ce_39 : decode cJ5_append_cf1ce 39 = .ok (.iadd, 1) := by decide +kernel
theorem dJ5_append_cf1ce_40 : decode cJ5_append_cf1ce 40 = .ok (.putfield 79, 3) := by decide +kernel
theorem dJ5_append_cf1ce_43 : decode cJ5_append_cf1ce 43 = .ok (.aload_n 0, 1) := by decide +kernel
theorem dJ5_append_cf1ce_44 : decode cJ5_append_cf1ce 44 = .ok (.areturn, 1) := by decide +kernel
theorem dJ5_append_c97b9_0 : decode cJ5_append_c97b9 0 = .ok (.aload_n 0, 1) := by decide +kernel
theorem dJ5_append_c97b9_1 : decode cJ5_append_c97b9 1 = .ok (.getfield 79, 3) := by decide +kernel
theorem dJ5_append_c97b9_4 : decode cJ5_append_c97b9 4 = .ok (.istore_n 2, 1) := by decide +kernel
theorem dJ5_append_c97b9_5 : decode cJ5_append_c97b9 5 = .ok (.iload_n 2, 1) := by decide +kernel
theorem dJ5_append_c97b9_6 : decode cJ5_append_c97b9 6 = .ok (.iload_n 1, 1) := by decide +kernel
theorem dJ5_append_c97b9_7 : decode cJ5_append_c97b9 7 = .ok (.invokestatic 245, 3) := by decide +kernel
theorem dJ5_append_c97b9_10 : decode cJ5_append_c97b9 10 = .ok (.iadd, 1) := by decide +kernel
theorem dJ5_append_c97b9_11 : decode cJ5_append_c97b9 11 = .ok (.istore_n 3, 1) := by decide +kernel
theorem dJ5_append_c97b9_12 : decode cJ5_append_c97b9 12 = .ok (.aload_n 0, 1) := by decide +kernel
theorem dJ5_append_c97b9_13 : decode cJ5_append_c97b9 13 = .ok (.iload_n 3, 1) := by decide +kernel
theorem dJ5_append_c97b9_14 : decode cJ5_append_c97b9 14 = .ok (.invokevirtual 100, 3) := by decide +kernel
theorem dJ5_append_c97b9_17 : decode cJ5_append_c97b9 17 = .ok (.aload_n 0, 1) := by decide +kernel
theorem dJ5_append_c97b9_18 : decode cJ5_append_c97b9 18 = .ok (.invokevirtual 83, 3) := by decide +kernel
theorem dJ5_append_c97b9_21 : decode cJ5_append_c97b9 21 = .ok (.ifCond .eq 16, 3) := by decide +kernel
theorem dJ5_append_c97b9_24 : decode cJ5_append_c97b9 24 = .ok (.iload_n 1, 1) := by decide +kernel
theorem dJ5_append_c97b9_25 : decode cJ5_append_c97b9 25 = .ok (.iload_n 3, 1) := by decide +kernel
theorem dJ5_append_c97b9_26 : decode cJ5_append_c97b9 26 = .ok (.aload_n 0, 1) := by decide +kernel
theorem dJ5_append_c97b9_27 : decode cJ5_append_c97b9 27 = .ok (.getfield 15, 3) := by decide +kernel
theorem dJ5_append_c97b9_30 : decode cJ5_append_c97b9 30 = .ok (.invokestatic 248, 3) := by decide +kernel
theorem dJ5_append_c97b9_33 : decode cJ5_append_c97b9 33 = .ok (.pop, 1) := by decide +kernel
theorem dJ5_append_c97b9_34 : decode cJ5_append_c97b9 34 = .ok (.goto 14, 3) := by decide +kernel
theorem dJ5_append_c97b9_37 : decode cJ5_append_c97b9 37 = .ok (.iload_n 1, 1) := by decide +kernel
theorem dJ5_append_c97b9_38 : decode cJ5_append_c97b9 38 = .ok (.iload_n 2, 1) := by decide +kernel
theorem dJ5_append_c97b9_39 : decode cJ5_append_c97b9 39 = .ok (.iload_n 3, 1) := by decide +kernel
theorem dJ5_append_c97b9_40 : decode cJ5_append_c97b9 40 = .ok (.aload_n 0, 1) := by decide +kernel
theorem dJ5_append_c97b9_41 : decode cJ5_append_c97b9 41 = .ok (.getfield 15, 3) := by decide +kernel
theorem dJ5_append_c97b9_44 : decode cJ5_append_c97b9 44 = .ok (.invokestatic 251, 3) := by decide +kernel
theorem dJ5_append_c97b9_47 : decode cJ5_append_c97b9 47 = .ok (.pop, 1) := by decide +kernel
theorem dJ5_append_c97b9_48 : decode cJ5_append_c97b9 48 = .ok (.aload_n 0, 1) := by decide +kernel
theorem dJ5_append_c97b9_49 : decode cJ5_append_c97b9 49 = .ok (.iload_n 3, 1) := by decide +kernel
theorem dJ5_append_c97b9_50 : decode cJ5_append_c97b9 50 = .ok (.putfield 79, 3) := by decide +kernel
theorem dJ5_append_c97b9_53 : decode cJ5_append_c97b9 53 = .ok (.aload_n 0, 1) := by decide +kernel
theorem dJ5_append_c97b9_54 : decode cJ5_append_c97b9 54 = .ok (.areturn, 1) := by decide +kernel
theorem dJ5_getValue_6d5f1_0 : decode cJ5_getValue_6d5f1 0 = .ok (.aload_n 0, 1) := by decide +kernel
theorem dJ5_getValue_6d5f1_1 : decode cJ5_getValue_6d5f1 1 = .ok (.getfield 15, 3) := by decide +kernel
theorem dJ5_getValue_6d5f1_4 : decode cJ5_getValue_6d5f1 4 = .ok (.areturn, 1) := by decide +kernel
theorem dJ5_isLatin1_aae02_0 : decode cJ5_isLatin1_aae02 0 = .ok (.getstatic 18, 3) := by decide +kernel
theorem dJ5_isLatin1_aae02_3 : decode cJ5_isLatin1_aae02 3 = .ok (.ifCond .eq 14, 3) := by decide +kernel
theorem dJ5_isLatin1_aae02_6 : decode cJ5_isLatin1_aae02 6 = .ok (.aload_n 0, 1) := by decide +kernel
theorem dJ5_isLatin1_aae02_7 : decode cJ5_isLatin1_aae02 7 = .ok (.getfield 22, 3) := by decide +kernel
theorem dJ5_isLatin1_aae02_10 : decode cJ5_isLatin1_aae02 10 = .ok (.ifCond .ne 7, 3) := by decide +kernel
theorem dJ5_isLatin1_aae02_13 : decode cJ5_isLatin1_aae02 13 = .ok (.iconst 1, 1) := by decide +kernel
theorem dJ5_isLatin1_aae02_14 : decode cJ5_isLatin1_aae02 14 = .ok (.goto 4, 3) := by decide +kernel
theorem dJ5_isLatin1_aae02_17 : decode cJ5_isLatin1_aae02 17 = .ok (.iconst 0, 1) := by decide +kernel
theorem dJ5_isLatin1_aae02_18 : decode cJ5_isLatin1_aae02 18 = .ok (.ireturn, 1) := by decide +kernel
theorem dJ5_inflateIfNeededFor_a7421_0 : decode cJ5_inflateIfNeededFor_a7421 0 = .ok (.getstatic 18, 3) := by decide +kernel
theorem dJ5_inflateIfNeededFor_a7421_3 : decode cJ5_inflateIfNeededFor_a7421 3 = .ok (.ifCond .eq 18, 3) := by decide +kernel
theorem dJ5_inflateIfNeededFor_a7421_6 : decode cJ5_inflateIfNeededFor_a7421 6 = .ok (.aload_n 0, 1) := by decide +kernel
theorem dJ5_inflateIfNeededFor_a7421_7 : decode cJ5_inflateIfNeededFor_a7421 7 = .ok (.getfield 22, 3) := by decide +kernel
theorem dJ5_inflateIfNeededFor_a7421_10 : decode cJ5_inflateIfNeededFor_a7421 10 = .ok (.aload_n 1, 1) := by decide +kernel
theorem dJ5_inflateIfNeededFor_a7421_11 : decode cJ5_inflateIfNeededFor_a7421 11 = .ok (.invokevirtual 40, 3) := by decide +kernel
theorem dJ5_inflateIfNeededFor_a7421_14 : decode cJ5_inflateIfNeededFor_a7421 14 = .ok (.if_icmp .eq 7, 3) := by decide +kernel
theorem dJ5_inflateIfNeededFor_a7421_17 : decode cJ5_inflateIfNeededFor_a7421 17 = .ok (.aload_n 0, 1) := by decide +kernel
theorem dJ5_inflateIfNeededFor_a7421_18 : decode cJ5_inflateIfNeededFor_a7421 18 = .ok (.invokevirtual 195, 3) := by decide +kernel
theorem dJ5_inflateIfNeededFor_a7421_21 : decode cJ5_inflateIfNeededFor_a7421 21 = .ok (.return_, 1) := by decide +kernel
theorem dJ5_putStringAt_47b60_0 : decode cJ5_putStringAt_47b60 0 = .ok (.aload_n 0, 1) := by decide +kernel
theorem dJ5_putStringAt_47b60_1 : decode cJ5_putStringAt_47b60 1 = .ok (.aload_n 2, 1) := by decide +kernel
theorem dJ5_putStringAt_47b60_2 : decode cJ5_putStringAt_47b60 2 = .ok (.invokevirtual 397, 3) := by decide +kernel
theorem dJ5_putStringAt_47b60_5 : decode cJ5_putStringAt_47b60 5 = .ok (.aload_n 2, 1) := by decide +kernel
theorem dJ5_putStringAt_47b60_6 : decode cJ5_putStringAt_47b60 6 = .ok (.aload_n 0, 1) := by decide +kernel
theorem dJ5_putStringAt_47b60_7 : decode cJ5_putStringAt_47b60 7 = .ok (.getfield 15, 3) := by decide +kernel
theorem dJ5_putStringAt_47b60_10 : decode cJ5_putStringAt_47b60 10 = .ok (.iload_n 1, 1) := by decide +kernel
theorem dJ5_putStringAt_47b60_11 : decode cJ5_putStringAt_47b60 11 = .ok (.aload_n 0, 1) := by decide +kernel
theorem dJ5_putStringAt_47b60_12 : decode cJ5_putStringAt_47b60 12 = .ok (.getfield 22, 3) := by decide +kernel
theorem dJ5_putStringAt_47b60_15 : decode cJ5_putStringAt_47b60 15 = .ok (.invokevirtual 399, 3) := by decide +kernel
theorem dJ5_putStringAt_47b60_18 : decode cJ5_putStringAt_47b60 18 = .ok (.return_, 1) := by decide +kernel
theorem dJxe99ae_isNaN_b9ae7_0 : decode cJxe99ae_isNaN_b9ae7 0 = .ok (.dload_n 0, 1) := by decide +kernel
theorem dJxe99ae_isNaN_b9ae7_1 : decode cJxe99ae_isNaN_b9ae7 1 = .ok (.dload_n 0, 1) := by decide +kernel
theorem dJxe99ae_isNaN_b9ae7_2 : decode cJxe99ae_isNaN_b9ae7 2 = .ok (.dcmp .l, 1) := by decide +kernel
theorem dJxe99ae_isNaN_b9ae7_3 : decode cJxe99ae_isNaN_b9ae7 3 = .ok (.ifCond .eq 7, 3) := by decide +kernel
theorem dJxe99ae_isNaN_b9ae7_6 : decode cJxe99ae_isNaN_b9ae7 6 = .ok (.iconst 1, 1) := by decide +kernel
theorem dJxe99ae_isNaN_b9ae7_7 : decode cJxe99ae_isNaN_b9ae7 7 = .ok (.goto 4, 3) := by decide +kernel
theorem dJxe99ae_isNaN_b9ae7_10 : decode cJxe99ae_isNaN_b9ae7 10 = .ok (.iconst 0, 1) := by decide +kernel
theorem dJxe99ae_isNaN_b9ae7_11 : decode cJxe99ae_isNaN_b9ae7 11 = .ok (.ireturn, 1) := by decide +kernel
theorem dJxe99ae_doubleToLongBits_ccdee_0 : decode cJxe99ae_doubleToLongBits_ccdee 0 = .ok (.dload_n 0, 1) := by decide +kernel
theorem dJxe99ae_doubleToLongBits_ccdee_1 : decode cJxe99ae_doubleToLongBits_ccdee 1 = .ok (.invokestatic 122, 3) := by decide +kernel
theorem dJxe99ae_doubleToLongBits_ccdee_4 : decode cJxe99ae_doubleToLongBits_ccdee 4 = .ok (.ifCond .ne 8, 3) := by decide +kernel
theorem dJxe99ae_doubleToLongBits_ccdee_7 : decode cJxe99ae_doubleToLongBits_ccdee 7 = .ok (.dload_n 0, 1) := by decide +kernel
theorem dJxe99ae_doubleToLongBits_ccdee_8 : decode cJxe99ae_doubleToLongBits_ccdee 8 = .ok (.invokestatic 134, 3) := by decide +kernel
theorem dJxe99ae_doubleToLongBits_ccdee_11 : decode cJxe99ae_doubleToLongBits_ccdee 11 = .ok (.lreturn, 1) := by decide +kernel
theorem dJxe99ae_doubleToLongBits_ccdee_12 : decode cJxe99ae_doubleToLongBits_ccdee 12 = .ok (.ldc2_w 137, 3) := by decide +kernel
theorem dJxe99ae_doubleToLongBits_ccdee_15 : decode cJxe99ae_doubleToLongBits_ccdee 15 = .ok (.lreturn, 1) := by decide +kernel
theorem dJxf58ca_isNaN_12338_0 : decode cJxf58ca_isNaN_12338 0 = .ok (.fload_n 0, 1) := by decide +kernel
theorem dJxf58ca_isNaN_12338_1 : decode cJxf58ca_isNaN_12338 1 = .ok (.fload_n 0, 1) := by decide +kernel
theorem dJxf58ca_isNaN_12338_2 : decode cJxf58ca_isNaN_12338 2 = .ok (.fcmp .l, 1) := by decide +kernel
theorem dJxf58ca_isNaN_12338_3 : decode cJxf58ca_isNaN_12338 3 = .ok (.ifCond .eq 7, 3) := by decide +kernel
theorem dJxf58ca_isNaN_12338_6 : decode cJxf58ca_isNaN_12338 6 = .ok (.iconst 1, 1) := by decide +kernel
theorem dJxf58ca_isNaN_12338_7 : decode cJxf58ca_isNaN_12338 7 = .ok (.goto 4, 3) := by decide +kernel
theorem dJxf58ca_isNaN_12338_10 : decode cJxf58ca_isNaN_12338 10 = .ok (.iconst 0, 1) := by decide +kernel
theorem dJxf58ca_isNaN_12338_11 : decode cJxf58ca_isNaN_12338 11 = .ok (.ireturn, 1) := by decide +kernel
theorem dJxf58ca_floatToIntBits_5c35a_0 : decode cJxf58ca_floatToIntBits_5c35a 0 = .ok (.fload_n 0, 1) := by decide +kernel
theorem dJxf58ca_floatToIntBits_5c35a_1 : decode cJxf58ca_floatToIntBits_5c35a 1 = .ok (.invokestatic 59, 3) := by decide +kernel
theorem dJxf58ca_floatToIntBits_5c35a_4 : decode cJxf58ca_floatToIntBits_5c35a 4 = .ok (.ifCond .ne 8, 3) := by decide +kernel
theorem dJxf58ca_floatToIntBits_5c35a_7 : decode cJxf58ca_floatToIntBits_5c35a 7 = .ok (.fload_n 0, 1) := by decide +kernel
theorem dJxf58ca_floatToIntBits_5c35a_8 : decode cJxf58ca_floatToIntBits_5c35a 8 = .ok (.invokestatic 74, 3) := by decide +kernel
theorem dJxf58ca_floatToIntBits_5c35a_11 : decode cJxf58ca_floatToIntBits_5c35a 11 = .ok (.ireturn, 1) := by decide +kernel
theorem dJxf58ca_floatToIntBits_5c35a_12 : decode cJxf58ca_floatToIntBits_5c35a 12 = .ok (.ldc 77, 2) := by decide +kernel
theorem dJxf58ca_floatToIntBits_5c35a_14 : decode cJxf58ca_floatToIntBits_5c35a 14 = .ok (.ireturn, 1) := by decide +kernel
theorem dJ6_getChars_ba4f3_0 : decode cJ6_getChars_ba4f3 0 = .ok (.iload_n 1, 1) := by decide +kernel
theorem dJ6_getChars_ba4f3_1 : decode cJ6_getChars_ba4f3 1 = .ok (.istore 5, 2) := by decide +kernel
theorem dJ6_getChars_ba4f3_3 : decode cJ6_getChars_ba4f3 3 = .ok (.iload_n 0, 1) := by decide +kernel
theorem dJ6_getChars_ba4f3_4 : decode cJ6_getChars_ba4f3 4 = .ok (.ifCond .ge 7, 3) := by decide +kernel
theorem dJ6_getChars_ba4f3_7 : decode cJ6_getChars_ba4f3 7 = .ok (.iconst 1, 1) := by decide +kernel
theorem dJ6_getChars_ba4f3_8 : decode cJ6_getChars_ba4f3 8 = .ok (.goto 4, 3) := by decide +kernel
theorem dJ6_getChars_ba4f3_11 : decode cJ6_getChars_ba4f3 11 = .ok (.iconst 0, 1) := by decide +kernel
theorem dJ6_getChars_ba4f3_12 : decode cJ6_getChars_ba4f3 12 = .ok (.istore 6, 2) := by decide +kernel
theorem dJ6_getChars_ba4f3_14 : decode cJ6_getChars_ba4f3 14 = .ok (.iload 6, 2) := by decide +kernel
theorem dJ6_getChars_ba4f3_16 : decode cJ6_getChars_ba4f3 16 = .ok (.ifCond .ne 6, 3) := by decide +kernel
theorem dJ6_getChars_ba4f3_19 : decode cJ6_getChars_ba4f3 19 = .ok (.iload_n 0, 1) := by decide +kernel
theorem dJ6_getChars_ba4f3_20 : decode cJ6_getChars_ba4f3 20 = .ok (.ineg, 1) := by decide +kernel
theorem dJ6_getChars_ba4f3_21 : decode cJ6_getChars_ba4f3 21 = .ok (.istore_n 0, 1) := by decide +kernel
theorem dJ6_getChars_ba4f3_22 : decode cJ6_getChars_ba4f3 22 = .ok (.iload_n 0, 1) := by decide +kernel
theorem dJ6_getChars_ba4f3_23 : decode cJ6_getChars_ba4f3 23 = .ok (.bipush (-100), 2) := by decide +kernel
theorem dJ6_getChars_ba4f3_25 : decode cJ6_getChars_ba4f3 25 = .ok (.if_icmp .gt 47, 3) := by decide +kernel
theorem dJ6_getChars_ba4f3_28 : decode cJ6_getChars_ba4f3 28 = .ok (.iload_n 0, 1) := by decide +kernel
theorem dJ6_getChars_ba4f3_29 : decode cJ6_getChars_ba4f3 29 = .ok (.bipush 100, 2) := by decide +kernel
theorem dJ6_getChars_ba4f3_31 : decode cJ6_getChars_ba4f3 31 = .ok (.idiv, 1) := by decide +kernel
theorem dJ6_getChars_ba4f3_32 : decode cJ6_getChars_ba4f3 32 = .ok (.istore_n 3, 1) := by decide +kernel
theorem dJ6_getChars_ba4f3_33 : decode cJ6_getChars_ba4f3 33 = .ok (.iload_n 3, 1) := by decide +kernel
theorem dJ6_getChars_ba4f3_34 : decode cJ6_getChars_ba4f3 34 = .ok (.bipush 100, 2) := by decide +kernel
theorem dJ6_getChars_ba4f3_36 : decode cJ6_getChars_ba4f3 36 = .ok (.imul, 1) := by decide +kernel
theorem dJ6_getChars_ba4f3_37 : decode cJ6_getChars_ba4f3 37 = .ok (.iload_n 0, 1) := by decide +kernel
theorem dJ6_getChars_ba4f3_38 : decode cJ6_getChars_ba4f3 38 = .ok (.isub, 1) := by decide +kernel
theorem dJ6_getChars_ba4f3_39 : decode cJ6_getChars_ba4f3 39 = .ok (.istore 4, 2) := by decide +kernel
theorem dJ6_getChars_ba4f3_41 : decode cJ6_getChars_ba4f3 41 = .ok (.iload_n 3, 1) := by decide +kernel
theorem dJ6_getChars_ba4f3_42 : decode cJ6_getChars_ba4f3 42 = .ok (.istore_n 0, 1) := by decide +kernel
theorem dJ6_getChars_ba4f3_43 : decode cJ6_getChars_ba4f3 43 = .ok (.aload_n 2, 1) := by decide +kernel
theorem dJ6_getChars_ba4f3_44 : decode cJ6_getChars_ba4f3 44 = .ok (.iinc 5 (-1), 3) := by decide +kernel
theorem dJ6_getChars_ba4f3_47 : decode cJ6_getChars_ba4f3 47 = .ok (.iload 5, 2) := by decide +kernel
theorem dJ6_getChars_ba4f3_49 : decode cJ6_getChars_ba4f3 49 = .ok (.getstatic 83, 3) := by decide +kernel
theorem dJ6_getChars_ba4f3_52 : decode cJ6_getChars_ba4f3 52 = .ok (.iload 4, 2) := by decide +kernel
theorem dJ6_getChars_ba4f3_54 : decode cJ6_getChars_ba4f3 54 = .ok (.baload, 1) := by decide +kernel
theorem dJ6_getChars_ba4f3_55 : decode cJ6_getChars_ba4f3 55 = .ok (.bastore, 1) := by decide +kernel
theorem dJ6_getChars_ba4f3_56 : decode cJ6_getChars_ba4f3 56 = .ok (.aload_n 2, 1) := by decide +kernel
theorem dJ6_getChars_ba4f3_57 : decode cJ6_getChars_ba4f3 57 = .ok (.iinc 5 (-1), 3) := by decide +kernel
theorem dJ6_getChars_ba4f3_60 : decode cJ6_getChars_ba4f3 60 = .ok (.iload 5, 2) := by decide +kernel
theorem dJ6_getChars_ba4f3_62 : decode cJ6_getChars_ba4f3 62 = .ok (.getstatic 87, 3) := by decide +kernel
theorem dJ6_getChars_ba4f3_65 : decode cJ6_getChars_ba4f3 65 = .ok (.iload 4, 2) := by decide +kernel
theorem dJ6_getChars_ba4f3_67 : decode cJ6_getChars_ba4f3 67 = .ok (.baload, 1) := by decide +kernel
theorem dJ6_getChars_ba4f3_68 : decode cJ6_getChars_ba4f3 68 = .ok (.bastore, 1) := by decide +kernel
theorem dJ6_getChars_ba4f3_69 : decode cJ6_getChars_ba4f3 69 = .ok (.goto (-47), 3) := by decide +kernel
theorem dJ6_getChars_ba4f3_72 : decode cJ6_getChars_ba4f3 72 = .ok (.aload_n 2, 1) := by decide +kernel
theorem dJ6_getChars_ba4f3_73 : decode cJ6_getChars_ba4f3 73 = .ok (.iinc 5 (-1), 3) := by decide +kernel
theorem dJ6_getChars_ba4f3_76 : decode cJ6_getChars_ba4f3 76 = .ok (.iload 5, 2) := by decide +kernel
theorem dJ6_getChars_ba4f3_78 : decode cJ6_getChars_ba4f3 78 = .ok (.getstatic 83, 3) := by decide +kernel
theorem dJ6_getChars_ba4f3_81 : decode cJ6_getChars_ba4f3 81 = .ok (.iload_n 0, 1) := by decide +kernel
theorem dJ6_getChars_ba4f3_82 : decode cJ6_getChars_ba4f3 82 = .ok (.ineg, 1) := by decide +kernel
theorem dJ6_getChars_ba4f3_83 : decode cJ6_getChars_ba4f3 83 = .ok (.baload, 1) := by decide +kernel
theorem dJ6_getChars_ba4f3_84 : decode cJ6_getChars_ba4f3 84 = .ok (.bastore, 1) := by decide +kernel
theorem dJ6_getChars_ba4f3_85 : decode cJ6_getChars_ba4f3 85 = .ok (.iload_n 0, 1) := by decide +kernel
theorem dJ6_getChars_ba4f3_86 : decode cJ6_getChars_ba4f3 86 = .ok (.bipush (-9), 2) := by decide +kernel
theorem dJ6_getChars_ba4f3_88 : decode cJ6_getChars_ba4f3 88 = .ok (.if_icmp .ge 16, 3) := by decide +kernel
theorem dJ6_getChars_ba4f3_91 : decode cJ6_getChars_ba4f3 91 = .ok (.aload_n 2, 1) := by decide +kernel
theorem dJ6_getChars_ba4f3_92 : decode cJ6_getChars_ba4f3 92 = .ok (.iinc 5 (-1), 3) := by decide +kernel
theorem dJ6_getChars_ba4f3_95 : decode cJ6_getChars_ba4f3 95 = .ok (.iload 5, 2) := by decide +kernel
theorem dJ6_getChars_ba4f3_97 : decode cJ6_getChars_ba4f3 97 = .ok (.getstatic 87, 3) := by decide +kernel
theorem dJ6_getChars_ba4f3_100 : decode cJ6_getChars_ba4f3 100 = .ok (.iload_n 0, 1) := by decide +kernel
theorem dJ6_getChars_ba4f3_101 : decode cJ6_getChars_ba4f3 101 = .ok (.ineg, 1) := by decide +kernel
theorem dJ6_getChars_ba4f3_102 : decode cJ6_getChars_ba4f3 102 = .ok (.baload, 1) := by decide +kernel
theorem dJ6_getChars_ba4f3_103 : decode cJ6_getChars_ba4f3 103 = .ok (.bastore, 1) := by decide +kernel
theorem dJ6_getChars_ba4f3_104 : decode cJ6_getChars_ba4f3 104 = .ok (.iload 6, 2) := by decide +kernel
theorem dJ6_getChars_ba4f3_106 : decode cJ6_getChars_ba4f3 106 = .ok (.ifCond .eq 12, 3) := by decide +kernel
theorem dJ6_getChars_ba4f3_109 : decode cJ6_getChars_ba4f3 109 = .ok (.aload_n 2, 1) := by decide +kernel
theorem dJ6_getChars_ba4f3_110 : decode cJ6_getChars_ba4f3 110 = .ok (.iinc 5 (-1), 3) := by decide +kernel
theorem dJ6_getChars_ba4f3_113 : decode cJ6_getChars_ba4f3 113 = .ok (.iload 5, 2) := by decide +kernel
theorem dJ6_getChars_ba4f3_115 : decode cJ6_getChars_ba4f3 115 = .ok (.bipush 45, 2) := by decide +kernel
theorem dJ6_getChars_ba4f3_117 : decode cJ6_getChars_ba4f3 117 = .ok (.bastore, 1) := by decide +kernel
theorem dJ6_getChars_ba4f3_118 : decode cJ6_getChars_ba4f3 118 = .ok (.iload 5, 2) := by decide +kernel
theorem dJ6_getChars_ba4f3_120 : decode cJ6_getChars_ba4f3 120 = .ok (.ireturn, 1) := by decide +kernel
theorem dJ6_stringSize_0f7a4_0 : decode cJ6_stringSize_0f7a4 0 = .ok (.iconst 1, 1) := by decide +kernel
theorem dJ6_stringSize_0f7a4_1 : decode cJ6_stringSize_0f7a4 1 = .ok (.istore_n 1, 1) := by decide +kernel
theorem dJ6_stringSize_0f7a4_2 : decode cJ6_stringSize_0f7a4 2 = .ok (.iload_n 0, 1) := by decide +kernel
theorem dJ6_stringSize_0f7a4_3 : decode cJ6_stringSize_0f7a4 3 = .ok (.ifCond .lt 8, 3) := by decide +kernel
theorem dJ6_stringSize_0f7a4_6 : decode cJ6_stringSize_0f7a4 6 = .ok (.iconst 0, 1) := by decide +kernel
theorem dJ6_stringSize_0f7a4_7 : decode cJ6_stringSize_0f7a4 7 = .ok (.istore_n 1, 1) := by decide +kernel
theorem dJ6_stringSize_0f7a4_8 : decode cJ6_stringSize_0f7a4 8 = .ok (.iload_n 0, 1) := by decide +kernel
theorem dJ6_stringSize_0f7a4_9 : decode cJ6_stringSize_0f7a4 9 = .ok (.ineg, 1) := by decide +kernel
theorem dJ6_stringSize_0f7a4_10 : decode cJ6_stringSize_0f7a4 10 = .ok (.istore_n 0, 1) := by decide +kernel
theorem dJ6_stringSize_0f7a4_11 : decode cJ6_stringSize_0f7a4 11 = .ok (.bipush (-10), 2) := by decide +kernel
theorem dJ6_stringSize_0f7a4_13 : decode cJ6_stringSize_0f7a4 13 = .ok (.istore_n 2, 1) := by decide +kernel
theorem dJ6_stringSize_0f7a4_14 : decode cJ6_stringSize_0f7a4 14 = .ok (.iconst 1, 1) := by decide +kernel
theorem dJ6_stringSize_0f7a4_15 : decode cJ6_stringSize_0f7a4 15 = .ok (.istore_n 3, 1) := by decide +kernel
theorem dJ6_stringSize_0f7a4_16 : decode cJ6_stringSize_0f7a4 16 = .ok (.iload_n 3, 1) := by decide +kernel
theorem dJ6_stringSize_0f7a4_17 : decode cJ6_stringSize_0f7a4 17 = .ok (.bipush 10, 2) := by decide +kernel
theorem dJ6_stringSize_0f7a4_19 : decode cJ6_stringSize_0f7a4 19 = .ok (.if_icmp .ge 23, 3) := by decide +kernel
theorem dJ6_stringSize_0f7a4_22 : decode cJ6_stringSize_0f7a4 22 = .ok (.iload_n 0, 1) := by decide +kernel
theorem dJ6_stringSize_0f7a4_23 : decode cJ6_stringSize_0f7a4 23 = .ok (.iload_n 2, 1) := by decide +kernel
theorem dJ6_stringSize_0f7a4_24 : decode cJ6_stringSize_0f7a4 24 = .ok (.if_icmp .le 7, 3) := by decide +kernel
theorem dJ6_stringSize_0f7a4_27 : decode cJ6_stringSize_0f7a4 27 = .ok (.iload_n 3, 1) := by decide +kernel
theorem dJ6_stringSize_0f7a4_28 : decode cJ6_stringSize_0f7a4 28 = .ok (.iload_n 1, 1) := by decide +kernel
theorem dJ6_stringSize_0f7a4_29 : decode cJ6_stringSize_0f7a4 29 = .ok (.iadd, 1) := by decide +kernel
theorem dJ6_stringSize_0f7a4_30 : decode cJ6_stringSize_0f7a4 30 = .ok (.ireturn, 1) := by decide +kernel
theorem dJ6_stringSize_0f7a4_31 : decode cJ6_stringSize_0f7a4 31 = .ok (.bipush 10, 2) := by decide +kernel
theorem dJ6_stringSize_0f7a4_33 : decode cJ6_stringSize_0f7a4 33 = .ok (.iload_n 2, 1) := by decide +kernel
theorem dJ6_stringSize_0f7a4_34 : decode cJ6_stringSize_0f7a4 34 = .ok (.imul, 1) := by decide +kernel
theorem dJ6_stringSize_0f7a4_35 : decode cJ6_stringSize_0f7a4 35 = .ok (.istore_n 2, 1) := by decide +kernel
theorem dJ6_stringSize_0f7a4_36 : decode cJ6_stringSize_0f7a4 36 = .ok (.iinc 3 1, 3) := by decide +kernel
theorem dJ6_stringSize_0f7a4_39 : decode cJ6_stringSize_0f7a4 39 = .ok (.goto (-23), 3) := by decide +kernel
theorem dJ6_stringSize_0f7a4_42 : decode cJ6_stringSize_0f7a4 42 = .ok (.bipush 10, 2) := by decide +kernel
theorem dJ6_stringSize_0f7a4_44 : decode cJ6_stringSize_0f7a4 44 = .ok (.iload_n 1, 1) := by decide +kernel
theorem dJ6_stringSize_0f7a4_45 : decode cJ6_stringSize_0f7a4 45 = .ok (.iadd, 1) := by decide +kernel
theorem dJ6_stringSize_0f7a4_46 : decode cJ6_stringSize_0f7a4 46 = .ok (.ireturn, 1) := by decide +kernel
theorem dJ6_bitCount_0f7a4_0 : decode cJ6_bitCount_0f7a4 0 = .ok (.iload_n 0, 1) := by decide +kernel
theorem dJ6_bitCount_0f7a4_1 : decode cJ6_bitCount_0f7a4 1 = .ok (.iload_n 0, 1) := by decide +kernel
theorem dJ6_bitCount_0f7a4_2 : decode cJ6_bitCount_0f7a4 2 = .ok (.iconst 1, 1) := by decide +kernel
theorem dJ6_bitCount_0f7a4_3 : decode cJ6_bitCount_0f7a4 3 = .ok (.iushr, 1) := by decide +kernel
theorem dJ6_bitCount_0f7a4_4 : decode cJ6_bitCount_0f7a4 4 = .ok (.ldc_w 265, 3) := by decide +kernel
theorem dJ6_bitCount_0f7a4_7 : decode cJ6_bitCount_0f7a4 7 = .ok (.iand, 1) := by decide +kernel
theorem dJ6_bitCount_0f7a4_8 : decode cJ6_bitCount_0f7a4 8 = .ok (.isub, 1) := by decide +kernel
theorem dJ6_bitCount_0f7a4_9 : decode cJ6_bitCount_0f7a4 9 = .ok (.istore_n 0, 1) := by decide +kernel
theorem dJ6_bitCount_0f7a4_10 : decode cJ6_bitCount_0f7a4 10 = .ok (.iload_n 0, 1) := by decide +kernel
theorem dJ6_bitCount_0f7a4_11 : decode cJ6_bitCount_0f7a4 11 = .ok (.ldc_w 266, 3) := by decide +kernel
theorem dJ6_bitCount_0f7a4_14 : decode cJ6_bitCount_0f7a4 14 = .ok (.iand, 1) := by decide +kernel
theorem dJ6_bitCount_0f7a4_15 : decode cJ6_bitCount_0f7a4 15 = .ok (.iload_n 0, 1) := by decide +kernel
theorem dJ6_bitCount_0f7a4_16 : decode cJ6_bitCount_0f7a4 16 = .ok (.iconst 2, 1) := by decide +kernel
theorem dJ6_bitCount_0f7a4_17 : decode cJ6_bitCount_0f7a4 17 = .ok (.iushr, 1) := by decide +kernel
theorem dJ6_bitCount_0f7a4_18 : decode cJ6_bitCount_0f7a4 18 = .ok (.ldc_w 266, 3) := by decide +kernel
theorem dJ6_bitCount_0f7a4_21 : decode cJ6_bitCount_0f7a4 21 = .ok (.iand, 1) := by decide +kernel
theorem dJ6_bitCount_0f7a4_22 : decode cJ6_bitCount_0f7a4 22 = .ok (.iadd, 1) := by decide +kernel
theorem dJ6_bitCount_0f7a4_23 : decode cJ6_bitCount_0f7a4 23 = .ok (.istore_n 0, 1) := by decide +kernel
theorem dJ6_bitCount_0f7a4_24 : decode cJ6_bitCount_0f7a4 24 = .ok (.iload_n 0, 1) := by decide +kernel
theorem dJ6_bitCount_0f7a4_25 : decode cJ6_bitCount_0f7a4 25 = .ok (.iload_n 0, 1) := by decide +kernel
theorem dJ6_bitCount_0f7a4_26 : decode cJ6_bitCount_0f7a4 26 = .ok (.iconst 4, 1) := by decide +kernel
theorem dJ6_bitCount_0f7a4_27 : decode cJ6_bitCount_0f7a4 27 = .ok (.iushr, 1) := by decide +kernel
theorem dJ6_bitCount_0f7a4_28 : decode cJ6_bitCount_0f7a4 28 = .ok (.iadd, 1) := by decide +kernel
theorem dJ6_bitCount_0f7a4_29 : decode cJ6_bitCount_0f7a4 29 = .ok (.ldc_w 267, 3) := by decide +kernel
theorem dJ6_bitCount_0f7a4_32 : decode cJ6_bitCount_0f7a4 32 = .ok (.iand, 1) := by decide +kernel
theorem dJ6_bitCount_0f7a4_33 : decode cJ6_bitCount_0f7a4 33 = .ok (.istore_n 0, 1) := by decide +kernel
theorem dJ6_bitCount_0f7a4_34 : decode cJ6_bitCount_0f7a4 34 = .ok (.iload_n 0, 1) := by decide +kernel
theorem dJ6_bitCount_0f7a4_35 : decode cJ6_bitCount_0f7a4 35 = .ok (.iload_n 0, 1) := by decide +kernel
theorem dJ6_bitCount_0f7a4_36 : decode cJ6_bitCount_0f7a4 36 = .ok (.bipush 8, 2) := by decide +kernel
theorem dJ6_bitCount_0f7a4_38 : decode cJ6_bitCount_0f7a4 38 = .ok (.iushr, 1) := by decide +kernel
theorem dJ6_bitCount_0f7a4_39 : decode cJ6_bitCount_0f7a4 39 = .ok (.iadd, 1) := by decide +kernel
theorem dJ6_bitCount_0f7a4_40 : decode cJ6_bitCount_0f7a4 40 = .ok (.istore_n 0, 1) := by decide +kernel
theorem dJ6_bitCount_0f7a4_41 : decode cJ6_bitCount_0f7a4 41 = .ok (.iload_n 0, 1) := by decide +kernel
theorem dJ6_bitCount_0f7a4_42 : decode cJ6_bitCount_0f7a4 42 = .ok (.iload_n 0, 1) := by decide +kernel
theorem dJ6_bitCount_0f7a4_43 : decode cJ6_bitCount_0f7a4 43 = .ok (.bipush 16, 2) := by decide +kernel
theorem dJ6_bitCount_0f7a4_45 : decode cJ6_bitCount_0f7a4 45 = .ok (.iushr, 1) := by decide +kernel
theorem dJ6_bitCount_0f7a4_46 : decode cJ6_bitCount_0f7a4 46 = .ok (.iadd, 1) := by decide +kernel
theorem dJ6_bitCount_0f7a4_47 : decode cJ6_bitCount_0f7a4 47 = .ok (.istore_n 0, 1) := by decide +kernel
theorem dJ6_bitCount_0f7a4_48 : decode cJ6_bitCount_0f7a4 48 = .ok (.iload_n 0, 1) := by decide +kernel
theorem dJ6_bitCount_0f7a4_49 : decode cJ6_bitCount_0f7a4 49 = .ok (.bipush 63, 2) := by decide +kernel
theorem dJ6_bitCount_0f7a4_51 : decode cJ6_bitCount_0f7a4 51 = .ok (.iand, 1) := by decide +kernel
theorem dJ6_bitCount_0f7a4_52 : decode cJ6_bitCount_0f7a4 52 = .ok (.ireturn, 1) := by decide +kernel
theorem dJ13_bitCount_95d88_0 : decode cJ13_bitCount_95d88 0 = .ok (.lload_n 0, 1) := by decide +kernel
theorem dJ13_bitCount_95d88_1 : decode cJ13_bitCount_95d88 1 = .ok (.lload_n 0, 1) := by decide +kernel
theorem dJ13_bitCount_95d88_2 : decode cJ13_bitCount_95d88 2 = .ok (.iconst 1, 1) := by decide +kernel
theorem dJ13_bitCount_95d88_3 : decode cJ13_bitCount_95d88 3 = .ok (.lushr, 1) := by decide +kernel
theorem dJ13_bitCount_95d88_4 : decode cJ13_bitCount_95d88 4 = .ok (.ldc2_w 314, 3) := by decide +kernel
theorem dJ13_bitCount_95d88_7 : decode cJ13_bitCount_95d88 7 = .ok (.land, 1) := by decide +kernel
theorem dJ13_bitCount_95d88_8 : decode cJ13_bitCount_95d88 8 = .ok (.lsub, 1) := by decide +kernel
theorem dJ13_bitCount_95d88_9 : decode cJ13_bitCount_95d88 9 = .ok (.lstore_n 0, 1) := by decide +kernel
theorem dJ13_bitCount_95d88_10 : decode cJ13_bitCount_95d88 10 = .ok (.lload_n 0, 1) := by decide +kernel
theorem dJ13_bitCount_95d88_11 : decode cJ13_bitCount_95d88 11 = .ok (.ldc2_w 316, 3) := by decide +kernel
theorem dJ13_bitCount_95d88_14 : decode cJ13_bitCount_95d88 14 = .ok (.land, 1) := by decide +kernel
theorem dJ13_bitCount_95d88_15 : decode cJ13_bitCount_95d88 15 = .ok (.lload_n 0, 1) := by decide +kernel
theorem dJ13_bitCount_95d88_16 : decode cJ13_bitCount_95d88 16 = .ok (.iconst 2, 1) := by decide +kernel
theorem dJ13_bitCount_95d88_17 : decode cJ13_bitCount_95d88 17 = .ok (.lushr, 1) := by decide +kernel
theorem dJ13_bitCount_95d88_18 : decode cJ13_bitCount_95d88 18 = .ok (.ldc2_w 316, 3) := by decide +kernel
theorem dJ13_bitCount_95d88_21 : decode cJ13_bitCount_95d88 21 = .ok (.land, 1) := by decide +kernel
theorem dJ13_bitCount_95d88_22 : decode cJ13_bitCount_95d88 22 = .ok (.ladd, 1) := by decide +kernel
theorem dJ13_bitCount_95d88_23 : decode cJ13_bitCount_95d88 23 = .ok (.lstore_n 0, 1) := by decide +kernel
theorem dJ13_bitCount_95d88_24 : decode cJ13_bitCount_95d88 24 = .ok (.lload_n 0, 1) := by decide +kernel
theorem dJ13_bitCount_95d88_25 : decode cJ13_bitCount_95d88 25 = .ok (.lload_n 0, 1) := by decide +kernel
theorem dJ13_bitCount_95d88_26 : decode cJ13_bitCount_95d88 26 = .ok (.iconst 4, 1) := by decide +kernel
theorem dJ13_bitCount_95d88_27 : decode cJ13_bitCount_95d88 27 = .ok (.lushr, 1) := by decide +kernel
theorem dJ13_bitCount_95d88_28 : decode cJ13_bitCount_95d88 28 = .ok (.ladd, 1) := by decide +kernel
theorem dJ13_bitCount_95d88_29 : decode cJ13_bitCount_95d88 29 = .ok (.ldc2_w 318, 3) := by decide +kernel
theorem dJ13_bitCount_95d88_32 : decode cJ13_bitCount_95d88 32 = .ok (.land, 1) := by decide +kernel
theorem dJ13_bitCount_95d88_33 : decode cJ13_bitCount_95d88 33 = .ok (.lstore_n 0, 1) := by decide +kernel
theorem dJ13_bitCount_95d88_34 : decode cJ13_bitCount_95d88 34 = .ok (.lload_n 0, 1) := by decide +kernel
theorem dJ13_bitCount_95d88_35 : decode cJ13_bitCount_95d88 35 = .ok (.lload_n 0, 1) := by decide +kernel
theorem dJ13_bitCount_95d88_36 : decode cJ13_bitCount_95d88 36 = .ok (.bipush 8, 2) := by decide +kernel
theorem dJ13_bitCount_95d88_38 : decode cJ13_bitCount_95d88 38 = .ok (.lushr, 1) := by decide +kernel
theorem dJ13_bitCount_95d88_39 : decode cJ13_bitCount_95d88 39 = .ok (.ladd, 1) := by decide +kernel
theorem dJ13_bitCount_95d88_40 : decode cJ13_bitCount_95d88 40 = .ok (.lstore_n 0, 1) := by decide +kernel
theorem dJ13_bitCount_95d88_41 : decode cJ13_bitCount_95d88 41 = .ok (.lload_n 0, 1) := by decide +kernel
theorem dJ13_bitCount_95d88_42 : decode cJ13_bitCount_95d88 42 = .ok (.lload_n 0, 1) := by decide +kernel
theorem dJ13_bitCount_95d88_43 : decode cJ13_bitCount_95d88 43 = .ok (.bipush 16, 2) := by decide +kernel
theorem dJ13_bitCount_95d88_45 : decode cJ13_bitCount_95d88 45 = .ok (.lushr, 1) := by decide +kernel
theorem dJ13_bitCount_95d88_46 : decode cJ13_bitCount_95d88 46 = .ok (.ladd, 1) := by decide +kernel
theorem dJ13_bitCount_95d88_47 : decode cJ13_bitCount_95d88 47 = .ok (.lstore_n 0, 1) := by decide +kernel
theorem dJ13_bitCount_95d88_48 : decode cJ13_bitCount_95d88 48 = .ok (.lload_n 0, 1) := by decide +kernel
theorem dJ13_bitCount_95d88_49 : decode cJ13_bitCount_95d88 49 = .ok (.lload_n 0, 1) := by decide +kernel
theorem dJ13_bitCount_95d88_50 : decode cJ13_bitCount_95d88 50 = .ok (.bipush 32, 2) := by decide +kernel
theorem dJ13_bitCount_95d88_52 : decode cJ13_bitCount_95d88 52 = .ok (.lushr, 1) := by decide +kernel
theorem dJ13_bitCount_95d88_53 : decode cJ13_bitCount_95d88 53 = .ok (.ladd, 1) := by decide +kernel
theorem dJ13_bitCount_95d88_54 : decode cJ13_bitCount_95d88 54 = .ok (.lstore_n 0, 1) := by decide +kernel
theorem dJ13_bitCount_95d88_55 : decode cJ13_bitCount_95d88 55 = .ok (.lload_n 0, 1) := by decide +kernel
theorem dJ13_bitCount_95d88_56 : decode cJ13_bitCount_95d88 56 = .ok (.l2i, 1) := by decide +kernel
theorem dJ13_bitCount_95d88_57 : decode cJ13_bitCount_95d88 57 = .ok (.bipush 127, 2) := by decide +kernel
theorem dJ13_bitCount_95d88_59 : decode cJ13_bitCount_95d88 59 = .ok (.iand, 1) := by decide +kernel
theorem dJ13_bitCount_95d88_60 : decode cJ13_bitCount_95d88 60 = .ok (.ireturn, 1) := by decide +kernel
theorem dJ0_init_81219_0 : decode cJ0_init_81219 0 = .ok (.aload_n 0, 1) := by decide +kernel
theorem dJ0_init_81219_1 : decode cJ0_init_81219 1 = .ok (.aload_n 1, 1) := by decide +kernel
theorem dJ0_init_81219_2 : decode cJ0_init_81219 2 = .ok (.aconst_null, 1) := by decide +kernel
theorem dJ0_init_81219_3 : decode cJ0_init_81219 3 = .ok (.invokespecial 489, 3) := by decide +kernel
theorem dJ0_init_81219_6 : decode cJ0_init_81219 6 = .ok (.return_, 1) := by decide +kernel
theorem dJ0_length_8abf5_0 : decode cJ0_length_8abf5 0 = .ok (.aload_n 0, 1) := by decide +kernel
theorem dJ0_length_8abf5_1 : decode cJ0_length_8abf5 1 = .ok (.getfield 9, 3) := by decide +kernel
theorem dJ0_length_8abf5_4 : decode cJ0_length_8abf5 4 = .ok (.arraylength, 1) := by decide +kernel
theorem dJ0_length_8abf5_5 : decode cJ0_length_8abf5 5 = .ok (.aload_n 0, 1) := by decide +kernel
theorem dJ0_length_8abf5_6 : decode cJ0_length_8abf5 6 = .ok (.invokevirtual 335, 3) := by decide +kernel
theorem dJ0_length_8abf5_9 : decode cJ0_length_8abf5 9 = .ok (.ishr, 1) := by decide +kernel
theorem dJ0_length_8abf5_10 : decode cJ0_length_8abf5 10 = .ok (.ireturn, 1) := by decide +kernel
theorem dJ0_charAt_5068e_0 : decode cJ0_charAt_5068e 0 = .ok (.aload_n 0, 1) := by decide +kernel
theorem dJ0_charAt_5068e_1 : decode cJ0_charAt_5068e 1 = .ok (.invokevirtual 492, 3) := by decide +kernel
theorem dJ0_charAt_5068e_4 : decode cJ0_charAt_5068e 4 = .ok (.ifCond .eq 12, 3) := by decide +kernel
theorem dJ0_charAt_5068e_7 : decode cJ0_charAt_5068e 7 = .ok (.aload_n 0, 1) := by decide +kernel
theorem dJ0_charAt_5068e_8 : decode cJ0_charAt_5068e 8 = .ok (.getfield 9, 3) := by decide +kernel
theorem dJ0_charAt_5068e_11 : decode cJ0_charAt_5068e 11 = .ok (.iload_n 1, 1) := by decide +kernel
theorem dJ0_charAt_5068e_12 : decode cJ0_charAt_5068e 12 = .ok (.invokestatic 495, 3) := by decide +kernel
theorem dJ0_charAt_5068e_15 : decode cJ0_charAt_5068e 15 = .ok (.ireturn, 1) := by decide +kernel
theorem dJ0_charAt_5068e_16 : decode cJ0_charAt_5068e 16 = .ok (.aload_n 0, 1) := by decide +kernel
theorem dJ0_charAt_5068e_17 : decode cJ0_charAt_5068e 17 = .ok (.getfield 9, 3) := by decide +kernel
theorem dJ0_charAt_5068e_20 : decode cJ0_charAt_5068e 20 = .ok (.iload_n 1, 1) := by decide +kernel
theorem dJ0_charAt_5068e_21 : decode cJ0_charAt_5068e 21 = .ok (.invokestatic 498, 3) := by decide +kernel
theorem dJ0_charAt_5068e_24 : decode cJ0_charAt_5068e 24 = .ok (.ireturn, 1) := by decide +kernel
theorem dJ0_getBytes_840e7_0 : decode cJ0_getBytes_840e7 0 = .ok (.aload_n 0, 1) := by decide +kernel
theorem dJ0_getBytes_840e7_1 : decode cJ0_getBytes_840e7 1 = .ok (.invokevirtual 335, 3) := by decide +kernel
theorem dJ0_getBytes_840e7_4 : decode cJ0_getBytes_840e7 4 = .ok (.iload_n 3, 1) := by decide +kernel
theorem dJ0_getBytes_840e7_5 : decode cJ0_getBytes_840e7 5 = .ok (.if_icmp .ne 23, 3) := by decide +kernel
theorem dJ0_getBytes_840e7_8 : decode cJ0_getBytes_840e7 8 = .ok (.aload_n 0, 1) := by decide +kernel
theorem dJ0_getBytes_840e7_9 : decode cJ0_getBytes_840e7 9 = .ok (.getfield 9, 3) := by decide +kernel
theorem dJ0_getBytes_840e7_12 : decode cJ0_getBytes_840e7 12 = .ok (.iconst 0, 1) := by decide +kernel
theorem dJ0_getBytes_840e7_13 : decode cJ0_getBytes_840e7 13 = .ok (.aload_n 1, 1) := by decide +kernel
theorem dJ0_getBytes_840e7_14 : decode cJ0_getBytes_840e7 14 = .ok (.iload_n 2, 1) := by decide +kernel
theorem dJ0_getBytes_840e7_15 : decode cJ0_getBytes_840e7 15 = .ok (.iload_n 3, 1) := by decide +kernel
theorem dJ0_getBytes_840e7_16 : decode cJ0_getBytes_840e7 16 = .ok (.ishl, 1) := by decide +kernel
theorem dJ0_getBytes_840e7_17 : decode cJ0_getBytes_840e7 17 = .ok (.aload_n 0, 1) := by decide +kernel
theorem dJ0_getBytes_840e7_18 : decode cJ0_getBytes_840e7 18 = .ok (.getfield 9, 3) := by decide +kernel
theorem dJ0_getBytes_840e7_21 : decode cJ0_getBytes_840e7 21 = .ok (.arraylength, 1) := by decide +kernel
theorem dJ0_getBytes_840e7_22 : decode cJ0_getBytes_840e7 22 = .ok (.invokestatic 212, 3) := by decide +kernel
theorem dJ0_getBytes_840e7_25 : decode cJ0_getBytes_840e7 25 = .ok (.goto 18, 3) := by decide +kernel
theorem dJ0_getBytes_840e7_28 : decode cJ0_getBytes_840e7 28 = .ok (.aload_n 0, 1) := by decide +kernel
theorem dJ0_getBytes_840e7_29 : decode cJ0_getBytes_840e7 29 = .ok (.getfield 9, 3) := by decide +kernel
theorem dJ0_getBytes_840e7_32 : decode cJ0_getBytes_840e7 32 = .ok (.iconst 0, 1) := by decide +kernel
theorem dJ0_getBytes_840e7_33 : decode cJ0_getBytes_840e7 33 = .ok (.aload_n 1, 1) := by decide +kernel
theorem dJ0_getBytes_840e7_34 : decode cJ0_getBytes_840e7 34 = .ok (.iload_n 2, 1) := by decide +kernel
theorem dJ0_getBytes_840e7_35 : decode cJ0_getBytes_840e7 35 = .ok (.aload_n 0, 1) := by decide +kernel
theorem dJ0_getBytes_840e7_36 : decode cJ0_getBytes_840e7 36 = .ok (.getfield 9, 3) := by decide +kernel
theorem dJ0_getBytes_840e7_39 : decode cJ0_getBytes_840e7 39 = .ok (.arraylength, 1) := by decide +kernel
theorem dJ0_getBytes_840e7_40 : decode cJ0_getBytes_840e7 40 = .ok (.invokestatic 106, 3) := by decide +kernel
theorem dJ0_getBytes_840e7_43 : decode cJ0_getBytes_840e7 43 = .ok (.return_, 1) := by decide +kernel
theorem dJ0_init_db425_0 : decode cJ0_init_db425 0 = .ok (.aload_n 0, 1) := by decide +kernel
theorem dJ0_init_db425_1 : decode cJ0_init_db425 1 = .ok (.invokespecial 1, 3) := by decide +kernel
theorem dJ0_init_db425_4 : decode cJ0_init_db425 4 = .ok (.aload_n 1, 1) := by decide +kernel
theorem dJ0_init_db425_5 : decode cJ0_init_db425 5 = .ok (.invokevirtual 552, 3) := by decide +kernel
theorem dJ0_init_db425_8 : decode cJ0_init_db425 8 = .ok (.astore_n 3, 1) := by decide +kernel
theorem dJ0_init_db425_9 : decode cJ0_init_db425 9 = .ok (.aload_n 1, 1) := by decide +kernel
theorem dJ0_init_db425_10 : decode cJ0_init_db425 10 = .ok (.invokevirtual 549, 3) := by decide +kernel
theorem dJ0_init_db425_13 : decode cJ0_init_db425 13 = .ok (.istore 4, 2) := by decide +kernel
theorem dJ0_init_db425_15 : decode cJ0_init_db425 15 = .ok (.aload_n 1, 1) := by decide +kernel
theorem dJ0_init_db425_16 : decode cJ0_init_db425 16 = .ok (.invokevirtual 1047, 3) := by decide +kernel
theorem dJ0_init_db425_19 : decode cJ0_init_db425 19 = .ok (.ifCond .eq 22, 3) := by decide +kernel
theorem dJ0_init_db425_22 : decode cJ0_init_db425 22 = .ok (.aload_n 0, 1) := by decide +kernel
theorem dJ0_init_db425_23 : decode cJ0_init_db425 23 = .ok (.iconst 0, 1) := by decide +kernel
theorem dJ0_init_db425_24 : decode cJ0_init_db425 24 = .ok (.putfield 15, 3) := by decide +kernel
theorem dJ0_init_db425_27 : decode cJ0_init_db425 27 = .ok (.aload_n 0, 1) := by decide +kernel
theorem dJ0_init_db425_28 : decode cJ0_init_db425 28 = .ok (.aload_n 3, 1) := by decide +kernel
theorem dJ0_init_db425_29 : decode cJ0_init_db425 29 = .ok (.iconst 0, 1) := by decide +kernel
theorem dJ0_init_db425_30 : decode cJ0_init_db425 30 = .ok (.iload 4, 2) := by decide +kernel
theorem dJ0_init_db425_32 : decode cJ0_init_db425 32 = .ok (.invokestatic 54, 3) := by decide +kernel
theorem dJ0_init_db425_35 : decode cJ0_init_db425 35 = .ok (.putfield 9, 3) := by decide +kernel
theorem dJ0_init_db425_38 : decode cJ0_init_db425 38 = .ok (.goto 59, 3) := by decide +kernel
theorem dJ0_init_db425_41 : decode cJ0_init_db425 41 = .ok (.getstatic 38, 3) := by decide +kernel
theorem dJ0_init_db425_44 : decode cJ0_init_db425 44 = .ok (.ifCond .eq 35, 3) := by decide +kernel
theorem dJ0_init_db425_47 : decode cJ0_init_db425 47 = .ok (.aload_n 1, 1) := by decide +kernel
theorem dJ0_init_db425_48 : decode cJ0_init_db425 48 = .ok (.getfield 1048, 3) := by decide +kernel
theorem dJ0_init_db425_51 : decode cJ0_init_db425 51 = .ok (.ifCond .eq 28, 3) := by decide +kernel
theorem dJ0_init_db425_54 : decode cJ0_init_db425 54 = .ok (.aload_n 0, 1) := by decide +kernel
theorem dJ0_init_db425_55 : decode cJ0_init_db425 55 = .ok (.aload_n 3, 1) := by decide +kernel
theorem dJ0_init_db425_56 : decode cJ0_init_db425 56 = .ok (.iconst 0, 1) := by decide +kernel
theorem dJ0_init_db425_57 : decode cJ0_init_db425 57 = .ok (.iload 4, 2) := by decide +kernel
theorem dJ0_init_db425_59 : decode cJ0_init_db425 59 = .ok (.invokestatic 1051, 3) := by decide +kernel
theorem dJ0_init_db425_62 : decode cJ0_init_db425 62 = .ok (.putfield 9, 3) := by decide +kernel
theorem dJ0_init_db425_65 : decode cJ0_init_db425 65 = .ok (.aload_n 0, 1) := by decide +kernel
theorem dJ0_init_db425_66 : decode cJ0_init_db425 66 = .ok (.aload_n 0, 1) := by decide +kernel
theorem dJ0_init_db425_67 : decode cJ0_init_db425 67 = .ok (.getfield 9, 3) := by decide +kernel
theorem dJ0_init_db425_70 : decode cJ0_init_db425 70 = .ok (.iload 4, 2) := by decide +kernel
theorem dJ0_init_db425_72 : decode cJ0_init_db425 72 = .ok (.invokestatic 47, 3) := by decide +kernel
theorem dJ0_init_db425_75 : decode cJ0_init_db425 75 = .ok (.putfield 15, 3) := by decide +kernel
theorem dJ0_init_db425_78 : decode cJ0_init_db425 78 = .ok (.return_, 1) := by decide +kernel
theorem dJ0_init_db425_79 : decode cJ0_init_db425 79 = .ok (.aload_n 0, 1) := by decide +kernel
theorem dJ0_init_db425_80 : decode cJ0_init_db425 80 = .ok (.iconst 1, 1) := by decide +kernel
theorem dJ0_init_db425_81 : decode cJ0_init_db425 81 = .ok (.putfield 15, 3) := by decide +kernel
theorem dJ0_init_db425_84 : decode cJ0_init_db425 84 = .ok (.aload_n 0, 1) := by decide +kernel
theorem dJ0_init_db425_85 : decode cJ0_init_db425 85 = .ok (.aload_n 3, 1) := by decide +kernel
theorem dJ0_init_db425_86 : decode cJ0_init_db425 86 = .ok (.iconst 0, 1) := by decide +kernel
theorem dJ0_init_db425_87 : decode cJ0_init_db425 87 = .ok (.iload 4, 2) := by decide +kernel
theorem dJ0_init_db425_89 : decode cJ0_init_db425 89 = .ok (.iconst 1, 1) := by decide +kernel
theorem dJ0_init_db425_90 : decode cJ0_init_db425 90 = .ok (.ishl, 1) := by decide +kernel
theorem dJ0_init_db425_91 : decode cJ0_init_db425 91 = .ok (.invokestatic 54, 3) := by decide +kernel
theorem dJ0_init_db425_94 : decode cJ0_init_db425 94 = .ok (.putfield 9, 3) := by decide +kernel
theorem dJ0_init_db425_97 : decode cJ0_init_db425 97 = .ok (.return_, 1) := by decide +kernel
theorem dJ0_coder_7d493_0 : decode cJ0_coder_7d493 0 = .ok (.getstatic 38, 3) := by decide +kernel
theorem dJ0_coder_7d493_3 : decode cJ0_coder_7d493 3 = .ok (.ifCond .eq 10, 3) := by decide +kernel
theorem dJ0_coder_7d493_6 : decode cJ0_coder_7d493 6 = .ok (.aload_n 0, 1) := by decide +kernel
theorem dJ0_coder_7d493_7 : decode cJ0_coder_7d493 7 = .ok (.getfield 15, 3) := by decide +kernel
theorem dJ0_coder_7d493_10 : decode cJ0_coder_7d493 10 = .ok (.goto 4, 3) := by decide +kernel
theorem dJ0_coder_7d493_13 : decode cJ0_coder_7d493 13 = .ok (.iconst 1, 1) := by decide +kernel
theorem dJ0_coder_7d493_14 : decode cJ0_coder_7d493 14 = .ok (.ireturn, 1) := by decide +kernel
theorem dJ0_isLatin1_aae02_0 : decode cJ0_isLatin1_aae02 0 = .ok (.getstatic 38, 3) := by decide +kernel
theorem dJ0_isLatin1_aae02_3 : decode cJ0_isLatin1_aae02 3 = .ok (.ifCond .eq 14, 3) := by decide +kernel
theorem dJ0_isLatin1_aae02_6 : decode cJ0_isLatin1_aae02 6 = .ok (.aload_n 0, 1) := by decide +kernel
theorem dJ0_isLatin1_aae02_7 : decode cJ0_isLatin1_aae02 7 = .ok (.getfield 15, 3) := by decide +kernel
theorem dJ0_isLatin1_aae02_10 : decode cJ0_isLatin1_aae02 10 = .ok (.ifCond .ne 7, 3) := by decide +kernel
theorem dJ0_isLatin1_aae02_13 : decode cJ0_isLatin1_aae02 13 = .ok (.iconst 1, 1) := by decide +kernel
theorem dJ0_isLatin1_aae02_14 : decode cJ0_isLatin1_aae02 14 = .ok (.goto 4, 3) := by decide +kernel
theorem dJ0_isLatin1_aae02_17 : decode cJ0_isLatin1_aae02 17 = .ok (.iconst 0, 1) := by decide +kernel
theorem dJ0_isLatin1_aae02_18 : decode cJ0_isLatin1_aae02 18 = .ok (.ireturn, 1) := by decide +kernel
theorem dJ0_checkIndex_df160_0 : decode cJ0_checkIndex_df160 0 = .ok (.iload_n 0, 1) := by decide +kernel
theorem dJ0_checkIndex_df160_1 : decode cJ0_checkIndex_df160 1 = .ok (.iload_n 1, 1) := by decide +kernel
theorem dJ0_checkIndex_df160_2 : decode cJ0_checkIndex_df160 2 = .ok (.getstatic 1053, 3) := by decide +kernel
theorem dJ0_checkIndex_df160_5 : decode cJ0_checkIndex_df160 5 = .ok (.invokestatic 1059, 3) := by decide +kernel
theorem dJ0_checkIndex_df160_8 : decode cJ0_checkIndex_df160 8 = .ok (.pop, 1) := by decide +kernel
theorem dJ0_checkIndex_df160_9 : decode cJ0_checkIndex_df160 9 = .ok (.return_, 1) := by decide +kernel
theorem dJ4_init_da8c8_0 : decode cJ4_init_da8c8 0 = .ok (.aload_n 0, 1) := by decide +kernel
theorem dJ4_init_da8c8_1 : decode cJ4_init_da8c8 1 = .ok (.bipush 16, 2) := by decide +kernel
theorem dJ4_init_da8c8_3 : decode cJ4_init_da8c8 3 = .ok (.invokespecial 1, 3) := by decide +kernel
theorem dJ4_init_da8c8_6 : decode cJ4_init_da8c8 6 = .ok (.return_, 1) := by decide +kernel
theorem dJ4_append_15ec4_0 : decode cJ4_append_15ec4 0 = .ok (.aload_n 0, 1) := by decide +kernel
theorem dJ4_append_15ec4_1 : decode cJ4_append_15ec4 1 = .ok (.aload_n 1, 1) := by decide +kernel
theorem dJ4_append_15ec4_2 : decode cJ4_append_15ec4 2 = .ok (.invokespecial 29, 3) := by decide +kernel
theorem dJ4_append_15ec4_5 : decode cJ4_append_15ec4 5 = .ok (.pop, 1) := by decide +kernel
theorem dJ4_append_15ec4_6 : decode cJ4_append_15ec4 6 = .ok (.aload_n 0, 1) := by decide +kernel
theorem dJ4_append_15ec4_7 : decode cJ4_append_15ec4 7 = .ok (.areturn, 1) := by decide +kernel
theorem dJ4_append_bf812_0 : decode cJ4_append_bf812 0 = .ok (.aload_n 0, 1) := by decide +kernel
theorem dJ4_append_bf812_1 : decode cJ4_append_bf812 1 = .ok (.iload_n 1, 1) := by decide +kernel
theorem dJ4_append_bf812_2 : decode cJ4_append_bf812 2 = .ok (.invokespecial 53, 3) := by decide +kernel
theorem dJ4_append_bf812_5 : decode cJ4_append_bf812 5 = .ok (.pop, 1) := by decide +kernel
theorem dJ4_append_bf812_6 : decode cJ4_append_bf812 6 = .ok (.aload_n 0, 1) := by decide +kernel
theorem dJ4_append_bf812_7 : decode cJ4_append_bf812 7 = .ok (.areturn, 1) := by decide +kernel
theorem dJ4_toString_0e30d_0 : decode cJ4_toString_0e30d 0 = .ok (.new 18, 3) := by decide +kernel
theorem dJ4_toString_0e30d_3 : decode cJ4_toString_0e30d 3 = .ok (.dup, 1) := by decide +kernel
theorem dJ4_toString_0e30d_4 : decode cJ4_toString_0e30d 4 = .ok (.aload_n 0, 1) := by decide +kernel
theorem dJ4_toString_0e30d_5 : decode cJ4_toString_0e30d 5 = .ok (.invokespecial 137, 3) := by decide +kernel
theorem dJ4_toString_0e30d_8 : decode cJ4_toString_0e30d 8 = .ok (.areturn, 1) := by decide +kernel
theorem dJ4_length_8abf5_0 : decode cJ4_length_8abf5 0 = .ok (.aload_n 0, 1) := by decide +kernel
theorem dJ4_length_8abf5_1 : decode cJ4_length_8abf5 1 = .ok (.invokespecial 343, 3) := by decide +kernel
theorem dJ4_length_8abf5_4 : decode cJ4_length_8abf5 4 = .ok (.ireturn, 1) := by decide +kernel
theorem dJ1_charAt_3b067_0 : decode cJ1_charAt_3b067 0 = .ok (.iload_n 1, 1) := by decide +kernel
theorem dJ1_charAt_3b067_1 : decode cJ1_charAt_3b067 1 = .ok (.aload_n 0, 1) := by decide +kernel
theorem dJ1_charAt_3b067_2 : decode cJ1_charAt_3b067 2 = .ok (.arraylength, 1) := by decide +kernel
theorem dJ1_charAt_3b067_3 : decode cJ1_charAt_3b067 3 = .ok (.invokestatic 9, 3) := by decide +kernel
theorem dJ1_charAt_3b067_6 : decode cJ1_charAt_3b067 6 = .ok (.aload_n 0, 1) := by decide +kernel
theorem dJ1_charAt_3b067_7 : decode cJ1_charAt_3b067 7 = .ok (.iload_n 1, 1) := by decide +kernel
theorem dJ1_charAt_3b067_8 : decode cJ1_charAt_3b067 8 = .ok (.baload, 1) := by decide +kernel
theorem dJ1_charAt_3b067_9 : decode cJ1_charAt_3b067 9 = .ok (.sipush 255, 3) := by decide +kernel
theorem dJ1_charAt_3b067_12 : decode cJ1_charAt_3b067 12 = .ok (.iand, 1) := by decide +kernel
theorem dJ1_charAt_3b067_13 : decode cJ1_charAt_3b067 13 = .ok (.i2c, 1) := by decide +kernel
theorem dJ1_charAt_3b067_14 : decode cJ1_charAt_3b067 14 = .ok (.ireturn, 1) := by decide +kernel
theorem dJ7_checkLength_df160_0 : decode cJ7_checkLength_df160 0 = .ok (.iload_n 1, 1) := by decide +kernel
theorem dJ7_checkLength_df160_1 : decode cJ7_checkLength_df160 1 = .ok (.iload_n 0, 1) := by decide +kernel
theorem dJ7_checkLength_df160_2 : decode cJ7_checkLength_df160 2 = .ok (.if_icmp .ge 35, 3) := by decide +kernel
theorem dJ7_checkLength_df160_5 : decode cJ7_checkLength_df160 5 = .ok (.new 43, 3) := by decide +kernel
theorem dJ7_checkLength_df160_8 : decode cJ7_checkLength_df160 8 = .ok (.dup, 1) := by decide +kernel
theorem dJ7_checkLength_df160_9 : decode cJ7_checkLength_df160 9 = .ok (.new 45, 3) := by decide +kernel
theorem dJ7_checkLength_df160_12 : decode cJ7_checkLength_df160 12 = .ok (.dup, 1) := by decide +kernel
theorem dJ7_checkLength_df160_13 : decode cJ7_checkLength_df160 13 = .ok (.invokespecial 47, 3) := by decide +kernel
theorem dJ7_checkLength_df160_16 : decode cJ7_checkLength_df160 16 = .ok (.iload_n 0, 1) := by decide +kernel
theorem dJ7_checkLength_df160_17 : decode cJ7_checkLength_df160 17 = .ok (.invokevirtual 54, 3) := by decide +kernel
theorem dJ7_checkLength_df160_20 : decode cJ7_checkLength_df160 20 = .ok (.ldc_w 337, 3) := by decide +kernel
theorem dJ7_checkLength_df160_23 : decode cJ7_checkLength_df160 23 = .ok (.invokevirtual 50, 3) := by decide +kernel
theorem dJ7_checkLength_df160_26 : decode cJ7_checkLength_df160 26 = .ok (.iload_n 1, 1) := by decide +kernel
theorem dJ7_checkLength_df160_27 : decode cJ7_checkLength_df160 27 = .ok (.invokevirtual 54, 3) := by decide +kernel
theorem dJ7_checkLength_df160_30 : decode cJ7_checkLength_df160 30 = .ok (.invokevirtual 61, 3) := by decide +kernel
theorem dJ7_checkLength_df160_33 : decode cJ7_checkLength_df160 33 = .ok (.invokespecial 65, 3) := by decide +kernel
theorem dJ7_checkLength_df160_36 : decode cJ7_checkLength_df160 36 = .ok (.athrow, 1) := by decide +kernel
theorem dJ7_checkLength_df160_37 : decode cJ7_checkLength_df160 37 = .ok (.return_, 1) := by decide +kernel
theorem dJ7_copyOfRange_39247_0 : decode cJ7_copyOfRange_39247 0 = .ok (.iload_n 1, 1) := by decide +kernel
theorem dJ7_copyOfRange_39247_1 : decode cJ7_copyOfRange_39247 1 = .ok (.ifCond .ne 9, 3) := by decide +kernel
theorem dJ7_copyOfRange_39247_4 : decode cJ7_copyOfRange_39247 4 = .ok (.iload_n 2, 1) := by decide +kernel
theorem dJ7_copyOfRange_39247_5 : decode cJ7_copyOfRange_39247 5 = .ok (.aload_n 0, 1) := by decide +kernel
theorem dJ7_copyOfRange_39247_6 : decode cJ7_copyOfRange_39247 6 = .ok (.arraylength, 1) := by decide +kernel
theorem dJ7_copyOfRange_39247_7 : decode cJ7_copyOfRange_39247 7 = .ok (.if_icmp .eq 10, 3) := by decide +kernel
theorem dJ7_copyOfRange_39247_10 : decode cJ7_copyOfRange_39247 10 = .ok (.aload_n 0, 1) := by decide +kernel
theorem dJ7_copyOfRange_39247_11 : decode cJ7_copyOfRange_39247 11 = .ok (.iload_n 1, 1) := by decide +kernel
theorem dJ7_copyOfRange_39247_12 : decode cJ7_copyOfRange_39247 12 = .ok (.iload_n 2, 1) := by decide +kernel
theorem dJ7_copyOfRange_39247_13 : decode cJ7_copyOfRange_39247 13 = .ok (.invokestatic 339, 3) := by decide +kernel
theorem dJ7_copyOfRange_39247_16 : decode cJ7_copyOfRange_39247 16 = .ok (.areturn, 1) := by decide +kernel
theorem dJ7_copyOfRange_39247_17 : decode cJ7_copyOfRange_39247 17 = .ok (.aload_n 0, 1) := by decide +kernel
theorem dJ7_copyOfRange_39247_18 : decode cJ7_copyOfRange_39247 18 = .ok (.invokevirtual 310, 3) := by decide +kernel
theorem dJ7_copyOfRange_39247_21 : decode cJ7_copyOfRange_39247 21 = .ok (.checkcast 311, 3) := by decide +kernel
theorem dJ7_copyOfRange_39247_24 : decode cJ7_copyOfRange_39247 24 = .ok (.areturn, 1) := by decide +kernel
theorem dJ7_copyOfRangeByte_39247_0 : decode cJ7_copyOfRangeByte_39247 0 = .ok (.iload_n 1, 1) := by decide +kernel
theorem dJ7_copyOfRangeByte_39247_1 : decode cJ7_copyOfRangeByte_39247 1 = .ok (.iload_n 2, 1) := by decide +kernel
theorem dJ7_copyOfRangeByte_39247_2 : decode cJ7_copyOfRangeByte_39247 2 = .ok (.invokestatic 343, 3) := by decide +kernel
theorem dJ7_copyOfRangeByte_39247_5 : decode cJ7_copyOfRangeByte_39247 5 = .ok (.iload_n 2, 1) := by decide +kernel
theorem dJ7_copyOfRangeByte_39247_6 : decode cJ7_copyOfRangeByte_39247 6 = .ok (.iload_n 1, 1) := by decide +kernel
theorem dJ7_copyOfRangeByte_39247_7 : decode cJ7_copyOfRangeByte_39247 7 = .ok (.isub, 1) := by decide +kernel
theorem dJ7_copyOfRangeByte_39247_8 : decode cJ7_copyOfRangeByte_39247 8 = .ok (.istore_n 3, 1) := by decide +kernel
theorem dJ7_copyOfRangeByte_39247_9 : decode cJ7_copyOfRangeByte_39247 9 = .ok (.iload_n 3, 1) := by decide +kernel
theorem dJ7_copyOfRangeByte_39247_10 : decode cJ7_copyOfRangeByte_39247 10 = .ok (.newarray .byte, 2) := by decide +kernel
theorem dJ7_copyOfRangeByte_39247_12 : decode cJ7_copyOfRangeByte_39247 12 = .ok (.astore 4, 2) := by decide +kernel
theorem dJ7_copyOfRangeByte_39247_14 : decode cJ7_copyOfRangeByte_39247 14 = .ok (.aload_n 0, 1) := by decide +kernel
theorem dJ7_copyOfRangeByte_39247_15 : decode cJ7_copyOfRangeByte_39247 15 = .ok (.iload_n 1, 1) := by decide +kernel
theorem dJ7_copyOfRangeByte_39247_16 : decode cJ7_copyOfRangeByte_39247 16 = .ok (.aload 4, 2) := by decide +kernel
theorem dJ7_copyOfRangeByte_39247_18 : decode cJ7_copyOfRangeByte_39247 18 = .ok (.iconst 0, 1) := by decide +kernel
theorem dJ7_copyOfRangeByte_39247_19 : decode cJ7_copyOfRangeByte_39247 19 = .ok (.aload_n 0, 1) := by decide +kernel
theorem dJ7_copyOfRangeByte_39247_20 : decode cJ7_copyOfRangeByte_39247 20 = .ok (.arraylength, 1) := by decide +kernel
theorem dJ7_copyOfRangeByte_39247_21 : decode cJ7_copyOfRangeByte_39247 21 = .ok (.iload_n 1, 1) := by decide +kernel
theorem dJ7_copyOfRangeByte_39247_22 : decode cJ7_copyOfRangeByte_39247 22 = .ok (.isub, 1) := by decide +kernel
theorem dJ7_copyOfRangeByte_39247_23 : decode cJ7_copyOfRangeByte_39247 23 = .ok (.iload_n 3, 1) := by decide +kernel
theorem dJ7_copyOfRangeByte_39247_24 : decode cJ7_copyOfRangeByte_39247 24 = .ok (.invokestatic 304, 3) := by decide +kernel
theorem dJ7_copyOfRangeByte_39247_27 : decode cJ7_copyOfRangeByte_39247 27 = .ok (.invokestatic 150, 3) := by decide +kernel
theorem dJ7_copyOfRangeByte_39247_30 : decode cJ7_copyOfRangeByte_39247 30 = .ok (.aload 4, 2) := by decide +kernel
theorem dJ7_copyOfRangeByte_39247_32 : decode cJ7_copyOfRangeByte_39247 32 = .ok (.areturn, 1) := by decide +kernel
theorem dJ3_checkIndex_8e157_0 : decode cJ3_checkIndex_8e157 0 = .ok (.iload_n 0, 1) := by decide +kernel
theorem dJ3_checkIndex_8e157_1 : decode cJ3_checkIndex_8e157 1 = .ok (.ifCond .lt 8, 3) := by decide +kernel
theorem dJ3_checkIndex_8e157_4 : decode cJ3_checkIndex_8e157 4 = .ok (.iload_n 0, 1) := by decide +kernel
theorem dJ3_checkIndex_8e157_5 : decode cJ3_checkIndex_8e157 5 = .ok (.iload_n 1, 1) := by decide +kernel
theorem dJ3_checkIndex_8e157_6 : decode cJ3_checkIndex_8e157 6 = .ok (.if_icmp .lt 10, 3) := by decide +kernel
theorem dJ3_checkIndex_8e157_9 : decode cJ3_checkIndex_8e157 9 = .ok (.aload_n 2, 1) := by decide +kernel
theorem dJ3_checkIndex_8e157_10 : decode cJ3_checkIndex_8e157 10 = .ok (.iload_n 0, 1) := by decide +kernel
theorem dJ3_checkIndex_8e157_11 : decode cJ3_checkIndex_8e157 11 = .ok (.iload_n 1, 1) := by decide +kernel
theorem dJ3_checkIndex_8e157_12 : decode cJ3_checkIndex_8e157 12 = .ok (.invokestatic 95, 3) := by decide +kernel
theorem dJ3_checkIndex_8e157_15 : decode cJ3_checkIndex_8e157 15 = .ok (.athrow, 1) := by decide +kernel
theorem dJ3_checkIndex_8e157_16 : decode cJ3_checkIndex_8e157 16 = .ok (.iload_n 0, 1) := by decide +kernel
theorem dJ3_checkIndex_8e157_17 : decode cJ3_checkIndex_8e157 17 = .ok (.ireturn, 1) := by decide +kernel
